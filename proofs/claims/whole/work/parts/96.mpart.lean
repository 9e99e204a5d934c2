/-! The model reads a part: the run of one mode. -/
variable {d S : Nat} {h : Nat × Option gNm} {I I0 : Nat → Nat → Nat → Int32} {J : Nat → Nat → Nat → Int64} {Q Q0 : Option gV → gW → Prop}
variable {tp : Nat → Int} {n s b t o : Nat} {g : Bool} {was : Int32}
theorem lWof_at {lo hi : Int} (h : lWof tp n t (.inr (s, g)) lo hi ≠ -1) : lKd tp n s g = -2 ∧ lWof tp n t (.inr (s, g)) lo hi = wHere tp n s ∧ lo ≤ wHere tp n s ∧ wHere tp n s < hi ∧ 0 ≤ wHere tp n s ∧ wHere tp n s ≤ 12 ∧ alT t (wHere tp n s).toNat = true := by
  have e : lWh tp n (.inr (s, g)) = if lKd tp n s g = -2 ∧ 0 ≤ wHere tp n s ∧ wHere tp n s ≤ 12 then wHere tp n s else -1 := rfl
  unfold lWof at h ⊢
  split at h
  · rename_i w
    rw [if_pos w]
    by_cases w2 : lKd tp n s g = -2 ∧ 0 ≤ wHere tp n s ∧ wHere tp n s ≤ 12
    · rw [if_pos w2] at e
      rw [e] at w ⊢
      exact ⟨w2.1, rfl, w.1, w.2.1, w2.2.1, w2.2.2, w.2.2⟩
    · rw [if_neg w2] at e
      rw [e] at h
      exact absurd rfl h
  · exact absurd rfl h
theorem lWof_no {lo hi : Int} (h : lWof tp n t (.inr (s, g)) lo hi = -1) (hlo : 0 ≤ lo) : ¬ (lKd tp n s g = -2 ∧ lo ≤ wHere tp n s ∧ wHere tp n s < hi ∧ wHere tp n s ≤ 12 ∧ alT t (wHere tp n s).toNat = true) := fun q => by
  have e : lWh tp n (.inr (s, g)) = wHere tp n s := if_pos ⟨q.1, by omega, q.2.2.2.1⟩
  unfold lWof at h
  rw [e, if_pos ⟨q.2.1, q.2.2.1, q.2.2.2.2⟩] at h
  omega
theorem mTk_badc {I I' : Nat → Nat → Nat → Int32} {q : Int × Int} (ht : mTk I tp n (.inl q)) (e5 : I' 50 0 5 = I 50 0 5) (e6 : I' 50 0 6 = I 50 0 6) : mTk I' tp n (.inl q) := ⟨by rw [e5]; exact ht.1, ht.2.1, by rw [e6]; exact ht.2.2⟩
theorem n_sp0 {f : Nat} (i0 : mSp0 tp n t d S h J was Q0 I0 b f) (i4 : mSp4 tp n t d S h J was Q0 I0 b f) (hx0 : mTx I0 tp n) (h49 : (I0 50 0 49).toInt = t) (ht3 : t ≤ 3) : mSp0 tp n t d S h J was Q0 I0 b (f + 1) := by
  intro o s g I W L h6 hF hp hbW hO hf Kb K x2 x3 x4 x5
  have hx := mTx_FM hx0 hF
  have hn := hx0.2.2.1
  have hsn := mTk_sn hp.1
  have hl := hp.2.2.2.2.1
  have hnx := lNx_r (tp := tp) (g := g) hsn
  have e40 : (40 : Int32).toInt = 40 := rfl
  have em1 : (Int32.ofInt (-1)).toInt = -1 := rfl
  obtain ⟨R, hR⟩ : ∃ R, rd tp n (alT t) (f + 1) 0 o s g = R := ⟨_, rfl⟩
  rw [hR] at K Kb
  unfold rd at hR
  rw [if_pos rfl] at hR
  -- the counts stay small
  have cnt : ∀ {I' : Nat → Nat → Nat → Int32}, I' 50 0 99 = I 50 0 99 → 0 ≤ (I' 50 0 99).toInt ∧ (I' 50 0 99).toInt ≤ 1650 := fun {I'} e => by
    have := mPs_cnt hp hn
    rw [e]; omega
  rw [gb_259_6, if_pos hp.1.1, gb_259_13]
  refine n_look hx hp.1 fun I1 x hF1 ht1 hA1 hv => ?_
  have hp1 := mPs_at hp hF1 ht1
  have hx1 := mTx_FM hx (FM_2 hF1)
  have hF01 := FM_trans hF (FM_2 hF1)
  have h491 : ∀ {I' : Nat → Nat → Nat → Int32}, FM I0 I' → (I' 50 0 49).toInt = t := fun {I'} hFF => by rw [hFF _ _ _ (by omega)]; exact h49
  rw [Option.toList_some, List.singleton_append, gb_259_17]
  refine n_wordOf (t := t) (lo := 11) (hi := 13) hx1 ht1 (h491 hF01) ht3 rfl rfl (by decide) fun I2 y hF2 ht2 hA2 hy => ?_
  have hA2 : (I2 50 0 2).toInt = s := hA2
  have hFF2 : (∀ k i j, ¬ ((k = 50 ∧ i = 0 ∧ j = 2)) → I2 k i j = I k i j) := fun k i j hn => by rw [hF2 _ _ _ hn, hF1 _ _ _ hn]
  have hp2 := mPs_at hp hFF2 ht2
  have hx2 := mTx_FM hx (FM_2 hFF2)
  have hF02 := FM_trans hF (FM_2 hFF2)
  rw [Option.toList_some, List.singleton_append, gb_259_26]
  by_cases c40 : lB tp n s = 40
  · have hlt : s < n := lB_le (tp := tp) (by omega)
    have hs1 := hnx.2.2.1 hlt
    have k3 : ¬ lKd tp n s g = -3 := fun q => by
      have := (lKd_num hx.2.2.2.1).mp q
      rw [lIsD_iff] at this; omega
    rw [if_neg k3, if_pos c40] at hR
    rw [if_pos (z_inj (by rw [hv, c40, e40])), gb_259_33]
    refine n_opens (v := 20) hp2 hn h6 rfl hA2 (fun w6 I3 hF3 ht3' => ?_) (fun w6 I3 hF3 ho3 hw3 => ?_)
    · rw [if_pos w6] at hR
      rw [Option.toList_none, List.nil_append, gb_259_43, gb_259_183, gb_259_2, if_neg (by decide)]
      have hc := cnt (I' := I3) (by rw [hF3 _ _ _ (by omega), hFF2 _ _ _ (by omega)])
      exact mPH_bad (Kb _ _ hR.symm) (FM_trans hF02 (fun k i j hn => by rw [u_ne (by omega), hF3 _ _ _ (by omega)])) (mTk_badc (I := I3) ht3' (u_j (by decide)) (u_j (by decide))) (by rw [u_j (by decide)]; exact hc.1) (by rw [u_j (by decide)]; exact hc.2) _ _ _ _
    · rw [if_neg w6] at hR
      have ht3' : mTk I3 tp n (.inr (s, g)) := mTk_congr ht2 (fun j hj => hF3 _ _ _ (by omega))
      have hA3 : (I3 50 0 2).toInt = s := by rw [hF3 _ _ _ (by omega)]; exact hA2
      have e1 : (1 : Int32).toInt = 1 := rfl
      rw [Option.toList_none, List.nil_append, gb_259_43, gb_259_183, gb_259_2, if_neg (by decide)]
      generalize hI4 : gup I3 50 0 2 (I3 50 0 2 + 1) = I4
      have hF4 : (∀ k i j, ¬ ((k = 50 ∧ i = 0 ∧ j = 2)) → I4 k i j = I3 k i j) := fun k i j hn => by rw [← hI4, u_ne hn]
      have ht4 : mTk I4 tp n (.inr (lNx tp n s g)) := mTk_sign ht3' hlt c40 rfl rfl (hF4 _ _ _ (by omega)) (hF4 _ _ _ (by omega)) (hF4 _ _ _ (by omega)) (by rw [← hI4, u_eq, z_add (by omega) (by omega), hA3, e1]) (by decide)
      have hF04 : FM I0 I4 := FM_trans hF02 (fun k i j hn => by rw [hF4 _ _ _ (by omega), hF3 _ _ _ (by omega)])
      have hp4 : mPs I4 tp n (lNx tp n s g).1 (lNx tp n s g).2 ((o + 1 : Nat) : Int) (20 :: W) L b := ⟨ht4, by rw [hF4 _ _ _ (by omega)]; exact ho3, mWt_congr hw3 (hF4 _ _ _ (by omega)) (fun j => hF4 _ _ _ (by omega)), mCd_congr hp2.2.2.2.1 (by rw [hF4 _ _ _ (by omega), hF3 _ _ _ (by omega)]) (fun j => by rw [hF4 _ _ _ (by omega), hF3 _ _ _ (by omega)]), by simp only [List.length_cons]; omega, by rw [hF4 _ _ _ (by omega), hF3 _ _ _ (by omega)]; exact hp2.2.2.2.2.2⟩
      refine i4 (o + 1) (lNx tp n s g).1 (lNx tp n s g).2 I4 (20 :: W) L (by omega) hF04 hp4 (Or.inr ⟨by simp only [List.length_cons]; omega, by show (20 : Int) ≤ 20; omega, by show (20 : Int) ≤ 24; omega⟩) (Or.inr (by show (4 : Int) < 20; omega)) (ofOk_cons hO (by omega)) (by omega) (fun q l hr => ?_) (fun I5 s1 g1 l A B L' hr hF5 hp5 hL hB hA hop => ?_) _ _ _ _
      · rw [hr, bR_l] at hR; exact Kb _ _ hR.symm
      · rw [hr, bR_r] at hR
        refine n_sumEnd (mTx_FM hx0 hF5) hF5 hp5 (pBoth_g hB hA) (Or.inl rfl) hbW hO (by omega) (by omega) hop (fun c => ?_) (fun c I6 hF6 hp6 => ?_)
        · have e : lAskC tp n (.inr (s1, g1)) 41 = .inl (1, s1) := if_neg c
          rw [e] at hR; exact Kb _ _ hR.symm
        · have e : lAskC tp n (.inr (s1, g1)) 41 = .inr (lNx tp n s1 g1) := if_pos c
          rw [e] at hR
          have e2 : L' ++ (B ++ A) ++ clCode 20 = L ++ l := by rw [hL]; exact List.append_nil _
          rw [e2, show ((o + 1 : Nat) : Int) - 1 = o by omega] at hp6
          exact K I6 _ _ l hR.symm hF6 hp6
  rw [if_neg (fun e => c40 (by rw [← hv, e, e40])), gb_259_56]
  have mm : ∀ (w : Nat), (w = 17 ∨ w = 18) → lIs tp n (.inr (s, g)) w = true → ∀ (I4 : Nat → Nat → Nat → Int32), (∀ k i j, ¬ ((k = 50 ∧ i = 0 ∧ j = 2)) → I4 k i j = I k i j) → mTk I4 tp n (.inr (s, g)) → (gq (d + 6) 259 78 [some (.inr (.inr (some (50, 0)))), some (.inl (1)), some (.inl (x)), some (.inl (y)), x4, x5] [] (gwd S I4 J h) (mQP d S h J was Q0)) := fun w hw wi I4 hF4 ht4 => by
    have hwi := lIs_iff.mp wi
    have hlt : s < n := lKd_lt hx.2.2.2.1 (Or.inl hwi.1)
    have hs1 := hnx.2.2.1 hlt
    have k3 : ¬ lKd tp n s g = -3 := fun q => by rw [hwi.1] at q; omega
    have hwe : wHere tp n s = w := hwi.2
    rw [if_neg k3, if_neg c40, if_pos ⟨hwi.1, by omega⟩, hwe] at hR
    have hp4 := mPs_at hp hF4 ht4
    have hx4 := mTx_FM hx (FM_2 hF4)
    have hF04 := FM_trans hF (FM_2 hF4)
    have hnx1 := lNx_r (tp := tp) (g := (lNx tp n s g).2) hnx.2.1
    -- behind the word
    have rest : ∀ (I6 : Nat → Nat → Nat → Int32) (a4 : Int32), (∀ k i j, ¬ ((k = 50 ∧ i = 0 ∧ (j = 2 ∨ j = 4 ∨ j = 5 ∨ j = 6))) → I6 k i j = I k i j) → mTk I6 tp n (.inr (lNx tp n s g)) → a4 = (if w = 17 then 1 else 0) → (gq (d + 6) 259 101 [some (.inr (.inr (some (50, 0)))), some (.inl (1)), some (.inl (x)), some (.inl (y)), some (.inl (a4)), x5] [] (gwd S I6 J h) (mQP d S h J was Q0)) := fun I6 a4 hF6 ht6 ha4 => by
      have ht6 : mTk I6 tp n (.inr ((lNx tp n s g).1, (lNx tp n s g).2)) := ht6
      have hx6 : mTx I6 tp n := mTx_FM hx (fun k i j hn => hF6 _ _ _ (by omega))
      have hF06 : FM I0 I6 := FM_trans hF (fun k i j hn => hF6 _ _ _ (by omega))
      rw [gb_259_101]
      refine n_look hx6 ht6 fun I7 z hF7 ht7 hA7 hz => ?_
      have hFF7 : (∀ k i j, ¬ ((k = 50 ∧ i = 0 ∧ (j = 2 ∨ j = 4 ∨ j = 5 ∨ j = 6))) → I7 k i j = I k i j) := fun k i j hn => by rw [hF7 _ _ _ (by omega), hF6 _ _ _ (by omega)]
      have hx7 : mTx I7 tp n := mTx_FM hx6 (FM_2 hF7)
      have hF07 : FM I0 I7 := FM_trans hF06 (FM_2 hF7)
      have hp7 : mPs I7 tp n (lNx tp n s g).1 (lNx tp n s g).2 o W L b := ⟨ht7, by rw [hFF7 _ _ _ (by omega)]; exact hp.2.1, mWt_congr hp.2.2.1 (hFF7 _ _ _ (by omega)) (fun j => hFF7 _ _ _ (by omega)), mCd_congr hp.2.2.2.1 (hFF7 _ _ _ (by omega)) (fun j => hFF7 _ _ _ (by omega)), by omega, by rw [hFF7 _ _ _ (by omega)]; exact hp.2.2.2.2.2⟩
      rw [Option.toList_some, List.singleton_append, gb_259_105]
      by_cases d40 : lB tp n (lNx tp n s g).1 = 40
      case neg =>
        rw [if_neg d40] at hR
        rw [if_neg (fun e => d40 (by rw [← hz, e, e40])), gb_259_117, gb_259_118, gb_259_123, if_pos rfl, gb_259_144]
        refine n_asign (c := 40) rfl (by decide) rfl rfl hx7 ht7 fun I8 hF8 ht8 => ?_
        have e : lAskC tp n (.inr ((lNx tp n s g).1, (lNx tp n s g).2)) 40 = .inl (1, ((lNx tp n s g).1 : Int)) := if_neg d40
        rw [e] at ht8
        have hc := cnt (I' := I8) (by rw [hF8 _ _ _ (by omega), hFF7 _ _ _ (by omega)])
        rw [Option.toList_none, List.nil_append, gb_259_150, gb_259_183, gb_259_2, if_neg (by decide)]
        exact mPH_bad (Kb _ _ hR.symm) (FM_trans hF07 (fun k i j hn => hF8 _ _ _ (by omega))) ht8 hc.1 hc.2 _ _ _ _
      have hlt1 : (lNx tp n s g).1 < n := lB_le (tp := tp) (by omega)
      have hs2 := hnx1.2.2.1 hlt1
      rw [if_pos d40] at hR
      rw [if_pos (z_inj (by rw [hz, d40, e40])), gb_259_110, gb_259_118, gb_259_123, if_neg (fun e => by rw [e, em1] at hA7; omega), gb_259_126]
      have opn : ∀ v : Int32, v.toInt = (if w = 17 then 21 else 22) → (gq (d + 6) 259 139 [some (.inr (.inr (some (50, 0)))), some (.inl (1)), some (.inl (x)), some (.inl (y)), some (.inl (a4)), some (.inl ((I7 50 0 2)))] [.inl (v), .inr (.inr (some (50, 0)))] (gwd S I7 J h) (mQP d S h J was Q0)) := fun v hv2 => by
        generalize hvv : (if w = 17 then (21 : Int) else 22) = vv at hv2
        have hvr : vv = 21 ∧ w = 17 ∨ vv = 22 ∧ w = 18 := by
          rcases hw with rfl | rfl
          · left; rw [← hvv]; exact ⟨rfl, rfl⟩
          · right; rw [← hvv]; exact ⟨rfl, rfl⟩
        rw [gb_259_139]
        refine n_opens hp7 hn h6 hv2 hA7 (fun w6 I8 hF8 ht8 => ?_) (fun w6 I8 hF8 ho8 hw8 => ?_)
        · rw [if_pos w6] at hR
          have hx8 : mTx I8 tp n := mTx_FM hx7 (fun k i j hn => hF8 _ _ _ (by omega))
          rw [Option.toList_none, List.nil_append, gb_259_144]
          refine n_asign (c := 40) rfl (by decide) rfl rfl hx8 ht8 fun I9 hF9 ht9 => ?_
          have hc := cnt (I' := I9) (by rw [hF9 _ _ _ (by omega), hF8 _ _ _ (by omega), hFF7 _ _ _ (by omega)])
          rw [Option.toList_none, List.nil_append, gb_259_150, gb_259_183, gb_259_2, if_neg (by decide)]
          exact mPH_bad (Kb _ _ hR.symm) (FM_trans hF07 (fun k i j hn => by rw [hF9 _ _ _ (by omega), hF8 _ _ _ (by omega)])) ht9 hc.1 hc.2 _ _ _ _
        · rw [if_neg w6] at hR
          have hx8 : mTx I8 tp n := mTx_FM hx7 (fun k i j hn => hF8 _ _ _ (by omega))
          have ht8 : mTk I8 tp n (.inr ((lNx tp n s g).1, (lNx tp n s g).2)) := mTk_congr ht7 (fun j hj => hF8 _ _ _ (by omega))
          rw [Option.toList_none, List.nil_append, gb_259_144]
          refine n_asign (c := 40) rfl (by decide) rfl rfl hx8 ht8 fun I9 hF9 ht9 => ?_
          have e : lAskC tp n (.inr ((lNx tp n s g).1, (lNx tp n s g).2)) 40 = .inr (lNx tp n (lNx tp n s g).1 (lNx tp n s g).2) := if_pos d40
          rw [e] at ht9
          have hF09 : FM I0 I9 := FM_trans hF07 (fun k i j hn => by rw [hF9 _ _ _ (by omega), hF8 _ _ _ (by omega)])
          have hp9 : mPs I9 tp n (lNx tp n (lNx tp n s g).1 (lNx tp n s g).2).1 (lNx tp n (lNx tp n s g).1 (lNx tp n s g).2).2 ((o + 1 : Nat) : Int) (vv :: W) L b := ⟨ht9, by rw [hF9 _ _ _ (by omega)]; exact ho8, mWt_congr hw8 (hF9 _ _ _ (by omega)) (fun j => hF9 _ _ _ (by omega)), mCd_congr hp7.2.2.2.1 (by rw [hF9 _ _ _ (by omega), hF8 _ _ _ (by omega)]) (fun j => by rw [hF9 _ _ _ (by omega), hF8 _ _ _ (by omega)]), by simp only [List.length_cons]; omega, by rw [hF9 _ _ _ (by omega), hF8 _ _ _ (by omega)]; exact hp7.2.2.2.2.2⟩
          rw [Option.toList_none, List.nil_append, gb_259_150, gb_259_183, gb_259_2, if_neg (by decide)]
          refine i4 (o + 1) _ _ I9 (vv :: W) L (by omega) hF09 hp9 (Or.inr ⟨by simp only [List.length_cons]; omega, by show (20 : Int) ≤ vv; omega, by show vv ≤ 24; omega⟩) (Or.inr (by show (4 : Int) < vv; omega)) (ofOk_cons hO (by omega)) (by omega) (fun q l hr => ?_) (fun I10 s3 g3 l A B L' hr hF10 hp10 hL hB hA hop => ?_) _ _ _ _
          · rw [hr, bR_l] at hR; exact Kb _ _ hR.symm
          · rw [hr, bR_r] at hR
            have hs3 := mTk_sn hp10.1
            have hlen3 := rd_len hx0.2.2.2.1 f 4 (o + 1) _ _ _ _ hnx1.2.1 (by decide) hr
            have l3s : (lNx tp n (lNx tp n s g).1 (lNx tp n s g).2).1 + l.length ≤ s3 := hlen3.1
            refine n_sumComma (mTx_FM hx0 hF10) hF10 hp10 (pBoth_g hB hA) (by omega) hbW hop (fun c => ?_) (fun c I11 hF11 hp11 => ?_)
            · have e : lAskC tp n (.inr (s3, g3)) 44 = .inl (1, s3) := if_neg c
              rw [e, bR_l] at hR; exact Kb _ _ hR.symm
            · have e : lAskC tp n (.inr (s3, g3)) 44 = .inr (lNx tp n s3 g3) := if_pos c
              rw [e, bR_r] at hR
              have hlt3 : s3 < n := lB_le (tp := tp) (by omega)
              have hnx3 := lNx_r (tp := tp) (g := g3) hs3
              have hs4 := hnx3.2.2.1 hlt3
              refine i4 (o + 1) (lNx tp n s3 g3).1 (lNx tp n s3 g3).2 I11 ((vv + 2) :: W) (L' ++ (B ++ A)) (by omega) hF11 hp11 (Or.inr ⟨by simp only [List.length_cons]; omega, by show (20 : Int) ≤ vv + 2; omega, by show vv + 2 ≤ 24; omega⟩) (Or.inr (by show (4 : Int) < vv + 2; omega)) (ofOk_cons hO (by omega)) (by omega) (fun q l5 hr5 => ?_) (fun I12 s5 g5 l5 A5 B5 L5 hr5 hF12 hp12 hL5 hB5 hA5 hop5 => ?_)
              · rw [hr5, bR_l] at hR; exact Kb _ _ hR.symm
              · rw [hr5, bR_r] at hR
                refine n_sumEnd (mTx_FM hx0 hF12) hF12 hp12 (pBoth_g hB5 hA5) (by omega) hbW hO (by omega) (by omega) hop5 (fun c5 => ?_) (fun c5 I13 hF13 hp13 => ?_)
                · have e : lAskC tp n (.inr (s5, g5)) 41 = .inl (1, s5) := if_neg c5
                  rw [e] at hR; exact Kb _ _ hR.symm
                · have e : lAskC tp n (.inr (s5, g5)) 41 = .inr (lNx tp n s5 g5) := if_pos c5
                  rw [e] at hR
                  have ec : clCode (vv + 2) = [-1 - (w : Int)] := by
                    rcases hvr with ⟨rfl, rfl⟩ | ⟨rfl, rfl⟩ <;> rfl
                  have e2 : L5 ++ (B5 ++ A5) ++ clCode (vv + 2) = L ++ (l ++ (l5 ++ [-1 - (w : Int)])) := by rw [hL5, hL, ec, List.append_assoc, List.append_assoc]
                  rw [e2, show ((o + 1 : Nat) : Int) - 1 = o by omega] at hp13
                  exact K I13 _ _ _ hR.symm hF13 hp13
      rcases hw with rfl | rfl
      · have ha4' : a4 = 1 := ha4
        rw [if_neg (by rw [ha4']; decide), gb_259_132]; exact opn 21 rfl
      · have ha4' : a4 = 0 := ha4
        rw [if_pos ha4', gb_259_137]; exact opn 22 rfl
    rw [gb_259_78]
    refine n_takes (i1 := 37) (by decide) hx4 ht4 fun I5 z hF5 ht5 hA5 hz => ?_
    rw [show mWx.getD 37 0 = 17 from rfl] at ht5 hA5 hz
    rw [Option.toList_some, List.singleton_append, gb_259_86]
    rcases hw with rfl | rfl
    · rw [if_pos wi] at hz
      have e : lTkW tp n (.inr (s, g)) 17 = .inr (lNx tp n s g) := if_pos hwi
      rw [e] at ht5
      rw [if_neg (by rw [hz]; decide)]
      exact rest I5 z (fun k i j hn => by rw [hF5 _ _ _ (by omega), hF4 _ _ _ (by omega)]) ht5 (by rw [hz]; rfl)
    · have no17 : ¬ lIs tp n (.inr (s, g)) 17 = true := fun q => by have := (lIs_iff.mp q).2; rw [hwi.2] at this; omega
      rw [if_neg no17] at hz
      have e : lTkW tp n (.inr (s, g)) 17 = .inr (s, g) := if_neg (fun q => no17 (lIs_iff.mpr q))
      rw [e] at ht5
      have hx5 : mTx I5 tp n := mTx_FM hx4 (fun k i j hn => hF5 _ _ _ (by omega))
      rw [if_pos hz, gb_259_93]
      refine n_asks (i1 := 38) (by decide) hx5 ht5 fun I6 hF6 ht6 => ?_
      rw [show mWx.getD 38 0 = 18 from rfl] at ht6
      have e : lAskW tp n (.inr (s, g)) 18 = .inr (lNx tp n s g) := if_pos hwi
      rw [e] at ht6
      rw [Option.toList_none, List.nil_append]
      exact rest I6 z (fun k i j hn => by rw [hF6 _ _ _ (by omega), hF5 _ _ _ (by omega), hF4 _ _ _ (by omega)]) ht6 (by rw [hz]; rfl)
  refine n_here (i1 := 37) (by decide) hx2 ht2 fun I3 z hF3 ht3' hA3 hz => ?_
  rw [show mWx.getD 37 0 = 17 from rfl] at hz
  have hFF3 : (∀ k i j, ¬ ((k = 50 ∧ i = 0 ∧ j = 2)) → I3 k i j = I k i j) := fun k i j hn => by rw [hF3 _ _ _ hn, hFF2 _ _ _ hn]
  rw [Option.toList_some, List.singleton_append, gb_259_64]
  by_cases w17 : lIs tp n (.inr (s, g)) 17 = true
  · rw [if_pos w17] at hz
    rw [if_neg (by rw [hz]; decide)]; exact mm 17 (Or.inl rfl) w17 I3 hFF3 ht3'
  rw [if_neg w17] at hz
  have hx3 := mTx_FM hx (FM_2 hFF3)
  rw [if_pos hz, gb_259_67]
  refine n_here (i1 := 38) (by decide) hx3 ht3' fun I4 z2 hF4 ht4 hA4 hz2 => ?_
  rw [show mWx.getD 38 0 = 18 from rfl] at hz2
  have hFF4 : (∀ k i j, ¬ ((k = 50 ∧ i = 0 ∧ j = 2)) → I4 k i j = I k i j) := fun k i j hn => by rw [hF4 _ _ _ hn, hFF3 _ _ _ hn]
  rw [Option.toList_some, List.singleton_append, gb_259_75]
  by_cases w18 : lIs tp n (.inr (s, g)) 18 = true
  · rw [if_pos w18] at hz2
    rw [if_neg (by rw [hz2]; decide)]; exact mm 18 (Or.inr rfl) w18 I4 hFF4 ht4
  rw [if_neg w18] at hz2
  have hA4 : (I4 50 0 2).toInt = s := hA4
  have hp4 := mPs_at hp hFF4 ht4
  have hx4 := mTx_FM hx (FM_2 hFF4)
  have hF04 := FM_trans hF (FM_2 hFF4)
  have nw : ¬ (lKd tp n s g = -2 ∧ (wHere tp n s = 17 ∨ wHere tp n s = 18)) := fun q => by
    rcases q.2 with r | r
    · exact w17 (lIs_iff.mpr ⟨q.1, r⟩)
    · exact w18 (lIs_iff.mpr ⟨q.1, r⟩)
  rw [if_pos hz2, gb_259_153, gb_259_155]
  by_cases wof : lWof tp n t (.inr (s, g)) 11 13 = -1
  case neg =>
    obtain ⟨o1, o2, o3, o4, o5, o6, o7⟩ := lWof_at wof
    have hlt : s < n := lKd_lt hx.2.2.2.1 (Or.inl o1)
    have hs1 := hnx.2.2.1 hlt
    have e60 : (60 : Int32).toInt = 60 := rfl
    have e11 : (11 : Int32).toInt = 11 := rfl
    rw [o2] at hy
    rw [if_neg (by omega), if_neg c40, if_neg nw, if_pos ⟨o1, o5, o6, o7⟩, if_neg (by omega)] at hR
    have q60 : (60 + y).toInt = 60 + wHere tp n s := by rw [z_add (by omega) (by omega), hy, e60]
    rw [if_neg (fun e => by rw [e, em1] at hy; omega), gb_259_158]
    refine n_opens (v := 49 + wHere tp n s) hp4 hn h6 (by rw [z_sub (by omega) (by omega), q60, e11]; omega) hA4 (fun w6 I5 hF5 ht5 => ?_) (fun w6 I5 hF5 ho5 hw5 => ?_)
    · rw [if_pos w6] at hR
      have hx5 : mTx I5 tp n := mTx_FM hx4 (fun k i j hn => hF5 _ _ _ (by omega))
      rw [Option.toList_none, List.nil_append, gb_259_173]
      refine n_asksW (k := (wHere tp n s).toNat) hx5 ht5 (by omega) (by omega) fun I6 hF6 ht6 => ?_
      have hc := cnt (I' := I6) (by rw [hF6 _ _ _ (by omega), hF5 _ _ _ (by omega), hFF4 _ _ _ (by omega)])
      rw [Option.toList_none, List.nil_append, gb_259_178, gb_259_183, gb_259_2, if_neg (by decide)]
      exact mPH_bad (Kb _ _ hR.symm) (FM_trans hF04 (fun k i j hn => by rw [hF6 _ _ _ (by omega), hF5 _ _ _ (by omega)])) ht6 hc.1 hc.2 _ _ _ _
    · rw [if_neg w6] at hR
      have hx5 : mTx I5 tp n := mTx_FM hx4 (fun k i j hn => hF5 _ _ _ (by omega))
      have ht5 : mTk I5 tp n (.inr (s, g)) := mTk_congr ht4 (fun j hj => hF5 _ _ _ (by omega))
      rw [Option.toList_none, List.nil_append, gb_259_173]
      refine n_asksW (k := (wHere tp n s).toNat) hx5 ht5 (by omega) (by omega) fun I6 hF6 ht6 => ?_
      have e : lAskW tp n (.inr (s, g)) (wHere tp n s).toNat = .inr (lNx tp n s g) := if_pos ⟨o1, by show wHere tp n s = _; omega⟩
      rw [e] at ht6
      have hF06 : FM I0 I6 := FM_trans hF04 (fun k i j hn => by rw [hF6 _ _ _ (by omega), hF5 _ _ _ (by omega)])
      have hp6 : mPs I6 tp n (lNx tp n s g).1 (lNx tp n s g).2 ((o + 1 : Nat) : Int) ((49 + wHere tp n s) :: W) L b := ⟨ht6, by rw [hF6 _ _ _ (by omega)]; exact ho5, mWt_congr hw5 (hF6 _ _ _ (by omega)) (fun j => hF6 _ _ _ (by omega)), mCd_congr hp4.2.2.2.1 (by rw [hF6 _ _ _ (by omega), hF5 _ _ _ (by omega)]) (fun j => by rw [hF6 _ _ _ (by omega), hF5 _ _ _ (by omega)]), by simp only [List.length_cons]; omega, by rw [hF6 _ _ _ (by omega), hF5 _ _ _ (by omega)]; exact hp4.2.2.2.2.2⟩
      rw [Option.toList_none, List.nil_append, gb_259_178, gb_259_183, gb_259_2, if_neg (by decide)]
      refine i0 (o + 1) (lNx tp n s g).1 (lNx tp n s g).2 I6 ((49 + wHere tp n s) :: W) L (by omega) hF06 hp6 (by simp only [List.length_cons]; omega) (ofOk_cons hO (by omega)) (by omega) (fun q l hr => ?_) (fun I7 s1 g1 l hr hF7 hp7 => ?_) _ _ _ _
      · rw [hr, bR_l] at hR; exact Kb _ _ hR.symm
      · rw [hr, bR_r] at hR
        have eE : ePop b ((49 + wHere tp n s) :: W) ((o + 1 : Nat) : Int) (L ++ l) = ePop b W o (L ++ (l ++ [-1 - wHere tp n s])) := by
          show (if b < W.length + 1 ∧ 60 ≤ 49 + wHere tp n s then ePop b W (((o + 1 : Nat) : Int) - 1) (L ++ l ++ [48 - (49 + wHere tp n s)]) else _) = _
          rw [if_pos ⟨by omega, by omega⟩, show ((o + 1 : Nat) : Int) - 1 = o by omega, List.append_assoc, show 48 - (49 + wHere tp n s) = -1 - wHere tp n s by omega]
        rw [eE] at hp7
        exact K I7 _ _ _ hR.symm hF7 hp7
  rw [wof] at hy
  rw [if_pos (z_inj (by rw [hy, em1])), gb_259_181, gb_259_183, gb_259_2, if_pos rfl, gb_259_186, if_pos ht4.1, gb_259_194]
  refine n_wordOf (t := t) (lo := 0) (hi := 11) hx4 ht4 (h491 hF04) ht3 rfl rfl (by decide) fun I5 z3 hF5 ht5 hA5 hz3 => ?_
  have hFF5 : (∀ k i j, ¬ ((k = 50 ∧ i = 0 ∧ j = 2)) → I5 k i j = I k i j) := fun k i j hn => by rw [hF5 _ _ _ hn, hFF4 _ _ _ hn]
  have hp5 := mPs_at hp hFF5 ht5
  have hx5 := mTx_FM hx (FM_2 hFF5)
  have hF05 := FM_trans hF (FM_2 hFF5)
  rw [Option.toList_some, List.singleton_append, gb_259_201, gb_259_204]
  -- a code is told, and what ends with it
  have told : ∀ (I6 : Nat → Nat → Nat → Int32) (v : Int32) (c : Int) (a2 : Int32) (x3 x4 x5 : Option gV), (∀ k i j, ¬ ((k = 50 ∧ i = 0 ∧ (j = 2 ∨ j = 4 ∨ j = 5 ∨ j = 6 ∨ j = 10))) → I6 k i j = I k i j) → mTk I6 tp n (.inr (lNx tp n s g)) → s < n → v.toInt = gMc c → R = (.inr (lNx tp n s g), [c]) → (gq (d + 6) 259 237 [some (.inr (.inr (some (50, 0)))), some (.inl (0)), some (.inl (a2)), x3, x4, x5] [.inl (v), .inr (.inr (some (50, 0)))] (gwd S I6 J h) (mQP d S h J was Q0)) := fun I6 v c a2 x3 x4 x5 hF6 ht6 hlt hv6 hRc => by
    have hs1 := hnx.2.2.1 hlt
    have hc6 : mCd I6 L := mCd_congr hp.2.2.2.1 (hF6 _ _ _ (by omega)) (fun j => hF6 _ _ _ (by omega))
    rw [gb_259_237]
    refine n_code (c := c) hc6 (by omega) hv6 fun I7 hF7 hc7 => ?_
    have hp7 : mPs I7 tp n (lNx tp n s g).1 (lNx tp n s g).2 o W (L ++ [c]) b := ⟨mTk_congr ht6 (fun j hj => hF7 _ _ _ (by omega)), by rw [hF7 _ _ _ (by omega), hF6 _ _ _ (by omega)]; exact hp.2.1, mWt_congr hp.2.2.1 (by rw [hF7 _ _ _ (by omega), hF6 _ _ _ (by omega)]) (fun j => by rw [hF7 _ _ _ (by omega), hF6 _ _ _ (by omega)]), hc7, by rw [List.length_append]; simp only [List.length_cons, List.length_nil]; omega, by rw [hF7 _ _ _ (by omega), hF6 _ _ _ (by omega)]; exact hp.2.2.2.2.2⟩
    rw [Option.toList_none, List.nil_append, gb_259_240]
    refine n_ends hn W o _ I7 hp7 (by omega) (by omega) hO hbW fun I8 hF8 hp8 => ?_
    rw [Option.toList_none, List.nil_append, gb_259_244]
    have hF08 : FM I0 I8 := FM_trans hF (fun k i j hn => by rw [hF8 _ _ _ (by omega), hF7 _ _ _ (by omega), hF6 _ _ _ (by omega)])
    exact mQP_ok hp8.1.1 (K I8 _ _ _ hRc hF08 hp8)
  by_cases wp : lWof tp n t (.inr (s, g)) 0 11 = -1
  case neg =>
    obtain ⟨o1, o2, o3, o4, o5, o6, o7⟩ := lWof_at wp
    have hlt : s < n := lKd_lt hx.2.2.2.1 (Or.inl o1)
    have e40' : (40 : Int32).toInt = 40 := rfl
    rw [o2] at hz3
    rw [if_neg (by omega), if_neg c40, if_neg nw, if_pos ⟨o1, o5, o6, o7⟩, if_pos (by omega)] at hR
    rw [if_neg (fun e => by rw [e, em1] at hz3; omega), gb_259_207]
    refine n_asksW (k := (wHere tp n s).toNat) hx5 ht5 (by omega) (by omega) fun I6 hF6 ht6 => ?_
    have e : lAskW tp n (.inr (s, g)) (wHere tp n s).toNat = .inr (lNx tp n s g) := if_pos ⟨o1, by show wHere tp n s = _; omega⟩
    rw [e] at ht6
    rw [Option.toList_none, List.nil_append, gb_259_212, gb_259_215, if_neg (fun e => by rw [e, em1] at hz3; omega), gb_259_218]
    refine told I6 _ (-1 - wHere tp n s) _ _ _ _ (fun k i j hn => by rw [hF6 _ _ _ (by omega), hFF5 _ _ _ (by omega)]) ht6 hlt ?_ hR.symm
    rw [z_add (by omega) (by omega), hz3, e40']
    unfold gMc
    rw [if_neg (by omega), if_pos (by omega)]; omega
  rw [wp] at hz3
  have e1000 : (1000 : Int32).toInt = 1000 := rfl
  have nw4 : ¬ (lKd tp n s g = -2 ∧ (0 ≤ wHere tp n s ∧ wHere tp n s ≤ 12 ∧ alT t (wHere tp n s).toNat = true)) := fun q => by
    have a := lWof_no wof (by decide)
    have c := lWof_no wp (by decide)
    by_cases hw : wHere tp n s < 11
    · exact c ⟨q.1, q.2.1, hw, q.2.2.1, q.2.2.2⟩
    · exact a ⟨q.1, by omega, by omega, q.2.2.1, q.2.2.2⟩
  rw [if_pos (z_inj (by rw [hz3, em1])), gb_259_212, gb_259_215, if_pos (z_inj (by rw [hz3, em1])), gb_259_225]
  refine n_number (lo := 0) (hi := 9999) rfl rfl hx5 ht5 fun I6 z4 hF6 ht6 hz4 => ?_
  rw [Option.toList_some, List.singleton_append, gb_259_236]
  have hFF6 : (∀ k i j, ¬ ((k = 50 ∧ i = 0 ∧ (j = 2 ∨ j = 4 ∨ j = 5 ∨ j = 6 ∨ j = 10))) → I6 k i j = I k i j) := fun k i j hn => by rw [hF6 _ _ _ (by omega), hFF5 _ _ _ (by omega)]
  match hq : (lNumT tp n 0 9999 (.inr (s, g))).1, ht6, hz4 with
  | .inr q, ht6, hz4 =>
    have e := lNumT_inr hq
    have hv4 := hz4 q rfl
    rw [if_pos e.1, hq, e.2.1] at hR
    rw [e.2.1] at ht6
    refine told I6 _ _ _ _ _ _ hFF6 ht6 (lKd_lt hx.2.2.2.1 (Or.inr e.1)) ?_ hR.symm
    rw [z_add (by omega) (by omega), hv4, e1000]
    unfold gMc
    rw [if_pos (by omega)]
  | .inl q, ht6, hz4 =>
    have hRq : ∃ l, R = (.inl q, l) := by
      by_cases k3 : lKd tp n s g = -3
      · rw [if_pos k3, hq] at hR
        exact ⟨_, hR.symm⟩
      · rw [if_neg k3, if_neg c40, if_neg nw, if_neg nw4] at hR
        have e : (lNumT tp n 0 9999 (.inr (s, g))).1 = .inl (1, (s : Int)) := by
          show (if lKd tp n s g ≠ -3 then ((.inl (1, (s : Int)), 0) : lT × Int) else _).1 = _
          rw [if_pos k3]
        rw [e] at hq
        injection hq with hq
        rw [← hq]
        exact ⟨_, hR.symm⟩
    obtain ⟨l, hRl⟩ := hRq
    have hc := cnt (I' := I6) (hFF6 _ _ _ (by omega))
    have hc0 := mPs_cnt hp hn
    have hc6 : (I6 50 0 99).toInt = (I 50 0 99).toInt := by rw [hFF6 _ _ _ (by omega)]
    rw [gb_259_237]
    refine n_codeB hc.1 (by omega) fun I7 hF7 hc7 => ?_
    have ht7 : mTk I7 tp n (.inl q) := mTk_congr (τ := .inl q) ht6 (fun j hj => hF7 _ _ _ (by omega))
    rw [Option.toList_none, List.nil_append, gb_259_240, gb_258_0, if_neg (mTk_bad ht7), gb_258_51, Option.toList_none, List.nil_append, gb_259_244]
    have hF07 : FM I0 I7 := FM_trans hF (fun k i j hn => by rw [hF7 _ _ _ (by omega), hFF6 _ _ _ (by omega)])
    exact mQP_bad (Kb _ _ hRl) hF07 ht7 (by omega) (by omega)
