/-! The class reads a fact; all of a formula. -/
variable {d S : Nat} {h : Nat × Option gNm} {I : Nat → Nat → Nat → Int32} {J : Nat → Nat → Nat → Int64} {Q : Option gV → gW → Prop}
theorem m_rd_5 {tp : Nat → Int} {n c : Nat} {al : Nat → Bool} {f : Nat} (ih : kSp tp n c al S h J f) {o s z D : Nat} {g : Bool} {x1 : Option gV} (ho : o ≤ 6) (hx : kTx I tp n) (ha : kAl I c al) (ht : kTk I tp n (.inr (s, g))) (hop : (I 17 c 3).toInt = o) (hz : (I 14 c 2).toInt = z) (hzs : z ≤ s) (hf : 10 * (n - s) + 5 < f + 1) (hD : kNeed 5 o ≤ D) (K : ∀ (I' : Nat → Nat → Nat → Int32), FG c I I' → kOut I tp n c z o (rd tp n al (f + 1) 5 o s g) I' → Q none (gwd S I' J h)) : (gq D 41 0 [some (.inr (.inr (some (17, c)))), x1] [] (gwd S I J h) Q) := by
  have hsn := ht.2.2.2.2.2.1
  have hn := hx.2.2.1
  have nd : kNeed 5 o = 10 * (6 - o) + 13 := rfl
  obtain ⟨d, rfl⟩ : ∃ d, D = d + 10 := ⟨D - 10, by omega⟩
  have e1 : (1 : Int32).toInt = 1 := rfl
  have hnx := lNx_r (tp := tp) (g := g) hsn
  unfold rd at K
  rw [if_neg (by decide), if_pos rfl] at K
  rw [gb_41_0, m_isWord (w := 13) rfl hx ht, Option.toList_some, List.singleton_append, gb_41_9]
  by_cases w1 : lIs tp n (.inr (s, g)) 13 = true
  · have hw := lIs_iff.mp w1
    have hlt : s < n := lKd_lt hx.2.2.2.1 (Or.inl hw.1)
    have hs1 := hnx.2.2.1 hlt
    rw [if_pos (show lKd tp n s g = -2 ∧ wHere tp n s = 13 from hw)] at K
    rw [if_pos w1, if_neg (by decide), gb_41_12]
    refine m_opens hx ht hop ho (fun w6 I2 hG2 ht2 => ?_) (fun w6 I2 hF2 ht2 ho2 => ?_)
    · rw [if_pos w6] at K
      rw [Option.toList_some, List.singleton_append, gb_41_16, if_pos rfl, gb_41_181]
      exact K I2 hG2 ht2
    rw [if_neg w6] at K
    have hG2 : FG c I I2 := fun k i j hn => hF2 _ _ _ (by omega)
    rw [Option.toList_some, List.singleton_append, gb_41_16, if_neg (by decide), gb_41_19]
    refine ih 5 (o + 1) (lNx tp n s g).1 z (lNx tp n s g).2 I2 (d + 9) 0 none none _ (by decide) (by omega) (kTx_FG hx hG2) (kAl_FG ha hG2) ht2 ho2 (by rw [hF2 _ _ _ (by omega)]; exact hz) (by omega) (by omega) (by show 10 * (6 - (o + 1)) + 13 ≤ d + 9; omega) (fun q => by omega) fun I3 hG3 ho3 => ?_
    have hG03 := FG_trans hG2 hG3
    rw [Option.toList_none, List.nil_append, gb_41_23]
    match hr : rd tp n al f 5 (o + 1) (lNx tp n s g).1 (lNx tp n s g).2, ho3 with
    | (.inl b, l), ho3 =>
      rw [hr, bR_l] at K
      refine m_putDB fun I4 hF4 => ?_
      rw [Option.toList_none, List.nil_append, gb_41_42, gb_41_181]
      exact K I4 (fun k i j hn => by rw [hF4 _ _ _ (by omega), u_ne (by omega), hG03 _ _ _ hn]) (kTk_congr (I := I3) (I' := I4) (tp := tp) (n := n) (τ := .inl b) ho3 fun j _ _ => by rw [hF4 _ _ _ (by omega), u_ne (by omega)])
    | (.inr (s3, g3), l3), ho3 =>
      rw [hr, bR_r] at K
      obtain ⟨b1, b2, b3, b4, b5⟩ := ho3
      have hlen := rd_len hx.2.2.2.1 f 5 (o + 1) _ _ _ _ hnx.2.1 (by decide) hr
      have l1s : (lNx tp n s g).1 + l3.length ≤ s3 := hlen.1
      have l2s : s3 ≤ n := hlen.2.1
      refine m_putD (z := z + l3.length) (w := 13) (by rw [u_k (by decide)]; exact b3) (by omega) rfl (by omega) fun I4 hF4 q1 q2 q3 => ?_
      rw [Option.toList_none, List.nil_append, gb_41_42, gb_41_181]
      refine K I4 (fun k i j hn => by rw [hF4 _ _ _ (by omega), u_ne (by omega), hG03 _ _ _ hn]) ?_
      exact kOut_put b1 (by rw [hF4 _ _ _ (by omega), u_eq, z_sub (by omega) (by omega), b2, e1]; omega) (fun j hj => by rw [b4 j hj, hF2 _ _ _ (by omega)]) b5 (fun k i j hn => by rw [hF4 _ _ _ (by omega), u_ne (by omega)]) q1 (fun j hj => by rw [q2 j hj, u_k (by decide)]) q3
  rw [if_neg (fun q : lKd tp n s g = -2 ∧ wHere tp n s = 13 => w1 (lIs_iff.mpr q))] at K
  rw [if_neg w1, if_pos rfl, gb_41_45]
  by_cases w2 : lB tp n s = 91
  · have hlt : s < n := lB_le (tp := tp) (by omega)
    have hs1 := hnx.2.2.1 hlt
    rw [if_pos w2] at K
    rw [if_pos ((kSig (v := 91) (c := 91) ht rfl (by decide) rfl rfl).mpr w2), gb_41_57]
    refine m_opens hx ht hop ho (fun w6 I2 hG2 ht2 => ?_) (fun w6 I2 hF2 ht2 ho2 => ?_)
    · rw [if_pos w6] at K
      rw [Option.toList_some, List.singleton_append, gb_41_61, if_pos rfl, gb_41_181]
      exact K I2 hG2 ht2
    rw [if_neg w6] at K
    have hG2 : FG c I I2 := fun k i j hn => hF2 _ _ _ (by omega)
    rw [Option.toList_some, List.singleton_append, gb_41_61, if_neg (by decide), gb_41_64]
    refine ih 9 (o + 1) (lNx tp n s g).1 z (lNx tp n s g).2 I2 (d + 9) 0 none none _ (by decide) (by omega) (kTx_FG hx hG2) (kAl_FG ha hG2) ht2 ho2 (by rw [hF2 _ _ _ (by omega)]; exact hz) (by omega) (by omega) (by show 10 * (6 - (o + 1)) + 15 ≤ d + 9; omega) (fun q => by omega) fun I3 hG3 ho3 => ?_
    have hG03 := FG_trans hG2 hG3
    have hx3 := kTx_FG hx hG03
    rw [Option.toList_none, List.nil_append, gb_41_68]
    match hr : rd tp n al f 9 (o + 1) (lNx tp n s g).1 (lNx tp n s g).2, ho3 with
    | (.inl b, l), ho3 =>
      rw [hr, bR_l] at K
      refine m_expect (c := 93) rfl (by decide) rfl rfl hx3 (show kTk I3 tp n (.inl b) from ho3) fun I4 hF4 ht4 => ?_
      rw [Option.toList_none, List.nil_append, gb_41_77, gb_41_181]
      exact K _ (fun k i j hn => by rw [u_ne (by omega), hF4 _ _ _ (by omega), hG03 _ _ _ hn]) (kTk_congr (I := I4) ht4 fun j _ _ => u_k (by decide))
    | (.inr (s3, g3), l3), ho3 =>
      rw [hr, bR_r] at K
      obtain ⟨b1, b2, b3, b4, b5⟩ := ho3
      refine m_expect (c := 93) rfl (by decide) rfl rfl hx3 b1 fun I4 hF4 ht4 => ?_
      rw [Option.toList_none, List.nil_append, gb_41_77, gb_41_181]
      refine K _ (fun k i j hn => by rw [u_ne (by omega), hF4 _ _ _ (by omega), hG03 _ _ _ hn]) ?_
      have ht5 : kTk (gup I4 17 c 3 (I4 17 c 3 - 1)) tp n (lAskC tp n (.inr (s3, g3)) 93) := kTk_congr (I := I4) ht4 fun j _ _ => u_k (by decide)
      match hq7 : lAskC tp n (.inr (s3, g3)) 93, ht5 with
      | .inl b, ht5 => exact ht5
      | .inr q7, ht5 =>
        have b2' : (I4 17 c 3).toInt = ((o + 1 : Nat) : Int) := by rw [hF4 _ _ _ (by omega)]; exact b2
        exact ⟨ht5, by rw [u_eq, z_sub (by omega) (by omega), b2', e1]; omega, by rw [u_k (by decide), hF4 _ _ _ (by omega)]; exact b3, fun j hj => by rw [u_k (by decide), hF4 _ _ _ (by omega), b4 j hj, hF2 _ _ _ (by omega)], gCd_congr (fun k h1 h2 => by rw [u_k (by decide), hF4 _ _ _ (by omega)]) b5⟩
  rw [if_neg w2] at K
  rw [if_neg (fun q => w2 ((kSig (v := 91) (c := 91) ht rfl (by decide) rfl rfl).mp q)), gb_41_90, m_isWord (w := 14) rfl hx ht, Option.toList_some, List.singleton_append, gb_41_99]
  by_cases w3 : lIs tp n (.inr (s, g)) 14 = true
  · have hw := lIs_iff.mp w3
    have hlt : s < n := lKd_lt hx.2.2.2.1 (Or.inl hw.1)
    rw [if_pos (show lKd tp n s g = -2 ∧ wHere tp n s = 14 from hw)] at K
    rw [if_pos w3, if_neg (by decide), gb_41_102]
    refine m_nextT hx ht fun I1 hF1 ht1 => ?_
    rw [Option.toList_none, List.nil_append, gb_41_109]
    refine m_putD (z := z) (w := 14) (by rw [hF1 _ _ _ (by omega)]; exact hz) (by omega) rfl (by omega) fun I2 hF2 q1 q2 q3 => ?_
    rw [Option.toList_none, List.nil_append, gb_41_118, gb_41_181]
    exact K I2 (fun k i j hn => by rw [hF2 _ _ _ (by omega), hF1 _ _ _ (by omega)]) ⟨kTk_FP ht1 hF2, by rw [hF2 _ _ _ (by omega), hF1 _ _ _ (by omega)]; exact hop, q1, fun j hj => by rw [q2 j hj, hF1 _ _ _ (by omega)], q3, trivial⟩
  rw [if_neg (fun q : lKd tp n s g = -2 ∧ wHere tp n s = 14 => w3 (lIs_iff.mpr q))] at K
  rw [if_neg w3, if_pos rfl, gb_41_121]
  refine ih 4 o s z g I (d + 9) 0 none none _ (by decide) ho hx ha ht hop hz hzs (by omega) (by show 10 * (6 - o) + 12 ≤ d + 9; omega) (fun q => by omega) fun I1 hG1 ho1 => ?_
  have hx1 := kTx_FG hx hG1
  rw [Option.toList_none, List.nil_append, gb_41_125]
  match hr : rd tp n al f 4 o s g, ho1 with
  | (.inl b, l), ho1 =>
    rw [hr, bR_l] at K
    have ho1 : kTk I1 tp n (.inl b) := ho1
    rw [if_neg (kKindB (v := 60) (c := 60) ho1 rfl (by decide)), gb_41_139, if_neg (kKindB (v := 62) (c := 62) ho1 rfl (by decide)), gb_41_145, if_neg (kKindB (v := 61) (c := 61) ho1 rfl (by decide)), gb_41_173]
    refine m_failH ho1 rfl (by decide) fun I2 hF2 ht2 => ?_
    rw [Option.toList_none, List.nil_append, gb_41_181]
    exact K I2 (fun k i j hn => by rw [hF2 _ _ _ (by omega), hG1 _ _ _ hn]) ht2
  | (.inr (s1, g1), l1), ho1 =>
    rw [hr, bR_r] at K
    obtain ⟨b1, b2, b3, b4, b5⟩ := ho1
    have hlen := rd_len hx.2.2.2.1 f 4 o _ _ _ _ hsn (by decide) hr
    have l1s : s + l1.length ≤ s1 := hlen.1
    have l2s : s1 ≤ n := hlen.2.1
    have cmp : ∀ cc : Int, lB tp n s1 = cc → (cc = 60 ∨ cc = 62 ∨ cc = 61) → (gq (d + 10) 41 151 [some (.inr (.inr (some (17, c)))), some (.inl ((I1 11 0 2)))] [] (gwd S I1 J h) Q) := fun cc hc hcc => by
      have hkd : lKd tp n s1 g1 = cc := (lKd_sign (by omega) (by rcases hcc with rfl | rfl | rfl <;> rfl) (by rcases hcc with rfl | rfl | rfl <;> rfl)).mpr hc
      have hk2 := b1.1
      have hlt : s1 < n := lB_le (tp := tp) (by omega)
      have hnx1 := lNx_r (tp := tp) (g := g1) l2s
      have hs2 := hnx1.2.2.1 hlt
      rw [if_pos (by omega)] at K
      rw [gb_41_151]
      refine m_nextT hx1 b1 fun I2 hF2 ht2 => ?_
      have hG2 : FG c I I2 := fun k i j hn => by rw [hF2 _ _ _ (by omega), hG1 _ _ _ hn]
      rw [Option.toList_none, List.nil_append, gb_41_158]
      refine ih 4 o (lNx tp n s1 g1).1 (z + l1.length) (lNx tp n s1 g1).2 I2 (d + 9) 0 none none _ (by decide) ho (kTx_FG hx hG2) (kAl_FG ha hG2) ht2 (by rw [hF2 _ _ _ (by omega)]; exact b2) (by rw [hF2 _ _ _ (by omega)]; exact b3) (by omega) (by omega) (by show 10 * (6 - o) + 12 ≤ d + 9; omega) (fun q => by omega) fun I3 hG3 ho3 => ?_
      have hG03 := FG_trans hG2 hG3
      rw [Option.toList_none, List.nil_append, gb_41_162]
      match hr3 : rd tp n al f 4 o (lNx tp n s1 g1).1 (lNx tp n s1 g1).2, ho3 with
      | (.inl b, l), ho3 =>
        rw [hr3, bR_l] at K
        refine m_putDB fun I4 hF4 => ?_
        rw [Option.toList_none, List.nil_append, gb_41_170, gb_41_181]
        exact K I4 (FG_trans hG03 (FG_p hF4)) (kTk_FP (tp := tp) (n := n) (τ := .inl b) ho3 hF4)
      | (.inr (s3, g3), l3), ho3 =>
        rw [hr3, bR_r] at K
        obtain ⟨c1, c2, c3, c4, c5⟩ := ho3
        have hlen3 := rd_len hx.2.2.2.1 f 4 o _ _ _ _ hnx1.2.1 (by decide) hr3
        have l3s : (lNx tp n s1 g1).1 + l3.length ≤ s3 := hlen3.1
        have l4s : s3 ≤ n := hlen3.2.1
        refine m_putD (z := z + l1.length + l3.length) (w := cc) c3 (by omega) (by rw [hk2, hkd]) (by omega) fun I4 hF4 q1 q2 q3 => ?_
        rw [Option.toList_none, List.nil_append, gb_41_170, gb_41_181]
        refine K I4 (FG_trans hG03 (FG_p hF4)) ⟨kTk_FP c1 hF4, by rw [hF4 _ _ _ (by omega)]; exact c2, ?_, fun j hj => ?_, ?_⟩
        · rw [q1, List.length_append, List.length_append]; simp only [List.length_cons, List.length_nil]; omega
        · rw [q2 j (by omega), c4 j (by omega), hF2 _ _ _ (by omega), b4 j hj]
        · rw [gCd_app, gCd_app, hc]
          exact ⟨gCd_congr (fun k h1 h2 => by rw [q2 k (by omega), c4 k (by omega), hF2 _ _ _ (by omega)]) b5, gCd_congr (fun k h1 h2 => q2 k (by omega)) c5, q3, trivial⟩
    by_cases v1 : lB tp n s1 = 60
    · rw [if_pos ((kSig (v := 60) (c := 60) b1 rfl (by decide) rfl rfl).mpr v1)]; exact cmp 60 v1 (Or.inl rfl)
    rw [if_neg (fun q => v1 ((kSig (v := 60) (c := 60) b1 rfl (by decide) rfl rfl).mp q)), gb_41_139]
    by_cases v2 : lB tp n s1 = 62
    · rw [if_pos ((kSig (v := 62) (c := 62) b1 rfl (by decide) rfl rfl).mpr v2)]; exact cmp 62 v2 (Or.inr (Or.inl rfl))
    rw [if_neg (fun q => v2 ((kSig (v := 62) (c := 62) b1 rfl (by decide) rfl rfl).mp q)), gb_41_145]
    by_cases v3 : lB tp n s1 = 61
    · rw [if_pos ((kSig (v := 61) (c := 61) b1 rfl (by decide) rfl rfl).mpr v3)]; exact cmp 61 v3 (Or.inr (Or.inr rfl))
    rw [if_neg (fun q => v3 ((kSig (v := 61) (c := 61) b1 rfl (by decide) rfl rfl).mp q)), gb_41_173]
    rw [if_neg (by omega)] at K
    refine m_failH b1 rfl (by decide) fun I2 hF2 ht2 => ?_
    rw [Option.toList_none, List.nil_append, gb_41_181]
    exact K I2 (fun k i j hn => by rw [hF2 _ _ _ (by omega), hG1 _ _ _ hn]) ht2
/-- the class reads what rd says -/
theorem m_rd {tp : Nat → Int} {n c : Nat} {al : Nat → Bool} : ∀ f, kSp tp n c al S h J f
  | 0 => fun m o s z g I D a1 x1 x2 Q hm ho hx ha ht hop hz hzs hf => absurd hf (by omega)
  | f + 1 => fun m o s z g I D a1 x1 x2 Q hm ho hx ha ht hop hz hzs hf hD h1 K => by
    have ih := @m_rd tp n c al f
    have e : m = 0 ∨ m = 1 ∨ m = 2 ∨ m = 3 ∨ m = 4 ∨ m = 5 ∨ m = 6 ∨ m = 7 ∨ m = 8 ∨ m = 9 := by omega
    rcases e with rfl | rfl | rfl | rfl | rfl | rfl | rfl | rfl | rfl | rfl
    · exact m_rd_0 ih ho hx ha ht hop hz hzs hf hD K
    · exact m_rd_1 ih ho hx ha ht hop hz hzs hf hD (h1 (by omega)) K
    · exact m_rd_2 ih ho hx ha ht hop hz hzs hf hD K
    · exact m_rd_3 ih ho hx ha ht hop hz hzs hf hD (h1 (by omega)) K
    · exact m_rd_4 ih ho hx ha ht hop hz hzs hf hD K
    · exact m_rd_5 ih ho hx ha ht hop hz hzs hf hD K
    · exact m_rd_6 ih ho hx ha ht hop hz hzs hf hD (h1 (by omega)) K
    · exact m_rd_7 ih ho hx ha ht hop hz hzs hf hD K
    · exact m_rd_8 ih ho hx ha ht hop hz hzs hf hD (h1 (by omega)) K
    · exact m_rd_9 ih ho hx ha ht hop hz hzs hf hD K
