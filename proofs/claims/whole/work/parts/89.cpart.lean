/-! The class reads a part and a fact. -/
variable {d S : Nat} {h : Nat × Option gNm} {I : Nat → Nat → Nat → Int32} {J : Nat → Nat → Nat → Int64} {Q : Option gV → gW → Prop}
theorem kOut_put {I I2 I3 : Nat → Nat → Nat → Int32} {tp : Nat → Int} {n c z o : Nat} {q : Nat × Bool} {l : List Int} {v : Int} (b1 : kTk I2 tp n (.inr q)) (b2 : (I3 17 c 3).toInt = o) (b4 : ∀ j, j < z → I2 15 c j = I 15 c j) (b5 : gCd (I2 15 c) id z l) (hF3 : (∀ k i j, ¬ ((k = 14 ∧ i = c ∧ j = 2) ∨ (k = 15 ∧ i = c) ∨ (k = 17 ∧ i = c ∧ j = 3)) → I3 k i j = I2 k i j)) (q1 : (I3 14 c 2).toInt = ((z + l.length + 1 : Nat) : Int)) (q2 : ∀ j, j < z + l.length → I3 15 c j = I2 15 c j) (q3 : (I3 15 c (z + l.length)).toInt = v) : kOut I tp n c z o (.inr q, l ++ [v]) I3 :=
  ⟨kTk_congr b1 fun j _ _ => hF3 _ _ _ (by omega), b2, by rw [q1, List.length_append]; rfl, fun j hj => by rw [q2 j (by omega), b4 j hj], by rw [gCd_app]; exact ⟨gCd_congr (fun k h1 h2 => q2 k (by omega)) b5, q3, trivial⟩⟩
theorem m_pair {tp : Nat → Int} {n c : Nat} {al : Nat → Bool} {f : Nat} (ih : kSp tp n c al S h J f) {o s z : Nat} {g : Bool} {a1 : Int32} (ho : o ≤ 6) (hx : kTx I tp n) (ha : kAl I c al) (ht : kTk I tp n (.inr (s, g))) (hop : (I 17 c 3).toInt = o) (hz : (I 14 c 2).toInt = z) (hzs : z ≤ s) (hlt : s < n) (hf : 10 * (n - s) < f + 1) (hD : 10 * (6 - o) ≤ d) (h1 : a1.toInt = wHere tp n s) (hw : wHere tp n s = 17 ∨ wHere tp n s = 18) (K : ∀ (I' : Nat → Nat → Nat → Int32), FG c I I' → kOut I tp n c z o (if lB tp n (lNx tp n s g).1 = 40 then
          (if 6 ≤ o then (.inl (4, (lNx tp n s g).1), [])
          else bR (rd tp n al f 4 (o + 1) (lNx tp n (lNx tp n s g).1 (lNx tp n s g).2).1 (lNx tp n (lNx tp n s g).1 (lNx tp n s g).2).2) fun s1 g1 l1 =>
            bR (lAskC tp n (.inr (s1, g1)) 44, []) fun s2 g2 _ => bR (rd tp n al f 4 (o + 1) s2 g2) fun s3 g3 l3 => (lAskC tp n (.inr (s3, g3)) 41, l1 ++ (l3 ++ [-1 - wHere tp n s])))
        else (.inl (1, (lNx tp n s g).1), [])) I' → Q none (gwd S I' J h)) : (gq (d + 9) 45 0 [some (.inr (.inr (some (17, c)))), some (.inl (a1))] [] (gwd S I J h) Q) := by
  have hsn := ht.2.2.2.2.2.1
  have hn := hx.2.2.1
  have e1 : (1 : Int32).toInt = 1 := rfl
  have hnx := lNx_r (tp := tp) (g := g) hsn
  have hs1 := hnx.2.2.1 hlt
  rw [gb_45_0]
  refine m_nextT hx ht fun I1 hF1 ht1 => ?_
  have hG1 : FG c I I1 := fun k i j hn => hF1 _ _ _ (by omega)
  have hx1 := kTx_FG hx hG1
  rw [Option.toList_none, List.nil_append, gb_45_7]
  by_cases w1 : lB tp n (lNx tp n s g).1 = 40
  case neg =>
    rw [if_neg w1] at K
    rw [if_neg (fun q => w1 ((kSig (v := 40) (c := 40) ht1 rfl (by decide) rfl rfl).mp q)), gb_45_19]
    refine m_failH ht1 rfl (by decide) fun I2 hF2 ht2 => ?_
    rw [Option.toList_none, List.nil_append, gb_45_27, gb_45_81]
    exact K I2 (fun k i j hn => by rw [hF2 _ _ _ (by omega), hF1 _ _ _ (by omega)]) ht2
  rw [if_pos w1] at K
  rw [if_pos ((kSig (v := 40) (c := 40) ht1 rfl (by decide) rfl rfl).mpr w1), gb_45_30]
  have hlt1 : (lNx tp n s g).1 < n := lB_le (tp := tp) (by omega)
  have hnx1 := lNx_r (tp := tp) (g := (lNx tp n s g).2) hnx.2.1
  have hs2 := hnx1.2.2.1 hlt1
  refine m_opens hx1 ht1 (by rw [hF1 _ _ _ (by omega)]; exact hop) ho (fun w6 I2 hG2 ht2 => ?_) (fun w6 I2 hF2 ht2 ho2 => ?_)
  · rw [if_pos w6] at K
    rw [Option.toList_some, List.singleton_append, gb_45_34, if_pos rfl, gb_45_81]
    exact K I2 (FG_trans hG1 hG2) ht2
  rw [if_neg w6] at K
  have hG2 : FG c I I2 := fun k i j hn => by rw [hF2 _ _ _ (by omega), hF1 _ _ _ (by omega)]
  rw [Option.toList_some, List.singleton_append, gb_45_34, if_neg (by decide), gb_45_37]
  refine ih 4 (o + 1) (lNx tp n (lNx tp n s g).1 (lNx tp n s g).2).1 z (lNx tp n (lNx tp n s g).1 (lNx tp n s g).2).2 I2 (d + 8) 0 none none _ (by decide) (by omega) (kTx_FG hx hG2) (kAl_FG ha hG2) ht2 ho2 (by rw [hF2 _ _ _ (by omega), hF1 _ _ _ (by omega)]; exact hz) (by omega) (by omega) (by show 10 * (6 - (o + 1)) + 12 ≤ d + 8; omega) (fun q => by omega) fun I3 hG3 ho3 => ?_
  have hG03 := FG_trans hG2 hG3
  have hx3 := kTx_FG hx hG03
  rw [Option.toList_none, List.nil_append, gb_45_41]
  -- a fault behind which the rest goes by
  have bad : ∀ (b : Int × Int) (I4 : Nat → Nat → Nat → Int32), FG c I I4 → kTk I4 tp n (.inl b) → (∀ (I' : Nat → Nat → Nat → Int32), FG c I I' → kTk I' tp n (.inl b) → Q none (gwd S I' J h)) → (gq (d + 9) 45 50 [some (.inr (.inr (some (17, c)))), some (.inl (a1))] [] (gwd S I4 J h) Q) := fun b I4 hG4 ht4 K' => by
    have hx4 := kTx_FG hx hG4
    rw [gb_45_50]
    refine m_sumB hx4 ht4 fun I5 hF5 ht5 => ?_
    have hG5 : FG c I4 I5 := fun k i j hn => hF5 _ _ _ (by omega)
    rw [Option.toList_none, List.nil_append, gb_45_54]
    refine m_expect (c := 41) rfl (by decide) rfl rfl (kTx_FG hx4 hG5) ht5 fun I6 hF6 ht6 => ?_
    rw [Option.toList_none, List.nil_append, gb_45_63]
    refine m_putDB fun I7 hF7 => ?_
    rw [Option.toList_none, List.nil_append, gb_45_81]
    exact K' I7 (fun k i j hn => by rw [hF7 _ _ _ (by omega), u_ne (by omega), hF6 _ _ _ (by omega), hG5 _ _ _ (by omega), hG4 _ _ _ hn]) (kTk_congr (I := I6) ht6 fun j _ _ => by rw [hF7 _ _ _ (by omega), u_ne (by omega)])
  match hr : rd tp n al f 4 (o + 1) (lNx tp n (lNx tp n s g).1 (lNx tp n s g).2).1 (lNx tp n (lNx tp n s g).1 (lNx tp n s g).2).2, ho3 with
  | (.inl b, l), ho3 =>
    rw [hr, bR_l] at K
    refine m_expect (c := 44) rfl (by decide) rfl rfl hx3 (show kTk I3 tp n (.inl b) from ho3) fun I4 hF4 ht4 => ?_
    rw [Option.toList_none, List.nil_append]
    exact bad b I4 (FG_trans hG03 (FG_t hF4)) ht4 K
  | (.inr (s3, g3), l3), ho3 =>
    rw [hr, bR_r] at K
    obtain ⟨b1, b2, b3, b4, b5⟩ := ho3
    have hlen := rd_len hx.2.2.2.1 f 4 (o + 1) _ _ _ _ hnx1.2.1 (by decide) hr
    have l1s : (lNx tp n (lNx tp n s g).1 (lNx tp n s g).2).1 + l3.length ≤ s3 := hlen.1
    have l2s : s3 ≤ n := hlen.2.1
    refine m_expect (c := 44) rfl (by decide) rfl rfl hx3 b1 fun I4 hF4 ht4 => ?_
    rw [Option.toList_none, List.nil_append]
    have hG4 := FG_trans hG03 (FG_t (c := c) hF4)
    match hq : lAskC tp n (.inr (s3, g3)) 44, ht4 with
    | .inl b, ht4 =>
      rw [hq, bR_l] at K
      exact bad b I4 hG4 ht4 K
    | .inr (s4, g4), ht4 =>
      rw [hq, bR_r] at K
      have e4 := lAskC_inr hq
      have hlt3 : s3 < n := lB_le (tp := tp) (by omega)
      have hnx3 := lNx_r (tp := tp) (g := g3) l2s
      have hs4 := hnx3.2.2.1 hlt3
      have e5 : s4 = (lNx tp n s3 g3).1 := congrArg Prod.fst e4.2
      rw [gb_45_50]
      refine ih 4 (o + 1) s4 (z + l3.length) g4 I4 (d + 8) 0 none none _ (by decide) (by omega) (kTx_FG hx hG4) (kAl_FG ha hG4) ht4 (by rw [hF4 _ _ _ (by omega)]; exact b2) (by rw [hF4 _ _ _ (by omega)]; exact b3) (by omega) (by omega) (by show 10 * (6 - (o + 1)) + 12 ≤ d + 8; omega) (fun q => by omega) fun I5 hG5 ho5 => ?_
      have hG05 := FG_trans hG4 hG5
      rw [Option.toList_none, List.nil_append, gb_45_54]
      match hr5 : rd tp n al f 4 (o + 1) s4 g4, ho5 with
      | (.inl b, l), ho5 =>
        rw [hr5, bR_l] at K
        refine m_expect (c := 41) rfl (by decide) rfl rfl (kTx_FG hx hG05) (show kTk I5 tp n (.inl b) from ho5) fun I6 hF6 ht6 => ?_
        rw [Option.toList_none, List.nil_append, gb_45_63]
        refine m_putDB fun I7 hF7 => ?_
        rw [Option.toList_none, List.nil_append, gb_45_81]
        exact K I7 (fun k i j hn => by rw [hF7 _ _ _ (by omega), u_ne (by omega), hF6 _ _ _ (by omega), hG05 _ _ _ hn]) (kTk_congr (I := I6) ht6 fun j _ _ => by rw [hF7 _ _ _ (by omega), u_ne (by omega)])
      | (.inr (s5, g5), l5), ho5 =>
        rw [hr5, bR_r] at K
        obtain ⟨c1, c2, c3, c4, c5⟩ := ho5
        have hlen5 := rd_len hx.2.2.2.1 f 4 (o + 1) _ _ _ _ (by omega) (by decide) hr5
        have l5s : s4 + l5.length ≤ s5 := hlen5.1
        have l6s : s5 ≤ n := hlen5.2.1
        refine m_expect (c := 41) rfl (by decide) rfl rfl (kTx_FG hx hG05) c1 fun I6 hF6 ht6 => ?_
        rw [Option.toList_none, List.nil_append, gb_45_63]
        have hw' : (0 : Int) ≤ wHere tp n s ∧ wHere tp n s ≤ 10000 := by omega
        refine m_putD (z := z + l3.length + l5.length) (w := wHere tp n s) (by rw [u_k (by decide), hF6 _ _ _ (by omega)]; exact c3) (by omega) h1 hw' fun I7 hF7 q1 q2 q3 => ?_
        rw [Option.toList_none, List.nil_append, gb_45_81]
        have hG7 : FG c I I7 := fun k i j hn => by rw [hF7 _ _ _ (by omega), u_ne (by omega), hF6 _ _ _ (by omega), hG05 _ _ _ hn]
        refine K I7 hG7 ?_
        have ht7 : kTk I7 tp n (lAskC tp n (.inr (s5, g5)) 41) := kTk_congr (I := I6) ht6 fun j _ _ => by rw [hF7 _ _ _ (by omega), u_ne (by omega)]
        match hq7 : lAskC tp n (.inr (s5, g5)) 41, ht7 with
        | .inl b, ht7 => exact ht7
        | .inr q7, ht7 =>
          have hop7 : (I7 17 c 3).toInt = o := by rw [hF7 _ _ _ (by omega), u_eq, hF6 _ _ _ (by omega), z_sub (by omega) (by omega), c2, e1]; omega
          have d2 : ∀ j, j < z + l3.length + l5.length → I7 15 c j = I5 15 c j := fun j hj => by rw [q2 j (by omega), u_k (by decide), hF6 _ _ _ (by omega)]
          refine ⟨ht7, hop7, ?_, fun j hj => ?_, ?_⟩
          · rw [q1, List.length_append, List.length_append]; simp only [List.length_cons, List.length_nil]; omega
          · rw [d2 j (by omega), c4 j (by omega), hF4 _ _ _ (by omega), b4 j hj, hF2 _ _ _ (by omega), hF1 _ _ _ (by omega)]
          · rw [gCd_app, gCd_app]
            exact ⟨gCd_congr (fun k h1 h2 => by rw [d2 k (by omega), c4 k (by omega), hF4 _ _ _ (by omega)]) b5, gCd_congr (fun k h1 h2 => d2 k (by omega)) c5, by rw [q3]; rfl, trivial⟩
theorem m_rd_0 {tp : Nat → Int} {n c : Nat} {al : Nat → Bool} {f : Nat} (ih : kSp tp n c al S h J f) {o s z D : Nat} {g : Bool} (ho : o ≤ 6) (hx : kTx I tp n) (ha : kAl I c al) (ht : kTk I tp n (.inr (s, g))) (hop : (I 17 c 3).toInt = o) (hz : (I 14 c 2).toInt = z) (hzs : z ≤ s) (hf : 10 * (n - s) + 0 < f + 1) (hD : kNeed 0 o ≤ D) (K : ∀ (I' : Nat → Nat → Nat → Int32), FG c I I' → kOut I tp n c z o (rd tp n al (f + 1) 0 o s g) I' → Q none (gwd S I' J h)) : (gq D 44 0 [some (.inr (.inr (some (17, c))))] [] (gwd S I J h) Q) := by
  have hsn := ht.2.2.2.2.2.1
  have hn := hx.2.2.1
  have nd : kNeed 0 o = 10 * (6 - o) + 10 := rfl
  obtain ⟨d, rfl⟩ : ∃ d, D = d + 10 := ⟨D - 10, by omega⟩
  have hd : 10 * (6 - o) ≤ d := by omega
  have e1 : (1 : Int32).toInt = 1 := rfl
  have e11 : (11 : Int32).toInt = 11 := rfl
  have e12 : (12 : Int32).toInt = 12 := rfl
  have hnx := lNx_r (tp := tp) (g := g) hsn
  unfold rd at K
  rw [if_pos rfl] at K
  rw [gb_44_0, gb_44_9]
  by_cases w1 : lKd tp n s g = -3
  · have hlt : s < n := lKd_lt hx.2.2.2.1 (Or.inr w1)
    rw [if_pos w1] at K
    rw [if_pos ((kKind ht i8_3).mpr w1), gb_44_12]
    refine m_expectN rfl rfl hx ht fun I1 x hF1 ht1 hv => ?_
    rw [Option.toList_some, List.singleton_append, gb_44_27, m_put (z := z) (by rw [hF1 _ _ _ (by omega)]; exact hz) (by omega), Option.toList_none, List.nil_append, gb_44_30, gb_44_164]
    have hG : FG c I (gup (gup I1 15 c z x) 14 c 2 (I1 14 c 2 + 1)) := fun k i j hn => by rw [u_ne (by omega), u_ne (by omega), hF1 _ _ _ (by omega)]
    refine K _ hG ?_
    have ht2 : kTk (gup (gup I1 15 c z x) 14 c 2 (I1 14 c 2 + 1)) tp n (lNumT tp n 0 9999 (.inr (s, g))).1 := kTk_congr ht1 fun j _ _ => by rw [u_k (by decide), u_k (by decide)]
    match hq : (lNumT tp n 0 9999 (.inr (s, g))).1, ht2 with
    | .inl b, ht2 => exact ht2
    | .inr q, ht2 =>
      refine ⟨ht2, by rw [u_k (by decide), u_k (by decide), hF1 _ _ _ (by omega)]; exact hop, ?_, fun j hj => by rw [u_k (by decide), u_j (by omega), hF1 _ _ _ (by omega)], ?_, trivial⟩
      · have hz1 : (I1 14 c 2).toInt = z := by rw [hF1 _ _ _ (by omega)]; exact hz
        rw [u_eq, z_add (by omega) (by omega), hz1, e1]; rfl
      · rw [u_k (by decide), u_eq]; exact hv
  rw [if_neg w1] at K
  rw [if_neg (fun q => w1 ((kKind ht i8_3).mp q)), gb_44_33]
  by_cases w2 : lB tp n s = 40
  · have hlt : s < n := lB_le (tp := tp) (by omega)
    have hs1 := hnx.2.2.1 hlt
    rw [if_pos w2] at K
    rw [if_pos ((kSig (v := 40) (c := 40) ht rfl (by decide) rfl rfl).mpr w2), gb_44_45]
    refine m_opens hx ht hop ho (fun w6 I2 hG2 ht2 => ?_) (fun w6 I2 hF2 ht2 ho2 => ?_)
    · rw [if_pos w6] at K
      rw [Option.toList_some, List.singleton_append, gb_44_49, if_pos rfl, gb_44_164]
      exact K I2 hG2 ht2
    rw [if_neg w6] at K
    have hG2 : FG c I I2 := fun k i j hn => hF2 _ _ _ (by omega)
    rw [Option.toList_some, List.singleton_append, gb_44_49, if_neg (by decide), gb_44_52]
    refine ih 4 (o + 1) (lNx tp n s g).1 z (lNx tp n s g).2 I2 (d + 9) 0 none none _ (by decide) (by omega) (kTx_FG hx hG2) (kAl_FG ha hG2) ht2 ho2 (by rw [hF2 _ _ _ (by omega)]; exact hz) (by omega) (by omega) (by show 10 * (6 - (o + 1)) + 12 ≤ d + 9; omega) (fun q => by omega) fun I3 hG3 ho3 => ?_
    have hG03 := FG_trans hG2 hG3
    have hx3 := kTx_FG hx hG03
    rw [Option.toList_none, List.nil_append, gb_44_56]
    match hr : rd tp n al f 4 (o + 1) (lNx tp n s g).1 (lNx tp n s g).2, ho3 with
    | (.inl b, l), ho3 =>
      rw [hr, bR_l] at K
      refine m_expect (c := 41) rfl (by decide) rfl rfl hx3 (show kTk I3 tp n (.inl b) from ho3) fun I4 hF4 ht4 => ?_
      rw [Option.toList_none, List.nil_append, gb_44_65, gb_44_164]
      exact K _ (fun k i j hn => by rw [u_ne (by omega), hF4 _ _ _ (by omega), hG03 _ _ _ hn]) (kTk_congr (I := I4) ht4 fun j _ _ => u_k (by decide))
    | (.inr (s3, g3), l3), ho3 =>
      rw [hr, bR_r] at K
      obtain ⟨b1, b2, b3, b4, b5⟩ := ho3
      refine m_expect (c := 41) rfl (by decide) rfl rfl hx3 b1 fun I4 hF4 ht4 => ?_
      rw [Option.toList_none, List.nil_append, gb_44_65, gb_44_164]
      refine K _ (fun k i j hn => by rw [u_ne (by omega), hF4 _ _ _ (by omega), hG03 _ _ _ hn]) ?_
      have ht5 : kTk (gup I4 17 c 3 (I4 17 c 3 - 1)) tp n (lAskC tp n (.inr (s3, g3)) 41) := kTk_congr (I := I4) ht4 fun j _ _ => u_k (by decide)
      match hq7 : lAskC tp n (.inr (s3, g3)) 41, ht5 with
      | .inl b, ht5 => exact ht5
      | .inr q7, ht5 =>
        have b2' : (I4 17 c 3).toInt = ((o + 1 : Nat) : Int) := by rw [hF4 _ _ _ (by omega)]; exact b2
        exact ⟨ht5, by rw [u_eq, z_sub (by omega) (by omega), b2', e1]; omega, by rw [u_k (by decide), hF4 _ _ _ (by omega)]; exact b3, fun j hj => by rw [u_k (by decide), hF4 _ _ _ (by omega), b4 j hj, hF2 _ _ _ (by omega)], gCd_congr (fun k h1 h2 => by rw [u_k (by decide), hF4 _ _ _ (by omega)]) b5⟩
  rw [if_neg w2] at K
  rw [if_neg (fun q => w2 ((kSig (v := 40) (c := 40) ht rfl (by decide) rfl rfl).mp q)), gb_44_78, m_isWord (w := 17) rfl hx ht, Option.toList_some, List.singleton_append, gb_44_87]
  have hvw : lKd tp n s g = -2 → (I 11 0 5).toInt = wHere tp n s := fun q => ht.2.2.2.2.2.2.1 ((lKd_word hx.2.2.2.1).mp q).1
  have pr : lKd tp n s g = -2 ∧ (wHere tp n s = 17 ∨ wHere tp n s = 18) → (gq (d + 10) 44 102 [some (.inr (.inr (some (17, c))))] [] (gwd S I J h) Q) := fun w3 => by
    rw [if_pos w3] at K
    rw [gb_44_102]
    refine m_pair ih ho hx ha ht hop hz hzs (lKd_lt hx.2.2.2.1 (Or.inl w3.1)) (by omega) hd (hvw w3.1) w3.2 fun I1 hG1 ho1 => ?_
    rw [Option.toList_none, List.nil_append, gb_44_113, gb_44_164]
    exact K I1 hG1 ho1
  by_cases w17 : lIs tp n (.inr (s, g)) 17 = true
  · have := lIs_iff.mp w17
    rw [if_pos w17, if_neg (by decide)]; exact pr ⟨this.1, Or.inl this.2⟩
  rw [if_neg w17, if_pos rfl, gb_44_90, m_isWord (w := 18) rfl hx ht, Option.toList_some, List.singleton_append, gb_44_99]
  by_cases w18 : lIs tp n (.inr (s, g)) 18 = true
  · have := lIs_iff.mp w18
    rw [if_pos w18, if_neg (by decide)]; exact pr ⟨this.1, Or.inr this.2⟩
  rw [if_neg w18, if_pos rfl, gb_44_116, gb_44_125]
  have w3 : ¬ (lKd tp n s g = -2 ∧ (wHere tp n s = 17 ∨ wHere tp n s = 18)) := fun q => by
    rcases q.2 with r | r
    · exact w17 (lIs_iff.mpr ⟨q.1, r⟩)
    · exact w18 (lIs_iff.mpr ⟨q.1, r⟩)
  rw [if_neg w3] at K
  have none' : ¬ (lKd tp n s g = -2 ∧ (0 ≤ wHere tp n s ∧ wHere tp n s ≤ 12 ∧ al (wHere tp n s).toNat = true)) → (gq (d + 10) 44 156 [some (.inr (.inr (some (17, c))))] [] (gwd S I J h) Q) := fun w4 => by
    rw [if_neg w4] at K
    rw [gb_44_156]
    refine m_failH ht rfl (by decide) fun I1 hF1 ht1 => ?_
    rw [Option.toList_none, List.nil_append, gb_44_164]
    exact K I1 (fun k i j hn => hF1 _ _ _ (by omega)) ht1
  by_cases w5 : lKd tp n s g = -2
  case neg =>
    rw [if_neg (fun q => w5 ((kKind ht i8_2).mp q))]
    exact none' (fun q => w5 q.1)
  have hv := hvw w5
  have hlt : s < n := lKd_lt hx.2.2.2.1 (Or.inl w5)
  have hs1 := hnx.2.2.1 hlt
  rw [if_pos ((kKind ht i8_2).mpr w5), gb_44_128, gb_47_0]
  by_cases r0 : wHere tp n s < 0
  · rw [if_pos (by rw [z_lt, z_0]; omega), gb_47_26, gb_47_27]
    refine ⟨rfl, ?_⟩
    rw [Option.toList_some, List.singleton_append, gb_44_139, if_pos rfl]
    exact none' (fun q => by omega)
  rw [if_neg (by rw [z_lt, z_0]; omega), gb_47_4]
  by_cases r1 : 12 < wHere tp n s
  · rw [if_pos (by rw [z_lt]; omega), gb_47_26, gb_47_27]
    refine ⟨rfl, ?_⟩
    rw [Option.toList_some, List.singleton_append, gb_44_139, if_pos rfl]
    exact none' (fun q => by omega)
  rw [if_neg (by rw [z_lt]; omega), gb_47_10]
  have hal := ha (I 11 0 5) (wHere tp n s).toNat (by omega) (by omega)
  by_cases r2 : al (wHere tp n s).toNat = true
  case neg =>
    rw [if_neg (fun q => r2 (hal.mp q)), gb_47_26, gb_47_27]
    refine ⟨rfl, ?_⟩
    rw [Option.toList_some, List.singleton_append, gb_44_139, if_pos rfl]
    exact none' (fun q => r2 q.2.2.2)
  rw [if_pos ⟨w5, by omega, by omega, r2⟩] at K
  rw [if_pos (hal.mpr r2), gb_47_22, gb_47_27]
  refine ⟨rfl, ?_⟩
  rw [Option.toList_some, List.singleton_append, gb_44_139, if_neg (by decide), gb_44_142, gb_46_0]
  by_cases r3 : wHere tp n s < 11
  · rw [if_pos r3] at K
    rw [if_neg (by rw [z_le]; omega), gb_46_6]
    refine m_nextT hx ht fun I1 hF1 ht1 => ?_
    rw [Option.toList_none, List.nil_append, gb_46_13]
    refine m_putD (z := z) (w := wHere tp n s) (by rw [hF1 _ _ _ (by omega)]; exact hz) (by omega) hv (by omega) fun I2 hF2 q1 q2 q3 => ?_
    rw [Option.toList_none, List.nil_append, gb_46_21, gb_46_53, Option.toList_none, List.nil_append, gb_44_153, gb_44_164]
    exact K I2 (fun k i j hn => by rw [hF2 _ _ _ (by omega), hF1 _ _ _ (by omega)]) ⟨kTk_FP ht1 hF2, by rw [hF2 _ _ _ (by omega), hF1 _ _ _ (by omega)]; exact hop, q1, fun j hj => by rw [q2 j hj, hF1 _ _ _ (by omega)], q3, trivial⟩
  rw [if_neg r3] at K
  rw [if_pos (by rw [z_le]; omega), gb_46_24]
  refine m_opens hx ht hop ho (fun w6 I2 hG2 ht2 => ?_) (fun w6 I2 hF2 ht2 ho2 => ?_)
  · rw [if_pos w6] at K
    rw [Option.toList_some, List.singleton_append, gb_46_28, if_pos rfl, gb_46_53, Option.toList_none, List.nil_append, gb_44_153, gb_44_164]
    exact K I2 hG2 ht2
  rw [if_neg w6] at K
  have hG2 : FG c I I2 := fun k i j hn => hF2 _ _ _ (by omega)
  rw [Option.toList_some, List.singleton_append, gb_46_28, if_neg (by decide), gb_46_31]
  refine ih 0 (o + 1) (lNx tp n s g).1 z (lNx tp n s g).2 I2 (d + 8) 0 none none _ (by decide) (by omega) (kTx_FG hx hG2) (kAl_FG ha hG2) ht2 ho2 (by rw [hF2 _ _ _ (by omega)]; exact hz) (by omega) (by omega) (by show 10 * (6 - (o + 1)) + 10 ≤ d + 8; omega) (fun q => by omega) fun I3 hG3 ho3 => ?_
  have hG03 := FG_trans hG2 hG3
  rw [Option.toList_none, List.nil_append, gb_46_35]
  match hr : rd tp n al f 0 (o + 1) (lNx tp n s g).1 (lNx tp n s g).2, ho3 with
  | (.inl b, l), ho3 =>
    rw [hr, bR_l] at K
    refine m_putDB fun I4 hF4 => ?_
    rw [Option.toList_none, List.nil_append, gb_46_53, Option.toList_none, List.nil_append, gb_44_153, gb_44_164]
    exact K I4 (fun k i j hn => by rw [hF4 _ _ _ (by omega), u_ne (by omega), hG03 _ _ _ hn]) (kTk_congr (I := I3) (I' := I4) (tp := tp) (n := n) (τ := .inl b) ho3 fun j _ _ => by rw [hF4 _ _ _ (by omega), u_ne (by omega)])
  | (.inr (s3, g3), l3), ho3 =>
    rw [hr, bR_r] at K
    obtain ⟨b1, b2, b3, b4, b5⟩ := ho3
    have hlen := rd_len hx.2.2.2.1 f 0 (o + 1) _ _ _ _ hnx.2.1 (by decide) hr
    have l1s : (lNx tp n s g).1 + l3.length ≤ s3 := hlen.1
    have l2s : s3 ≤ n := hlen.2.1
    refine m_putD (z := z + l3.length) (w := wHere tp n s) (by rw [u_k (by decide)]; exact b3) (by omega) hv (by omega) fun I4 hF4 q1 q2 q3 => ?_
    rw [Option.toList_none, List.nil_append, gb_46_53, Option.toList_none, List.nil_append, gb_44_153, gb_44_164]
    refine K I4 (fun k i j hn => by rw [hF4 _ _ _ (by omega), u_ne (by omega), hG03 _ _ _ hn]) ?_
    exact kOut_put b1 (by rw [hF4 _ _ _ (by omega), u_eq, z_sub (by omega) (by omega), b2, e1]; omega) (fun j hj => by rw [b4 j hj, hF2 _ _ _ (by omega)]) b5 (fun k i j hn => by rw [hF4 _ _ _ (by omega), u_ne (by omega)]) q1 (fun j hj => by rw [q2 j hj, u_k (by decide)]) q3
