/-! The model reads a question. -/
variable {d S : Nat} {h : Nat × Option gNm} {I : Nat → Nat → Nat → Int32} {J : Nat → Nat → Nat → Int64} {Q : Option gV → gW → Prop}
variable {tp : Nat → Int} {n : Nat}
/-- what reading a question changes -/
def FMq (I I' : Nat → Nat → Nat → Int32) : Prop := ∀ k i j, ¬ (i = 0 ∧ (k = 50 ∧ (1 ≤ j ∧ j ≤ 6 ∨ j = 10 ∨ j = 49 ∨ j = 99 ∨ j = 101 ∨ j = 102 ∨ j = 103) ∨ k = 68 ∨ k = 69)) → I' k i j = I k i j
theorem n_askR {x1 x2 : Option gV} (h48 : I 50 0 48 ≠ 0) (hT : ∀ j, j < n → (I 51 0 j).toInt = tp j) (hL : (I 50 0 1).toInt = n) (hn : n ≤ 1600) (hB : ∀ j, j < n → 0 ≤ tp j ∧ tp j ≤ 255) (hW : mWs I)
    (K : ∀ (I' : Nat → Nat → Nat → Int32) (a1 : Int32), FMq I I' → I' 50 0 1 = 0 → mTk I' tp n (qRd tp n).1 → (∀ q, (qRd tp n).1 = .inr q → a1.toInt = qW tp n - 27 ∧ mCd I' (qRd tp n).2) → (gq (d + 12) 276 133 [some (.inr (.inr (some (50, 0)))), some (.inl (a1)), x2] [] (gwd S I' J h) Q)) : (gq (d + 12) 276 0 [some (.inr (.inr (some (50, 0)))), x1, x2] [] (gwd S I J h) Q) := by
  have e3 : (3 : Int32).toInt = 3 := rfl
  have em : (Int32.ofInt (-1)).toInt = -1 := rfl
  have hs0 := lSk_r (tp := tp) (n := n) (k := 0) (Nat.zero_le _)
  rw [gb_276_0, if_neg h48, gb_276_16, gb_276_36, gb_276_46]
  generalize hI0 : gup (gup (gup (gup (gup (gup (gup (gup (gup (gup (gup I 50 0 3 (I 50 0 1)) 50 0 1 0) 50 0 2 0) 50 0 4 (Int32.ofInt (-1))) 50 0 5 0) 50 0 6 (Int32.ofInt (-1))) 50 0 49 3) 50 0 99 0) 50 0 101 0) 50 0 102 0) 50 0 103 0 = I0
  have hF0 : FMq I I0 := fun k i j hn => by rw [← hI0]; repeat rw [u_ne (by omega)]
  have q1 : I0 50 0 1 = 0 := by rw [← hI0]; simp [gup]
  have q2 : I0 50 0 2 = 0 := by rw [← hI0]; simp [gup]
  have q3 : I0 50 0 3 = I 50 0 1 := by rw [← hI0]; simp [gup]
  have q4 : I0 50 0 4 = Int32.ofInt (-1) := by rw [← hI0]; simp [gup]
  have q5 : I0 50 0 5 = 0 := by rw [← hI0]; simp [gup]
  have q6 : I0 50 0 6 = Int32.ofInt (-1) := by rw [← hI0]; simp [gup]
  have q49 : I0 50 0 49 = 3 := by rw [← hI0]; simp [gup]
  have q99 : I0 50 0 99 = 0 := by rw [← hI0]; simp [gup]
  have q101 : I0 50 0 101 = 0 := by rw [← hI0]; simp [gup]
  have q102 : I0 50 0 102 = 0 := by rw [← hI0]; simp [gup]
  have q103 : I0 50 0 103 = 0 := by rw [← hI0]; simp [gup]
  have hx0 : mTx I0 tp n := ⟨fun j hj => by rw [hF0 _ _ _ (by omega)]; exact hT j hj, by rw [q3]; exact hL, hn, hB, fun i hi j hj => by rw [hF0 _ _ _ (by omega)]; exact hW i hi j hj⟩
  have ht0 : mTk I0 tp n (.inr (lSk tp n 0, false)) := by
    refine ⟨q5, by rw [q6]; rfl, 0, by rw [q2]; rfl, Nat.zero_le _, hs0.2, rfl, ?_, by rw [q4, em]; omega⟩
    rw [q4, em]
    exact ⟨fun e => by omega, fun e => by cases e⟩
  refine n_qKind hx0 ht0 fun I1 x hF1 ht1 hv1 hv0 => ?_
  have hFQ1 : FMq I I1 := fun k i j hn => by rw [hF1 _ _ _ (by omega), hF0 _ _ _ hn]
  have o50 : ∀ j, (j = 1 ∨ j = 3 ∨ 10 ≤ j) → I1 50 0 j = I0 50 0 j := fun j hj => hF1 _ _ _ (by omega)
  have hx1 : mTx I1 tp n := mTx_congr hx0 (fun j => hF1 _ _ _ (by omega)) (hF1 _ _ _ (by omega)) (fun i j => hF1 _ _ _ (by omega))
  rw [Option.toList_some, List.singleton_append, gb_276_78]
  -- behind what is asked
  have bad : ∀ (I2 : Nat → Nat → Nat → Int32) q, qBd tp n = (.inl q, (qBd tp n).2) → FMq I I2 → I2 50 0 1 = 0 → mTk I2 tp n (.inl q) → (gq (d + 12) 276 109 [some (.inr (.inr (some (50, 0)))), some (.inl (x)), x2] [] (gwd S I2 J h) Q) := fun I2 q hq hF ht1 ht => by
    have hR : (qRd tp n).1 = .inl q := by unfold qRd; rw [hq]; rfl
    rw [gb_276_109, if_neg (mTk_bad ht)]
    exact K I2 x hF ht1 (by rw [hR]; exact ht) (fun q' e => by rw [hR] at e; cases e)
  have good : ∀ (I2 : Nat → Nat → Nat → Int32) s g, qBd tp n = (.inr (s, g), (qBd tp n).2) → x.toInt = qW tp n - 27 → FMq I I2 → I2 50 0 1 = 0 → mTx I2 tp n → mTk I2 tp n (.inr (s, g)) → mCd I2 (qBd tp n).2 → (gq (d + 12) 276 109 [some (.inr (.inr (some (50, 0)))), some (.inl (x)), x2] [] (gwd S I2 J h) Q) := fun I2 s g hq hx27 hF h01 hx2 ht hc => by
    rw [gb_276_109, if_pos ht.1, gb_276_116]
    refine n_look hx2 ht fun I3 y hF3 ht3 hA3 hy => ?_
    have hFQ3 : FMq I I3 := fun k i j hn => by rw [hF3 _ _ _ (by omega), hF _ _ _ hn]
    have hb := lB_r (s := s) hB
    rw [Option.toList_some, List.singleton_append, gb_276_120, gb_276_121]
    by_cases w : s < n
    · have hR : (qRd tp n).1 = .inl (1, (s : Int)) := by unfold qRd; rw [hq]; exact if_pos w
      rw [if_neg (fun e => by have := congrArg Int32.toInt e; have := hb.2.2 w; omega), gb_276_124]
      refine n_failAt ht3 (f := 1) (p := s) rfl hA3 (by decide) fun I4 hF4 ht4 => ?_
      rw [Option.toList_none, List.nil_append]
      exact K I4 x (fun k i j hn => by rw [hF4 _ _ _ (by omega), hFQ3 _ _ _ hn]) (by rw [hF4 _ _ _ (by omega), hF3 _ _ _ (by omega)]; exact h01) (by rw [hR]; exact ht4) (fun q' e => by rw [hR] at e; cases e)
    · have hR : (qRd tp n).1 = .inr (s, g) := by unfold qRd; rw [hq]; exact if_neg w
      have hR2 : (qRd tp n).2 = (qBd tp n).2 := rfl
      rw [if_pos (z_inj (by rw [hy, lB_ge (by omega)]; rfl))]
      exact K I3 x hFQ3 (by rw [hF3 _ _ _ (by omega)]; exact h01) (by rw [hR]; exact ht3) (fun q' e => ⟨hx27, by rw [hR2]; exact mCd_congr hc (hF3 _ _ _ (by omega)) (fun j => hF3 _ _ _ (by omega))⟩)
  match hq : qHd tp n, ht1 with
  | .inl b, ht1 =>
    have hb : qBd tp n = (.inl b, []) := by unfold qBd; rw [hq, bR_l]
    rw [if_neg (mTk_bad ht1), gb_276_98, if_neg (mTk_bad ht1)]
    exact bad I1 b (by rw [hb]) hFQ1 (by rw [o50 _ (by omega)]; exact q1) ht1
  | .inr (s, g), ht1 =>
    have hx27 := hv1 _ hq
    have hb : qBd tp n = rd tp n (alT 3) (10 * n + 20) (if 29 < qW tp n then 4 else 9) 0 s g := by unfold qBd; rw [hq, bR_r]
    have hsn := mTk_sn ht1
    have hp1 : mPs I1 tp n s g ((0 : Nat) : Int) [] [] 0 := ⟨ht1, by rw [o50 _ (by omega), q102]; rfl, ⟨by rw [o50 _ (by omega), q101]; rfl, trivial⟩, ⟨by rw [o50 _ (by omega), q99]; rfl, trivial⟩, Nat.zero_le _, by rw [o50 _ (by omega), q103]; rfl⟩
    have h49 : (I1 50 0 49).toInt = ((3 : Nat) : Int) := by rw [o50 _ (by omega), q49]; rfl
    have h01 : I1 50 0 1 = 0 := by rw [o50 _ (by omega)]; exact q1
    have fq : ∀ I2 : Nat → Nat → Nat → Int32, FM I1 I2 → FMq I I2 ∧ I2 50 0 1 = 0 ∧ mTx I2 tp n := fun I2 hM => ⟨fun k i j hn => by rw [hM _ _ _ (by omega), hFQ1 _ _ _ hn], by rw [hM _ _ _ (by omega)]; exact h01, mTx_FM hx1 hM⟩
    rw [if_pos ht1.1, gb_276_86]
    by_cases w : 29 < qW tp n
    · rw [if_pos w] at hb
      rw [if_pos (by rw [z_le, e3]; omega), gb_276_98, if_pos ht1.1, gb_276_105]
      refine n_sums (o := 0) (t := 3) (f := 10 * n + 20) hx1 h49 (by omega) (by decide) hp1 (Or.inl (by decide)) (fun v hv => by cases hv) (by omega) (fun I2 q l hr hM ht2 _ _ => ?_) (fun I2 s1 g1 l hr hM hp2 _ => ?_)
      · rw [Option.toList_none, List.nil_append]
        have f := fq I2 hM
        exact bad I2 q (by rw [hb, hr]) f.1 f.2.1 ht2
      · rw [Option.toList_none, List.nil_append]
        have f := fq I2 hM
        exact good I2 s1 g1 (by rw [hb, hr]) hx27 f.1 f.2.1 f.2.2 hp2.1 (by rw [hb, hr]; exact hp2.2.2.2.1)
    · rw [if_neg w] at hb
      rw [if_neg (by rw [z_le, e3]; omega), gb_276_91]
      refine n_tests (o := 0) (t := 3) (f := 10 * n + 20) hx1 h49 (by omega) (by decide) hp1 (by omega) (fun I2 q l hr hM ht2 => ?_) (fun I2 s1 g1 l hr hM hp2 => ?_)
      · rw [Option.toList_none, List.nil_append, gb_276_95]
        have f := fq I2 hM
        exact bad I2 q (by rw [hb, hr]) f.1 f.2.1 ht2
      · rw [Option.toList_none, List.nil_append, gb_276_95]
        have f := fq I2 hM
        exact good I2 s1 g1 (by rw [hb, hr]) hx27 f.1 f.2.1 f.2.2 hp2.1 (by rw [hb, hr]; exact hp2.2.2.2.1)
