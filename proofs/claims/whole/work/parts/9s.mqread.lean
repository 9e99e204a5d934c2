/-! The model reads a question's word. -/
variable {d S : Nat} {h : Nat × Option gNm} {I : Nat → Nat → Nat → Int32} {J : Nat → Nat → Nat → Int64} {Q : Option gV → gW → Prop}
variable {tp : Nat → Int} {n : Nat}
theorem n_qKind {x1 : Option gV} (hx : mTx I tp n) (ht : mTk I tp n (.inr (lSk tp n 0, false))) (K : ∀ (I' : Nat → Nat → Nat → Int32) (x : Int32), (∀ k i j, ¬ ((k = 50 ∧ i = 0 ∧ (j = 2 ∨ j = 4 ∨ j = 5 ∨ j = 6))) → I' k i j = I k i j) → mTk I' tp n (qHd tp n) → (∀ q, qHd tp n = .inr q → x.toInt = qW tp n - 27) → (∀ b, qHd tp n = .inl b → x = 5) → Q (some (.inl x)) (gwd S I' J h)) : (gq (d + 11) 274 0 [some (.inr (.inr (some (50, 0)))), x1] [] (gwd S I J h) Q) := by
  have hr := lWd_r (tp := tp) (s := lSk tp n 0) (e := lEn tp n (lSk tp n 0))
  have e5 : (5 : Int32).toInt = 5 := rfl
  have hqw : qW tp n = lWd tp (lSk tp n 0) (lEn tp n (lSk tp n 0)) := rfl
  -- one word tried
  have try1 : ∀ (i1 w : Nat) (I1 : Nat → Nat → Nat → Int32) (Qq : Option gV → gW → Prop), i1 < 52 → mWx.getD i1 0 = w → (∀ k i j, ¬ ((k = 50 ∧ i = 0 ∧ (j = 2 ∨ j = 4 ∨ j = 5 ∨ j = 6))) → I1 k i j = I k i j) → mTk I1 tp n (.inr (lSk tp n 0, false)) → (lKd tp n (lSk tp n 0) false = -2 ∧ qW tp n = w → ∀ I2 : Nat → Nat → Nat → Int32, (∀ k i j, ¬ ((k = 50 ∧ i = 0 ∧ (j = 2 ∨ j = 4 ∨ j = 5 ∨ j = 6))) → I2 k i j = I k i j) → mTk I2 tp n (.inr (lNx tp n (lSk tp n 0) false)) → Qq (some (.inl 1)) (gwd S I2 J h)) → (¬ (lKd tp n (lSk tp n 0) false = -2 ∧ qW tp n = w) → ∀ I2 : Nat → Nat → Nat → Int32, (∀ k i j, ¬ ((k = 50 ∧ i = 0 ∧ (j = 2 ∨ j = 4 ∨ j = 5 ∨ j = 6))) → I2 k i j = I k i j) → mTk I2 tp n (.inr (lSk tp n 0, false)) → Qq (some (.inl 0)) (gwd S I2 J h)) → (gq (d + 10) 167 0 [some (.inr (.inr (some (50, 0)))), some (.inr (.inr (some (53, i1))))] [] (gwd S I1 J h) Qq) := fun i1 w I1 Qq hi hw hF1 ht1 K1 K0 => by
    have hx1 : mTx I1 tp n := mTx_congr hx (fun j => hF1 _ _ _ (by omega)) (hF1 _ _ _ (by omega)) (fun i j => hF1 _ _ _ (by omega))
    refine n_takes hi hx1 ht1 fun I2 x hF2 ht2 hA2 hv => ?_
    rw [hw] at ht2 hA2 hv
    have hF : (∀ k i j, ¬ ((k = 50 ∧ i = 0 ∧ (j = 2 ∨ j = 4 ∨ j = 5 ∨ j = 6))) → I2 k i j = I k i j) := fun k i j hn => by rw [hF2 _ _ _ (by omega), hF1 _ _ _ hn]
    by_cases y : lKd tp n (lSk tp n 0) false = -2 ∧ qW tp n = w
    · have e : lTkW tp n (.inr (lSk tp n 0, false)) w = .inr (lNx tp n (lSk tp n 0) false) := if_pos y
      rw [e] at ht2
      rw [if_pos (lIs_iff.mpr y)] at hv
      rw [hv]
      exact K1 y I2 hF ht2
    · have e : lTkW tp n (.inr (lSk tp n 0, false)) w = .inr (lSk tp n 0, false) := if_neg y
      rw [e] at ht2
      rw [if_neg (fun q => y (lIs_iff.mp q))] at hv
      rw [hv]
      exact K0 y I2 hF ht2
  have fin : ∀ (w : Nat) (v : Int32) (I2 : Nat → Nat → Nat → Int32), 27 ≤ w → w < 32 → v.toInt = (w : Int) - 27 → lKd tp n (lSk tp n 0) false = -2 ∧ qW tp n = w → (∀ k i j, ¬ ((k = 50 ∧ i = 0 ∧ (j = 2 ∨ j = 4 ∨ j = 5 ∨ j = 6))) → I2 k i j = I k i j) → mTk I2 tp n (.inr (lNx tp n (lSk tp n 0) false)) → (gq (d + 11) 274 76 [some (.inr (.inr (some (50, 0)))), x1] [.inl (v)] (gwd S I2 J h) Q) := fun w v I2 h1 h2 hv y hF ht2 => by
    have hq : qHd tp n = .inr (lNx tp n (lSk tp n 0) false) := if_pos ⟨y.1, by omega⟩
    rw [gb_274_76, if_neg (fun e => by rw [e, e5] at hv; omega), gb_274_90]
    exact K I2 v hF (by rw [hq]; exact ht2) (fun q _ => by rw [hv]; omega) (fun b e => by rw [hq] at e; cases e)
  rw [gb_274_0]
  refine try1 27 27 I _ (by decide) rfl (fun _ _ _ _ => rfl) ht (fun y I2 hF ht2 => ?_) (fun y27 I2 hF ht2 => ?_)
  · rw [Option.toList_some, List.singleton_append, gb_274_8, if_neg (by decide), gb_274_11]
    exact fin 27 0 I2 (by decide) (by decide) rfl y hF ht2
  rw [Option.toList_some, List.singleton_append, gb_274_8, if_pos rfl, gb_274_15]
  refine try1 28 28 I2 _ (by decide) rfl hF ht2 (fun y I3 hF ht3 => ?_) (fun y28 I3 hF ht3 => ?_)
  · rw [Option.toList_some, List.singleton_append, gb_274_23, if_neg (by decide), gb_274_26]
    exact fin 28 1 I3 (by decide) (by decide) rfl y hF ht3
  rw [Option.toList_some, List.singleton_append, gb_274_23, if_pos rfl, gb_274_30]
  refine try1 29 29 I3 _ (by decide) rfl hF ht3 (fun y I4 hF ht4 => ?_) (fun y29 I4 hF ht4 => ?_)
  · rw [Option.toList_some, List.singleton_append, gb_274_38, if_neg (by decide), gb_274_41]
    exact fin 29 2 I4 (by decide) (by decide) rfl y hF ht4
  rw [Option.toList_some, List.singleton_append, gb_274_38, if_pos rfl, gb_274_45]
  refine try1 30 30 I4 _ (by decide) rfl hF ht4 (fun y I5 hF ht5 => ?_) (fun y30 I5 hF ht5 => ?_)
  · rw [Option.toList_some, List.singleton_append, gb_274_53, if_neg (by decide), gb_274_56]
    exact fin 30 3 I5 (by decide) (by decide) rfl y hF ht5
  rw [Option.toList_some, List.singleton_append, gb_274_53, if_pos rfl, gb_274_60]
  refine try1 31 31 I5 _ (by decide) rfl hF ht5 (fun y I6 hF ht6 => ?_) (fun y31 I6 hF ht6 => ?_)
  · rw [Option.toList_some, List.singleton_append, gb_274_68, if_neg (by decide), gb_274_71]
    exact fin 31 4 I6 (by decide) (by decide) rfl y hF ht6
  rw [Option.toList_some, List.singleton_append, gb_274_68, if_pos rfl, gb_274_75, gb_274_76, if_pos rfl, gb_274_82]
  have hx6 : mTx I6 tp n := mTx_congr hx (fun j => hF _ _ _ (by omega)) (hF _ _ _ (by omega)) (fun i j => hF _ _ _ (by omega))
  refine n_asks (i1 := 32) (by decide) hx6 ht6 fun I7 hF7 ht7 => ?_
  rw [show mWx.getD 32 0 = 32 from rfl] at ht7
  rw [Option.toList_none, List.nil_append, gb_274_90]
  have e : lAskW tp n (.inr (lSk tp n 0, false)) 32 = qHd tp n := by
    show (if lKd tp n (lSk tp n 0) false = -2 ∧ lWd tp (lSk tp n 0) (lEn tp n (lSk tp n 0)) = (32 : Nat) then (.inr (lNx tp n (lSk tp n 0) false) : lT) else .inl (1, ((lSk tp n 0 : Nat) : Int))) = _
    unfold qHd
    by_cases k : lKd tp n (lSk tp n 0) false = -2 ∧ lWd tp (lSk tp n 0) (lEn tp n (lSk tp n 0)) = (32 : Nat)
    · rw [if_pos k, if_pos ⟨k.1, by omega⟩]
    · rw [if_neg k, if_neg (fun q => k ⟨q.1, by
        have a := q.1
        have a27 := fun e => y27 ⟨a, e⟩
        have a28 := fun e => y28 ⟨a, e⟩
        have a29 := fun e => y29 ⟨a, e⟩
        have a30 := fun e => y30 ⟨a, e⟩
        have a31 := fun e => y31 ⟨a, e⟩
        have q2 := q.2
        rw [hqw] at q2 a27 a28 a29 a30 a31
        omega⟩)]
  rw [e] at ht7
  refine K I7 5 (fun k i j hn => by rw [hF7 _ _ _ (by omega), hF _ _ _ hn]) ht7 (fun q eq => ?_) (fun b _ => rfl)
  rw [← e] at eq
  have k := lAskW_inr eq
  rw [e5, hqw, show lWd tp (lSk tp n 0) (lEn tp n (lSk tp n 0)) = 32 from k.1.2]
  rfl
