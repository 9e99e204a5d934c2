/-! The model's codes and what waits on its stack. -/
def FM (I I' : Nat → Nat → Nat → Int32) : Prop := ∀ k i j, ¬ (k = 50 ∧ i = 0 ∧ (j = 2 ∨ j = 4 ∨ j = 5 ∨ j = 6 ∨ j = 10 ∨ j = 99 ∨ j = 101 ∨ j = 102 ∨ j = 103) ∨ k = 68 ∧ i = 0 ∨ k = 69 ∧ i = 0) → I' k i j = I k i j
theorem FM_refl {I : Nat → Nat → Nat → Int32} : FM I I := fun _ _ _ _ => rfl
theorem FM_trans {I I' I'' : Nat → Nat → Nat → Int32} (h1 : FM I I') (h2 : FM I' I'') : FM I I'' := fun k i j hn => by rw [h2 k i j hn, h1 k i j hn]
theorem mTx_FM {I I' : Nat → Nat → Nat → Int32} {tp : Nat → Int} {n : Nat} (h : mTx I tp n) (hF : FM I I') : mTx I' tp n := mTx_congr h (fun j => hF _ _ _ (by omega)) (hF _ _ _ (by omega)) (fun i j => hF _ _ _ (by omega))
def mWt (I : Nat → Nat → Nat → Int32) (W : List Int) : Prop := (I 50 0 101).toInt = W.length ∧ gHp (I 69 0) W
def mCd (I : Nat → Nat → Nat → Int32) (L : List Int) : Prop := (I 50 0 99).toInt = L.length ∧ gCd (I 68 0) gMc 0 L
theorem mWt_congr {I I' : Nat → Nat → Nat → Int32} {W : List Int} (h : mWt I W) (e1 : I' 50 0 101 = I 50 0 101) (e2 : ∀ j, I' 69 0 j = I 69 0 j) : mWt I' W := ⟨by rw [e1]; exact h.1, gHp_congr (fun k _ => e2 k) h.2⟩
theorem mCd_congr {I I' : Nat → Nat → Nat → Int32} {L : List Int} (h : mCd I L) (e1 : I' 50 0 99 = I 50 0 99) (e2 : ∀ j, I' 68 0 j = I 68 0 j) : mCd I' L := ⟨by rw [e1]; exact h.1, gCd_congr (fun k _ _ => e2 k) h.2⟩
variable {d S : Nat} {h : Nat × Option gNm} {I : Nat → Nat → Nat → Int32} {J : Nat → Nat → Nat → Int64} {Q : Option gV → gW → Prop}
theorem n_code {a1 : Int32} {c : Int} {L : List Int} (hc : mCd I L) (hl : L.length < 1700) (h1 : a1.toInt = gMc c) (K : ∀ (I' : Nat → Nat → Nat → Int32), (∀ k i j, ¬ ((k = 50 ∧ i = 0 ∧ j = 99) ∨ (k = 68 ∧ i = 0)) → I' k i j = I k i j) → mCd I' (L ++ [c]) → Q none (gwd S I' J h)) : (gq d 248 0 [some (.inr (.inr (some (50, 0)))), some (.inl (a1))] [] (gwd S I J h) Q) := by
  have e1 : (1 : Int32).toInt = 1 := rfl
  have q := hc.1
  rw [gb_248_0]
  refine ⟨g_in.mpr (by omega), ?_⟩
  rw [gb_248_10, z_n, q, Int.toNat_natCast]
  refine K _ (fun k i j hn => by rw [u_ne (by omega), u_ne (by omega)]) ⟨?_, ?_⟩
  · rw [u_eq, u_k (by decide), z_add (by omega) (by omega), q, e1, List.length_append]; rfl
  · rw [gCd_app]
    refine ⟨gCd_congr (fun k h1 h2 => by rw [u_k (by decide), u_j (by omega)]) hc.2, ?_, trivial⟩
    rw [u_k (by decide), Nat.zero_add, u_eq]; exact h1
theorem n_codeB {a1 : Int32} (h0 : 0 ≤ (I 50 0 99).toInt) (hl : (I 50 0 99).toInt < 1700) (K : ∀ (I' : Nat → Nat → Nat → Int32), (∀ k i j, ¬ ((k = 50 ∧ i = 0 ∧ j = 99) ∨ (k = 68 ∧ i = 0)) → I' k i j = I k i j) → (I' 50 0 99).toInt = (I 50 0 99).toInt + 1 → Q none (gwd S I' J h)) : (gq d 248 0 [some (.inr (.inr (some (50, 0)))), some (.inl (a1))] [] (gwd S I J h) Q) := by
  have e1 : (1 : Int32).toInt = 1 := rfl
  rw [gb_248_0]
  refine ⟨g_in.mpr (by omega), ?_⟩
  rw [gb_248_10]
  exact K _ (fun k i j hn => by rw [u_ne (by omega), u_ne (by omega)]) (by rw [u_eq, u_k (by decide), z_add (by omega) (by omega), e1])
theorem n_drops {c : Int} {W L : List Int} (hw : mWt I (gMc c :: W)) (hc : mCd I L) (hl : L.length < 1700) (hW : W.length < 1699) (K : ∀ (I' : Nat → Nat → Nat → Int32), (∀ k i j, ¬ ((k = 50 ∧ i = 0 ∧ (j = 99 ∨ j = 101)) ∨ (k = 68 ∧ i = 0)) → I' k i j = I k i j) → mWt I' W → mCd I' (L ++ [c]) → Q none (gwd S I' J h)) : (gq (d + 1) 251 0 [some (.inr (.inr (some (50, 0))))] [] (gwd S I J h) Q) := by
  have e1 : (1 : Int32).toInt = 1 := rfl
  have q := hw.1
  simp only [List.length_cons] at q
  have q1 : (I 50 0 101 - 1).toInt = W.length := by rw [z_sub (by omega) (by omega), q, e1]; omega
  have n1 : (I 50 0 101 - 1).toNatClampNeg = W.length := by rw [z_n, q1]; rfl
  have hv := hw.2.1
  rw [gb_251_0]
  refine ⟨g_in.mpr (by omega), ?_⟩
  rw [n1, gb_251_20]
  refine n_code (c := c) (L := L) (mCd_congr hc (u_j (by decide)) (fun j => u_k (by decide))) hl hv fun I1 hF1 h1 => ?_
  rw [Option.toList_none, List.nil_append, gb_251_23]
  exact K I1 (fun k i j hn => by rw [hF1 _ _ _ (by omega), u_ne (by omega)]) ⟨by rw [hF1 _ _ _ (by omega), u_eq]; exact q1, gHp_congr (fun k _ => by rw [hF1 _ _ _ (by omega), u_k (by decide)]) hw.2.2⟩ h1
theorem n_isOn {a1 : Int32} {v c : Int} {W : List Int} (hw : mWt I (v :: W)) (hW : W.length < 1699) (h1 : a1.toInt = c) : (gq d 250 0 [some (.inr (.inr (some (50, 0)))), some (.inl (a1))] [] (gwd S I J h) Q) ↔ Q (some (.inl (if v = c then 1 else 0))) (gwd S I J h) := by
  have e1 : (1 : Int32).toInt = 1 := rfl
  have q := hw.1
  simp only [List.length_cons] at q
  have q1 : (I 50 0 101 - 1).toInt = W.length := by rw [z_sub (by omega) (by omega), q, e1]; omega
  have n1 : (I 50 0 101 - 1).toNatClampNeg = W.length := by rw [z_n, q1]; rfl
  have hg : gin (I 50 0 101 - 1) 1700 = true := g_in.mpr (by omega)
  have hv := hw.2.1
  rw [gb_250_0, if_neg (by rw [z_le, z_0]; omega), gb_250_7, hg, eq_self, true_and, n1, gb_250_18]
  by_cases w : v = c
  · rw [if_pos (z_inj (by rw [hv, h1, w])), gb_250_22, gb_250_27, g_t1, true_and, if_pos w]
  · rw [if_neg (fun e => w (by rw [← hv, e, h1])), gb_250_26, gb_250_27, g_t0, true_and, if_neg w]
theorem n_isOn0 {a1 : Int32} (hw : mWt I []) : (gq d 250 0 [some (.inr (.inr (some (50, 0)))), some (.inl (a1))] [] (gwd S I J h) Q) ↔ Q (some (.inl 0)) (gwd S I J h) := by
  have q : (I 50 0 101).toInt = 0 := hw.1
  rw [gb_250_0, if_pos (by rw [z_le, z_0]; omega), gb_250_26, gb_250_27, g_t0, true_and]
/-- where a text is read in the model: a token, so many open, what waits, what is told, where the sum at hand begins -/
def mPs (I : Nat → Nat → Nat → Int32) (tp : Nat → Int) (n s : Nat) (g : Bool) (o : Int) (W L : List Int) (b : Nat) : Prop := mTk I tp n (.inr (s, g)) ∧ (I 50 0 102).toInt = o ∧ mWt I W ∧ mCd I L ∧ W.length + L.length ≤ s ∧ (I 50 0 103).toInt = b
theorem mPs_at {I I' : Nat → Nat → Nat → Int32} {tp : Nat → Int} {n s : Nat} {g : Bool} {o : Int} {W L : List Int} {b : Nat} (h : mPs I tp n s g o W L b) (hF : (∀ k i j, ¬ ((k = 50 ∧ i = 0 ∧ j = 2)) → I' k i j = I k i j)) (ht : mTk I' tp n (.inr (s, g))) : mPs I' tp n s g o W L b := ⟨ht, by rw [hF _ _ _ (by omega)]; exact h.2.1, mWt_congr h.2.2.1 (hF _ _ _ (by omega)) (fun j => hF _ _ _ (by omega)), mCd_congr h.2.2.2.1 (hF _ _ _ (by omega)) (fun j => hF _ _ _ (by omega)), h.2.2.2.2.1, by rw [hF _ _ _ (by omega)]; exact h.2.2.2.2.2⟩
theorem mTk_sn {I : Nat → Nat → Nat → Int32} {tp : Nat → Int} {n s : Nat} {g : Bool} (h : mTk I tp n (.inr (s, g))) : s ≤ n := by obtain ⟨_, _, a, h3, h4, h5, h6, h7, h8⟩ := h; exact h5
/-- something opens -/
theorem n_opens {tp : Nat → Int} {n s b : Nat} {g : Bool} {o : Nat} {W L : List Int} {a1 a2 : Int32} {v : Int} (hp : mPs I tp n s g o W L b) (hn : n ≤ 1600) (h6 : o ≤ 6) (h1 : a1.toInt = v) (h2 : a2.toInt = s) (K0 : 6 ≤ o → ∀ (I' : Nat → Nat → Nat → Int32), (∀ k i j, ¬ ((k = 50 ∧ i = 0 ∧ (j = 5 ∨ j = 6))) → I' k i j = I k i j) → mTk I' tp n (.inl (4, s)) → Q none (gwd S I' J h))
    (K1 : ¬ 6 ≤ o → ∀ (I' : Nat → Nat → Nat → Int32), (∀ k i j, ¬ ((k = 50 ∧ i = 0 ∧ (j = 101 ∨ j = 102)) ∨ (k = 69 ∧ i = 0)) → I' k i j = I k i j) → (I' 50 0 102).toInt = ((o + 1 : Nat) : Int) → mWt I' (v :: W) → Q none (gwd S I' J h)) : (gq (d + 1) 249 0 [some (.inr (.inr (some (50, 0)))), some (.inl (a1)), some (.inl (a2))] [] (gwd S I J h) Q) := by
  have e6 : (6 : Int32).toInt = 6 := rfl
  have e1 : (1 : Int32).toInt = 1 := rfl
  obtain ⟨ht, ho, hw, hc, hl, hb⟩ := hp
  have hsn := mTk_sn ht
  have q := hw.1
  rw [gb_249_0, if_pos ht.1, gb_249_8]
  by_cases w : 6 ≤ o
  · rw [if_pos (z_inj (by rw [ho, e6]; omega)), gb_249_17]
    refine n_failAt ht rfl h2 (by decide) fun I1 hF1 ht1 => ?_
    rw [Option.toList_none, List.nil_append, gb_249_23]
    exact K0 w I1 hF1 ht1
  · rw [if_neg (fun e => w (by have := congrArg Int32.toInt e; omega)), gb_249_24]
    refine ⟨g_in.mpr (by omega), ?_⟩
    rw [gb_249_44, z_n, q, Int.toNat_natCast]
    refine K1 w _ (fun k i j hn => by rw [u_ne (by omega), u_ne (by omega), u_ne (by omega)]) ?_ ⟨?_, ?_, ?_⟩
    · rw [u_j (by decide), u_k (by decide), u_eq, z_add (by omega) (by omega), ho, e1]; rfl
    · rw [u_eq, u_k (by decide), u_j (by decide), z_add (by omega) (by omega), q, e1, List.length_cons]; rfl
    · rw [u_k (by decide), u_eq]; exact h1
    · exact gHp_congr (fun k hk => by rw [u_k (by decide), u_j (by omega), u_k (by decide)]) hw.2
theorem n_isBr {a0 : Int32} : (gq d 252 0 [some (.inl (a0))] [] (gwd S I J h) Q) ↔ Q (some (.inl (zb (20 ≤ a0.toInt ∧ a0.toInt ≤ 24)))) (gwd S I J h) := by
  have e1 : (20 : Int32).toInt = 20 := rfl
  have e2 : (24 : Int32).toInt = 24 := rfl
  simp only [gb_252_0, gb_252_6, gb_252_12, gb_252_16, gb_252_17, z_lt, z_le, e1, e2, g_t0, g_t1, true_and, zb]; (repeat' split) <;> first | exact Iff.rfl | (exfalso; omega)
/-- what lies open last above a base -/
def mTop (b : Nat) (V : List Int) : Int := if V.length = b then -1 else V.headD 0
def brOk (b : Nat) (V : List Int) : Prop := V.length = b ∨ (b < V.length ∧ 20 ≤ V.headD 0 ∧ V.headD 0 ≤ 24)
theorem gHp_app {H : Nat → Int32} : ∀ {P V : List Int}, gHp H (P ++ V) → gHp H V
  | [], _, h => h
  | _ :: P, V, h => gHp_app (P := P) h.2
theorem n_bracket_loop {b : Nat} {V : List Int} (hv : brOk b V) (hb : (I 50 0 103).toInt = b) (hlen : V.length < 1700) : ∀ (P : List Int) (a1 : Int32), (∀ v ∈ P, ¬ (20 ≤ v ∧ v ≤ 24)) → (P ++ V).length < 1700 → gHp (I 69 0) (P ++ V) → a1.toInt = ((P ++ V).length : Int) - 1 → (∀ x : Int32, x.toInt = mTop b V → Q (some (.inl x)) (gwd S I J h)) → (gq (d + 1) 253 7 [some (.inr (.inr (some (50, 0)))), some (.inl (a1))] [] (gwd S I J h) Q)
  | [], a1, hP, hl, hh, h1, K => by
    simp only [List.nil_append] at hl hh h1
    rw [gb_253_7]
    rcases hv with hv | ⟨hv, h20, h24⟩
    · rw [if_pos (by rw [z_lt]; omega), gb_253_33, if_pos (by rw [z_lt]; omega), gb_253_50, gb_253_51]
      exact K _ (by unfold mTop; rw [if_pos hv]; rfl)
    · match V, hv, h20, h24, hl, hh, h1 with
      | v :: V', hv, h20, h24, hl, hh, h1 =>
        simp only [List.length_cons] at hv hl h1
        have e : a1.toInt = V'.length := by omega
        have h20' : 20 ≤ v := h20
        have h24' : v ≤ 24 := h24
        rw [if_neg (by rw [z_lt]; omega), gb_253_15]
        refine ⟨g_in.mpr (by omega), ?_⟩
        rw [z_n, e, Int.toNat_natCast, gb_253_21, n_isBr, Option.toList_some, List.singleton_append, gb_253_24, if_neg (by rw [zb_0, hh.1]; exact fun q => q ⟨h20', h24'⟩), gb_253_33, if_neg (by rw [z_lt]; omega), gb_253_41]
        refine ⟨g_in.mpr (by omega), ?_⟩
        rw [z_n, e, Int.toNat_natCast, gb_253_47, gb_253_51]
        exact K _ (by unfold mTop; rw [if_neg (by simp only [List.length_cons]; omega), hh.1]; rfl)
  | v :: P, a1, hP, hl, hh, h1, K => by
    simp only [List.cons_append, List.length_cons] at hl h1
    have e : a1.toInt = ((P ++ V).length : Int) := by omega
    have hvb : b ≤ V.length := by rcases hv with hv | hv <;> omega
    have hPV : V.length ≤ (P ++ V).length := by rw [List.length_append]; omega
    have hh1 : (I 69 0 (P ++ V).length).toInt = v := hh.1
    rw [gb_253_7, if_neg (by rw [z_lt]; omega), gb_253_15]
    refine ⟨g_in.mpr (by omega), ?_⟩
    rw [z_n, e, Int.toNat_natCast, gb_253_21, n_isBr, Option.toList_some, List.singleton_append, gb_253_24, if_pos (by rw [zb_0, hh1]; exact hP v List.mem_cons_self), gb_253_27, gb_253_30]
    refine n_bracket_loop hv hb hlen P _ (fun u hu => hP u (List.mem_cons_of_mem _ hu)) (by omega) hh.2 ?_ K
    generalize hm : Int32.ofInt (-1) = mm
    have hm' : mm.toInt = -1 := by rw [← hm]; rfl
    rw [z_add (by omega) (by omega), e, hm']; omega
theorem n_bracket {b : Nat} {P V : List Int} {x1 : Option gV} (hv : brOk b V) (hb : (I 50 0 103).toInt = b) (hw : mWt I (P ++ V)) (hP : ∀ v ∈ P, ¬ (20 ≤ v ∧ v ≤ 24)) (hl : (P ++ V).length < 1700) (K : ∀ x : Int32, x.toInt = mTop b V → Q (some (.inl x)) (gwd S I J h)) : (gq (d + 1) 253 0 [some (.inr (.inr (some (50, 0)))), x1] [] (gwd S I J h) Q) := by
  have e1 : (1 : Int32).toInt = 1 := rfl
  have q := hw.1
  rw [gb_253_0]
  exact n_bracket_loop hv hb (by rw [List.length_append] at hl; omega) P _ hP hl hw.2 (by rw [z_sub (by omega) (by omega), q, e1]) K
/-- what is pending above a bracket is told -/
theorem n_dropsTo {b : Nat} {V : List Int} (hv : brOk b V) : ∀ (B : List Int) (I : Nat → Nat → Nat → Int32) (L : List Int), (I 50 0 103).toInt = b → mWt I (B.map gMc ++ V) → (∀ c ∈ B, ¬ (20 ≤ gMc c ∧ gMc c ≤ 24)) → mCd I L → (B.map gMc ++ V).length + L.length < 1699 → (∀ (I' : Nat → Nat → Nat → Int32), (∀ k i j, ¬ ((k = 50 ∧ i = 0 ∧ (j = 99 ∨ j = 101)) ∨ (k = 68 ∧ i = 0)) → I' k i j = I k i j) → mWt I' V → mCd I' (L ++ B) → Q none (gwd S I' J h)) → (gq (d + 2) 254 0 [some (.inr (.inr (some (50, 0))))] [] (gwd S I J h) Q)
  | [], I, L, hb, hw, hB, hc, hl, K => by
    have e1 : (1 : Int32).toInt = 1 := rfl
    have q : (I 50 0 101).toInt = V.length := hw.1
    have hl' : V.length + L.length < 1699 := hl
    rw [List.append_nil] at K
    rw [gb_254_0]
    rcases hv with hv | ⟨hv, h20, h24⟩
    · rw [if_pos (by rw [z_le]; omega), gb_254_35]
      exact K I (fun _ _ _ _ => rfl) hw hc
    · match V, hv, h20, h24, hl', hw, q, K with
      | v :: V', hv, h20, h24, hl', hw, q, K =>
        simp only [List.length_cons] at hv hl' q
        have q1 : (I 50 0 101 - 1).toInt = V'.length := by rw [z_sub (by omega) (by omega), q, e1]; omega
        have h20' : 20 ≤ v := h20
        have h24' : v ≤ 24 := h24
        have hh : (I 69 0 V'.length).toInt = v := hw.2.1
        rw [if_neg (by rw [z_le]; omega), gb_254_11]
        refine ⟨g_in.mpr (by omega), ?_⟩
        rw [z_n, q1, Int.toNat_natCast, gb_254_22, n_isBr, Option.toList_some, List.singleton_append, gb_254_25, if_neg (by rw [zb_0, hh]; exact fun q => q ⟨h20', h24'⟩), gb_254_35]
        exact K I (fun _ _ _ _ => rfl) hw hc
  | c :: B, I, L, hb, hw, hB, hc, hl, K => by
    have e1 : (1 : Int32).toInt = 1 := rfl
    have hw' : mWt I (gMc c :: (B.map gMc ++ V)) := hw
    have q := hw'.1
    have hl' : (B.map gMc ++ V).length + 1 + L.length < 1699 := by simpa using hl
    have hvb : b ≤ (B.map gMc ++ V).length := by rw [List.length_append]; rcases hv with hv | hv <;> omega
    simp only [List.length_cons] at q
    have q1 : (I 50 0 101 - 1).toInt = ((B.map gMc ++ V).length : Int) := by rw [z_sub (by omega) (by omega), q, e1]; omega
    rw [gb_254_0, if_neg (by rw [z_le]; omega), gb_254_11]
    refine ⟨g_in.mpr (by omega), ?_⟩
    rw [z_n, q1, Int.toNat_natCast, gb_254_22, n_isBr, Option.toList_some, List.singleton_append, gb_254_25, if_pos (by rw [zb_0, hw'.2.1]; exact hB c List.mem_cons_self), gb_254_28]
    refine n_drops hw' hc (by omega) (by omega) fun I1 hF1 hw1 hc1 => ?_
    rw [Option.toList_none, List.nil_append, gb_254_32]
    refine n_dropsTo hv B I1 (L ++ [c]) (by rw [hF1 _ _ _ (by omega)]; exact hb) hw1 (fun u hu => hB u (List.mem_cons_of_mem _ hu)) hc1 (by rw [List.length_append (as := L)]; simp only [List.length_cons, List.length_nil]; omega) fun I2 hF2 hw2 hc2 => ?_
    rw [List.append_assoc] at hc2
    exact K I2 (fun k i j hn => by rw [hF2 _ _ _ hn, hF1 _ _ _ (by omega)]) hw2 hc2
