/-! The model behind a fact: a bracket closes, and, or, the end. -/
variable {d S : Nat} {h : Nat × Option gNm} {I I0 : Nat → Nat → Nat → Int32} {J : Nat → Nat → Nat → Int64} {Q Q0 : Option gV → gW → Prop}
variable {tp : Nat → Int} {n s b t : Nat} {g : Bool} {o : Int}
def tWt (W : List Int) : Prop := ∀ v ∈ W, 10 ≤ v ∧ v ≤ 25
def sqOk (W : List Int) : Prop := W = [] ∨ W.headD 0 = 25
def nPop : List Int → Int → List Int → Int × List Int × List Int
  | [], o, L => (o, [], L)
  | v :: W, o, L => if v = 12 then nPop W (o - 1) (L ++ [-14]) else (o, v :: W, L)
theorem nPop_id {W L : List Int} {o : Int} (h : W.headD 0 ≠ 12) : nPop W o L = (o, W, L) := by
  match W, h with
  | [], _ => rfl
  | v :: W, h => exact if_neg h
theorem n_nots (hn : n ≤ 1600) : ∀ (W : List Int) (o : Int) (L : List Int) (I : Nat → Nat → Nat → Int32), mPs I tp n s g o W L b → -10000 ≤ o - W.length → o ≤ 10 → (∀ (I' : Nat → Nat → Nat → Int32), (∀ k i j, ¬ ((k = 50 ∧ i = 0 ∧ (j = 99 ∨ j = 101 ∨ j = 102)) ∨ (k = 68 ∧ i = 0)) → I' k i j = I k i j) → mPs I' tp n s g (nPop W o L).1 (nPop W o L).2.1 (nPop W o L).2.2 b → Q none (gwd S I' J h)) → (gq (d + 2) 264 0 [some (.inr (.inr (some (50, 0))))] [] (gwd S I J h) Q)
  | [], o, L, I, hp, ho1, ho2, K => by
    rw [gb_264_0, if_pos hp.1.1, gb_264_7, n_isOn0 hp.2.2.1, Option.toList_some, List.singleton_append, gb_264_13, if_pos rfl, gb_264_33]
    exact K I (fun _ _ _ _ => rfl) hp
  | v :: W, o, L, I, hp, ho1, ho2, K => by
    have e1 : (1 : Int32).toInt = 1 := rfl
    obtain ⟨ht, ho, hw, hc, hl, hb⟩ := id hp
    have hsn := mTk_sn ht
    simp only [List.length_cons] at hl ho1
    have hE : nPop (v :: W) o L = if v = 12 then nPop W (o - 1) (L ++ [-14]) else (o, v :: W, L) := rfl
    rw [gb_264_0, if_pos ht.1, gb_264_7, n_isOn (c := 12) hw (by omega) rfl, Option.toList_some, List.singleton_append, gb_264_13]
    by_cases w : v = 12
    case neg =>
      rw [hE, if_neg w] at K
      rw [if_neg w, if_pos rfl, gb_264_33]
      exact K I (fun _ _ _ _ => rfl) hp
    rw [hE, if_pos w] at K
    rw [if_pos w, if_neg (by decide), gb_264_16]
    refine n_drops (c := -14) (W := W) (L := L) ⟨by rw [u_j (by decide)]; exact hw.1, gHp_congr (fun k _ => u_k (by decide)) (by rw [show gMc (-14) = v by rw [w]; rfl]; exact hw.2)⟩ (mCd_congr hc (u_j (by decide)) (fun j => u_k (by decide))) (by omega) (by omega) fun I1 hF1 hw1 hc1 => ?_
    rw [Option.toList_none, List.nil_append, gb_264_30]
    refine n_nots hn W (o - 1) (L ++ [-14]) I1 ⟨mTk_congr ht (fun j hj => by rw [hF1 _ _ _ (by omega), u_j (by omega)]), ?_, hw1, hc1, ?_, by rw [hF1 _ _ _ (by omega), u_j (by decide)]; exact hb⟩ (by omega) (by omega) fun I2 hF2 hp2 => K I2 (fun k i j hn => by rw [hF2 _ _ _ hn, hF1 _ _ _ (by omega), u_ne (by omega)]) hp2
    · rw [hF1 _ _ _ (by omega), u_eq, z_sub (by omega) (by omega), ho, e1]
    · rw [List.length_append]; simp only [List.length_cons, List.length_nil]; omega
theorem gHp_mem {H : Nat → Int32} : ∀ {W : List Int}, gHp H W → (∀ v ∈ W, ∃ k, k < W.length ∧ (H k).toInt = v) ∧ ∀ k, k < W.length → (H k).toInt ∈ W
  | [], _ => ⟨fun v hv => (by cases hv), fun k hk => absurd hk (Nat.not_lt_zero _)⟩
  | v :: W, hh => by
    have ih := gHp_mem hh.2
    refine ⟨fun u hu => ?_, fun k hk => ?_⟩
    · rcases List.mem_cons.mp hu with e | e
      · exact ⟨W.length, Nat.lt_succ_self _, by rw [e]; exact hh.1⟩
      · obtain ⟨k, h1, h2⟩ := ih.1 u e
        exact ⟨k, Nat.lt_succ_of_lt h1, h2⟩
    · simp only [List.length_cons] at hk
      by_cases e : k = W.length
      · rw [e, hh.1]; exact List.mem_cons_self
      · exact List.mem_cons_of_mem _ (ih.2 k (by omega))
theorem n_sq_loop {W : List Int} (hw : mWt I W) (hl : W.length < 1700) (K1 : 25 ∈ W → Q (some (.inl 1)) (gwd S I J h)) (K0 : ¬ 25 ∈ W → Q (some (.inl 0)) (gwd S I J h)) : ∀ (m k : Nat) (a1 : Int32), k + m = W.length → a1.toInt = k → (∀ j, j < k → (I 69 0 j).toInt ≠ 25) → (gq d 263 2 [some (.inr (.inr (some (50, 0)))), some (.inl (a1))] [] (gwd S I J h) Q)
  | 0, k, a1, hk, h1, hno => by
    have q := hw.1
    rw [gb_263_2, if_pos (by rw [z_le]; omega), gb_263_29]
    refine K0 fun hm => ?_
    obtain ⟨j, h2, h3⟩ := (gHp_mem hw.2).1 25 hm
    exact hno j (by omega) h3
  | m + 1, k, a1, hk, h1, hno => by
    have q := hw.1
    have e1 : (1 : Int32).toInt = 1 := rfl
    have e25 : (25 : Int32).toInt = 25 := rfl
    rw [gb_263_2, if_neg (by rw [z_le]; omega), gb_263_10]
    refine ⟨g_in.mpr (by omega), ?_⟩
    rw [z_n, h1, Int.toNat_natCast, gb_263_16]
    by_cases w : (I 69 0 k).toInt = 25
    · rw [if_pos (z_inj (by rw [w, e25])), gb_263_21]
      exact K1 (by have := (gHp_mem hw.2).2 k (by omega); rw [w] at this; exact this)
    · rw [if_neg (fun e => w (by rw [e, e25])), gb_263_23]
      exact n_sq_loop hw hl K1 K0 m (k + 1) _ (by omega) (by rw [z_add (by omega) (by omega), h1, e1]; rfl) fun j hj => by
        by_cases e : j = k
        · rw [e]; exact w
        · exact hno j (by omega)
theorem n_sq {W : List Int} {x1 : Option gV} (hw : mWt I W) (hl : W.length < 1700) (K1 : 25 ∈ W → Q (some (.inl 1)) (gwd S I J h)) (K0 : ¬ 25 ∈ W → Q (some (.inl 0)) (gwd S I J h)) : (gq d 263 0 [some (.inr (.inr (some (50, 0)))), x1] [] (gwd S I J h) Q) := by
  rw [gb_263_0]
  exact n_sq_loop hw hl K1 K0 W.length 0 _ (by omega) rfl fun j hj => absurd hj (Nat.not_lt_zero _)
/-- what is pending of and, or -/
def pAnd (B : List Int) : Prop := ∀ c ∈ B, c = -17
def pOr (A : List Int) : Prop := ∀ c ∈ A, c = -16
theorem pAO_g {A B : List Int} (hB : pAnd B) (hA : pOr A) : ∀ c ∈ B ++ A, gMc c = 10 ∨ gMc c = 11 := fun c hc => by
  rcases List.mem_append.mp hc with h | h
  · rw [hB c h]; exact Or.inl rfl
  · rw [hA c h]; exact Or.inr rfl
theorem sq_mem {A B W : List Int} (hB : pAnd B) (hA : pOr A) (hW : sqOk W) : 25 ∈ (B ++ A).map gMc ++ W ↔ W ≠ [] := by
  constructor
  · intro hm e
    rw [e, List.append_nil] at hm
    obtain ⟨c, h1, h2⟩ := List.mem_map.mp hm
    have := pAO_g hB hA c h1
    omega
  · intro hne
    rcases hW with e | e
    · exact absurd e hne
    · match W, hne, e with
      | v :: W', _, e =>
        have e' : v = 25 := e
        rw [e']
        exact List.mem_append_right _ List.mem_cons_self
theorem n_sqLoop {W : List Int} : ∀ (P : List Int) (I : Nat → Nat → Nat → Int32) (L : List Int), mWt I (P.map gMc ++ (25 :: W)) → (∀ c ∈ P, gMc c = 10 ∨ gMc c = 11) → mCd I L → (P.map gMc ++ (25 :: W)).length + L.length < 1690 → (∀ (I' : Nat → Nat → Nat → Int32), (∀ k i j, ¬ ((k = 50 ∧ i = 0 ∧ (j = 99 ∨ j = 101)) ∨ (k = 68 ∧ i = 0)) → I' k i j = I k i j) → mWt I' (25 :: W) → mCd I' (L ++ P) → (gq (d + 8) 266 49 [some (.inr (.inr (some (50, 0))))] [] (gwd S I' J h) Q)) → (gq (d + 8) 266 33 [some (.inr (.inr (some (50, 0))))] [] (gwd S I J h) Q)
  | [], I, L, hw, hB, hc, hl, K => by
    have hw' : mWt I (25 :: W) := hw
    have hl' : W.length + 1 + L.length < 1690 := hl
    rw [List.append_nil] at K
    rw [gb_266_33, n_isOn (c := 25) hw' (by omega) rfl, if_pos rfl, Option.toList_some, List.singleton_append, gb_266_39, if_neg (by decide)]
    exact K I (fun _ _ _ _ => rfl) hw' hc
  | c :: P, I, L, hw, hB, hc, hl, K => by
    have hw' : mWt I (gMc c :: (P.map gMc ++ (25 :: W))) := hw
    have hl' : (P.map gMc ++ (25 :: W)).length + 1 + L.length < 1690 := by simpa using hl
    have hcr := hB c List.mem_cons_self
    rw [gb_266_33, n_isOn (c := 25) hw' (by omega) rfl, if_neg (show ¬ gMc c = 25 by omega), Option.toList_some, List.singleton_append, gb_266_39, if_pos rfl, gb_266_42]
    refine n_drops hw' hc (by omega) (by omega) fun I1 hF1 hw1 hc1 => ?_
    rw [Option.toList_none, List.nil_append, gb_266_46]
    refine n_sqLoop P I1 (L ++ [c]) hw1 (fun u hu => hB u (List.mem_cons_of_mem _ hu)) hc1 (by rw [List.length_append (as := L)]; simp only [List.length_cons, List.length_nil]; omega) fun I2 hF2 hw2 hc2 => ?_
    rw [List.append_assoc] at hc2
    exact K I2 (fun k i j hn => by rw [hF2 _ _ _ hn, hF1 _ _ _ (by omega)]) hw2 hc2
theorem n_andLoop {V : List Int} (hV : V.headD 0 ≠ 10) : ∀ (B : List Int) (I : Nat → Nat → Nat → Int32) (L : List Int), mWt I (B.map gMc ++ V) → (∀ c ∈ B, gMc c = 10) → mCd I L → (B.map gMc ++ V).length + L.length < 1690 → (∀ (I' : Nat → Nat → Nat → Int32), (∀ k i j, ¬ ((k = 50 ∧ i = 0 ∧ (j = 99 ∨ j = 101)) ∨ (k = 68 ∧ i = 0)) → I' k i j = I k i j) → mWt I' V → mCd I' (L ++ B) → (gq (d + 8) 266 103 [some (.inr (.inr (some (50, 0))))] [] (gwd S I' J h) Q)) → (gq (d + 8) 266 87 [some (.inr (.inr (some (50, 0))))] [] (gwd S I J h) Q)
  | [], I, L, hw, hB, hc, hl, K => by
    have hl' : V.length + L.length < 1690 := hl
    have hw' : mWt I V := hw
    rw [List.append_nil] at K
    rw [gb_266_87, n_isOnH (c := 10) hw' (by omega) rfl (by decide), if_neg hV, Option.toList_some, List.singleton_append, gb_266_93, if_pos rfl]
    exact K I (fun _ _ _ _ => rfl) hw' hc
  | c :: B, I, L, hw, hB, hc, hl, K => by
    have hw' : mWt I (gMc c :: (B.map gMc ++ V)) := hw
    have hl' : (B.map gMc ++ V).length + 1 + L.length < 1690 := by simpa using hl
    rw [gb_266_87, n_isOn (c := 10) hw' (by omega) rfl, if_pos (hB c List.mem_cons_self), Option.toList_some, List.singleton_append, gb_266_93, if_neg (by decide), gb_266_96]
    refine n_drops hw' hc (by omega) (by omega) fun I1 hF1 hw1 hc1 => ?_
    rw [Option.toList_none, List.nil_append, gb_266_100]
    refine n_andLoop hV B I1 (L ++ [c]) hw1 (fun u hu => hB u (List.mem_cons_of_mem _ hu)) hc1 (by rw [List.length_append (as := L)]; simp only [List.length_cons, List.length_nil]; omega) fun I2 hF2 hw2 hc2 => ?_
    rw [List.append_assoc] at hc2
    exact K I2 (fun k i j hn => by rw [hF2 _ _ _ hn, hF1 _ _ _ (by omega)]) hw2 hc2
theorem n_orLoop {V : List Int} (hV : V.headD 0 ≠ 10 ∧ V.headD 0 ≠ 11) : ∀ (B : List Int) (I : Nat → Nat → Nat → Int32) (L : List Int), mWt I (B.map gMc ++ V) → (∀ c ∈ B, gMc c = 10 ∨ gMc c = 11) → mCd I L → (B.map gMc ++ V).length + L.length < 1690 → (∀ (I' : Nat → Nat → Nat → Int32), (∀ k i j, ¬ ((k = 50 ∧ i = 0 ∧ (j = 99 ∨ j = 101)) ∨ (k = 68 ∧ i = 0)) → I' k i j = I k i j) → mWt I' V → mCd I' (L ++ B) → (gq (d + 8) 266 162 [some (.inr (.inr (some (50, 0))))] [] (gwd S I' J h) Q)) → (gq (d + 8) 266 137 [some (.inr (.inr (some (50, 0))))] [] (gwd S I J h) Q)
  | [], I, L, hw, hB, hc, hl, K => by
    have hl' : V.length + L.length < 1690 := hl
    have hw' : mWt I V := hw
    rw [List.append_nil] at K
    rw [gb_266_137, n_isOnH (c := 10) hw' (by omega) rfl (by decide), if_neg hV.1, Option.toList_some, List.singleton_append, gb_266_143, if_pos rfl, gb_266_146, n_isOnH (c := 11) hw' (by omega) rfl (by decide), if_neg hV.2, Option.toList_some, List.singleton_append, gb_266_152, if_pos rfl]
    exact K I (fun _ _ _ _ => rfl) hw' hc
  | c :: B, I, L, hw, hB, hc, hl, K => by
    have hw' : mWt I (gMc c :: (B.map gMc ++ V)) := hw
    have hl' : (B.map gMc ++ V).length + 1 + L.length < 1690 := by simpa using hl
    have step : (gq (d + 8) 266 155 [some (.inr (.inr (some (50, 0))))] [] (gwd S I J h) Q) := by
      rw [gb_266_155]
      refine n_drops hw' hc (by omega) (by omega) fun I1 hF1 hw1 hc1 => ?_
      rw [Option.toList_none, List.nil_append, gb_266_159]
      refine n_orLoop hV B I1 (L ++ [c]) hw1 (fun u hu => hB u (List.mem_cons_of_mem _ hu)) hc1 (by rw [List.length_append (as := L)]; simp only [List.length_cons, List.length_nil]; omega) fun I2 hF2 hw2 hc2 => ?_
      rw [List.append_assoc] at hc2
      exact K I2 (fun k i j hn => by rw [hF2 _ _ _ hn, hF1 _ _ _ (by omega)]) hw2 hc2
    rw [gb_266_137, n_isOn (c := 10) hw' (by omega) rfl, Option.toList_some, List.singleton_append, gb_266_143]
    by_cases c10 : gMc c = 10
    · rw [if_pos c10, if_neg (by decide)]; exact step
    · rw [if_neg c10, if_pos rfl, gb_266_146, n_isOn (c := 11) hw' (by omega) rfl, if_pos (by have := hB c List.mem_cons_self; omega), Option.toList_some, List.singleton_append, gb_266_152, if_neg (by decide)]; exact step
theorem n_T_skip {P W L : List Int} (hx : mTx I tp n) (hp : mPs I tp n s g o W L b) (hno : ¬ (lB tp n s = 93 ∧ 25 ∈ W)) (K : ∀ (I' : Nat → Nat → Nat → Int32), (∀ k i j, ¬ ((k = 50 ∧ i = 0 ∧ j = 2)) → I' k i j = I k i j) → mPs I' tp n s g o W L b → (gq (d + 8) 266 76 [some (.inr (.inr (some (50, 0))))] [] (gwd S I' J h) Q)) : (gq (d + 8) 266 0 [some (.inr (.inr (some (50, 0))))] [] (gwd S I J h) Q) := by
  have hn := hx.2.2.1
  have hsn := mTk_sn hp.1
  have hl := hp.2.2.2.2.1
  have e93 : (93 : Int32).toInt = 93 := rfl
  rw [gb_266_0, if_pos hp.1.1, gb_266_7]
  refine n_look hx hp.1 fun I1 x hF1 ht1 hA1 hv1 => ?_
  have hp1 := mPs_at hp hF1 ht1
  rw [Option.toList_some, List.singleton_append, gb_266_11]
  by_cases c : lB tp n s = 93
  case neg =>
    rw [if_neg (fun e => c (by rw [← hv1, e, e93]))]
    exact K I1 hF1 hp1
  rw [if_pos (z_inj (by rw [hv1, c, e93])), gb_266_16]
  refine n_sq hp1.2.2.1 (by omega) (fun hm => absurd ⟨c, hm⟩ hno) (fun _ => ?_)
  rw [Option.toList_some, List.singleton_append, gb_266_20, if_pos rfl]
  exact K I1 hF1 hp1
theorem n_T_close {P W L : List Int} (hx : mTx I tp n) (hp : mPs I tp n s g o (P.map gMc ++ (25 :: W)) L b) (hP : ∀ c ∈ P, gMc c = 10 ∨ gMc c = 11) (ho1 : -10000 ≤ o - 1 - W.length) (ho2 : o ≤ 10) (hc : lB tp n s = 93)
    (K : ∀ (I' : Nat → Nat → Nat → Int32), FM I I' → mPs I' tp n (lNx tp n s g).1 (lNx tp n s g).2 (nPop W (o - 1) (L ++ P)).1 (nPop W (o - 1) (L ++ P)).2.1 (nPop W (o - 1) (L ++ P)).2.2 b → (gq (d + 8) 266 0 [some (.inr (.inr (some (50, 0))))] [] (gwd S I' J h) Q)) : (gq (d + 8) 266 0 [some (.inr (.inr (some (50, 0))))] [] (gwd S I J h) Q) := by
  have hn := hx.2.2.1
  have hsn := mTk_sn hp.1
  have hl := hp.2.2.2.2.1
  have hlt : s < n := lB_le (tp := tp) (by omega)
  have e1 : (1 : Int32).toInt = 1 := rfl
  have e93 : (93 : Int32).toInt = 93 := rfl
  have hlen : (P.map gMc ++ (25 :: W)).length = P.length + (W.length + 1) := by rw [List.length_append, List.length_map, List.length_cons]
  have hr1 := (lNx_r (tp := tp) (g := g) hsn).2.2.1 hlt
  rw [gb_266_0, if_pos hp.1.1, gb_266_7]
  refine n_look hx hp.1 fun I1 x hF1 ht1 hA1 hv1 => ?_
  have hp1 := mPs_at hp hF1 ht1
  rw [Option.toList_some, List.singleton_append, gb_266_11, if_pos (z_inj (by rw [hv1, hc, e93])), gb_266_16]
  refine n_sq hp1.2.2.1 (by omega) (fun _ => ?_) (fun hm => absurd (List.mem_append_right _ List.mem_cons_self) hm)
  rw [Option.toList_some, List.singleton_append, gb_266_20, if_neg (by decide), gb_266_23]
  have q2 : (I1 50 0 2 + 1).toInt = s + 1 := by rw [z_add (by omega) (by omega), hA1, e1]
  generalize hI2 : gup I1 50 0 2 (I1 50 0 2 + 1) = I2
  have hF2 : (∀ k i j, ¬ ((k = 50 ∧ i = 0 ∧ j = 2)) → I2 k i j = I1 k i j) := fun k i j hn => by rw [← hI2, u_ne hn]
  have ht2 : mTk I2 tp n (.inr (lNx tp n s g)) := mTk_sign ht1 hlt hc rfl rfl (hF2 _ _ _ (by omega)) (hF2 _ _ _ (by omega)) (hF2 _ _ _ (by omega)) (by rw [← hI2, u_eq]; exact q2) (by decide)
  have hp2 := mPs_sign hp1 hlt hF2 ht2
  refine n_sqLoop P I2 L hp2.2.2.1 hP hp2.2.2.2.1 (by omega) fun I3 hF3 hw3 hc3 => ?_
  have q3 := hw3.1
  simp only [List.length_cons] at q3
  have ho3 : (I3 50 0 102).toInt = o := by rw [hF3 _ _ _ (by omega)]; exact hp2.2.1
  rw [gb_266_49]
  generalize hI4 : gup (gup I3 50 0 101 (I3 50 0 101 - 1)) 50 0 102 (I3 50 0 102 - 1) = I4
  have hF4 : (∀ k i j, ¬ ((k = 50 ∧ i = 0 ∧ (j = 101 ∨ j = 102))) → I4 k i j = I3 k i j) := fun k i j hn => by rw [← hI4, u_ne (by omega), u_ne (by omega)]
  have h101 : (I4 50 0 101).toInt = W.length := by rw [← hI4, u_j (by decide), u_eq, z_sub (by omega) (by omega), q3, e1]; omega
  have h102 : (I4 50 0 102).toInt = o - 1 := by rw [← hI4, u_eq, z_sub (by omega) (by omega), ho3, e1]
  have hp4 : mPs I4 tp n (lNx tp n s g).1 (lNx tp n s g).2 (o - 1) W (L ++ P) b := ⟨mTk_congr ht2 (fun j hj => by rw [hF4 _ _ _ (by omega), hF3 _ _ _ (by omega)]), h102, ⟨h101, gHp_congr (fun k _ => hF4 _ _ _ (by omega)) hw3.2.2⟩, mCd_congr hc3 (hF4 _ _ _ (by omega)) (fun j => hF4 _ _ _ (by omega)), by rw [List.length_append]; omega, by rw [hF4 _ _ _ (by omega), hF3 _ _ _ (by omega)]; exact hp2.2.2.2.2.2⟩
  refine n_nots hn W (o - 1) _ I4 hp4 ho1 (by omega) fun I5 hF5 hp5 => ?_
  rw [Option.toList_none, List.nil_append, gb_266_73]
  exact K I5 (fun k i j hn => by rw [hF5 _ _ _ (by omega), hF4 _ _ _ (by omega), hF3 _ _ _ (by omega), hF2 _ _ _ (by omega), hF1 _ _ _ (by omega)]) hp5
theorem n_T_and {B V L : List Int} (hx : mTx I tp n) (hp : mPs I tp n s g o (B.map gMc ++ V) L b) (hB : ∀ c ∈ B, gMc c = 10) (hV : V.headD 0 ≠ 10) (hw : lIs tp n (.inr (s, g)) 16 = true) (K : ∀ (I' : Nat → Nat → Nat → Int32), FM I I' → mPs I' tp n (lNx tp n s g).1 (lNx tp n s g).2 o (10 :: V) (L ++ B) b → Q (some (.inl 1)) (gwd S I' J h)) : (gq (d + 8) 266 76 [some (.inr (.inr (some (50, 0))))] [] (gwd S I J h) Q) := by
  have hn := hx.2.2.1
  have hsn := mTk_sn hp.1
  have hl := hp.2.2.2.2.1
  have hwi := lIs_iff.mp hw
  have hlt : s < n := lKd_lt hx.2.2.2.1 (Or.inl hwi.1)
  have e1 : (1 : Int32).toInt = 1 := rfl
  have hlen : (B.map gMc ++ V).length = B.length + V.length := by rw [List.length_append, List.length_map]
  have hr1 := (lNx_r (tp := tp) (g := g) hsn).2.2.1 hlt
  rw [gb_266_76]
  refine n_takes (i1 := 34) (by decide) hx hp.1 fun I1 x hF1 ht1 hA1 hv1 => ?_
  rw [show mWx.getD 34 0 = 16 from rfl] at ht1 hv1
  rw [if_pos hw] at hv1
  have e : lTkW tp n (.inr (s, g)) 16 = .inr (lNx tp n s g) := if_pos hwi
  rw [e] at ht1
  rw [Option.toList_some, List.singleton_append, gb_266_84, if_neg (by rw [hv1]; decide)]
  refine n_andLoop hV B I1 L (mWt_congr hp.2.2.1 (hF1 _ _ _ (by omega)) (fun j => hF1 _ _ _ (by omega))) hB (mCd_congr hp.2.2.2.1 (hF1 _ _ _ (by omega)) (fun j => hF1 _ _ _ (by omega))) (by omega) fun I2 hF2 hw2 hc2 => ?_
  have q := hw2.1
  rw [gb_266_103]
  refine ⟨g_in.mpr (by omega), ?_⟩
  rw [gb_266_114, z_n, q, Int.toNat_natCast]
  refine K _ (fun k i j hn => by rw [u_ne (by omega), u_ne (by omega), hF2 _ _ _ (by omega), hF1 _ _ _ (by omega)]) ⟨mTk_congr ht1 (fun j hj => by rw [u_j (by omega), u_k (by decide), hF2 _ _ _ (by omega)]), by rw [u_j (by decide), u_k (by decide), hF2 _ _ _ (by omega), hF1 _ _ _ (by omega)]; exact hp.2.1, ⟨?_, ?_, ?_⟩, mCd_congr hc2 (by rw [u_j (by decide), u_k (by decide)]) (fun j => by rw [u_k (by decide), u_k (by decide)]), by simp only [List.length_cons]; rw [List.length_append]; omega, by rw [u_j (by decide), u_k (by decide), hF2 _ _ _ (by omega), hF1 _ _ _ (by omega)]; exact hp.2.2.2.2.2⟩
  · rw [u_eq, u_k (by decide), z_add (by omega) (by omega), q, e1]; rfl
  · rw [u_k (by decide), u_eq]; rfl
  · exact gHp_congr (fun k hk => by rw [u_k (by decide), u_j (by omega)]) hw2.2
theorem n_T_noand {W L : List Int} (hx : mTx I tp n) (hp : mPs I tp n s g o W L b) (hw : ¬ lIs tp n (.inr (s, g)) 16 = true) (K : ∀ (I' : Nat → Nat → Nat → Int32), (∀ k i j, ¬ ((k = 50 ∧ i = 0 ∧ (j = 2 ∨ j = 4))) → I' k i j = I k i j) → mPs I' tp n s g o W L b → (gq (d + 8) 266 126 [some (.inr (.inr (some (50, 0))))] [] (gwd S I' J h) Q)) : (gq (d + 8) 266 76 [some (.inr (.inr (some (50, 0))))] [] (gwd S I J h) Q) := by
  rw [gb_266_76]
  refine n_takes (i1 := 34) (by decide) hx hp.1 fun I1 x hF1 ht1 hA1 hv1 => ?_
  rw [show mWx.getD 34 0 = 16 from rfl] at ht1 hv1
  rw [if_neg hw] at hv1
  have e : lTkW tp n (.inr (s, g)) 16 = .inr (s, g) := if_neg (fun q => hw (lIs_iff.mpr q))
  rw [e] at ht1
  rw [Option.toList_some, List.singleton_append, gb_266_84, if_pos hv1]
  exact K I1 hF1 ⟨ht1, by rw [hF1 _ _ _ (by omega)]; exact hp.2.1, mWt_congr hp.2.2.1 (hF1 _ _ _ (by omega)) (fun j => hF1 _ _ _ (by omega)), mCd_congr hp.2.2.2.1 (hF1 _ _ _ (by omega)) (fun j => hF1 _ _ _ (by omega)), hp.2.2.2.2.1, by rw [hF1 _ _ _ (by omega)]; exact hp.2.2.2.2.2⟩
theorem n_T_or {B V L : List Int} (hx : mTx I tp n) (hp : mPs I tp n s g o (B.map gMc ++ V) L b) (hB : ∀ c ∈ B, gMc c = 10 ∨ gMc c = 11) (hV : V.headD 0 ≠ 10 ∧ V.headD 0 ≠ 11) (hna : ¬ lIs tp n (.inr (s, g)) 16 = true) (hw : lIs tp n (.inr (s, g)) 15 = true) (K : ∀ (I' : Nat → Nat → Nat → Int32), FM I I' → mPs I' tp n (lNx tp n s g).1 (lNx tp n s g).2 o (11 :: V) (L ++ B) b → Q (some (.inl 1)) (gwd S I' J h)) : (gq (d + 8) 266 76 [some (.inr (.inr (some (50, 0))))] [] (gwd S I J h) Q) := by
  refine n_T_noand hx hp hna fun I0 hF0 hp0 => ?_
  have hx0 : mTx I0 tp n := mTx_FM hx (fun k i j hn => hF0 _ _ _ (by omega))
  have hn := hx.2.2.1
  have hsn := mTk_sn hp.1
  have hl := hp.2.2.2.2.1
  have hwi := lIs_iff.mp hw
  have hlt : s < n := lKd_lt hx.2.2.2.1 (Or.inl hwi.1)
  have e1 : (1 : Int32).toInt = 1 := rfl
  have hlen : (B.map gMc ++ V).length = B.length + V.length := by rw [List.length_append, List.length_map]
  have hr1 := (lNx_r (tp := tp) (g := g) hsn).2.2.1 hlt
  rw [gb_266_126]
  refine n_takes (i1 := 35) (by decide) hx0 hp0.1 fun I1 x hF1 ht1 hA1 hv1 => ?_
  rw [show mWx.getD 35 0 = 15 from rfl] at ht1 hv1
  rw [if_pos hw] at hv1
  have e : lTkW tp n (.inr (s, g)) 15 = .inr (lNx tp n s g) := if_pos hwi
  rw [e] at ht1
  rw [Option.toList_some, List.singleton_append, gb_266_134, if_neg (by rw [hv1]; decide)]
  refine n_orLoop hV B I1 L (mWt_congr hp0.2.2.1 (hF1 _ _ _ (by omega)) (fun j => hF1 _ _ _ (by omega))) hB (mCd_congr hp0.2.2.2.1 (hF1 _ _ _ (by omega)) (fun j => hF1 _ _ _ (by omega))) (by omega) fun I2 hF2 hw2 hc2 => ?_
  have q := hw2.1
  rw [gb_266_162]
  refine ⟨g_in.mpr (by omega), ?_⟩
  rw [gb_266_173, z_n, q, Int.toNat_natCast]
  refine K _ (fun k i j hn => by rw [u_ne (by omega), u_ne (by omega), hF2 _ _ _ (by omega), hF1 _ _ _ (by omega), hF0 _ _ _ (by omega)]) ⟨mTk_congr ht1 (fun j hj => by rw [u_j (by omega), u_k (by decide), hF2 _ _ _ (by omega)]), by rw [u_j (by decide), u_k (by decide), hF2 _ _ _ (by omega), hF1 _ _ _ (by omega)]; exact hp0.2.1, ⟨?_, ?_, ?_⟩, mCd_congr hc2 (by rw [u_j (by decide), u_k (by decide)]) (fun j => by rw [u_k (by decide), u_k (by decide)]), by simp only [List.length_cons]; rw [List.length_append]; omega, by rw [u_j (by decide), u_k (by decide), hF2 _ _ _ (by omega), hF1 _ _ _ (by omega)]; exact hp0.2.2.2.2.2⟩
  · rw [u_eq, u_k (by decide), z_add (by omega) (by omega), q, e1]; rfl
  · rw [u_k (by decide), u_eq]; rfl
  · exact gHp_congr (fun k hk => by rw [u_k (by decide), u_j (by omega)]) hw2.2
theorem n_T_last {W L : List Int} (hx : mTx I tp n) (hp : mPs I tp n s g o W L b) (hna : ¬ lIs tp n (.inr (s, g)) 16 = true) (hno : ¬ lIs tp n (.inr (s, g)) 15 = true) (K1 : ¬ 25 ∈ W → ∀ (I' : Nat → Nat → Nat → Int32), (∀ k i j, ¬ ((k = 50 ∧ i = 0 ∧ (j = 2 ∨ j = 4))) → I' k i j = I k i j) → mPs I' tp n s g o W L b → Q (some (.inl 0)) (gwd S I' J h)) (K0 : 25 ∈ W → ∀ (I' : Nat → Nat → Nat → Int32), FM I I' → mTk I' tp n (.inl (1, s)) → Q (some (.inl 0)) (gwd S I' J h)) : (gq (d + 8) 266 76 [some (.inr (.inr (some (50, 0))))] [] (gwd S I J h) Q) := by
  refine n_T_noand hx hp hna fun I0 hF0 hp0 => ?_
  have hx0 : mTx I0 tp n := mTx_FM hx (fun k i j hn => hF0 _ _ _ (by omega))
  have hn := hx.2.2.1
  have hsn := mTk_sn hp.1
  have hl := hp.2.2.2.2.1
  rw [gb_266_126]
  refine n_takes (i1 := 35) (by decide) hx0 hp0.1 fun I1 x hF1 ht1 hA1 hv1 => ?_
  rw [show mWx.getD 35 0 = 15 from rfl] at ht1 hv1 hA1
  have hA : (I1 50 0 2).toInt = s := hA1 (Bool.eq_false_iff.mpr hno)
  rw [if_neg hno] at hv1
  have e : lTkW tp n (.inr (s, g)) 15 = .inr (s, g) := if_neg (fun q => hno (lIs_iff.mpr q))
  rw [e] at ht1
  have hp1 : mPs I1 tp n s g o W L b := ⟨ht1, by rw [hF1 _ _ _ (by omega)]; exact hp0.2.1, mWt_congr hp0.2.2.1 (hF1 _ _ _ (by omega)) (fun j => hF1 _ _ _ (by omega)), mCd_congr hp0.2.2.2.1 (hF1 _ _ _ (by omega)) (fun j => hF1 _ _ _ (by omega)), hp0.2.2.2.2.1, by rw [hF1 _ _ _ (by omega)]; exact hp0.2.2.2.2.2⟩
  rw [Option.toList_some, List.singleton_append, gb_266_134, if_pos hv1, gb_266_185, if_pos ht1.1, gb_266_192]
  refine n_sq hp1.2.2.1 (by omega) (fun hm => ?_) (fun hm => ?_)
  · rw [Option.toList_some, List.singleton_append, gb_266_196, if_neg (by decide), gb_266_199]
    refine n_failAt ht1 rfl hA (by decide) fun I2 hF2 ht2 => ?_
    rw [Option.toList_none, List.nil_append, gb_266_208]
    exact K0 hm I2 (fun k i j hn => by rw [hF2 _ _ _ (by omega), hF1 _ _ _ (by omega), hF0 _ _ _ (by omega)]) ht2
  · rw [Option.toList_some, List.singleton_append, gb_266_196, if_pos rfl, gb_266_208]
    exact K1 hm I1 (fun k i j hn => by rw [hF1 _ _ _ (by omega), hF0 _ _ _ (by omega)]) hp1
