/-! The model takes words, signs and numbers. -/
variable {d S : Nat} {h : Nat × Option gNm} {I : Nat → Nat → Nat → Int32} {J : Nat → Nat → Nat → Int64} {Q : Option gV → gW → Prop}
theorem mTk_bad {I : Nat → Nat → Nat → Int32} {tp : Nat → Int} {n : Nat} {f p : Int} (h : mTk I tp n (.inl (f, p))) : I 50 0 5 ≠ 0 := fun e => h.2.1 (by rw [← h.1, e]; rfl)
theorem mTk_fail {tp : Nat → Int} {n : Nat} {a1 a2 : Int32} {f p : Int} (h1 : a1.toInt = f) (h2 : a2.toInt = p) (hf : f ≠ 0) : mTk (gup (gup I 50 0 5 a1) 50 0 6 a2) tp n (.inl (f, p)) := ⟨by rw [u_j (by decide), u_eq]; exact h1, hf, by rw [u_eq]; exact h2⟩
/-- a fault where the token stands -/
theorem n_failAt {tp : Nat → Int} {n s : Nat} {g : Bool} {a1 a2 : Int32} {f p : Int} (ht : mTk I tp n (.inr (s, g))) (h1 : a1.toInt = f) (h2 : a2.toInt = p) (hf : f ≠ 0) (K : ∀ (I' : Nat → Nat → Nat → Int32), (∀ k i j, ¬ ((k = 50 ∧ i = 0 ∧ (j = 5 ∨ j = 6))) → I' k i j = I k i j) → mTk I' tp n (.inl (f, p)) → Q none (gwd S I' J h)) : (gq d 162 0 [some (.inr (.inr (some (50, 0)))), some (.inl (a1)), some (.inl (a2))] [] (gwd S I J h) Q) := by
  rw [n_fail ht.1]
  exact K _ (fun k i j hn => by rw [u_ne (by omega), u_ne (by omega)]) (mTk_fail h1 h2 hf)
theorem n_failB {tp : Nat → Int} {n : Nat} {a1 a2 : Int32} {b : Int × Int} (ht : mTk I tp n (.inl b)) (K : Q none (gwd S I J h)) : (gq d 162 0 [some (.inr (.inr (some (50, 0)))), some (.inl (a1)), some (.inl (a2))] [] (gwd S I J h) Q) := by
  rw [n_fail2 (mTk_bad ht)]; exact K
theorem mTk_next {I I' : Nat → Nat → Nat → Int32} {tp : Nat → Int} {n s : Nat} {g : Bool} (ht : mTk I tp n (.inr (s, g))) (hw : lKd tp n s g = -2 ∨ lKd tp n s g = -3) (e5 : I' 50 0 5 = I 50 0 5) (e6 : I' 50 0 6 = I 50 0 6) (e2 : (I' 50 0 2).toInt = lEn tp n s) (e4 : (I' 50 0 4).toInt = lEn tp n s) : mTk I' tp n (.inr (lNx tp n s g)) := by
  obtain ⟨h1, h2, a, h3, h4, h5, h6, h7, h8⟩ := ht
  have hr := lEn_r (tp := tp) h5
  have hk := lSk_r (tp := tp) hr.2.1
  refine ⟨by rw [e5]; exact h1, by rw [e6]; exact h2, lEn tp n s, e2, hk.1, hk.2, rfl, ?_, by rw [e4]; omega⟩
  rw [e4]
  have hd : decide (lKd tp n s g = -2 ∨ lKd tp n s g = -3) = true := decide_eq_true hw
  show _ ↔ (decide (lKd tp n s g = -2 ∨ lKd tp n s g = -3) && decide (lSk tp n (lEn tp n s) = lEn tp n s)) = true
  rw [hd, Bool.true_and, decide_eq_true_iff]
  show ((lEn tp n s : Nat) : Int) = ((lSk tp n (lEn tp n s) : Nat) : Int) ↔ _
  omega
theorem mTk_sign {I I' : Nat → Nat → Nat → Int32} {tp : Nat → Int} {n s : Nat} {g : Bool} {c : Int} (ht : mTk I tp n (.inr (s, g))) (hs : s < n) (hc : lB tp n s = c) (hl : lIsL c = false) (hd : lIsD c = false) (e5 : I' 50 0 5 = I 50 0 5) (e6 : I' 50 0 6 = I 50 0 6) (e4 : I' 50 0 4 = I 50 0 4) (e2 : (I' 50 0 2).toInt = s + 1) (h0 : 0 ≤ c) : mTk I' tp n (.inr (lNx tp n s g)) := by
  obtain ⟨h1, h2, a, h3, h4, h5, h6, h7, h8⟩ := ht
  have hE : lEn tp n s = s + 1 := by rw [lEn_o (by rw [hc]; exact hl) (by rw [hc]; exact hd), if_pos hs]
  have hk := lSk_r (tp := tp) (n := n) (k := s + 1) (by omega)
  have hkd : lKd tp n s g = c := by rw [lKd_o (by rw [hc]; exact hl) (by rw [hc]; exact hd), hc]
  have hnx : lNx tp n s g = (lSk tp n (s + 1), false) := by
    unfold lNx
    rw [hE, hkd, decide_eq_false (by omega), Bool.false_and]
  rw [hnx]
  exact ⟨by rw [e5]; exact h1, by rw [e6]; exact h2, s + 1, e2, hk.1, hk.2, rfl, (by rw [e4]; exact ⟨fun h => by omega, fun h => by cases h⟩), by rw [e4]; omega⟩
theorem n_takes {tp : Nat → Int} {n i1 : Nat} {τ : lT} (hi : i1 < 52) (hx : mTx I tp n) (ht : mTk I tp n τ) (K : ∀ I' (x : Int32), (∀ k i j, ¬ ((k = 50 ∧ i = 0 ∧ (j = 2 ∨ j = 4))) → I' k i j = I k i j) → mTk I' tp n (lTkW tp n τ (mWx.getD i1 0)) → (lIs tp n τ (mWx.getD i1 0) = false → mAt I' τ) → x = (if lIs tp n τ (mWx.getD i1 0) = true then 1 else 0) → Q (some (.inl x)) (gwd S I' J h)) : (gq (d + 2) 167 0 [some (.inr (.inr (some (50, 0)))), some (.inr (.inr (some (53, i1))))] [] (gwd S I J h) Q) := by
  have hl := wOf_len i1 hi
  rw [gb_167_0]
  refine n_here hi hx ht fun I1 x hF1 ht1 hA hv => ?_
  rw [Option.toList_some, List.singleton_append, gb_167_5]
  by_cases w : lIs tp n τ (mWx.getD i1 0) = true
  · rw [if_pos w] at hv
    rw [if_neg (by rw [hv]; decide), gb_167_10]
    match τ, ht, ht1, hA, w with
    | .inr (s, g), ht, ht1, hA, w =>
      have hw := lIs_iff.mp w
      have hsn : s ≤ n := by obtain ⟨_, _, a, h3, h4, h5, h6, h7, h8⟩ := ht1; exact h5
      have hr := lEn_r (tp := tp) hsn
      have hlen : lEn tp n s - s = (wOf i1).length := by
        have := congrArg List.length ((lWd_at hl.2.2.2).mp hw.2)
        rw [lSl_len] at this; exact this
      have hA' : (I1 50 0 2).toInt = s := hA
      have el : (Int32.ofNat (gLens.getD i1 0)).toInt = (wOf i1).length := by rw [← hl.1]; exact z_of (n := ((wOf i1).length : Int)) (by omega) (by omega)
      have hn := hx.2.2.1
      have q : (I1 50 0 2 + Int32.ofNat (gLens.getD i1 0)).toInt = lEn tp n s := by rw [z_add (by omega) (by omega), hA', el]; omega
      refine K _ 1 (fun k i j hn => by rw [u_ne (by omega), u_ne (by omega), hF1 _ _ _ (by omega)]) ?_ (fun e => by rw [w] at e; cases e) (by rw [if_pos w])
      have e : lTkW tp n (.inr (s, g)) (mWx.getD i1 0) = .inr (lNx tp n s g) := if_pos hw
      rw [e]
      exact mTk_next ht1 (Or.inl hw.1) (by rw [u_j (by decide), u_j (by decide)]) (by rw [u_j (by decide), u_j (by decide)]) (by rw [u_j (by decide), u_eq]; exact q) (by rw [u_eq]; exact q)
  · rw [if_neg w] at hv
    rw [if_pos hv, gb_167_8]
    refine K I1 0 (fun k i j hn => hF1 _ _ _ (by omega)) ?_ (fun _ => hA) (by rw [if_neg w])
    match τ, ht, ht1, hA, w with
    | .inl b, ht, ht1, hA, w => exact ht1
    | .inr (s, g), ht, ht1, hA, w =>
      have e : lTkW tp n (.inr (s, g)) (mWx.getD i1 0) = .inr (s, g) := if_neg (fun e => w (lIs_iff.mpr e))
      rw [e]; exact ht1
theorem n_asks {tp : Nat → Int} {n i1 : Nat} {τ : lT} (hi : i1 < 52) (hx : mTx I tp n) (ht : mTk I tp n τ) (K : ∀ (I' : Nat → Nat → Nat → Int32), (∀ k i j, ¬ ((k = 50 ∧ i = 0 ∧ (j = 2 ∨ j = 4 ∨ j = 5 ∨ j = 6))) → I' k i j = I k i j) → mTk I' tp n (lAskW tp n τ (mWx.getD i1 0)) → Q none (gwd S I' J h)) : (gq (d + 3) 168 0 [some (.inr (.inr (some (50, 0)))), some (.inr (.inr (some (53, i1))))] [] (gwd S I J h) Q) := by
  match τ, ht with
  | .inl b, ht =>
    rw [gb_168_0, if_neg (mTk_bad ht), gb_168_24]
    exact K I (fun _ _ _ _ => rfl) ht
  | .inr (s, g), ht =>
    rw [gb_168_0, if_pos ht.1, gb_168_7]
    refine n_takes hi hx ht fun I1 x hF1 ht1 hA hv => ?_
    rw [Option.toList_some, List.singleton_append, gb_168_12]
    by_cases w : lIs tp n (.inr (s, g)) (mWx.getD i1 0) = true
    · rw [if_pos w] at hv
      have e : lTkW tp n (.inr (s, g)) (mWx.getD i1 0) = .inr (lNx tp n s g) := if_pos (lIs_iff.mp w)
      have e2 : lAskW tp n (.inr (s, g)) (mWx.getD i1 0) = .inr (lNx tp n s g) := if_pos (lIs_iff.mp w)
      rw [if_neg (by rw [hv]; decide), gb_168_24]
      exact K I1 (fun k i j hn => hF1 _ _ _ (by omega)) (by rw [e2, ← e]; exact ht1)
    · rw [if_neg w] at hv
      have e : lTkW tp n (.inr (s, g)) (mWx.getD i1 0) = .inr (s, g) := if_neg (fun e => w (lIs_iff.mpr e))
      have e2 : lAskW tp n (.inr (s, g)) (mWx.getD i1 0) = .inl (1, s) := if_neg (fun e => w (lIs_iff.mpr e))
      rw [e] at ht1
      rw [if_pos hv, gb_168_15]
      refine n_failAt ht1 rfl (hA (Bool.eq_false_iff.mpr w)) (by decide) fun I2 hF2 ht2 => ?_
      rw [Option.toList_none, List.nil_append, gb_168_24]
      exact K I2 (fun k i j hn => by rw [hF2 _ _ _ (by omega), hF1 _ _ _ (by omega)]) (by rw [e2]; exact ht2)
theorem lIsC_iff {tp : Nat → Int} {n s : Nat} {g : Bool} {c : Int} : lIsC tp n (.inr (s, g)) c = true ↔ lB tp n s = c := decide_eq_true_iff
theorem n_tsign {tp : Nat → Int} {n : Nat} {τ : lT} {a1 : Int32} {c : Int} (h1 : a1.toInt = c) (h0 : 0 ≤ c) (hl : lIsL c = false) (hd : lIsD c = false) (hx : mTx I tp n) (ht : mTk I tp n τ) (K1 : ∀ (I' : Nat → Nat → Nat → Int32) s g, τ = .inr (s, g) → lB tp n s = c → s < n → (∀ k i j, ¬ ((k = 50 ∧ i = 0 ∧ j = 2)) → I' k i j = I k i j) → (I' 50 0 2).toInt = s + 1 → mTk I' tp n (.inr (lNx tp n s g)) → Q (some (.inl 1)) (gwd S I' J h)) (K0 : ∀ (I' : Nat → Nat → Nat → Int32), lIsC tp n τ c = false → (∀ k i j, ¬ ((k = 50 ∧ i = 0 ∧ j = 2)) → I' k i j = I k i j) → mAt I' τ → mTk I' tp n τ → Q (some (.inl 0)) (gwd S I' J h)) : (gq (d + 1) 169 0 [some (.inr (.inr (some (50, 0)))), some (.inl (a1))] [] (gwd S I J h) Q) := by
  match τ, ht with
  | .inl b, ht =>
    rw [gb_169_0, if_neg (mTk_bad ht), gb_169_15]
    exact K0 I rfl (fun _ _ _ _ => rfl) trivial ht
  | .inr (s, g), ht =>
    have e1 : (1 : Int32).toInt = 1 := rfl
    rw [gb_169_0, if_pos ht.1, gb_169_7]
    refine n_look hx ht fun I1 x hF1 ht1 hA hv => ?_
    rw [Option.toList_some, List.singleton_append, gb_169_11]
    by_cases w : lB tp n s = c
    · have hsn : s < n := lB_le (tp := tp) (by omega)
      have hn := hx.2.2.1
      have q : (I1 50 0 2 + 1).toInt = s + 1 := by rw [z_add (by omega) (by omega), hA, e1]
      rw [if_pos (z_inj (by rw [hv, h1, w])), gb_169_17]
      exact K1 _ s g rfl w hsn (fun k i j hn => by rw [u_ne (by omega), hF1 _ _ _ (by omega)]) (by rw [u_eq]; exact q) (mTk_sign ht1 hsn w hl hd (u_j (by decide)) (u_j (by decide)) (u_j (by decide)) (by rw [u_eq]; exact q) h0)
    · rw [if_neg (fun e => w (by rw [← hv, ← h1, e])), gb_169_15]
      exact K0 I1 (Bool.eq_false_iff.mpr (fun e => w (lIsC_iff.mp e))) (fun k i j hn => hF1 _ _ _ (by omega)) hA ht1
theorem n_asign {tp : Nat → Int} {n : Nat} {τ : lT} {a1 : Int32} {c : Int} (h1 : a1.toInt = c) (h0 : 0 ≤ c) (hl : lIsL c = false) (hd : lIsD c = false) (hx : mTx I tp n) (ht : mTk I tp n τ) (K : ∀ (I' : Nat → Nat → Nat → Int32), (∀ k i j, ¬ ((k = 50 ∧ i = 0 ∧ (j = 2 ∨ j = 5 ∨ j = 6))) → I' k i j = I k i j) → mTk I' tp n (lAskC tp n τ c) → Q none (gwd S I' J h)) : (gq (d + 2) 170 0 [some (.inr (.inr (some (50, 0)))), some (.inl (a1))] [] (gwd S I J h) Q) := by
  match τ, ht with
  | .inl b, ht =>
    rw [gb_170_0, if_neg (mTk_bad ht), gb_170_24]
    exact K I (fun _ _ _ _ => rfl) ht
  | .inr (s, g), ht =>
    rw [gb_170_0, if_pos ht.1, gb_170_7]
    refine n_tsign h1 h0 hl hd hx ht (fun I1 s1 g1 he hc hsn hF1 h2 ht1 => ?_) (fun I1 hc hF1 hA ht1 => ?_)
    · obtain ⟨rfl, rfl⟩ : s = s1 ∧ g = g1 := by injection he with he; injection he with h1 h2; exact ⟨h1, h2⟩
      have e2 : lAskC tp n (.inr (s, g)) c = .inr (lNx tp n s g) := if_pos hc
      rw [Option.toList_some, List.singleton_append, gb_170_12, if_neg (by decide), gb_170_24]
      exact K I1 (fun k i j hn => hF1 _ _ _ (by omega)) (by rw [e2]; exact ht1)
    · have e2 : lAskC tp n (.inr (s, g)) c = .inl (1, s) := if_neg (fun e => by rw [lIsC_iff.mpr e] at hc; cases hc)
      rw [Option.toList_some, List.singleton_append, gb_170_12, if_pos rfl, gb_170_15]
      refine n_failAt ht1 rfl hA (by decide) fun I2 hF2 ht2 => ?_
      rw [Option.toList_none, List.nil_append, gb_170_24]
      exact K I2 (fun k i j hn => by rw [hF2 _ _ _ (by omega), hF1 _ _ _ (by omega)]) (by rw [e2]; exact ht2)
theorem n_num_loop {tp : Nat → Int} {n s e : Nat} {lo hi : Int} {a1 a2 : Int32} (hlo : a1.toInt = lo) (hhi : a2.toInt = hi) (hn : n ≤ 1600) (he : e ≤ n) (hse : s < e) (hdig : ∀ j, s ≤ j → j < e → lIsD (lB tp n j) = true) (hstop : lIsD (lB tp n e) = false) : ∀ (m k : Nat) (I : Nat → Nat → Nat → Int32) (a3 a4 : Int32), k + m = e - s → k ≤ 4 → (∀ j, j < n → (I 51 0 j).toInt = tp j) → (I 50 0 3).toInt = n → (I 50 0 2).toInt = s + k → a3.toInt = s → a4.toInt = lDg tp s k → I 50 0 5 = 0 →
    (∀ (I' : Nat → Nat → Nat → Int32) x, 4 < e - s → (∀ k i j, ¬ ((k = 50 ∧ i = 0 ∧ (j = 2 ∨ j = 5 ∨ j = 6))) → I' k i j = I k i j) → (I' 50 0 5).toInt = 1 → (I' 50 0 6).toInt = s + 4 → Q (some (.inl x)) (gwd S I' J h)) →
    (∀ (I' : Nat → Nat → Nat → Int32) x, e - s ≤ 4 → (lDg tp s (e - s) < lo ∨ hi < lDg tp s (e - s)) → (∀ k i j, ¬ ((k = 50 ∧ i = 0 ∧ (j = 2 ∨ j = 4 ∨ j = 5 ∨ j = 6 ∨ j = 10))) → I' k i j = I k i j) → (I' 50 0 5).toInt = 2 → (I' 50 0 6).toInt = s → Q (some (.inl x)) (gwd S I' J h)) →
    (∀ (I' : Nat → Nat → Nat → Int32) x, e - s ≤ 4 → ¬ (lDg tp s (e - s) < lo ∨ hi < lDg tp s (e - s)) → (∀ k i j, ¬ ((k = 50 ∧ i = 0 ∧ (j = 2 ∨ j = 4 ∨ j = 10))) → I' k i j = I k i j) → (I' 50 0 2).toInt = e → (I' 50 0 4).toInt = e → x.toInt = lDg tp s (e - s) → Q (some (.inl x)) (gwd S I' J h)) → (gq (d + 1) 171 49 [some (.inr (.inr (some (50, 0)))), some (.inl (a1)), some (.inl (a2)), some (.inl (a3)), some (.inl (a4))] [] (gwd S I J h) Q)
  | 0, k, I, a3, a4, hm, hk, hT, hE, h2, h3, h4, h5, K1, K2, K0 => by
    have e1 : (1 : Int32).toInt = 1 := rfl
    have ek : k = e - s := by omega
    have dig : ∀ j, j < k → 48 ≤ tp (s + j) ∧ tp (s + j) ≤ 57 := fun j hj => by
      have := hdig (s + j) (by omega) (by omega)
      rw [lB_lt (by omega), lIsD_iff] at this; exact this
    have dr := lDg_r dig
    have d4 := lDg_4 hk dig
    have fin : (gq (d + 1) 171 129 [some (.inr (.inr (some (50, 0)))), some (.inl (a1)), some (.inl (a2)), some (.inl (a3)), some (.inl (a4))] [] (gwd S I J h) Q) := by
      rw [gb_171_129, n_isIn, Option.toList_some, List.singleton_append, gb_171_152, z_64, z_64, z_64, h4, hlo, hhi]
      by_cases w : lo ≤ lDg tp s k ∧ lDg tp s k ≤ hi
      · rw [zb_pos w, if_neg (by decide), gb_171_164]
        refine K0 _ _ (by omega) (by rw [← ek]; omega) (fun k i j hn => by rw [u_ne (by omega), u_ne (by omega)]) (by rw [u_j (by decide), u_j (by decide), h2]; omega) (by rw [u_j (by decide), u_eq, h2]; omega) (by rw [h4, ek])
      · rw [zb_neg w, if_pos rfl, gb_171_155, n_fail (by rw [u_j (by decide), u_j (by decide)]; exact h5), Option.toList_none, List.nil_append, gb_171_164]
        refine K2 _ _ (by omega) (by rw [← ek]; omega) (fun k i j hn => by rw [u_ne (by omega), u_ne (by omega), u_ne (by omega), u_ne (by omega)]) (by rw [u_j (by decide), u_eq]; rfl) (by rw [u_eq, u_eq]; exact h3)
    rw [gb_171_49]
    by_cases w : e < n
    · have hv := hT e w
      have h2' : (I 50 0 2).toInt = e := by omega
      rw [if_neg (by rw [z_le]; omega), gb_171_60]
      refine ⟨g_in.mpr (by omega), ?_⟩
      rw [z_n, h2', Int.toNat_natCast, gb_171_69, n_isD, Option.toList_some, List.singleton_append, gb_171_72, if_pos (by
        rw [zb_0, hv]; rw [lB_lt w, lIsD_f] at hstop; exact hstop)]
      exact fin
    · rw [if_pos (by rw [z_le]; omega)]; exact fin
  | m + 1, k, I, a3, a4, hm, hk, hT, hE, h2, h3, h4, h5, K1, K2, K0 => by
    have e1 : (1 : Int32).toInt = 1 := rfl
    have e4 : (4 : Int32).toInt = 4 := rfl
    have e10 : (10 : Int32).toInt = 10 := rfl
    have e48 : (48 : Int32).toInt = 48 := rfl
    have w : s + k < n := by omega
    have hv := hT (s + k) w
    have hd := hdig (s + k) (by omega) (by omega)
    rw [lB_lt w, lIsD_iff] at hd
    have q : (I 50 0 2 - a3).toInt = k := by rw [z_sub (by omega) (by omega), h2, h3]; omega
    have n2 : (I 50 0 2).toNatClampNeg = s + k := by rw [z_n, h2]; omega
    rw [gb_171_49, if_neg (by rw [z_le]; omega), gb_171_60]
    refine ⟨g_in.mpr (by omega), ?_⟩
    rw [n2, gb_171_69, n_isD, Option.toList_some, List.singleton_append, gb_171_72, if_neg (by rw [zb_0, hv]; exact fun e => e hd), gb_171_75]
    by_cases w4 : k = 4
    · rw [if_pos (z_inj (by rw [q, w4]; rfl)), gb_171_85, n_fail h5, Option.toList_none, List.nil_append, gb_171_94]
      exact K1 _ _ (by omega) (fun k i j hn => by rw [u_ne (by omega), u_ne (by omega)]) (by rw [u_j (by decide), u_eq]; rfl) (by rw [u_eq, h2, w4]; rfl)
    · have dig : ∀ j, j < k → 48 ≤ tp (s + j) ∧ tp (s + j) ≤ 57 := fun j hj => by
        have := hdig (s + j) (by omega) (by omega)
        rw [lB_lt (by omega), lIsD_iff] at this; exact this
      have dr := lDg_r dig
      have d4 := lDg_4 hk dig
      have q2 : (10 * a4).toInt = 10 * lDg tp s k := by rw [z_mul (by rw [h4, e10]; omega) (by rw [h4, e10]; omega), h4, e10]
      have q3 : (10 * a4 + I 51 0 (s + k)).toInt = 10 * lDg tp s k + tp (s + k) := by rw [z_add (by omega) (by omega), q2, hv]
      have q4 : (10 * a4 + I 51 0 (s + k) - 48).toInt = lDg tp s (k + 1) := by rw [z_sub (by omega) (by omega), q3, e48]; rfl
      rw [if_neg (fun e => w4 (by have := congrArg Int32.toInt e; rw [q, e4] at this; omega)), gb_171_96]
      refine ⟨g_in.mpr (by omega), ?_⟩
      rw [n2, gb_171_110]
      refine n_num_loop hlo hhi hn he hse hdig hstop m (k + 1) _ a3 _ (by omega) (by omega) (fun j hj => by rw [u_k (by decide)]; exact hT j hj) (by rw [u_j (by decide)]; exact hE) (by rw [u_eq, z_add (by omega) (by omega), h2, e1]; omega) h3 q4 (by rw [u_j (by decide)]; exact h5) (fun I' x c1 hF c2 c3 => K1 I' x c1 (fun k i j hn => by rw [hF _ _ _ hn, u_ne (by omega)]) c2 c3) (fun I' x c1 c1' hF c2 c3 => K2 I' x c1 c1' (fun k i j hn => by rw [hF _ _ _ hn, u_ne (by omega)]) c2 c3) (fun I' x c1 c1' hF c2 c3 c4 => K0 I' x c1 c1' (fun k i j hn => by rw [hF _ _ _ hn, u_ne (by omega)]) c2 c3 c4)
/-- a number between two -/
theorem n_number {tp : Nat → Int} {n : Nat} {τ : lT} {lo hi : Int} {a1 a2 : Int32} {x3 x4 : Option gV} (hlo : a1.toInt = lo) (hhi : a2.toInt = hi) (hx : mTx I tp n) (ht : mTk I tp n τ) (K : ∀ I' (x : Int32), (∀ k i j, ¬ ((k = 50 ∧ i = 0 ∧ (j = 2 ∨ j = 4 ∨ j = 5 ∨ j = 6 ∨ j = 10))) → I' k i j = I k i j) → mTk I' tp n (lNumT tp n lo hi τ).1 → (∀ q, (lNumT tp n lo hi τ).1 = .inr q → x.toInt = (lNumT tp n lo hi τ).2) → Q (some (.inl x)) (gwd S I' J h)) : (gq (d + 1) 171 0 [some (.inr (.inr (some (50, 0)))), some (.inl (a1)), some (.inl (a2)), x3, x4] [] (gwd S I J h) Q) := by
  match τ, ht with
  | .inl b, ht =>
    rw [gb_171_0, if_neg (mTk_bad ht), gb_171_7]
    exact K I 0 (fun _ _ _ _ => rfl) ht (fun q e => by cases e)
  | .inr (s, g), ht =>
    have hN : lNumT tp n lo hi (.inr (s, g)) = if lKd tp n s g ≠ -3 then (.inl (1, (s : Int)), 0) else if 4 < lEn tp n s - s then (.inl (1, (s : Int) + 4), 0) else if lDg tp s (lEn tp n s - s) < lo ∨ hi < lDg tp s (lEn tp n s - s) then (.inl (2, (s : Int)), 0) else (.inr (lNx tp n s g), lDg tp s (lEn tp n s - s)) := rfl
    have hnum := lKd_num (s := s) (g := g) hx.2.2.2.1
    rw [gb_171_0, if_pos ht.1, gb_171_9]
    refine n_look hx ht fun I1 x hF1 ht1 hA hv => ?_
    have hx1 : mTx I1 tp n := mTx_congr hx (fun j => hF1 _ _ _ (by omega)) (hF1 _ _ _ (by omega)) (fun i j => hF1 _ _ _ (by omega))
    rw [Option.toList_some, List.singleton_append, gb_171_13, n_isD, Option.toList_some, List.singleton_append, gb_171_16]
    have no : lKd tp n s g ≠ -3 → (gq (d + 1) 171 30 [some (.inr (.inr (some (50, 0)))), some (.inl (a1)), some (.inl (a2)), x3, x4] [] (gwd S I1 J h) Q) := fun hno => by
      rw [if_pos hno] at hN
      rw [gb_171_30]
      refine n_failAt ht1 rfl hA (by decide) fun I2 hF2 ht2 => ?_
      rw [Option.toList_none, List.nil_append, gb_171_39]
      exact K I2 0 (fun k i j hn => by rw [hF2 _ _ _ (by omega), hF1 _ _ _ (by omega)]) (by rw [hN]; exact ht2) (fun q e => by rw [hN] at e; cases e)
    have hsn : s ≤ n := by obtain ⟨_, _, a, h3, h4, h5, h6, h7, h8⟩ := ht1; exact h5
    by_cases w1 : lIsD (lB tp n s) = true
    case neg =>
      rw [if_pos (by rw [zb_0, hv]; exact fun e => w1 (lIsD_iff.mpr e))]
      exact no (fun e => w1 (hnum.mp e).1)
    rw [if_neg (by rw [zb_0, hv]; exact fun e => e (lIsD_iff.mp w1)), gb_171_19]
    have h7 : (I1 50 0 4).toInt = s ↔ g = true := by obtain ⟨_, _, a, _, _, _, _, h7, _⟩ := ht1; exact h7
    cases hg : g with
    | true =>
      rw [if_pos (z_inj (by rw [hA]; exact (h7.mpr hg).symm))]
      exact no (fun e => by have := (hnum.mp e).2; rw [hg] at this; cases this)
    | false =>
      rw [if_neg (fun e => by have := h7.mp (by rw [← e, hA]); rw [hg] at this; cases this), gb_171_41]
      have hk3 : lKd tp n s g = -3 := hnum.mpr ⟨w1, hg⟩
      rw [if_neg (fun e => e hk3)] at hN
      have hE := lEn_D w1
      have hr := lEn_r (tp := tp) hsn
      have hs1 : s < n := lB_le (tp := tp) (by rw [lIsD_iff] at w1; omega)
      refine n_num_loop (e := lEn tp n s) hlo hhi hx.2.2.1 hr.2.1 (hr.2.2 hs1) (fun j h1 h2 => lRun_in lD_m1 h1 (by rw [← hE]; exact h2)) (by rw [hE]; exact lRun_stop lD_m1) (lEn tp n s - s) 0 I1 _ _ (by omega) (by omega) hx1.1 hx1.2.1 (by rw [hA]; omega) hA rfl ht1.1 (fun I2 x c1 hF2 c2 c3 => ?_) (fun I2 x c1 c1' hF2 c2 c3 => ?_) (fun I2 x c1 c1' hF2 c2 c3 c4 => ?_)
      · rw [if_pos c1] at hN
        exact K I2 x (fun k i j hn => by rw [hF2 _ _ _ (by omega), hF1 _ _ _ (by omega)]) (by rw [hN]; exact ⟨c2, by decide, c3⟩) (fun q e => by rw [hN] at e; cases e)
      · rw [if_neg (by omega), if_pos c1'] at hN
        exact K I2 x (fun k i j hn => by rw [hF2 _ _ _ (by omega), hF1 _ _ _ (by omega)]) (by rw [hN]; exact ⟨c2, by decide, c3⟩) (fun q e => by rw [hN] at e; cases e)
      · rw [if_neg (by omega), if_neg c1'] at hN
        exact K I2 x (fun k i j hn => by rw [hF2 _ _ _ (by omega), hF1 _ _ _ (by omega)]) (by rw [hN]; exact mTk_next ht1 (Or.inr hk3) (hF2 _ _ _ (by omega)) (hF2 _ _ _ (by omega)) c2 c3) (fun q e => by rw [hN]; exact c4)

def lOwn (tp : Nat → Int) (n : Nat) : lT → Bool
  | .inl _ => false
  | .inr (s, g) => decide (lKd tp n s g = -2 ∧ 0 ≤ lWd tp s (lEn tp n s) ∧ lWd tp s (lEn tp n s) < 27)
theorem own_tbl : ∀ w, w < 27 → ∃ i, i < 27 ∧ mWx.getD i 0 = w := by decide +kernel
theorem own_tbl2 : ∀ i, i < 27 → mWx.getD i 0 < 27 := by decide +kernel
theorem lOwn_of {tp : Nat → Int} {n i : Nat} {τ : lT} (hi : i < 27) (h : lIs tp n τ (mWx.getD i 0) = true) : lOwn tp n τ = true := by
  match τ, h with
  | .inr (s, g), h =>
    have h2 := lIs_iff.mp h
    have h3 := own_tbl2 i hi
    exact decide_eq_true ⟨h2.1, by omega, by omega⟩
theorem lOwn_no {tp : Nat → Int} {n : Nat} {τ : lT} (h : ∀ i, i < 27 → ¬ lIs tp n τ (mWx.getD i 0) = true) : lOwn tp n τ = false := by
  match τ, h with
  | .inl b, h => rfl
  | .inr (s, g), h =>
    refine Bool.eq_false_iff.mpr fun e => ?_
    have e' : lKd tp n s g = -2 ∧ 0 ≤ lWd tp s (lEn tp n s) ∧ lWd tp s (lEn tp n s) < 27 := of_decide_eq_true e
    obtain ⟨i, hi, hw⟩ := own_tbl (lWd tp s (lEn tp n s)).toNat (by omega)
    exact h i hi (lIs_iff.mpr ⟨e'.1, by rw [hw]; omega⟩)
theorem n_own {tp : Nat → Int} {n : Nat} {τ : lT} {x1 : Option gV} (hx : mTx I tp n) (ht : mTk I tp n τ) (K : ∀ I' (x : Int32), (∀ k i j, ¬ ((k = 50 ∧ i = 0 ∧ j = 2)) → I' k i j = I k i j) → mTk I' tp n τ → mAt I' τ → x = (if lOwn tp n τ = true then 1 else 0) → Q (some (.inl x)) (gwd S I' J h)) : (gq (d + 2) 172 0 [some (.inr (.inr (some (50, 0)))), x1] [] (gwd S I J h) Q) := by
  have tx : ∀ (I' : Nat → Nat → Nat → Int32), (∀ k i j, ¬ ((k = 50 ∧ i = 0 ∧ j = 2)) → I' k i j = I k i j) → mTx I' tp n := fun I' hF => mTx_congr hx (fun j => hF _ _ _ (by omega)) (hF _ _ _ (by omega)) (fun i j => hF _ _ _ (by omega))
  have t337 : ∀ (I' : Nat → Nat → Nat → Int32) (a1 : Int32), (∀ k i j, ¬ ((k = 50 ∧ i = 0 ∧ j = 2)) → I' k i j = I k i j) → mTk I' tp n τ → mAt I' τ → lOwn tp n τ = true → (gq (d + 2) 172 337 [some (.inr (.inr (some (50, 0)))), some (.inl (a1))] [] (gwd S I' J h) Q) := fun I' _ hF h1 h2 h3 => by
    rw [gb_172_337, gb_172_342]
    exact ⟨rfl, K I' 1 hF h1 h2 (by rw [if_pos h3])⟩
  have t294 : ∀ (I' : Nat → Nat → Nat → Int32) (a1 : Int32), (∀ k i j, ¬ ((k = 50 ∧ i = 0 ∧ j = 2)) → I' k i j = I k i j) → mTk I' tp n τ → mAt I' τ → lOwn tp n τ = true → (gq (d + 2) 172 294 [some (.inr (.inr (some (50, 0)))), some (.inl (a1))] [] (gwd S I' J h) Q) := fun I' _ hF h1 h2 h3 => by
    rw [gb_172_294, gb_172_299, if_neg (by decide)]
    exact t337 I' _ hF h1 h2 h3
  have t218 : ∀ (I' : Nat → Nat → Nat → Int32) (a1 : Int32), (∀ k i j, ¬ ((k = 50 ∧ i = 0 ∧ j = 2)) → I' k i j = I k i j) → mTk I' tp n τ → mAt I' τ → lOwn tp n τ = true → (gq (d + 2) 172 218 [some (.inr (.inr (some (50, 0)))), some (.inl (a1))] [] (gwd S I' J h) Q) := fun I' _ hF h1 h2 h3 => by
    rw [gb_172_218, gb_172_223, if_neg (by decide)]
    exact t294 I' _ hF h1 h2 h3
  have t142 : ∀ (I' : Nat → Nat → Nat → Int32) (a1 : Int32), (∀ k i j, ¬ ((k = 50 ∧ i = 0 ∧ j = 2)) → I' k i j = I k i j) → mTk I' tp n τ → mAt I' τ → lOwn tp n τ = true → (gq (d + 2) 172 142 [some (.inr (.inr (some (50, 0)))), some (.inl (a1))] [] (gwd S I' J h) Q) := fun I' _ hF h1 h2 h3 => by
    rw [gb_172_142, gb_172_147, if_neg (by decide)]
    exact t218 I' _ hF h1 h2 h3
  have t66 : ∀ (I' : Nat → Nat → Nat → Int32) (x1 : Option gV), (∀ k i j, ¬ ((k = 50 ∧ i = 0 ∧ j = 2)) → I' k i j = I k i j) → mTk I' tp n τ → mAt I' τ → lOwn tp n τ = true → (gq (d + 2) 172 66 [some (.inr (.inr (some (50, 0)))), x1] [] (gwd S I' J h) Q) := fun I' _ hF h1 h2 h3 => by
    rw [gb_172_66, gb_172_71, if_neg (by decide)]
    exact t142 I' _ hF h1 h2 h3
  have hF0 : (∀ k i j, ¬ ((k = 50 ∧ i = 0 ∧ j = 2)) → I k i j = I k i j) := fun _ _ _ _ => rfl
  rw [gb_172_0]
  refine n_here (i1 := 0) (by decide) (tx I hF0) ht fun I1 x2 hG1 ht1 hA1 hv1 => ?_
  have hF1 : (∀ k i j, ¬ ((k = 50 ∧ i = 0 ∧ j = 2)) → I1 k i j = I k i j) := fun k i j hn => by rw [hG1 _ _ _ hn, hF0 _ _ _ hn]
  rw [Option.toList_some, List.singleton_append, gb_172_8]
  by_cases w0 : lIs tp n τ (mWx.getD 0 0) = true
  case pos =>
    rw [if_pos w0] at hv1
    rw [if_neg (by rw [hv1]; decide)]
    exact t66 I1 _ hF1 ht1 hA1 (lOwn_of (by decide) w0)
  rw [if_neg w0] at hv1
  rw [if_pos hv1]
  rw [gb_172_11]
  refine n_here (i1 := 1) (by decide) (tx I1 hF1) ht1 fun I2 x3 hG2 ht2 hA2 hv2 => ?_
  have hF2 : (∀ k i j, ¬ ((k = 50 ∧ i = 0 ∧ j = 2)) → I2 k i j = I k i j) := fun k i j hn => by rw [hG2 _ _ _ hn, hF1 _ _ _ hn]
  rw [Option.toList_some, List.singleton_append, gb_172_19]
  by_cases w1 : lIs tp n τ (mWx.getD 1 0) = true
  case pos =>
    rw [if_pos w1] at hv2
    rw [if_neg (by rw [hv2]; decide)]
    exact t66 I2 _ hF2 ht2 hA2 (lOwn_of (by decide) w1)
  rw [if_neg w1] at hv2
  rw [if_pos hv2]
  rw [gb_172_22]
  refine n_here (i1 := 2) (by decide) (tx I2 hF2) ht2 fun I3 x4 hG3 ht3 hA3 hv3 => ?_
  have hF3 : (∀ k i j, ¬ ((k = 50 ∧ i = 0 ∧ j = 2)) → I3 k i j = I k i j) := fun k i j hn => by rw [hG3 _ _ _ hn, hF2 _ _ _ hn]
  rw [Option.toList_some, List.singleton_append, gb_172_30]
  by_cases w2 : lIs tp n τ (mWx.getD 2 0) = true
  case pos =>
    rw [if_pos w2] at hv3
    rw [if_neg (by rw [hv3]; decide)]
    exact t66 I3 _ hF3 ht3 hA3 (lOwn_of (by decide) w2)
  rw [if_neg w2] at hv3
  rw [if_pos hv3]
  rw [gb_172_33]
  refine n_here (i1 := 3) (by decide) (tx I3 hF3) ht3 fun I4 x5 hG4 ht4 hA4 hv4 => ?_
  have hF4 : (∀ k i j, ¬ ((k = 50 ∧ i = 0 ∧ j = 2)) → I4 k i j = I k i j) := fun k i j hn => by rw [hG4 _ _ _ hn, hF3 _ _ _ hn]
  rw [Option.toList_some, List.singleton_append, gb_172_41]
  by_cases w3 : lIs tp n τ (mWx.getD 3 0) = true
  case pos =>
    rw [if_pos w3] at hv4
    rw [if_neg (by rw [hv4]; decide)]
    exact t66 I4 _ hF4 ht4 hA4 (lOwn_of (by decide) w3)
  rw [if_neg w3] at hv4
  rw [if_pos hv4]
  rw [gb_172_44]
  refine n_here (i1 := 4) (by decide) (tx I4 hF4) ht4 fun I5 x6 hG5 ht5 hA5 hv5 => ?_
  have hF5 : (∀ k i j, ¬ ((k = 50 ∧ i = 0 ∧ j = 2)) → I5 k i j = I k i j) := fun k i j hn => by rw [hG5 _ _ _ hn, hF4 _ _ _ hn]
  rw [Option.toList_some, List.singleton_append, gb_172_52]
  by_cases w4 : lIs tp n τ (mWx.getD 4 0) = true
  case pos =>
    rw [if_pos w4] at hv5
    rw [if_neg (by rw [hv5]; decide)]
    exact t66 I5 _ hF5 ht5 hA5 (lOwn_of (by decide) w4)
  rw [if_neg w4] at hv5
  rw [if_pos hv5]
  rw [gb_172_55]
  refine n_here (i1 := 5) (by decide) (tx I5 hF5) ht5 fun I6 x7 hG6 ht6 hA6 hv6 => ?_
  have hF6 : (∀ k i j, ¬ ((k = 50 ∧ i = 0 ∧ j = 2)) → I6 k i j = I k i j) := fun k i j hn => by rw [hG6 _ _ _ hn, hF5 _ _ _ hn]
  rw [Option.toList_some, List.singleton_append, gb_172_63]
  by_cases w5 : lIs tp n τ (mWx.getD 5 0) = true
  case pos =>
    rw [if_pos w5] at hv6
    rw [if_neg (by rw [hv6]; decide)]
    exact t66 I6 _ hF6 ht6 hA6 (lOwn_of (by decide) w5)
  rw [if_neg w5] at hv6
  rw [if_pos hv6, gb_172_70, gb_172_71]
  rw [if_pos rfl]
  rw [gb_172_76]
  refine n_here (i1 := 6) (by decide) (tx I6 hF6) ht6 fun I7 x8 hG7 ht7 hA7 hv7 => ?_
  have hF7 : (∀ k i j, ¬ ((k = 50 ∧ i = 0 ∧ j = 2)) → I7 k i j = I k i j) := fun k i j hn => by rw [hG7 _ _ _ hn, hF6 _ _ _ hn]
  rw [Option.toList_some, List.singleton_append, gb_172_84]
  by_cases w6 : lIs tp n τ (mWx.getD 6 0) = true
  case pos =>
    rw [if_pos w6] at hv7
    rw [if_neg (by rw [hv7]; decide)]
    exact t142 I7 _ hF7 ht7 hA7 (lOwn_of (by decide) w6)
  rw [if_neg w6] at hv7
  rw [if_pos hv7]
  rw [gb_172_87]
  refine n_here (i1 := 7) (by decide) (tx I7 hF7) ht7 fun I8 x9 hG8 ht8 hA8 hv8 => ?_
  have hF8 : (∀ k i j, ¬ ((k = 50 ∧ i = 0 ∧ j = 2)) → I8 k i j = I k i j) := fun k i j hn => by rw [hG8 _ _ _ hn, hF7 _ _ _ hn]
  rw [Option.toList_some, List.singleton_append, gb_172_95]
  by_cases w7 : lIs tp n τ (mWx.getD 7 0) = true
  case pos =>
    rw [if_pos w7] at hv8
    rw [if_neg (by rw [hv8]; decide)]
    exact t142 I8 _ hF8 ht8 hA8 (lOwn_of (by decide) w7)
  rw [if_neg w7] at hv8
  rw [if_pos hv8]
  rw [gb_172_98]
  refine n_here (i1 := 8) (by decide) (tx I8 hF8) ht8 fun I9 x10 hG9 ht9 hA9 hv9 => ?_
  have hF9 : (∀ k i j, ¬ ((k = 50 ∧ i = 0 ∧ j = 2)) → I9 k i j = I k i j) := fun k i j hn => by rw [hG9 _ _ _ hn, hF8 _ _ _ hn]
  rw [Option.toList_some, List.singleton_append, gb_172_106]
  by_cases w8 : lIs tp n τ (mWx.getD 8 0) = true
  case pos =>
    rw [if_pos w8] at hv9
    rw [if_neg (by rw [hv9]; decide)]
    exact t142 I9 _ hF9 ht9 hA9 (lOwn_of (by decide) w8)
  rw [if_neg w8] at hv9
  rw [if_pos hv9]
  rw [gb_172_109]
  refine n_here (i1 := 9) (by decide) (tx I9 hF9) ht9 fun I10 x11 hG10 ht10 hA10 hv10 => ?_
  have hF10 : (∀ k i j, ¬ ((k = 50 ∧ i = 0 ∧ j = 2)) → I10 k i j = I k i j) := fun k i j hn => by rw [hG10 _ _ _ hn, hF9 _ _ _ hn]
  rw [Option.toList_some, List.singleton_append, gb_172_117]
  by_cases w9 : lIs tp n τ (mWx.getD 9 0) = true
  case pos =>
    rw [if_pos w9] at hv10
    rw [if_neg (by rw [hv10]; decide)]
    exact t142 I10 _ hF10 ht10 hA10 (lOwn_of (by decide) w9)
  rw [if_neg w9] at hv10
  rw [if_pos hv10]
  rw [gb_172_120]
  refine n_here (i1 := 10) (by decide) (tx I10 hF10) ht10 fun I11 x12 hG11 ht11 hA11 hv11 => ?_
  have hF11 : (∀ k i j, ¬ ((k = 50 ∧ i = 0 ∧ j = 2)) → I11 k i j = I k i j) := fun k i j hn => by rw [hG11 _ _ _ hn, hF10 _ _ _ hn]
  rw [Option.toList_some, List.singleton_append, gb_172_128]
  by_cases w10 : lIs tp n τ (mWx.getD 10 0) = true
  case pos =>
    rw [if_pos w10] at hv11
    rw [if_neg (by rw [hv11]; decide)]
    exact t142 I11 _ hF11 ht11 hA11 (lOwn_of (by decide) w10)
  rw [if_neg w10] at hv11
  rw [if_pos hv11]
  rw [gb_172_131]
  refine n_here (i1 := 11) (by decide) (tx I11 hF11) ht11 fun I12 x13 hG12 ht12 hA12 hv12 => ?_
  have hF12 : (∀ k i j, ¬ ((k = 50 ∧ i = 0 ∧ j = 2)) → I12 k i j = I k i j) := fun k i j hn => by rw [hG12 _ _ _ hn, hF11 _ _ _ hn]
  rw [Option.toList_some, List.singleton_append, gb_172_139]
  by_cases w11 : lIs tp n τ (mWx.getD 11 0) = true
  case pos =>
    rw [if_pos w11] at hv12
    rw [if_neg (by rw [hv12]; decide)]
    exact t142 I12 _ hF12 ht12 hA12 (lOwn_of (by decide) w11)
  rw [if_neg w11] at hv12
  rw [if_pos hv12, gb_172_146, gb_172_147]
  rw [if_pos rfl]
  rw [gb_172_152]
  refine n_here (i1 := 12) (by decide) (tx I12 hF12) ht12 fun I13 x14 hG13 ht13 hA13 hv13 => ?_
  have hF13 : (∀ k i j, ¬ ((k = 50 ∧ i = 0 ∧ j = 2)) → I13 k i j = I k i j) := fun k i j hn => by rw [hG13 _ _ _ hn, hF12 _ _ _ hn]
  rw [Option.toList_some, List.singleton_append, gb_172_160]
  by_cases w12 : lIs tp n τ (mWx.getD 12 0) = true
  case pos =>
    rw [if_pos w12] at hv13
    rw [if_neg (by rw [hv13]; decide)]
    exact t218 I13 _ hF13 ht13 hA13 (lOwn_of (by decide) w12)
  rw [if_neg w12] at hv13
  rw [if_pos hv13]
  rw [gb_172_163]
  refine n_here (i1 := 13) (by decide) (tx I13 hF13) ht13 fun I14 x15 hG14 ht14 hA14 hv14 => ?_
  have hF14 : (∀ k i j, ¬ ((k = 50 ∧ i = 0 ∧ j = 2)) → I14 k i j = I k i j) := fun k i j hn => by rw [hG14 _ _ _ hn, hF13 _ _ _ hn]
  rw [Option.toList_some, List.singleton_append, gb_172_171]
  by_cases w13 : lIs tp n τ (mWx.getD 13 0) = true
  case pos =>
    rw [if_pos w13] at hv14
    rw [if_neg (by rw [hv14]; decide)]
    exact t218 I14 _ hF14 ht14 hA14 (lOwn_of (by decide) w13)
  rw [if_neg w13] at hv14
  rw [if_pos hv14]
  rw [gb_172_174]
  refine n_here (i1 := 14) (by decide) (tx I14 hF14) ht14 fun I15 x16 hG15 ht15 hA15 hv15 => ?_
  have hF15 : (∀ k i j, ¬ ((k = 50 ∧ i = 0 ∧ j = 2)) → I15 k i j = I k i j) := fun k i j hn => by rw [hG15 _ _ _ hn, hF14 _ _ _ hn]
  rw [Option.toList_some, List.singleton_append, gb_172_182]
  by_cases w14 : lIs tp n τ (mWx.getD 14 0) = true
  case pos =>
    rw [if_pos w14] at hv15
    rw [if_neg (by rw [hv15]; decide)]
    exact t218 I15 _ hF15 ht15 hA15 (lOwn_of (by decide) w14)
  rw [if_neg w14] at hv15
  rw [if_pos hv15]
  rw [gb_172_185]
  refine n_here (i1 := 15) (by decide) (tx I15 hF15) ht15 fun I16 x17 hG16 ht16 hA16 hv16 => ?_
  have hF16 : (∀ k i j, ¬ ((k = 50 ∧ i = 0 ∧ j = 2)) → I16 k i j = I k i j) := fun k i j hn => by rw [hG16 _ _ _ hn, hF15 _ _ _ hn]
  rw [Option.toList_some, List.singleton_append, gb_172_193]
  by_cases w15 : lIs tp n τ (mWx.getD 15 0) = true
  case pos =>
    rw [if_pos w15] at hv16
    rw [if_neg (by rw [hv16]; decide)]
    exact t218 I16 _ hF16 ht16 hA16 (lOwn_of (by decide) w15)
  rw [if_neg w15] at hv16
  rw [if_pos hv16]
  rw [gb_172_196]
  refine n_here (i1 := 16) (by decide) (tx I16 hF16) ht16 fun I17 x18 hG17 ht17 hA17 hv17 => ?_
  have hF17 : (∀ k i j, ¬ ((k = 50 ∧ i = 0 ∧ j = 2)) → I17 k i j = I k i j) := fun k i j hn => by rw [hG17 _ _ _ hn, hF16 _ _ _ hn]
  rw [Option.toList_some, List.singleton_append, gb_172_204]
  by_cases w16 : lIs tp n τ (mWx.getD 16 0) = true
  case pos =>
    rw [if_pos w16] at hv17
    rw [if_neg (by rw [hv17]; decide)]
    exact t218 I17 _ hF17 ht17 hA17 (lOwn_of (by decide) w16)
  rw [if_neg w16] at hv17
  rw [if_pos hv17]
  rw [gb_172_207]
  refine n_here (i1 := 17) (by decide) (tx I17 hF17) ht17 fun I18 x19 hG18 ht18 hA18 hv18 => ?_
  have hF18 : (∀ k i j, ¬ ((k = 50 ∧ i = 0 ∧ j = 2)) → I18 k i j = I k i j) := fun k i j hn => by rw [hG18 _ _ _ hn, hF17 _ _ _ hn]
  rw [Option.toList_some, List.singleton_append, gb_172_215]
  by_cases w17 : lIs tp n τ (mWx.getD 17 0) = true
  case pos =>
    rw [if_pos w17] at hv18
    rw [if_neg (by rw [hv18]; decide)]
    exact t218 I18 _ hF18 ht18 hA18 (lOwn_of (by decide) w17)
  rw [if_neg w17] at hv18
  rw [if_pos hv18, gb_172_222, gb_172_223]
  rw [if_pos rfl]
  rw [gb_172_228]
  refine n_here (i1 := 18) (by decide) (tx I18 hF18) ht18 fun I19 x20 hG19 ht19 hA19 hv19 => ?_
  have hF19 : (∀ k i j, ¬ ((k = 50 ∧ i = 0 ∧ j = 2)) → I19 k i j = I k i j) := fun k i j hn => by rw [hG19 _ _ _ hn, hF18 _ _ _ hn]
  rw [Option.toList_some, List.singleton_append, gb_172_236]
  by_cases w18 : lIs tp n τ (mWx.getD 18 0) = true
  case pos =>
    rw [if_pos w18] at hv19
    rw [if_neg (by rw [hv19]; decide)]
    exact t294 I19 _ hF19 ht19 hA19 (lOwn_of (by decide) w18)
  rw [if_neg w18] at hv19
  rw [if_pos hv19]
  rw [gb_172_239]
  refine n_here (i1 := 19) (by decide) (tx I19 hF19) ht19 fun I20 x21 hG20 ht20 hA20 hv20 => ?_
  have hF20 : (∀ k i j, ¬ ((k = 50 ∧ i = 0 ∧ j = 2)) → I20 k i j = I k i j) := fun k i j hn => by rw [hG20 _ _ _ hn, hF19 _ _ _ hn]
  rw [Option.toList_some, List.singleton_append, gb_172_247]
  by_cases w19 : lIs tp n τ (mWx.getD 19 0) = true
  case pos =>
    rw [if_pos w19] at hv20
    rw [if_neg (by rw [hv20]; decide)]
    exact t294 I20 _ hF20 ht20 hA20 (lOwn_of (by decide) w19)
  rw [if_neg w19] at hv20
  rw [if_pos hv20]
  rw [gb_172_250]
  refine n_here (i1 := 20) (by decide) (tx I20 hF20) ht20 fun I21 x22 hG21 ht21 hA21 hv21 => ?_
  have hF21 : (∀ k i j, ¬ ((k = 50 ∧ i = 0 ∧ j = 2)) → I21 k i j = I k i j) := fun k i j hn => by rw [hG21 _ _ _ hn, hF20 _ _ _ hn]
  rw [Option.toList_some, List.singleton_append, gb_172_258]
  by_cases w20 : lIs tp n τ (mWx.getD 20 0) = true
  case pos =>
    rw [if_pos w20] at hv21
    rw [if_neg (by rw [hv21]; decide)]
    exact t294 I21 _ hF21 ht21 hA21 (lOwn_of (by decide) w20)
  rw [if_neg w20] at hv21
  rw [if_pos hv21]
  rw [gb_172_261]
  refine n_here (i1 := 21) (by decide) (tx I21 hF21) ht21 fun I22 x23 hG22 ht22 hA22 hv22 => ?_
  have hF22 : (∀ k i j, ¬ ((k = 50 ∧ i = 0 ∧ j = 2)) → I22 k i j = I k i j) := fun k i j hn => by rw [hG22 _ _ _ hn, hF21 _ _ _ hn]
  rw [Option.toList_some, List.singleton_append, gb_172_269]
  by_cases w21 : lIs tp n τ (mWx.getD 21 0) = true
  case pos =>
    rw [if_pos w21] at hv22
    rw [if_neg (by rw [hv22]; decide)]
    exact t294 I22 _ hF22 ht22 hA22 (lOwn_of (by decide) w21)
  rw [if_neg w21] at hv22
  rw [if_pos hv22]
  rw [gb_172_272]
  refine n_here (i1 := 22) (by decide) (tx I22 hF22) ht22 fun I23 x24 hG23 ht23 hA23 hv23 => ?_
  have hF23 : (∀ k i j, ¬ ((k = 50 ∧ i = 0 ∧ j = 2)) → I23 k i j = I k i j) := fun k i j hn => by rw [hG23 _ _ _ hn, hF22 _ _ _ hn]
  rw [Option.toList_some, List.singleton_append, gb_172_280]
  by_cases w22 : lIs tp n τ (mWx.getD 22 0) = true
  case pos =>
    rw [if_pos w22] at hv23
    rw [if_neg (by rw [hv23]; decide)]
    exact t294 I23 _ hF23 ht23 hA23 (lOwn_of (by decide) w22)
  rw [if_neg w22] at hv23
  rw [if_pos hv23]
  rw [gb_172_283]
  refine n_here (i1 := 23) (by decide) (tx I23 hF23) ht23 fun I24 x25 hG24 ht24 hA24 hv24 => ?_
  have hF24 : (∀ k i j, ¬ ((k = 50 ∧ i = 0 ∧ j = 2)) → I24 k i j = I k i j) := fun k i j hn => by rw [hG24 _ _ _ hn, hF23 _ _ _ hn]
  rw [Option.toList_some, List.singleton_append, gb_172_291]
  by_cases w23 : lIs tp n τ (mWx.getD 23 0) = true
  case pos =>
    rw [if_pos w23] at hv24
    rw [if_neg (by rw [hv24]; decide)]
    exact t294 I24 _ hF24 ht24 hA24 (lOwn_of (by decide) w23)
  rw [if_neg w23] at hv24
  rw [if_pos hv24, gb_172_298, gb_172_299]
  rw [if_pos rfl]
  rw [gb_172_304]
  refine n_here (i1 := 24) (by decide) (tx I24 hF24) ht24 fun I25 x26 hG25 ht25 hA25 hv25 => ?_
  have hF25 : (∀ k i j, ¬ ((k = 50 ∧ i = 0 ∧ j = 2)) → I25 k i j = I k i j) := fun k i j hn => by rw [hG25 _ _ _ hn, hF24 _ _ _ hn]
  rw [Option.toList_some, List.singleton_append, gb_172_312]
  by_cases w24 : lIs tp n τ (mWx.getD 24 0) = true
  case pos =>
    rw [if_pos w24] at hv25
    rw [if_neg (by rw [hv25]; decide)]
    exact t337 I25 _ hF25 ht25 hA25 (lOwn_of (by decide) w24)
  rw [if_neg w24] at hv25
  rw [if_pos hv25]
  rw [gb_172_315]
  refine n_here (i1 := 25) (by decide) (tx I25 hF25) ht25 fun I26 x27 hG26 ht26 hA26 hv26 => ?_
  have hF26 : (∀ k i j, ¬ ((k = 50 ∧ i = 0 ∧ j = 2)) → I26 k i j = I k i j) := fun k i j hn => by rw [hG26 _ _ _ hn, hF25 _ _ _ hn]
  rw [Option.toList_some, List.singleton_append, gb_172_323]
  by_cases w25 : lIs tp n τ (mWx.getD 25 0) = true
  case pos =>
    rw [if_pos w25] at hv26
    rw [if_neg (by rw [hv26]; decide)]
    exact t337 I26 _ hF26 ht26 hA26 (lOwn_of (by decide) w25)
  rw [if_neg w25] at hv26
  rw [if_pos hv26]
  rw [gb_172_326]
  refine n_here (i1 := 26) (by decide) (tx I26 hF26) ht26 fun I27 x28 hG27 ht27 hA27 hv27 => ?_
  have hF27 : (∀ k i j, ¬ ((k = 50 ∧ i = 0 ∧ j = 2)) → I27 k i j = I k i j) := fun k i j hn => by rw [hG27 _ _ _ hn, hF26 _ _ _ hn]
  rw [Option.toList_some, List.singleton_append, gb_172_334]
  by_cases w26 : lIs tp n τ (mWx.getD 26 0) = true
  case pos =>
    rw [if_pos w26] at hv27
    rw [if_neg (by rw [hv27]; decide)]
    exact t337 I27 _ hF27 ht27 hA27 (lOwn_of (by decide) w26)
  rw [if_neg w26] at hv27
  rw [if_pos hv27, gb_172_341, gb_172_342]
  refine ⟨rfl, K I27 0 hF27 ht27 hA27 ?_⟩
  rw [lOwn_no fun i hi => ?_, if_neg Bool.false_ne_true]
  have e : i = 0 ∨ i = 1 ∨ i = 2 ∨ i = 3 ∨ i = 4 ∨ i = 5 ∨ i = 6 ∨ i = 7 ∨ i = 8 ∨ i = 9 ∨ i = 10 ∨ i = 11 ∨ i = 12 ∨ i = 13 ∨ i = 14 ∨ i = 15 ∨ i = 16 ∨ i = 17 ∨ i = 18 ∨ i = 19 ∨ i = 20 ∨ i = 21 ∨ i = 22 ∨ i = 23 ∨ i = 24 ∨ i = 25 ∨ i = 26 := by omega
  rcases e with rfl | rfl | rfl | rfl | rfl | rfl | rfl | rfl | rfl | rfl | rfl | rfl | rfl | rfl | rfl | rfl | rfl | rfl | rfl | rfl | rfl | rfl | rfl | rfl | rfl | rfl | rfl
  · exact w0
  · exact w1
  · exact w2
  · exact w3
  · exact w4
  · exact w5
  · exact w6
  · exact w7
  · exact w8
  · exact w9
  · exact w10
  · exact w11
  · exact w12
  · exact w13
  · exact w14
  · exact w15
  · exact w16
  · exact w17
  · exact w18
  · exact w19
  · exact w20
  · exact w21
  · exact w22
  · exact w23
  · exact w24
  · exact w25
  · exact w26
