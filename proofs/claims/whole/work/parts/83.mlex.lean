/-! The model reads tokens: what stands next, words, signs, numbers, names. -/
def mWx : List Nat := [19, 20, 21, 4, 22, 9, 23, 3, 24, 25, 26, 2, 0, 1, 5, 6, 7, 8, 10, 11, 12, 15, 16, 13, 14, 17, 18, 27, 28, 29, 30, 31, 32, 13, 16, 15, 14, 17, 18, 0, 1, 2, 3, 4, 5, 6, 7, 8, 9, 10, 11, 12]
def gLens : List Nat := [6, 6, 2, 4, 5, 4, 4, 5, 5, 5, 4, 8, 4, 4, 6, 3, 3, 6, 6, 3, 4, 2, 3, 3, 3, 3, 3, 5, 4, 5, 5, 4, 5, 3, 3, 2, 3, 3, 3, 4, 4, 8, 5, 4, 6, 3, 3, 6, 4, 6, 3, 4]
def wOf (i : Nat) : List Int := gWL.getD (mWx.getD i 0) []
theorem wOf_len : ∀ i, i < 52 → (wOf i).length = gLens.getD i 0 ∧ (wOf i).length ≤ 8 ∧ 2 ≤ (wOf i).length ∧ mWx.getD i 0 < 33 := by decide +kernel
def mWs (I : Nat → Nat → Nat → Int32) : Prop := ∀ i, i < 52 → ∀ j, j < (wOf i).length → (I 53 i j).toInt = (wOf i).getD j 0
/-- the tape as the model holds it, and its words -/
def mTx (I : Nat → Nat → Nat → Int32) (tp : Nat → Int) (n : Nat) : Prop := (∀ j, j < n → (I 51 0 j).toInt = tp j) ∧ (I 50 0 3).toInt = n ∧ n ≤ 1600 ∧ (∀ j, j < n → 0 ≤ tp j ∧ tp j ≤ 255) ∧ mWs I
theorem mTx_congr {I I' : Nat → Nat → Nat → Int32} {tp : Nat → Int} {n : Nat} (h : mTx I tp n) (e1 : ∀ j, I' 51 0 j = I 51 0 j) (e2 : I' 50 0 3 = I 50 0 3) (e3 : ∀ i j, I' 53 i j = I 53 i j) : mTx I' tp n := ⟨fun j hj => by rw [e1]; exact h.1 j hj, by rw [e2]; exact h.2.1, h.2.2.1, h.2.2.2.1, fun i hi j hj => by rw [e3]; exact h.2.2.2.2 i hi j hj⟩
/-- where the model stands: a fault, or a token that begins behind blanks -/
def mTk (I : Nat → Nat → Nat → Int32) (tp : Nat → Int) (n : Nat) : lT → Prop
  | .inl (f, p) => (I 50 0 5).toInt = f ∧ f ≠ 0 ∧ (I 50 0 6).toInt = p
  | .inr (s, g) => I 50 0 5 = 0 ∧ (I 50 0 6).toInt = -1 ∧ ∃ a : Nat, (I 50 0 2).toInt = a ∧ a ≤ s ∧ s ≤ n ∧ lSk tp n a = s ∧ ((I 50 0 4).toInt = s ↔ g = true) ∧ (I 50 0 4).toInt ≤ a
def mAt (I : Nat → Nat → Nat → Int32) : lT → Prop
  | .inl _ => True
  | .inr (s, _) => (I 50 0 2).toInt = s
theorem mTk_congr {I I' : Nat → Nat → Nat → Int32} {tp : Nat → Int} {n : Nat} {τ : lT} (h : mTk I tp n τ) (e : ∀ j, (j = 2 ∨ j = 4 ∨ j = 5 ∨ j = 6) → I' 50 0 j = I 50 0 j) : mTk I' tp n τ := by
  match τ, h with
  | .inl (f, p), h => exact ⟨by rw [e 5 (by omega)]; exact h.1, h.2.1, by rw [e 6 (by omega)]; exact h.2.2⟩
  | .inr (s, g), h =>
    obtain ⟨h1, h2, a, h3, h4, h5, h6, h7, h8⟩ := h
    exact ⟨by rw [e 5 (by omega)]; exact h1, by rw [e 6 (by omega)]; exact h2, a, by rw [e 2 (by omega)]; exact h3, h4, h5, h6, by rw [e 4 (by omega)]; exact h7, by rw [e 4 (by omega)]; exact h8⟩
theorem mTk_at {I I' : Nat → Nat → Nat → Int32} {tp : Nat → Int} {n s : Nat} {g : Bool} (h : mTk I tp n (.inr (s, g))) (e : ∀ j, (j = 4 ∨ j = 5 ∨ j = 6) → I' 50 0 j = I 50 0 j) (ha : (I' 50 0 2).toInt = s) : mTk I' tp n (.inr (s, g)) := by
  obtain ⟨h1, h2, a, h3, h4, h5, h6, h7, h8⟩ := h
  exact ⟨by rw [e 5 (by omega)]; exact h1, by rw [e 6 (by omega)]; exact h2, s, ha, Nat.le_refl _, h5, by rw [← h6]; exact lRun_idem lBl_m1, by rw [e 4 (by omega)]; exact h7, by rw [e 4 (by omega)]; omega⟩
def lIs (tp : Nat → Int) (n : Nat) : lT → Nat → Bool
  | .inl _, _ => false
  | .inr (s, g), w => decide (lKd tp n s g = -2 ∧ lWd tp s (lEn tp n s) = w)
def lTkW (tp : Nat → Int) (n : Nat) : lT → Nat → lT
  | .inl b, _ => .inl b
  | .inr (s, g), w => if lKd tp n s g = -2 ∧ lWd tp s (lEn tp n s) = w then .inr (lNx tp n s g) else .inr (s, g)
def lAskW (tp : Nat → Int) (n : Nat) : lT → Nat → lT
  | .inl b, _ => .inl b
  | .inr (s, g), w => if lKd tp n s g = -2 ∧ lWd tp s (lEn tp n s) = w then .inr (lNx tp n s g) else .inl (1, s)
def lIsC (tp : Nat → Int) (n : Nat) : lT → Int → Bool
  | .inl _, _ => false
  | .inr (s, _), c => decide (lB tp n s = c)
def lAskC (tp : Nat → Int) (n : Nat) : lT → Int → lT
  | .inl b, _ => .inl b
  | .inr (s, g), c => if lB tp n s = c then .inr (lNx tp n s g) else .inl (1, s)
def lNumT (tp : Nat → Int) (n : Nat) (lo hi : Int) : lT → lT × Int
  | .inl b => (.inl b, 0)
  | .inr (s, g) => if lKd tp n s g ≠ -3 then (.inl (1, s), 0) else if 4 < lEn tp n s - s then (.inl (1, s + 4), 0) else if lDg tp s (lEn tp n s - s) < lo ∨ hi < lDg tp s (lEn tp n s - s) then (.inl (2, s), 0) else (.inr (lNx tp n s g), lDg tp s (lEn tp n s - s))
variable {d S : Nat} {h : Nat × Option gNm} {I : Nat → Nat → Nat → Int32} {J : Nat → Nat → Nat → Int64} {Q : Option gV → gW → Prop}
theorem n_isL {a0 : Int32} : (gq d 163 0 [some (.inl (a0))] [] (gwd S I J h) Q) ↔ Q (some (.inl (zb (97 ≤ a0.toInt ∧ a0.toInt ≤ 122)))) (gwd S I J h) := by
  have e1 : (97 : Int32).toInt = 97 := rfl
  have e2 : (122 : Int32).toInt = 122 := rfl
  simp only [gb_163_0, gb_163_6, gb_163_12, gb_163_16, gb_163_17, z_lt, z_le, e1, e2, g_t0, g_t1, true_and, zb]; (repeat' split) <;> first | exact Iff.rfl | (exfalso; omega)
theorem n_isD {a0 : Int32} : (gq d 164 0 [some (.inl (a0))] [] (gwd S I J h) Q) ↔ Q (some (.inl (zb (48 ≤ a0.toInt ∧ a0.toInt ≤ 57)))) (gwd S I J h) := by
  have e1 : (48 : Int32).toInt = 48 := rfl
  have e2 : (57 : Int32).toInt = 57 := rfl
  simp only [gb_164_0, gb_164_6, gb_164_12, gb_164_16, gb_164_17, z_lt, z_le, e1, e2, g_t0, g_t1, true_and, zb]; (repeat' split) <;> first | exact Iff.rfl | (exfalso; omega)
theorem n_fail {a1 a2 : Int32} (h5 : I 50 0 5 = 0) : (gq d 162 0 [some (.inr (.inr (some (50, 0)))), some (.inl (a1)), some (.inl (a2))] [] (gwd S I J h) Q) ↔ Q none (gwd S (gup (gup I 50 0 5 a1) 50 0 6 a2) J h) := by rw [gb_162_0, if_pos h5, gb_162_8]
theorem n_fail2 {a1 a2 : Int32} (h5 : I 50 0 5 ≠ 0) : (gq d 162 0 [some (.inr (.inr (some (50, 0)))), some (.inl (a1)), some (.inl (a2))] [] (gwd S I J h) Q) ↔ Q none (gwd S I J h) := by rw [gb_162_0, if_neg h5, gb_162_7]
theorem n_look_stop {tp : Nat → Int} {n a : Nat} (hn : n ≤ 1600) (hT : ∀ j, j < n → (I 51 0 j).toInt = tp j) (hE : (I 50 0 3).toInt = n) (hA : (I 50 0 2).toInt = a) (hb : lIsB (lB tp n a) = false) (K : ∀ x : Int32, x.toInt = lB tp n a → Q (some (.inl x)) (gwd S I J h)) : (gq d 165 0 [some (.inr (.inr (some (50, 0))))] [] (gwd S I J h) Q) := by
  have nA : (I 50 0 2).toNatClampNeg = a := by rw [z_n, hA]; omega
  rw [gb_165_0]
  by_cases w : a < n
  · have hv := hT a w
    rw [lB_lt w, lIsB_f] at hb
    rw [if_neg (by rw [z_le]; omega), gb_165_11]
    refine ⟨g_in.mpr (by omega), ?_⟩
    rw [nA, gb_165_20, if_neg (fun e => by rw [e] at hv; have : (10 : Int32).toInt = 10 := rfl; omega), gb_165_25]
    refine ⟨g_in.mpr (by omega), ?_⟩
    rw [nA, gb_165_34, if_neg (fun e => by rw [e] at hv; have : (32 : Int32).toInt = 32 := rfl; omega), gb_165_52, if_neg (by rw [z_le]; omega), gb_165_63]
    refine ⟨g_in.mpr (by omega), ?_⟩
    rw [nA, gb_165_72, gb_165_76]
    exact K _ (by rw [hv, lB_lt w])
  · rw [if_pos (by rw [z_le]; omega), gb_165_52, if_pos (by rw [z_le]; omega), gb_165_75, gb_165_76]
    exact K _ (by rw [lB_ge (by omega)]; rfl)
theorem n_look_loop {tp : Nat → Int} {n s : Nat} (hn : n ≤ 1600) : ∀ (m a : Nat) (I : Nat → Nat → Nat → Int32), n - a = m → (∀ j, j < n → (I 51 0 j).toInt = tp j) → (I 50 0 3).toInt = n → (I 50 0 2).toInt = a → lSk tp n a = s →
    (∀ (I' : Nat → Nat → Nat → Int32) x, (∀ k i j, ¬ ((k = 50 ∧ i = 0 ∧ j = 2)) → I' k i j = I k i j) → (I' 50 0 2).toInt = s → x.toInt = lB tp n s → Q (some (.inl x)) (gwd S I' J h)) → (gq d 165 0 [some (.inr (.inr (some (50, 0))))] [] (gwd S I J h) Q)
  | 0, a, I, hm, hT, hE, hA, hs, K => by
    have hb : lIsB (lB tp n a) = false := by rw [lB_ge (by omega)]; rfl
    have e : a = s := by rw [← hs]; exact (lRun_f hb).symm
    exact n_look_stop hn hT hE hA hb fun x hx => K I x (fun _ _ _ _ => rfl) (by rw [hA, e]) (by rw [hx, e])
  | m + 1, a, I, hm, hT, hE, hA, hs, K => by
    have nA : (I 50 0 2).toNatClampNeg = a := by rw [z_n, hA]; omega
    have e1 : (1 : Int32).toInt = 1 := rfl
    cases hb : lIsB (lB tp n a) with
    | false =>
      have e : a = s := by rw [← hs]; exact (lRun_f hb).symm
      exact n_look_stop hn hT hE hA hb fun x hx => K I x (fun _ _ _ _ => rfl) (by rw [hA, e]) (by rw [hx, e])
    | true =>
      have w : a < n := by omega
      have hv := hT a w
      have go : (gq d 165 39 [some (.inr (.inr (some (50, 0))))] [] (gwd S I J h) Q) := by
        rw [gb_165_39]
        refine n_look_loop hn m (a + 1) _ (by omega) (fun j hj => by rw [u_k (by decide)]; exact hT j hj) (by rw [u_ne (by omega)]; exact hE) (by rw [u_eq, z_add (by omega) (by omega), hA, e1]; rfl) (by rw [← hs]; exact (lRun_t hb w).symm) fun I' x hF h1 h2 => K I' x (fun k i j hn => by rw [hF _ _ _ hn, u_ne (by omega)]) h1 h2
      rw [lB_lt w, lIsB_iff] at hb
      rw [gb_165_0, if_neg (by rw [z_le]; omega), gb_165_11]
      refine ⟨g_in.mpr (by omega), ?_⟩
      rw [nA, gb_165_20]
      by_cases w1 : tp a = 10
      · rw [if_pos (z_inj (by rw [hv, w1]; rfl))]; exact go
      · rw [if_neg (fun e => by rw [e] at hv; have : (10 : Int32).toInt = 10 := rfl; omega), gb_165_25]
        refine ⟨g_in.mpr (by omega), ?_⟩
        rw [nA, gb_165_34, if_pos (z_inj (by rw [hv]; have : (32 : Int32).toInt = 32 := rfl; omega))]; exact go
theorem n_look {tp : Nat → Int} {n s : Nat} {g : Bool} (hx : mTx I tp n) (ht : mTk I tp n (.inr (s, g))) (K : ∀ (I' : Nat → Nat → Nat → Int32) x, (∀ k i j, ¬ ((k = 50 ∧ i = 0 ∧ j = 2)) → I' k i j = I k i j) → mTk I' tp n (.inr (s, g)) → (I' 50 0 2).toInt = s → x.toInt = lB tp n s → Q (some (.inl x)) (gwd S I' J h)) : (gq d 165 0 [some (.inr (.inr (some (50, 0))))] [] (gwd S I J h) Q) := by
  obtain ⟨h1, h2, a, h3, h4, h5, h6, h7, h8⟩ := id ht
  exact n_look_loop hx.2.2.1 _ a I rfl hx.1 hx.2.1 h3 h6 fun I' x hF g1 g2 => K I' x hF (mTk_at ht (fun j hj => hF _ _ _ (by omega)) g1) g1 g2
theorem n_here_run {tp : Nat → Int} {n e i1 : Nat} {x3 : Option gV} (hn : n ≤ 1600) (hT : ∀ j, j < n → (I 51 0 j).toInt = tp j) (hE : (I 50 0 3).toInt = n) (he : e ≤ n) (hstop : lIsL (lB tp n e) = false) (K : ∀ a2 : Int32, a2.toInt = e → (gq (d + 1) 166 61 [some (.inr (.inr (some (50, 0)))), some (.inr (.inr (some (53, i1)))), some (.inl (a2)), x3] [] (gwd S I J h) Q)) : ∀ (m k : Nat) (a2 : Int32), k + m = e → (∀ j, k ≤ j → j < e → lIsL (lB tp n j) = true) → a2.toInt = k → (gq (d + 1) 166 35 [some (.inr (.inr (some (50, 0)))), some (.inr (.inr (some (53, i1)))), some (.inl (a2)), x3] [] (gwd S I J h) Q)
  | 0, k, a2, hm, hin, h2 => by
    have ek : k = e := by omega
    rw [gb_166_35]
    by_cases w : k < n
    · have hv := hT k w
      rw [if_neg (by rw [z_le]; omega), gb_166_43]
      refine ⟨g_in.mpr (by omega), ?_⟩
      rw [z_n, h2, Int.toNat_natCast, gb_166_49, n_isL, Option.toList_some, List.singleton_append, gb_166_52, if_pos (by
        rw [zb_0, hv]; rw [← ek, lB_lt w, lIsL_f] at hstop; exact hstop)]
      exact K a2 (by omega)
    · rw [if_pos (by rw [z_le]; omega)]; exact K a2 (by omega)
  | m + 1, k, a2, hm, hin, h2 => by
    have e1 : (1 : Int32).toInt = 1 := rfl
    have w : k < n := by omega
    have hv := hT k w
    have hl := hin k (Nat.le_refl _) (by omega)
    rw [lB_lt w, lIsL_iff] at hl
    rw [gb_166_35, if_neg (by rw [z_le]; omega), gb_166_43]
    refine ⟨g_in.mpr (by omega), ?_⟩
    rw [z_n, h2, Int.toNat_natCast, gb_166_49, n_isL, Option.toList_some, List.singleton_append, gb_166_52, if_neg (by rw [zb_0, hv]; exact fun e => e hl), gb_166_55]
    exact n_here_run hn hT hE he hstop K m (k + 1) _ (by omega) (fun j h1 h2 => hin j (by omega) h2) (by rw [z_add (by omega) (by omega), h2, e1]; rfl)
theorem n_here_cmp {tp : Nat → Int} {n s i1 : Nat} {a2 : Int32} (hi : i1 < 52) (hW : mWs I) (hn : n ≤ 1600) (hT : ∀ j, j < n → (I 51 0 j).toInt = tp j) (hA : (I 50 0 2).toInt = s) (hs : s + (wOf i1).length ≤ n) (K1 : (∀ k, k < (wOf i1).length → tp (s + k) = (wOf i1).getD k 0) → Q (some (.inl 1)) (gwd S I J h)) (K0 : ¬ (∀ k, k < (wOf i1).length → tp (s + k) = (wOf i1).getD k 0) → Q (some (.inl 0)) (gwd S I J h)) : ∀ (m j : Nat) (a3 : Int32), j + m = (wOf i1).length → (∀ k, k < j → tp (s + k) = (wOf i1).getD k 0) → a3.toInt = j → (gq (d + 1) 166 76 [some (.inr (.inr (some (50, 0)))), some (.inr (.inr (some (53, i1)))), some (.inl (a2)), some (.inl (a3))] [] (gwd S I J h) Q)
  | 0, j, a3, hm, hj, h3 => by
    have hl := wOf_len i1 hi
    have el : (Int32.ofNat (gLens.getD i1 0)).toInt = (wOf i1).length := by rw [← hl.1]; exact z_of (n := ((wOf i1).length : Int)) (by omega) (by omega)
    rw [gb_166_76, if_pos (by rw [z_le]; show (Int32.ofNat (gLens.getD i1 0)).toInt ≤ _; omega), gb_166_107]
    exact K1 fun k hk => hj k (by omega)
  | m + 1, j, a3, hm, hj, h3 => by
    have e1 : (1 : Int32).toInt = 1 := rfl
    have hl := wOf_len i1 hi
    have el : (Int32.ofNat (gLens.getD i1 0)).toInt = (wOf i1).length := by rw [← hl.1]; exact z_of (n := ((wOf i1).length : Int)) (by omega) (by omega)
    have q : (I 50 0 2 + a3).toInt = ((s + j : Nat) : Int) := by rw [z_add (by omega) (by omega), hA, h3]; rfl
    have hv := hT (s + j) (by omega)
    have hw := hW i1 hi j (by omega)
    rw [gb_166_76, if_neg (by rw [z_le]; show ¬ (Int32.ofNat (gLens.getD i1 0)).toInt ≤ _; omega), gb_166_82]
    refine ⟨g_in.mpr (by omega), ?_⟩
    rw [z_n, q, Int.toNat_natCast, gb_166_93]
    refine ⟨g_in.mpr (by show _ ∧ _ < ((gLens.getD i1 0 : Nat) : Int); rw [← hl.1]; omega), ?_⟩
    rw [z_n, h3, Int.toNat_natCast, gb_166_96]
    by_cases w : tp (s + j) = (wOf i1).getD j 0
    · rw [if_pos (z_inj (by rw [hv, hw, w])), gb_166_101]
      refine n_here_cmp hi hW hn hT hA hs K1 K0 m (j + 1) _ (by omega) (fun k hk => ?_) (by rw [z_add (by omega) (by omega), h3, e1]; rfl)
      by_cases ek : k = j
      · rw [ek]; exact w
      · exact hj k (by omega)
    · rw [if_neg (fun e => w (by rw [← hv, ← hw, e])), gb_166_99]
      exact K0 fun hall => w (hall j (by omega))
theorem lIs_iff {tp : Nat → Int} {n s w : Nat} {g : Bool} : lIs tp n (.inr (s, g)) w = true ↔ (lKd tp n s g = -2 ∧ lWd tp s (lEn tp n s) = w) := decide_eq_true_iff
/-- whether a word stands next -/
theorem n_here {tp : Nat → Int} {n i1 : Nat} {τ : lT} {x2 x3 : Option gV} (hi : i1 < 52) (hx : mTx I tp n) (ht : mTk I tp n τ) (K : ∀ I' (x : Int32), (∀ k i j, ¬ ((k = 50 ∧ i = 0 ∧ j = 2)) → I' k i j = I k i j) → mTk I' tp n τ → mAt I' τ → x = (if lIs tp n τ (mWx.getD i1 0) = true then 1 else 0) → Q (some (.inl x)) (gwd S I' J h)) : (gq (d + 1) 166 0 [some (.inr (.inr (some (50, 0)))), some (.inr (.inr (some (53, i1)))), x2, x3] [] (gwd S I J h) Q) := by
  match τ, ht with
  | .inl (f, p), ht =>
    rw [gb_166_0, if_neg (fun e => ht.2.1 (by rw [← ht.1, e]; rfl)), gb_166_28]
    exact K I 0 (fun _ _ _ _ => rfl) ht trivial rfl
  | .inr (s, g), ht =>
    have hl := wOf_len i1 hi
    rw [gb_166_0, if_pos ht.1, gb_166_7]
    refine n_look hx ht fun I1 x hF1 ht1 hA hv => ?_
    rw [Option.toList_some, List.singleton_append, gb_166_11, n_isL, Option.toList_some, List.singleton_append, gb_166_14]
    have hx1 : mTx I1 tp n := mTx_congr hx (fun j => hF1 _ _ _ (by omega)) (hF1 _ _ _ (by omega)) (fun i j => hF1 _ _ _ (by omega))
    have no : ¬ (lKd tp n s g = -2 ∧ lWd tp s (lEn tp n s) = (mWx.getD i1 0 : Nat)) → ∀ x2 x3 : Option gV, Q (some (.inl 0)) (gwd S I1 J h) := fun hno _ _ => K I1 0 hF1 ht1 hA (by rw [if_neg (fun e => hno (lIs_iff.mp e))])
    have hsn : s ≤ n := by obtain ⟨_, _, a, h3, h4, h5, h6, h7, h8⟩ := ht1; exact h5
    have hword := lKd_word (s := s) (g := g) hx.2.2.2.1
    by_cases w1 : lIsL (lB tp n s) = true
    case neg =>
      rw [if_pos (by rw [zb_0, hv]; exact fun e => w1 (lIsL_iff.mpr e)), gb_166_28]
      exact no (fun e => w1 (hword.mp e.1).1) x2 x3
    rw [if_neg (by rw [zb_0, hv]; exact fun e => e (lIsL_iff.mp w1)), gb_166_17]
    have h7 : (I1 50 0 4).toInt = s ↔ g = true := by obtain ⟨_, _, a, _, _, _, _, h7, _⟩ := ht1; exact h7
    cases hg : g with
    | true =>
      rw [if_pos (z_inj (by rw [hA]; exact (h7.mpr hg).symm)), gb_166_28]
      exact no (fun e => by have := (hword.mp e.1).2; rw [hg] at this; cases this) x2 x3
    | false =>
      rw [if_neg (fun e => by have := h7.mp (by rw [← e, hA]); rw [hg] at this; cases this), gb_166_30]
      have hk2 : lKd tp n s g = -2 := hword.mpr ⟨w1, hg⟩
      have hE := lEn_L w1
      have hr := lEn_r (tp := tp) hsn
      refine n_here_run (e := lEn tp n s) hx.2.2.1 hx1.1 hx1.2.1 hr.2.1 (by rw [hE]; exact lRun_stop lL_m1) (fun a2 h2 => ?_) (lEn tp n s - s) s _ (by omega) (fun j h1 h2 => lRun_in lL_m1 h1 (by rw [← hE]; exact h2)) hA
      have el : (Int32.ofNat (gLens.getD i1 0)).toInt = (wOf i1).length := by rw [← hl.1]; exact z_of (n := ((wOf i1).length : Int)) (by omega) (by omega)
      have q : (a2 - I1 50 0 2).toInt = ((lEn tp n s - s : Nat) : Int) := by rw [z_sub (by omega) (by have := hx.2.2.1; omega), h2, hA]; omega
      rw [gb_166_61]
      by_cases w2 : lEn tp n s - s = (wOf i1).length
      · rw [if_pos (z_inj (by rw [q]; show _ = (Int32.ofNat (gLens.getD i1 0)).toInt; rw [el, w2])), gb_166_74]
        refine n_here_cmp hi hx1.2.2.2.2 hx.2.2.1 hx1.1 hA (by omega) (fun hall => ?_) (fun hno => ?_) (wOf i1).length 0 _ (by omega) (fun k hk => by omega) rfl
        · refine K I1 1 hF1 ht1 hA ?_
          rw [if_pos (lIs_iff.mpr ⟨hk2, (lWd_at hl.2.2.2).mpr (lSl_eq w2.symm (fun k hk => hall k (by omega)))⟩)]
        · refine no (fun e => hno fun k hk => ?_) x2 x3
          have := (lWd_at hl.2.2.2).mp e.2
          have hg := lSl_get (tp := tp) (m := lEn tp n s - s) (s := s) (k := k) (by omega)
          rw [← hg, this]; rfl
      · rw [if_neg (fun e => w2 (by
          have : (a2 - I1 50 0 2).toInt = (Int32.ofNat (gLens.getD i1 0)).toInt := congrArg Int32.toInt e
          omega)), gb_166_72]
        refine no (fun e => w2 ?_) x2 x3
        have := congrArg List.length ((lWd_at hl.2.2.2).mp e.2)
        rw [lSl_len] at this; exact this
