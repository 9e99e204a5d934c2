/-! The model reads a name. -/
theorem gPk_inj {f g : Nat → Int} : ∀ {n m : Nat}, (∀ k, k < n → 1 ≤ f k ∧ f k ≤ 26) → (∀ k, k < m → 1 ≤ g k ∧ g k ≤ 26) → gPk f n = gPk g m → n = m ∧ ∀ k, k < n → f k = g k
  | 0, 0, _, _, _ => ⟨rfl, fun k hk => absurd hk (Nat.not_lt_zero _)⟩
  | 0, m + 1, _, hg, e => by
    have := (@gPk_r g (m + 1) hg).2 (by omega)
    have e0 : gPk f 0 = 0 := rfl
    omega
  | n + 1, 0, hf, _, e => by
    have := (@gPk_r f (n + 1) hf).2 (by omega)
    have e0 : gPk g 0 = 0 := rfl
    omega
  | n + 1, m + 1, hf, hg, e => by
    have a := @gPk_s f n hf
    have b := @gPk_s g m hg
    rw [e] at a
    obtain ⟨h1, h2⟩ := @gPk_inj f g n m (fun k hk => hf k (by omega)) (fun k hk => hg k (by omega)) (by omega)
    subst h1
    refine ⟨rfl, fun k hk => ?_⟩
    by_cases ek : k = n
    · rw [ek]; omega
    · exact h2 k (by omega)
def lNm0 (tp : Nat → Int) (n : Nat) : lT → lT
  | .inl b => .inl b
  | .inr (s, g) => if lKd tp n s g ≠ -2 ∨ (0 ≤ wHere tp n s ∧ wHere tp n s < 27) then .inl (1, s) else if 6 < lEn tp n s - s then .inl (1, s + 6) else .inr (lNx tp n s g)
def cLt (tp : Nat → Int) (s k : Nat) : Int := tp (s + k) - 96
variable {d S : Nat} {h : Nat × Option gNm} {I : Nat → Nat → Nat → Int32} {J : Nat → Nat → Nat → Int64} {Q : Option gV → gW → Prop}
variable {tp : Nat → Int} {n s : Nat} {g : Bool} {D : gCo} {τ : lT}
theorem n_name_loop {e : Nat} (hn : n ≤ 1600) (he : e ≤ n) (hse : s < e) (hlet : ∀ j, s ≤ j → j < e → lIsL (lB tp n j) = true) (hstop : lIsL (lB tp n e) = false) : ∀ (m k : Nat) (I : Nat → Nat → Nat → Int32) (a1 : Int64), k + m = e - s → k ≤ 6 → (∀ j, j < n → (I 51 0 j).toInt = tp j) → (I 50 0 3).toInt = n → (I 50 0 2).toInt = s + k → (I 50 0 38).toInt = s → a1.toInt = gPk (cLt tp s) k → I 50 0 5 = 0 →
    (∀ (I' : Nat → Nat → Nat → Int32) (x : Int64), 6 < e - s → (∀ k i j, ¬ ((k = 50 ∧ i = 0 ∧ (j = 2 ∨ j = 5 ∨ j = 6))) → I' k i j = I k i j) → (I' 50 0 5).toInt = 1 → (I' 50 0 6).toInt = s + 6 → Q (some (.inr (.inl x))) (gwd S I' J h)) →
    (∀ (I' : Nat → Nat → Nat → Int32) (x : Int64), e - s ≤ 6 → (∀ k i j, ¬ ((k = 50 ∧ i = 0 ∧ (j = 2 ∨ j = 4))) → I' k i j = I k i j) → (I' 50 0 2).toInt = e → (I' 50 0 4).toInt = e → x.toInt = gPk (cLt tp s) (e - s) → Q (some (.inr (.inl x))) (gwd S I' J h)) → (gq (d + 1) 173 58 [some (.inr (.inr (some (50, 0)))), some (.inr (.inl (a1))), none] [] (gwd S I J h) Q)
  | 0, k, I, a1, hm, hk, hT, hE, h2, h38, ha, h5, K1, K0 => by
    have ek : k = e - s := by omega
    have fin : (gq (d + 1) 173 145 [some (.inr (.inr (some (50, 0)))), some (.inr (.inl (a1))), none] [] (gwd S I J h) Q) := by
      rw [gb_173_145]
      exact K0 _ _ (by omega) (fun k i j hn => u_ne (by omega)) (by rw [u_j (by decide), h2]; omega) (by rw [u_eq, h2]; omega) (by rw [ha, ek])
    rw [gb_173_58]
    by_cases w : e < n
    · have hv := hT e w
      have h2' : (I 50 0 2).toInt = e := by omega
      rw [if_neg (by rw [z_le]; omega), gb_173_69]
      refine ⟨g_in.mpr (by omega), ?_⟩
      rw [z_n, h2', Int.toNat_natCast, gb_173_78, n_isL, Option.toList_some, List.singleton_append, gb_173_81, if_pos (by
        rw [zb_0, hv]; rw [lB_lt w, lIsL_f] at hstop; exact hstop)]
      exact fin
    · rw [if_pos (by rw [z_le]; omega)]; exact fin
  | m + 1, k, I, a1, hm, hk, hT, hE, h2, h38, ha, h5, K1, K0 => by
    have e1 : (1 : Int32).toInt = 1 := rfl
    have e6 : (6 : Int32).toInt = 6 := rfl
    have l27 : (27 : Int64).toInt = 27 := rfl
    have l97 : (97 : Int64).toInt = 97 := rfl
    have l1 : (1 : Int64).toInt = 1 := rfl
    have w : s + k < n := by omega
    have hv := hT (s + k) w
    have hd := hlet (s + k) (by omega) (by omega)
    rw [lB_lt w, lIsL_iff] at hd
    have q : (I 50 0 2 - I 50 0 38).toInt = k := by rw [z_sub (by omega) (by omega), h2, h38]; omega
    have n2 : (I 50 0 2).toNatClampNeg = s + k := by rw [z_n, h2]; omega
    rw [gb_173_58, if_neg (by rw [z_le]; omega), gb_173_69]
    refine ⟨g_in.mpr (by omega), ?_⟩
    rw [n2, gb_173_78, n_isL, Option.toList_some, List.singleton_append, gb_173_81, if_neg (by rw [zb_0, hv]; exact fun e => e hd), gb_173_84]
    by_cases w6 : k = 6
    · rw [if_pos (z_inj (by rw [q, w6]; rfl)), gb_173_98, n_fail h5, Option.toList_none, List.nil_append, gb_173_107]
      exact K1 _ _ (by omega) (fun k i j hn => by rw [u_ne (by omega), u_ne (by omega)]) (by rw [u_j (by decide), u_eq]; rfl) (by rw [u_eq, h2, w6]; rfl)
    · have lr : ∀ j, j < k → 1 ≤ cLt tp s j ∧ cLt tp s j ≤ 26 := fun j hj => by
        have := hlet (s + j) (by omega) (by omega)
        rw [lB_lt (by omega), lIsL_iff] at this
        unfold cLt; omega
      have hbig : gPk (cLt tp s) k ≤ 400000000 := by
        have ek : k = 0 ∨ k = 1 ∨ k = 2 ∨ k = 3 ∨ k = 4 ∨ k = 5 := by omega
        rcases ek with rfl | rfl | rfl | rfl | rfl | rfl
        · simp [gPk]
        · have := lr 0 (by omega); simp only [gPk]; omega
        · have := lr 0 (by omega); have := lr 1 (by omega); simp only [gPk]; omega
        · have := lr 0 (by omega); have := lr 1 (by omega); have := lr 2 (by omega); simp only [gPk]; omega
        · have := lr 0 (by omega); have := lr 1 (by omega); have := lr 2 (by omega); have := lr 3 (by omega); simp only [gPk]; omega
        · have := lr 0 (by omega); have := lr 1 (by omega); have := lr 2 (by omega); have := lr 3 (by omega); have := lr 4 (by omega); simp only [gPk]; omega
      have h0 := (@gPk_r (cLt tp s) k lr).1
      have q1 : (27 * a1).toInt = 27 * gPk (cLt tp s) k := by rw [y_mul (by rw [ha, l27]; omega) (by rw [ha, l27]; omega), ha, l27]
      have q2 : (27 * a1 + (I 51 0 (s + k)).toInt64).toInt = 27 * gPk (cLt tp s) k + tp (s + k) := by rw [y_add (by rw [q1, z_64, hv]; omega) (by rw [q1, z_64, hv]; omega), q1, z_64, hv]
      have q3 : (27 * a1 + (I 51 0 (s + k)).toInt64 - 97).toInt = 27 * gPk (cLt tp s) k + tp (s + k) - 97 := by rw [y_sub (by rw [q2, l97]; omega) (by rw [q2, l97]; omega), q2, l97]
      have q4 : (27 * a1 + (I 51 0 (s + k)).toInt64 - 97 + 1).toInt = gPk (cLt tp s) (k + 1) := by
        rw [y_add (by rw [q3, l1]; omega) (by rw [q3, l1]; omega), q3, l1]
        show _ = 27 * gPk (cLt tp s) k + (tp (s + k) - 96)
        omega
      rw [if_neg (fun e => w6 (by have := congrArg Int32.toInt e; rw [q, e6] at this; omega)), gb_173_109]
      refine ⟨g_in.mpr (by omega), ?_⟩
      rw [n2, gb_173_123]
      refine n_name_loop hn he hse hlet hstop m (k + 1) _ _ (by omega) (by omega) (fun j hj => by rw [u_k (by decide)]; exact hT j hj) (by rw [u_j (by decide)]; exact hE) (by rw [u_eq, z_add (by omega) (by omega), h2, e1]; omega) (by rw [u_j (by decide)]; exact h38) q4 (by rw [u_j (by decide)]; exact h5) (fun I' x c1 hF c2 c3 => K1 I' x c1 (fun k i j hn => by rw [hF _ _ _ hn, u_ne (by omega)]) c2 c3) (fun I' x c1 hF c2 c3 c4 => K0 I' x c1 (fun k i j hn => by rw [hF _ _ _ hn, u_ne (by omega)]) c2 c3 c4)
theorem n_name {x1 x2 : Option gV} (hx : mTx I tp n) (ht : mTk I tp n τ) (K : ∀ (I' : Nat → Nat → Nat → Int32) (x : Int64), (∀ k i j, ¬ ((k = 50 ∧ i = 0 ∧ (j = 2 ∨ j = 4 ∨ j = 5 ∨ j = 6 ∨ j = 38))) → I' k i j = I k i j) → mTk I' tp n (lNm0 tp n τ) → (∀ s g q, τ = .inr (s, g) → lNm0 tp n τ = .inr q → x.toInt = gPk (cLt tp s) (lEn tp n s - s) ∧ (I' 50 0 38).toInt = s ∧ lIsL (lB tp n s) = true ∧ lEn tp n s - s ≤ 6) → Q (some (.inr (.inl x))) (gwd S I' J h)) : (gq (d + 3) 173 0 [some (.inr (.inr (some (50, 0)))), x1, x2] [] (gwd S I J h) Q) := by
  match τ, ht with
  | .inl b, ht =>
    rw [gb_173_0, if_neg (mTk_bad ht), gb_173_7]
    exact K I 0 (fun _ _ _ _ => rfl) ht (fun s g q e => by cases e)
  | .inr (s, g), ht =>
    have hN : lNm0 tp n (.inr (s, g)) = if lKd tp n s g ≠ -2 ∨ (0 ≤ wHere tp n s ∧ wHere tp n s < 27) then .inl (1, (s : Int)) else if 6 < lEn tp n s - s then .inl (1, (s : Int) + 6) else .inr (lNx tp n s g) := rfl
    have hword := lKd_word (s := s) (g := g) hx.2.2.2.1
    have hn := hx.2.2.1
    rw [gb_173_0, if_pos ht.1, gb_173_9]
    refine n_look hx ht fun I1 x hF1 ht1 hA hv => ?_
    have hx1 : mTx I1 tp n := mTx_congr hx (fun j => hF1 _ _ _ (by omega)) (hF1 _ _ _ (by omega)) (fun i j => hF1 _ _ _ (by omega))
    rw [Option.toList_some, List.singleton_append, gb_173_13, n_isL, Option.toList_some, List.singleton_append, gb_173_16]
    have no : ∀ (I2 : Nat → Nat → Nat → Int32), (∀ k i j, ¬ ((k = 50 ∧ i = 0 ∧ j = 2)) → I2 k i j = I k i j) → mTk I2 tp n (.inr (s, g)) → (I2 50 0 2).toInt = s → (lKd tp n s g ≠ -2 ∨ (0 ≤ wHere tp n s ∧ wHere tp n s < 27)) → (gq (d + 3) 173 37 [some (.inr (.inr (some (50, 0)))), x1, x2] [] (gwd S I2 J h) Q) := fun I2 hF2 ht2 hA2 hno => by
      rw [if_pos hno] at hN
      rw [gb_173_37]
      refine n_failAt ht2 rfl hA2 (by decide) fun I3 hF3 ht3 => ?_
      rw [Option.toList_none, List.nil_append, gb_173_46]
      exact K I3 0 (fun k i j hn => by rw [hF3 _ _ _ (by omega), hF2 _ _ _ (by omega)]) (by rw [hN]; exact ht3) (fun s g q _ e => by rw [hN] at e; cases e)
    have hsn := mTk_sn ht1
    by_cases w1 : lIsL (lB tp n s) = true
    case neg =>
      rw [if_pos (by rw [zb_0, hv]; exact fun e => w1 (lIsL_iff.mpr e))]
      exact no I1 hF1 ht1 hA (Or.inl (fun e => w1 (hword.mp e).1))
    rw [if_neg (by rw [zb_0, hv]; exact fun e => e (lIsL_iff.mp w1)), gb_173_19]
    have h7 : (I1 50 0 4).toInt = s ↔ g = true := by obtain ⟨_, _, a, _, _, _, _, h7, _⟩ := ht1; exact h7
    by_cases hg : g = true
    · rw [if_pos (z_inj (by rw [hA]; exact (h7.mpr hg).symm))]
      exact no I1 hF1 ht1 hA (Or.inl (fun e => by have := (hword.mp e).2; rw [hg] at this; cases this))
    have hgf : g = false := Bool.eq_false_iff.mpr hg
    have hk2 : lKd tp n s g = -2 := hword.mpr ⟨w1, hgf⟩
    rw [if_neg (fun e => hg (h7.mp (by rw [← e, hA]))), gb_173_30]
    refine n_own hx1 ht1 fun I2 y hF2 ht2 hA2 hy => ?_
    have hFF2 : (∀ k i j, ¬ ((k = 50 ∧ i = 0 ∧ j = 2)) → I2 k i j = I k i j) := fun k i j hn => by rw [hF2 _ _ _ hn, hF1 _ _ _ hn]
    have hx2 : mTx I2 tp n := mTx_congr hx (fun j => hFF2 _ _ _ (by omega)) (hFF2 _ _ _ (by omega)) (fun i j => hFF2 _ _ _ (by omega))
    have hA2 : (I2 50 0 2).toInt = s := hA2
    rw [Option.toList_some, List.singleton_append, gb_173_34]
    by_cases wo : lOwn tp n (.inr (s, g)) = true
    · rw [if_pos wo] at hy
      have wo' : lKd tp n s g = -2 ∧ 0 ≤ lWd tp s (lEn tp n s) ∧ lWd tp s (lEn tp n s) < 27 := of_decide_eq_true wo
      rw [if_neg (by rw [hy]; decide)]
      exact no I2 hFF2 ht2 hA2 (Or.inr wo'.2)
    rw [if_neg wo] at hy
    have hno : ¬ (lKd tp n s g ≠ -2 ∨ (0 ≤ wHere tp n s ∧ wHere tp n s < 27)) := fun q => by
      rcases q with q | q
      · exact q hk2
      · exact wo (decide_eq_true ⟨hk2, q⟩)
    rw [if_neg hno] at hN
    have hE := lEn_L w1
    have hr := lEn_r (tp := tp) hsn
    have hs1 : s < n := lB_le (tp := tp) (by rw [lIsL_iff] at w1; omega)
    rw [if_pos hy, gb_173_48]
    refine n_name_loop (e := lEn tp n s) hn hr.2.1 (hr.2.2 hs1) (fun j h1 h2 => lRun_in lL_m1 h1 (by rw [← hE]; exact h2)) (by rw [hE]; exact lRun_stop lL_m1) (lEn tp n s - s) 0 _ _ (by omega) (by omega) (fun j hj => by rw [u_k (by decide)]; exact hx2.1 j hj) (by rw [u_j (by decide)]; exact hx2.2.1) (by rw [u_j (by decide), hA2]; omega) (by rw [u_eq]; exact hA2) rfl (by rw [u_j (by decide)]; exact ht2.1) (fun I3 x c1 hF3 c2 c3 => ?_) (fun I3 x c1 hF3 c2 c3 c4 => ?_)
    · rw [if_pos c1] at hN
      exact K I3 x (fun k i j hn => by rw [hF3 _ _ _ (by omega), u_ne (by omega), hFF2 _ _ _ (by omega)]) (by rw [hN]; exact ⟨c2, by decide, c3⟩) (fun s g q _ e => by rw [hN] at e; cases e)
    · rw [if_neg (by omega)] at hN
      refine K I3 x (fun k i j hn => by rw [hF3 _ _ _ (by omega), u_ne (by omega), hFF2 _ _ _ (by omega)]) (by rw [hN]; exact mTk_next ht2 (Or.inl hk2) (by rw [hF3 _ _ _ (by omega), u_j (by decide)]) (by rw [hF3 _ _ _ (by omega), u_j (by decide)]) c2 c3) (fun s' g' q' e _ => ?_)
      injection e with e; injection e with e1 e2
      subst e1
      exact ⟨c4, by rw [hF3 _ _ _ (by omega), u_eq]; exact hA2, w1, c1⟩
/-- the names that stand, as numbers -/
def dRow (D : gCo) (r m : Nat) : Prop := m ≤ 6 ∧ (∀ k, k < m → 1 ≤ D.1 (100 + (6 * r + k)) ∧ D.1 (100 + (6 * r + k)) ≤ 26) ∧ ∀ k, m ≤ k → k < 6 → D.1 (100 + (6 * r + k)) = 0
def mNs (J : Nat → Nat → Nat → Int64) (D : gCo) : Prop := ∀ r : Nat, ((r : Int) < D.1 2 ∨ 8 ≤ r ∧ (r : Int) - 8 < D.1 3) → ∃ m, dRow D r m ∧ (J 55 0 r).toInt = gPk (fun k => D.1 (100 + (6 * r + k))) m
theorem cLet_row {k : Nat} (hl : lIsL (lB tp n s) = true) (hsn : s ≤ n) (h6 : lEn tp n s - s ≤ 6) : (k < lEn tp n s - s → 1 ≤ cLet tp s (lEn tp n s) k ∧ cLet tp s (lEn tp n s) k ≤ 26 ∧ cLet tp s (lEn tp n s) k = cLt tp s k) ∧ (lEn tp n s - s ≤ k → cLet tp s (lEn tp n s) k = 0) := by
  have her := lEn_r (tp := tp) hsn
  refine ⟨fun hk => ?_, fun hk => if_neg (by omega)⟩
  have e : cLet tp s (lEn tp n s) k = tp (s + k) - 96 := if_pos (by omega)
  have hb : lIsL (lB tp n (s + k)) = true := lRun_in (p := lIsL) (k := s) lL_m1 (by omega) (by rw [← lEn_L hl]; omega)
  rw [lB_lt (by omega), lIsL_iff] at hb
  rw [e]
  exact ⟨by omega, by omega, rfl⟩
theorem nSame_pk {r m : Nat} (hl : lIsL (lB tp n s) = true) (hsn : s ≤ n) (h6 : lEn tp n s - s ≤ 6) (hR : dRow D r m) : nSame D (cLet tp s (lEn tp n s)) r ↔ gPk (fun k => D.1 (100 + (6 * r + k))) m = gPk (cLt tp s) (lEn tp n s - s) := by
  have hlr : ∀ k, k < lEn tp n s - s → 1 ≤ cLt tp s k ∧ cLt tp s k ≤ 26 := fun k hk => by
    have := (cLet_row (k := k) hl hsn h6).1 hk; omega
  constructor
  · intro hs
    have em : m = lEn tp n s - s := by
      by_cases w1 : m < lEn tp n s - s
      · have a := hs m (by omega)
        have b := hR.2.2 m (Nat.le_refl _) (by omega)
        have c := (cLet_row (k := m) hl hsn h6).1 w1
        omega
      · by_cases w2 : lEn tp n s - s < m
        · have a := hs (lEn tp n s - s) (by have := hR.1; omega)
          have b := hR.2.1 (lEn tp n s - s) w2
          have c := (cLet_row (k := lEn tp n s - s) hl hsn h6).2 (Nat.le_refl _)
          omega
        · omega
    rw [em]
    have : ∀ j, j ≤ lEn tp n s - s → gPk (fun k => D.1 (100 + (6 * r + k))) j = gPk (cLt tp s) j := fun j => by
      induction j with
      | zero => intro _; rfl
      | succ j ih =>
        intro hj
        have a := hs j (by omega)
        have c := (cLet_row (k := j) hl hsn h6).1 (by omega)
        show 27 * gPk _ j + D.1 (100 + (6 * r + j)) = 27 * gPk _ j + cLt tp s j
        rw [ih (by omega), ← a, c.2.2]
    exact this _ (Nat.le_refl _)
  · intro hs k hk
    obtain ⟨em, hall⟩ := gPk_inj hR.2.1 hlr hs
    by_cases w : k < m
    · have c := (cLet_row (k := k) hl hsn h6).1 (by omega)
      have := hall k w
      rw [c.2.2]; exact this.symm
    · rw [(cLet_row (k := k) hl hsn h6).2 (by omega), hR.2.2 k (by omega) hk]
theorem n_newName {x1 x2 x3 x4 : Option gV} (hx : mTx I tp n) (ht : mTk I tp n τ) (h1 : (I 54 0 1).toInt = D.1 2) (h2 : (I 54 0 2).toInt = D.1 3) (r2 : 0 ≤ D.1 2 ∧ D.1 2 ≤ 8) (r3 : 0 ≤ D.1 3 ∧ D.1 3 ≤ 8) (hN : mNs J D)
    (K : ∀ (I' : Nat → Nat → Nat → Int32) (x : Int64), (∀ k i j, ¬ ((k = 50 ∧ i = 0 ∧ (j = 2 ∨ j = 4 ∨ j = 5 ∨ j = 6 ∨ j = 38))) → I' k i j = I k i j) → mTk I' tp n (lNmT tp n D τ) → (∀ s g q, τ = .inr (s, g) → lNmT tp n D τ = .inr q → x.toInt = gPk (cLt tp s) (lEn tp n s - s) ∧ lIsL (lB tp n s) = true ∧ lEn tp n s - s ≤ 6) → Q (some (.inr (.inl x))) (gwd S I' J h)) : (gq (d + 4) 176 0 [some (.inr (.inr (some (50, 0)))), x1, x2, x3, x4] [] (gwd S I J h) Q) := by
  have e1 : (1 : Int32).toInt = 1 := rfl
  have e8 : (8 : Int32).toInt = 8 := rfl
  have e2 : (2 : Int32).toInt = 2 := rfl
  rw [gb_176_0]
  refine n_name hx ht fun I1 v hF1 ht1 hv1 => ?_
  rw [Option.toList_some, List.singleton_append, gb_176_4]
  -- the loop goes by behind a fault
  have byB : ∀ (b : Int × Int) (I2 : Nat → Nat → Nat → Int32), (∀ k i j, ¬ ((k = 50 ∧ i = 0 ∧ (j = 2 ∨ j = 4 ∨ j = 5 ∨ j = 6 ∨ j = 38))) → I2 k i j = I k i j) → mTk I2 tp n (.inl b) → (Q (some (.inr (.inl v))) (gwd S I2 J h)) → ∀ (m2 k2 : Nat) (a3 : Int32) (x4 : Option gV), k2 + m2 = 2 → a3.toInt = k2 → (gq (d + 4) 176 7 [some (.inr (.inr (some (50, 0)))), some (.inr (.inl (v))), none, some (.inl (a3)), x4] [] (gwd S I2 J h) Q) := fun b I2 hF2 ht2 KQ m2 => by
    induction m2 with
    | zero =>
      intro k2 a3 x4 hk h3
      rw [gb_176_7, if_pos (by rw [z_le]; omega), gb_176_73]; exact KQ
    | succ m2 ih =>
      intro k2 a3 x4 hk h3
      have q1 : (1 + a3).toInt = 1 + k2 := by rw [z_add (by omega) (by omega), h3, e1]
      have n1 : (1 + a3).toNatClampNeg = 1 + k2 := by rw [z_n, q1]; omega
      have cnt : 0 ≤ (I2 54 0 (1 + k2)).toInt ∧ (I2 54 0 (1 + k2)).toInt ≤ 8 := by
        rw [hF2 _ _ _ (by omega)]
        have : k2 = 0 ∨ k2 = 1 := by omega
        rcases this with rfl | rfl
        · rw [h1]; exact r2
        · rw [h2]; exact r3
      have inn : ∀ (m k : Nat) (a4 : Int32), (k : Int) + m = (I2 54 0 (1 + k2)).toInt → a4.toInt = k → (gq (d + 4) 176 15 [some (.inr (.inr (some (50, 0)))), some (.inr (.inl (v))), none, some (.inl (a3)), some (.inl (a4))] [] (gwd S I2 J h) Q) := by
        intro m
        induction m with
        | zero =>
          intro k a4 hk4 h4
          rw [gb_176_15]
          refine ⟨g_in.mpr (by omega), ?_⟩
          rw [n1, gb_176_25, if_pos (by rw [z_le]; omega), gb_176_67]
          exact ih (k2 + 1) _ _ (by omega) (by rw [z_add (by omega) (by omega), h3, e1]; rfl)
        | succ m ih2 =>
          intro k a4 hk4 h4
          rw [gb_176_15]
          refine ⟨g_in.mpr (by omega), ?_⟩
          rw [n1, gb_176_25, if_neg (by rw [z_le]; omega), gb_176_28, if_neg (mTk_bad ht2), gb_176_61]
          exact ih2 (k + 1) _ (by omega) (by rw [z_add (by omega) (by omega), h4, e1]; rfl)
      rw [gb_176_7, if_neg (by rw [z_le]; omega), gb_176_12]
      exact inn (I2 54 0 (1 + k2)).toInt.toNat 0 _ (by omega) rfl
  match τ, ht, ht1, hv1, K with
  | .inl b, ht, ht1, hv1, K => exact byB b I1 hF1 ht1 (K I1 v hF1 ht1 (fun s g q e => by cases e)) 2 0 _ _ rfl rfl
  | .inr (s, g), ht, ht1, hv1, K =>
    have hN0 : lNm0 tp n (.inr (s, g)) = if lKd tp n s g ≠ -2 ∨ (0 ≤ wHere tp n s ∧ wHere tp n s < 27) then .inl (1, (s : Int)) else if 6 < lEn tp n s - s then .inl (1, (s : Int) + 6) else .inr (lNx tp n s g) := rfl
    have hNT : lNmT tp n D (.inr (s, g)) = if lKd tp n s g ≠ -2 ∨ (0 ≤ wHere tp n s ∧ wHere tp n s < 27) then .inl (1, (s : Int)) else if 6 < lEn tp n s - s then .inl (1, (s : Int) + 6) else if nTkb D (cLet tp s (lEn tp n s)) = true then .inl (3, (s : Int)) else .inr (lNx tp n s g) := rfl
    by_cases w1 : lKd tp n s g ≠ -2 ∨ (0 ≤ wHere tp n s ∧ wHere tp n s < 27)
    · rw [if_pos w1] at hN0 hNT
      rw [hN0] at ht1
      exact byB _ I1 hF1 ht1 (K I1 v hF1 (by rw [hNT]; exact ht1) (fun s g q _ e => by rw [hNT] at e; cases e)) 2 0 _ _ rfl rfl
    rw [if_neg w1] at hN0 hNT
    by_cases w2 : 6 < lEn tp n s - s
    · rw [if_pos w2] at hN0 hNT
      rw [hN0] at ht1
      exact byB _ I1 hF1 ht1 (K I1 v hF1 (by rw [hNT]; exact ht1) (fun s g q _ e => by rw [hNT] at e; cases e)) 2 0 _ _ rfl rfl
    rw [if_neg w2] at hN0 hNT
    rw [hN0] at ht1
    obtain ⟨hv, h38, hl, h6⟩ := hv1 s g _ rfl hN0
    have hsn := mTk_sn ht
    have same : ∀ r : Nat, ((r : Int) < D.1 2 ∨ 8 ≤ r ∧ (r : Int) - 8 < D.1 3) → (lg_cmp (J 55 0 r) v = 0 ↔ nSame D (cLet tp s (lEn tp n s)) r) := fun r hr => by
      obtain ⟨m, hR, hj⟩ := hN r hr
      rw [nSame_pk hl hsn h6 hR, ← hj, ← hv]
      exact (lg_cmp_eq _ _).trans ⟨fun e => by rw [e], fun e => y_inj e⟩
    -- a name that is taken
    have taken : nTaken D (cLet tp s (lEn tp n s)) → ∀ (a3 a4 : Int32) (k2 k : Nat), k2 < 2 → a3.toInt = k2 → a4.toInt = k → (k : Int) < (I 54 0 (1 + k2)).toInt → (gq (d + 4) 176 52 [some (.inr (.inr (some (50, 0)))), some (.inr (.inl (v))), none, some (.inl (a3)), some (.inl (a4))] [] (gwd S I1 J h) Q) := fun hy a3 a4 k2 k hk2 h3 h4 hk => by
      rw [if_pos (nTkb_iff.mpr hy)] at hNT
      rw [gb_176_52]
      refine n_failAt ht1 rfl h38 (by decide) fun I2 hF2 ht2 => ?_
      rw [Option.toList_none, List.nil_append, gb_176_61]
      have hFF2 : (∀ k i j, ¬ ((k = 50 ∧ i = 0 ∧ (j = 2 ∨ j = 4 ∨ j = 5 ∨ j = 6 ∨ j = 38))) → I2 k i j = I k i j) := fun k i j hn => by rw [hF2 _ _ _ (by omega), hF1 _ _ _ hn]
      have KQ := K I2 v hFF2 (by rw [hNT]; exact ht2) (fun s g q _ e => by rw [hNT] at e; cases e)
      have q1 : (1 + a3).toInt = 1 + k2 := by rw [z_add (by omega) (by omega), h3, e1]
      have n1 : (1 + a3).toNatClampNeg = 1 + k2 := by rw [z_n, q1]; omega
      have cnt : (I2 54 0 (1 + k2)).toInt = (I 54 0 (1 + k2)).toInt := by rw [hFF2 _ _ _ (by omega)]
      have c8 : (I 54 0 (1 + k2)).toInt ≤ 8 := by
        have : k2 = 0 ∨ k2 = 1 := by omega
        rcases this with rfl | rfl
        · rw [h1]; exact r2.2
        · rw [h2]; exact r3.2
      have inn : ∀ (m k : Nat) (a4 : Int32), (k : Int) + m = (I2 54 0 (1 + k2)).toInt → a4.toInt = k → (gq (d + 4) 176 15 [some (.inr (.inr (some (50, 0)))), some (.inr (.inl (v))), none, some (.inl (a3)), some (.inl (a4))] [] (gwd S I2 J h) Q) := by
        intro m
        induction m with
        | zero =>
          intro k a4 hk4 h4
          rw [gb_176_15]
          refine ⟨g_in.mpr (by omega), ?_⟩
          rw [n1, gb_176_25, if_pos (by rw [z_le]; omega), gb_176_67]
          exact byB _ I2 hFF2 ht2 KQ (1 - k2) (k2 + 1) _ _ (by omega) (by rw [z_add (by omega) (by omega), h3, e1]; rfl)
        | succ m ih2 =>
          intro k a4 hk4 h4
          rw [gb_176_15]
          refine ⟨g_in.mpr (by omega), ?_⟩
          rw [n1, gb_176_25, if_neg (by rw [z_le]; omega), gb_176_28, if_neg (mTk_bad ht2), gb_176_61]
          exact ih2 (k + 1) _ (by omega) (by rw [z_add (by omega) (by omega), h4, e1]; rfl)
      exact inn ((I 54 0 (1 + k2)).toInt.toNat - (k + 1)) (k + 1) _ (by omega) (by rw [z_add (by omega) (by omega), h4, e1]; rfl)
    have loop : ∀ (m2 k2 : Nat) (a3 : Int32) (x4 : Option gV), k2 + m2 = 2 → a3.toInt = k2 → (∀ i : Nat, 0 < k2 → (i : Int) < D.1 2 → ¬ nSame D (cLet tp s (lEn tp n s)) i) → (∀ i : Nat, 1 < k2 → (i : Int) < D.1 3 → ¬ nSame D (cLet tp s (lEn tp n s)) (8 + i)) → (gq (d + 4) 176 7 [some (.inr (.inr (some (50, 0)))), some (.inr (.inl (v))), none, some (.inl (a3)), x4] [] (gwd S I1 J h) Q) := by
      intro m2
      induction m2 with
      | zero =>
        intro k2 a3 x4 hk h3 hA hB
        have hno : ¬ nTkb D (cLet tp s (lEn tp n s)) = true := fun q => by
          obtain ⟨i, hi, hq⟩ := nTkb_iff.mp q
          rcases hq with ⟨q1, q2⟩ | ⟨q1, q2⟩
          · exact hA i (by omega) q1 q2
          · exact hB i (by omega) q1 q2
        rw [if_neg hno] at hNT
        rw [gb_176_7, if_pos (by rw [z_le]; omega), gb_176_73]
        exact K I1 v hF1 (by rw [hNT]; exact ht1) (fun s' g' q e _ => by
          injection e with e; injection e with e3 e4
          subst e3
          exact ⟨hv, hl, h6⟩)
      | succ m2 ih =>
        intro k2 a3 x4 hk h3 hA hB
        have q1 : (1 + a3).toInt = 1 + k2 := by rw [z_add (by omega) (by omega), h3, e1]
        have n1 : (1 + a3).toNatClampNeg = 1 + k2 := by rw [z_n, q1]; omega
        have cnt : (I1 54 0 (1 + k2)).toInt = (I 54 0 (1 + k2)).toInt := by rw [hF1 _ _ _ (by omega)]
        have ck : (I 54 0 (1 + k2)).toInt = if k2 = 0 then D.1 2 else D.1 3 := by
          have : k2 = 0 ∨ k2 = 1 := by omega
          rcases this with rfl | rfl
          · rw [h1]; rfl
          · rw [h2]; rfl
        have c8 : 0 ≤ (I 54 0 (1 + k2)).toInt ∧ (I 54 0 (1 + k2)).toInt ≤ 8 := by rw [ck]; split <;> assumption
        have inn : ∀ (m k : Nat) (a4 : Int32), (k : Int) + m = (I1 54 0 (1 + k2)).toInt → a4.toInt = k → (∀ j, j < k → ¬ nSame D (cLet tp s (lEn tp n s)) (8 * k2 + j)) → (gq (d + 4) 176 15 [some (.inr (.inr (some (50, 0)))), some (.inr (.inl (v))), none, some (.inl (a3)), some (.inl (a4))] [] (gwd S I1 J h) Q) := by
          intro m
          induction m with
          | zero =>
            intro k a4 hk4 h4 hno
            rw [gb_176_15]
            refine ⟨g_in.mpr (by omega), ?_⟩
            rw [n1, gb_176_25, if_pos (by rw [z_le]; omega), gb_176_67]
            refine ih (k2 + 1) _ _ (by omega) (by rw [z_add (by omega) (by omega), h3, e1]; rfl) (fun i _ hi => ?_) (fun i h0 hi => ?_)
            · by_cases e0 : k2 = 0
              · have := hno i (by rw [e0] at ck; rw [if_pos rfl] at ck; subst e0; omega)
                rw [e0, show 8 * 0 + i = i by omega] at this; exact this
              · exact hA i (by omega) hi
            · have e1' : k2 = 1 := by omega
              have := hno i (by rw [e1', if_neg (by decide)] at ck; subst e1'; omega)
              rw [e1', show 8 * 1 + i = 8 + i by omega] at this; exact this
          | succ m ih2 =>
            intro k a4 hk4 h4 hno
            have q8 : (8 * a3).toInt = 8 * k2 := by rw [z_mul (by rw [h3, e8]; omega) (by rw [h3, e8]; omega), h3, e8]
            have q9 : (8 * a3 + a4).toInt = ((8 * k2 + k : Nat) : Int) := by rw [z_add (by omega) (by omega), q8, h4]; omega
            have hrow : (((8 * k2 + k : Nat) : Int) < D.1 2 ∨ 8 ≤ 8 * k2 + k ∧ ((8 * k2 + k : Nat) : Int) - 8 < D.1 3) := by
              have : k2 = 0 ∨ k2 = 1 := by omega
              rcases this with rfl | rfl
              · left; rw [if_pos rfl] at ck; omega
              · right; rw [if_neg (by decide)] at ck; omega
            rw [gb_176_15]
            refine ⟨g_in.mpr (by omega), ?_⟩
            rw [n1, gb_176_25, if_neg (by rw [z_le]; omega), gb_176_28, if_pos ht1.1, gb_176_35]
            refine ⟨g_in.mpr (by omega), ?_⟩
            rw [z_n, q9, Int.toNat_natCast, gb_176_47]
            by_cases ws : nSame D (cLet tp s (lEn tp n s)) (8 * k2 + k)
            · rw [if_pos ((same _ hrow).mpr ws)]
              refine taken ?_ a3 a4 k2 k (by omega) h3 h4 (by omega)
              have : k2 = 0 ∨ k2 = 1 := by omega
              rcases this with rfl | rfl
              · rw [if_pos rfl] at ck
                rw [show 8 * 0 + k = k by omega] at ws
                exact ⟨k, by omega, Or.inl ⟨by omega, ws⟩⟩
              · rw [if_neg (by decide)] at ck
                rw [show 8 * 1 + k = 8 + k by omega] at ws
                exact ⟨k, by omega, Or.inr ⟨by omega, ws⟩⟩
            · rw [if_neg (fun e => ws ((same _ hrow).mp e)), gb_176_61]
              refine ih2 (k + 1) _ (by omega) (by rw [z_add (by omega) (by omega), h4, e1]; rfl) fun j hj => ?_
              by_cases ej : j = k
              · rw [ej]; exact ws
              · exact hno j (by omega)
        rw [gb_176_7, if_neg (by rw [z_le]; omega), gb_176_12]
        exact inn (I1 54 0 (1 + k2)).toInt.toNat 0 _ (by omega) rfl (fun j hj => absurd hj (Nat.not_lt_zero _))
    exact loop 2 0 _ _ rfl rfl (fun i h0 => absurd h0 (by omega)) (fun i h0 => absurd h0 (by omega))
