/-! The model reads a statement. -/
def mFz (I : Nat → Nat → Nat → Int32) (D : gCo) (z f : Nat) : Prop := (D.1 (50 + f) = 1 ∧ ∃ b0 : Nat, (I 58 0 f).toInt = b0 ∧ (I 59 0 f).toInt = b0 + (D.2 f).length ∧ b0 + (D.2 f).length ≤ z ∧ gCd (I 60 0) gMc b0 (D.2 f)) ∨ (D.1 (50 + f) = 0 ∧ (I 58 0 f).toInt = -1)
theorem mFz_congr {I I' : Nat → Nat → Nat → Int32} {D D' : gCo} {z z' f : Nat} (h : mFz I D z f) (e1 : I' 58 0 f = I 58 0 f) (e2 : I' 59 0 f = I 59 0 f) (e3 : ∀ j, j < z → I' 60 0 j = I 60 0 j) (hz : z ≤ z') (d1 : D'.1 (50 + f) = D.1 (50 + f)) (d2 : D'.2 f = D.2 f) : mFz I' D' z' f := by
  rcases h with ⟨h1, b0, h2, h3, h4, h5⟩ | ⟨h1, h2⟩
  · refine Or.inl ⟨by rw [d1]; exact h1, b0, by rw [e1]; exact h2, by rw [e2, d2]; exact h3, by rw [d2]; omega, ?_⟩
    rw [d2]
    exact gCd_congr (fun k h1 h2 => e3 k (by omega)) h5
  · exact Or.inr ⟨by rw [d1]; exact h1, by rw [e1]; exact h2⟩
/-- a course being read, as the model holds it -/
def mPc (I : Nat → Nat → Nat → Int32) (J : Nat → Nat → Nat → Int64) (D : gCo) (s : Nat) : Prop := ((I 54 0 0).toInt = D.1 1 ∧ (I 54 0 1).toInt = D.1 2 ∧ (I 54 0 2).toInt = D.1 3 ∧ (I 54 0 3).toInt = D.1 4 ∧ (I 54 0 4).toInt = D.1 5 ∧ (I 50 0 47).toInt = D.1 0) ∧ ((0 ≤ D.1 2 ∧ D.1 2 ≤ 8) ∧ (0 ≤ D.1 3 ∧ D.1 3 ≤ 8)) ∧ (∀ b : Nat, (b : Int) < D.1 2 → (I 56 0 (2 * b)).toInt = D.1 (10 + b) ∧ (I 56 0 (2 * b + 1)).toInt = D.1 (20 + b)) ∧ (∀ b : Nat, (b : Int) < D.1 3 → (I 57 0 (2 * b)).toInt = D.1 (30 + b) ∧ (I 57 0 (2 * b + 1)).toInt = D.1 (40 + b)) ∧ mNs J D ∧ ∃ z, z ≤ s ∧ (I 50 0 46).toInt = z ∧ ∀ f, f < 3 → mFz I D z f
variable {d S : Nat} {h : Nat × Option gNm} {I : Nat → Nat → Nat → Int32} {J : Nat → Nat → Nat → Int64} {Q : Option gV → gW → Prop}
variable {tp : Nat → Int} {n s : Nat} {g : Bool} {D : gCo} {τ : lT}
theorem lKd_wKd {w : Nat} (hw : w < 33) : lIs tp n (.inr (s, g)) w = true ↔ wKd tp n s g = w := by
  rw [lIs_iff]
  unfold wKd
  by_cases k : lKd tp n s g = -2
  · rw [if_pos k]; exact ⟨fun q => q.2, fun q => ⟨k, q⟩⟩
  · rw [if_neg k]; exact ⟨fun q => absurd q.1 k, fun q => by omega⟩
theorem n_stat {x1 : Option gV} (hx : mTx I tp n) (ht : mTk I tp n (.inr (s, g))) (hA : (I 50 0 2).toInt = s) (hs : s < n) (hD : mPc I J D s) (h0 : 0 ≤ D.1 0 ∧ D.1 0 ≤ 59)
    (K : ∀ (I' : Nat → Nat → Nat → Int32) J', FD I I' → FDJ J J' → mTk I' tp n (nSt tp n D s g).1 → (∀ q, (nSt tp n D s g).1 = .inr q → mPc I' J' (dUp (nSt tp n D s g).2 0 (D.1 0 + 1)) q.1) → Q none (gwd S I' J' h)) : (gq (d + 11) 180 0 [some (.inr (.inr (some (50, 0)))), x1] [] (gwd S I J h) Q) := by
  have hn := hx.2.2.1
  have hsn := mTk_sn ht
  have hnx := lNx_r (tp := tp) (g := g) hsn
  have hs1 := hnx.2.2.1 hs
  have e1 : (1 : Int32).toInt = 1 := rfl
  have e60 : (60 : Int32).toInt = 60 := rfl
  obtain ⟨⟨p1, p2, p3, p4, p5, p0⟩, ⟨r2, r3⟩, pB, pH, pN, z, hz, pz, pF⟩ := hD
  -- the end of a statement
  have fin : ∀ (I2 : Nat → Nat → Nat → Int32) (J2 : Nat → Nat → Nat → Int64) (τ2 : lT) (D2 : gCo) (a1 : Int32), FD I I2 → FDJ J J2 → mTk I2 tp n τ2 → (nSt tp n D s g).1 = lAskC tp n τ2 59 → (nSt tp n D s g).2 = D2 → I2 50 0 47 = I 50 0 47 → (∀ (I' : Nat → Nat → Nat → Int32), (∀ k i j, ¬ ((k = 50 ∧ i = 0 ∧ (j = 2 ∨ j = 5 ∨ j = 6 ∨ j = 47))) → I' k i j = I2 k i j) → (I' 50 0 47).toInt = D.1 0 + 1 → ∀ q, lAskC tp n τ2 59 = .inr q → mPc I' J2 (dUp D2 0 (D.1 0 + 1)) q.1) → (gq (d + 11) 180 167 [some (.inr (.inr (some (50, 0)))), some (.inl (a1))] [] (gwd S I2 J2 h) Q) := fun I2 J2 τ2 D2 a1 hF2 hJ2 ht2 hS1 hS2 h47 hP => by
    rw [gb_180_167]
    refine n_asign (c := 59) rfl (by decide) rfl rfl (mTx_FD hx hF2) ht2 fun I3 hF3 ht3 => ?_
    rw [Option.toList_none, List.nil_append, gb_180_173]
    have hq : (I3 50 0 47 + 1).toInt = D.1 0 + 1 := by rw [z_add (by rw [hF3 _ _ _ (by omega), h47, p0]; omega) (by rw [hF3 _ _ _ (by omega), h47, p0]; omega), hF3 _ _ _ (by omega), h47, p0, e1]
    refine K _ J2 (FD_trans hF2 (fun k i j hn => by rw [u_ne (by omega), hF3 _ _ _ (by omega)])) hJ2 (by rw [hS1]; exact mTk_congr ht3 (fun j hj => u_j (by omega))) (fun q e => ?_)
    rw [hS2]
    rw [hS1] at e
    exact hP _ (fun k i j hn => by rw [u_ne (by omega), hF3 _ _ _ (by omega)]) (by rw [u_eq]; exact hq) q e
  have hwd := lWd_r (tp := tp) (s := s) (e := lEn tp n s)
  -- a word that isn't here
  have skip : ∀ (i1 w : Nat) (I1 : Nat → Nat → Nat → Int32) (Qq : Option gV → gW → Prop), i1 < 52 → mWx.getD i1 0 = w → w < 33 → ¬ wKd tp n s g = w → (∀ k i j, ¬ ((k = 50 ∧ i = 0 ∧ (j = 2 ∨ j = 4))) → I1 k i j = I k i j) → mTk I1 tp n (.inr (s, g)) → (I1 50 0 2).toInt = s → (∀ I2, (∀ k i j, ¬ ((k = 50 ∧ i = 0 ∧ (j = 2 ∨ j = 4))) → I2 k i j = I k i j) → mTk I2 tp n (.inr (s, g)) → (I2 50 0 2).toInt = s → Qq (some (.inl 0)) (gwd S I2 J h)) → (gq (d + 10) 167 0 [some (.inr (.inr (some (50, 0)))), some (.inr (.inr (some (53, i1))))] [] (gwd S I1 J h) Qq) := fun i1 w I1 Qq hi hw hw3 hno hF1 ht1 hA1 KQ => by
    have hx1 : mTx I1 tp n := mTx_congr hx (fun j => hF1 _ _ _ (by omega)) (hF1 _ _ _ (by omega)) (fun i j => hF1 _ _ _ (by omega))
    refine n_takes hi hx1 ht1 fun I2 x hF2 ht2 hA2 hv => ?_
    rw [hw] at ht2 hA2 hv
    have hn' : ¬ lIs tp n (.inr (s, g)) w = true := fun q => hno ((lKd_wKd hw3).mp q)
    rw [if_neg hn'] at hv
    have e : lTkW tp n (.inr (s, g)) w = .inr (s, g) := if_neg (fun q => hn' (lIs_iff.mpr q))
    rw [e] at ht2
    rw [hv]
    exact KQ I2 (fun k i j hn => by rw [hF2 _ _ _ hn, hF1 _ _ _ hn]) ht2 (hA2 (Bool.eq_false_iff.mpr hn'))
  have hit : ∀ (i1 w : Nat) (I1 : Nat → Nat → Nat → Int32) (Qq : Option gV → gW → Prop), i1 < 52 → mWx.getD i1 0 = w → w < 33 → wKd tp n s g = w → (∀ k i j, ¬ ((k = 50 ∧ i = 0 ∧ (j = 2 ∨ j = 4))) → I1 k i j = I k i j) → mTk I1 tp n (.inr (s, g)) → (∀ I2, (∀ k i j, ¬ ((k = 50 ∧ i = 0 ∧ (j = 2 ∨ j = 4))) → I2 k i j = I k i j) → mTk I2 tp n (.inr (lNx tp n s g)) → Qq (some (.inl 1)) (gwd S I2 J h)) → (gq (d + 10) 167 0 [some (.inr (.inr (some (50, 0)))), some (.inr (.inr (some (53, i1))))] [] (gwd S I1 J h) Qq) := fun i1 w I1 Qq hi hw hw3 hy hF1 ht1 KQ => by
    have hx1 : mTx I1 tp n := mTx_congr hx (fun j => hF1 _ _ _ (by omega)) (hF1 _ _ _ (by omega)) (fun i j => hF1 _ _ _ (by omega))
    refine n_takes hi hx1 ht1 fun I2 x hF2 ht2 hA2 hv => ?_
    rw [hw] at ht2 hA2 hv
    have hy' : lIs tp n (.inr (s, g)) w = true := (lKd_wKd hw3).mpr hy
    rw [if_pos hy'] at hv
    have e : lTkW tp n (.inr (s, g)) w = .inr (lNx tp n s g) := if_pos (lIs_iff.mp hy')
    rw [e] at ht2
    rw [hv]
    exact KQ I2 (fun k i j hn => by rw [hF2 _ _ _ hn, hF1 _ _ _ hn]) ht2
  generalize hW : wKd tp n s g = w at skip hit
  have hS : nSt tp n D s g = if w = 20 then (if D.1 2 = 8 then (.inl (5, (s : Int)), D) else (lAskC tp n (nIt tp n 4 1 9 D (.inr (lNx tp n s g))).1 59, dBear D (lLe tp n (lNx tp n s g)) (nIt tp n 4 1 9 D (.inr (lNx tp n s g))).2.1 (nIt tp n 4 1 9 D (.inr (lNx tp n s g))).2.2))
      else if w = 22 then (if D.1 3 = 8 then (.inl (5, (s : Int)), D) else (lAskC tp n (nIt tp n 9 0 99 D (.inr (lNx tp n s g))).1 59, dHous D (lLe tp n (lNx tp n s g)) (nIt tp n 9 0 99 D (.inr (lNx tp n s g))).2.1 (nIt tp n 9 0 99 D (.inr (lNx tp n s g))).2.2))
      else if w = 23 then (lAskC tp n (lNumT tp n 1 99 (.inr (lNx tp n s g))).1 59, dUp D 4 (lNumT tp n 1 99 (.inr (lNx tp n s g))).2)
      else if w = 26 then (lAskC tp n (lNumT tp n 0 100 (.inr (lNx tp n s g))).1 59, dUp D 5 (lNumT tp n 0 100 (.inr (lNx tp n s g))).2)
      else if w = 3 ∨ w = 24 ∨ w = 25 then
        (if D.1 (50 + fOf w) = 1 then (.inl (5, (s : Int)), D)
        else (lAskC tp n (rd tp n (alT (fOf w)) (10 * n + 20) (if fOf w = 2 then 9 else 4) 0 (lNx tp n s g).1 (lNx tp n s g).2).1 59, dForm D (fOf w) (rd tp n (alT (fOf w)) (10 * n + 20) (if fOf w = 2 then 9 else 4) 0 (lNx tp n s g).1 (lNx tp n s g).2).2))
      else (.inl (1, (s : Int)), D) := by rw [← hW]; rfl
  rw [gb_180_0, if_neg (fun e => by have := congrArg Int32.toInt e; omega), gb_180_21]
  have hF0 : (∀ k i j, ¬ ((k = 50 ∧ i = 0 ∧ (j = 2 ∨ j = 4))) → I k i j = I k i j) := fun _ _ _ _ => rfl
  by_cases w20 : w = 20
  · rw [if_pos w20] at hS
    refine hit 1 20 I _ (by decide) rfl (by decide) w20 hF0 ht fun I1 hF1 ht1 => ?_
    have hFD1 : FD I I1 := fun k i j hn => hF1 _ _ _ (by omega)
    rw [Option.toList_some, List.singleton_append, gb_180_29, if_neg (by decide), gb_180_32]
    refine n_bearerT (D := D) (p := s) (mTx_FD hx hFD1) ht1 hA (by rw [hF1 _ _ _ (by omega)]; exact p1) (by rw [hF1 _ _ _ (by omega)]; exact p2) (by rw [hF1 _ _ _ (by omega)]; exact p3) r2 r3 pN (fun I2 b hb hF2 ht2 => ?_) (fun I2 q q1 n8 eτ eq hF2 ht2 c54 c56 c561 hll hl6 v hv => ?_)
    · rw [Option.toList_none, List.nil_append, gb_180_37]
      rcases hb with ⟨h8, _, rfl⟩ | ⟨n8, hb⟩ | hb
      · rw [if_pos h8] at hS
        exact fin I2 J (.inl (5, (s : Int))) _ _ (FD_trans hFD1 (fun k i j hn => hF2 _ _ _ (by omega))) (fun _ _ _ _ => rfl) ht2 (by rw [hS]; rfl) rfl (by rw [hF2 _ _ _ (by omega), hF1 _ _ _ (by omega)]) (fun _ _ _ q e => by cases e)
      · rw [if_neg n8, hb] at hS
        exact fin I2 J (.inl b) _ _ (FD_trans hFD1 (fun k i j hn => hF2 _ _ _ (by omega))) (fun _ _ _ _ => rfl) ht2 (by rw [hS]) rfl (by rw [hF2 _ _ _ (by omega), hF1 _ _ _ (by omega)]) (fun _ _ _ q e => by cases e)
      · cases hb
    · injection eτ with eτ
      subst eτ
      rw [if_neg n8, eq] at hS
      have hBn : (D.1 2).toNat < 8 := by omega
      rw [Option.toList_none, List.nil_append, gb_180_37]
      refine fin I2 _ (.inr q) _ _ (FD_trans hFD1 (fun k i j hn => hF2 _ _ _ (by omega))) (fun k i j hn => u_ne (by omega)) ht2 (by rw [hS]) (by rw [hS]) (by rw [hF2 _ _ _ (by omega), hF1 _ _ _ (by omega)]) (fun I5 hF5 h50 q' e => ?_)
      have hqm := lMo_trans (lMo_I (tp := tp) (n := n) (w2 := 4) (lo2 := 1) (hi2 := 9) (D := D) (τ := .inr (lNx tp n s g))) (lMo_C (tp := tp) (c := 59)) q' (by rw [eq]; exact e)
      obtain ⟨q0, e0, m0⟩ := hqm
      injection e0 with e0
      have hqq := m0 (by rw [← e0]; exact hnx.2.1)
      rw [← e0] at hqq
      have oth : ∀ k i j, ¬ (k = 50 ∧ i = 0 ∧ (j = 2 ∨ j = 4 ∨ j = 5 ∨ j = 6 ∨ j = 10 ∨ j = 38 ∨ j = 47) ∨ k = 54 ∧ i = 0 ∧ j = 1 ∨ k = 56 ∧ i = 0 ∧ (j = 2 * (D.1 2).toNat ∨ j = 2 * (D.1 2).toNat + 1)) → I5 k i j = I k i j := fun k i j hn => by rw [hF5 _ _ _ (by omega), hF2 _ _ _ (by omega), hF1 _ _ _ (by omega)]
      generalize nIt tp n 4 1 9 D (.inr (lNx tp n s g)) = R at *
      have hLL : ∀ k, lLe tp n (lNx tp n s g) k = cLet tp (lNx tp n s g).1 (lEn tp n (lNx tp n s g).1) k := fun k => rfl
      generalize hLe : lLe tp n (lNx tp n s g) = LL at *
      generalize hDD : dUp (dBear D LL R.2.1 R.2.2) 0 (D.1 0 + 1) = DD
      have dv' : ∀ j, DD.1 j = if j = 0 then D.1 0 + 1 else if j = 2 then D.1 2 + 1 else if j = 10 + (D.1 2).toNat then R.2.1 else if j = 20 + (D.1 2).toNat then R.2.2 else if 100 + 6 * (D.1 2).toNat ≤ j ∧ j < 106 + 6 * (D.1 2).toNat then LL (j - (100 + 6 * (D.1 2).toNat)) else D.1 j := fun j => by rw [← hDD]; rfl
      have dn : ∀ j, j ≠ 0 → j ≠ 2 → j ≠ 10 + (D.1 2).toNat → j ≠ 20 + (D.1 2).toNat → ¬ (100 + 6 * (D.1 2).toNat ≤ j ∧ j < 106 + 6 * (D.1 2).toNat) → DD.1 j = D.1 j := fun j h1 h2 h3 h4 h5 => by rw [dv', if_neg h1, if_neg h2, if_neg h3, if_neg h4, if_neg h5]
      have d22 : DD.1 2 = D.1 2 + 1 := by rw [dv', if_neg (by decide), if_pos rfl]
      have d33 : DD.1 3 = D.1 3 := dn _ (by decide) (by decide) (by omega) (by omega) (by omega)
      have hD2 : DD.2 = D.2 := by rw [← hDD]; rfl
      refine ⟨⟨by rw [oth _ _ _ (by omega), dn _ (by decide) (by decide) (by omega) (by omega) (by omega)]; exact p1, by rw [hF5 _ _ _ (by omega), c54, d22], by rw [oth _ _ _ (by omega), d33]; exact p3, by rw [oth _ _ _ (by omega), dn _ (by decide) (by decide) (by omega) (by omega) (by omega)]; exact p4, by rw [oth _ _ _ (by omega), dn _ (by decide) (by decide) (by omega) (by omega) (by omega)]; exact p5, by rw [h50, dv', if_pos rfl]⟩, ⟨by rw [d22]; omega, by rw [d33]; exact r3⟩, fun b hb => ?_, fun b hb => ?_, fun r hr => ?_, z, by omega, by rw [oth _ _ _ (by omega)]; exact pz, fun f hf => mFz_congr (pF f hf) (oth _ _ _ (by omega)) (oth _ _ _ (by omega)) (fun j _ => oth _ _ _ (by omega)) (Nat.le_refl _) (dn _ (by omega) (by omega) (by omega) (by omega) (by omega)) (by rw [hD2])⟩
      · rw [d22] at hb
        by_cases eb : b = (D.1 2).toNat
        · subst eb
          refine ⟨?_, ?_⟩
          · rw [hF5 _ _ _ (by omega), c56, dv', if_neg (by omega), if_neg (by omega), if_pos rfl]
          · rw [hF5 _ _ _ (by omega), c561, dv', if_neg (by omega), if_neg (by omega), if_neg (by omega), if_pos rfl]
        · rw [oth _ _ _ (by omega), oth _ _ _ (by omega), dn _ (by omega) (by omega) (by omega) (by omega) (by omega), dn _ (by omega) (by omega) (by omega) (by omega) (by omega)]
          exact pB b (by omega)
      · rw [d33] at hb
        rw [oth _ _ _ (by omega), oth _ _ _ (by omega), dn _ (by omega) (by omega) (by omega) (by omega) (by omega), dn _ (by omega) (by omega) (by omega) (by omega) (by omega)]
        exact pH b hb
      · rw [d22, d33] at hr
        by_cases er : r = (D.1 2).toNat
        · subst er
          have hrow : ∀ k, k < 6 → DD.1 (100 + (6 * (D.1 2).toNat + k)) = cLet tp (lNx tp n s g).1 (lEn tp n (lNx tp n s g).1) k := fun k hk => by
            rw [dv', if_neg (by omega), if_neg (by omega), if_neg (by omega), if_neg (by omega), if_pos (by omega), show 100 + (6 * (D.1 2).toNat + k) - (100 + 6 * (D.1 2).toNat) = k by omega]
            exact hLL k
          have hcr := fun k => cLet_row (tp := tp) (n := n) (s := (lNx tp n s g).1) (k := k) hll hnx.2.1 hl6
          refine ⟨lEn tp n (lNx tp n s g).1 - (lNx tp n s g).1, ⟨hl6, fun k hk => ?_, fun k hk hk6 => ?_⟩, ?_⟩
          · rw [hrow k (by omega)]; have := (hcr k).1 hk; omega
          · rw [hrow k hk6]; exact (hcr k).2 hk
          · rw [u_eq, hv]
            have : ∀ j, j ≤ lEn tp n (lNx tp n s g).1 - (lNx tp n s g).1 → gPk (cLt tp (lNx tp n s g).1) j = gPk (fun k => DD.1 (100 + (6 * (D.1 2).toNat + k))) j := fun j => by
              induction j with
              | zero => intro _; rfl
              | succ j ih =>
                intro hj
                show 27 * gPk _ j + cLt tp (lNx tp n s g).1 j = 27 * gPk _ j + DD.1 (100 + (6 * (D.1 2).toNat + j))
                rw [ih (by omega), hrow j (by omega), ((hcr j).1 (by omega)).2.2]
            exact this _ (Nat.le_refl _)
        · obtain ⟨m, hR, hJ⟩ := pN r (by omega)
          have hrow : ∀ k, k < 6 → DD.1 (100 + (6 * r + k)) = D.1 (100 + (6 * r + k)) := fun k hk => dn _ (by omega) (by omega) (by omega) (by omega) (by omega)
          have hm6 := hR.1
          refine ⟨m, ⟨hm6, fun k hk => by rw [hrow k (by omega)]; exact hR.2.1 k hk, fun k hk hk6 => by rw [hrow k hk6]; exact hR.2.2 k hk hk6⟩, ?_⟩
          rw [u_j er, hJ]
          have : ∀ j, j ≤ m → gPk (fun k => D.1 (100 + (6 * r + k))) j = gPk (fun k => DD.1 (100 + (6 * r + k))) j := fun j => by
            induction j with
            | zero => intro _; rfl
            | succ j ih =>
              intro hj
              show 27 * gPk _ j + D.1 (100 + (6 * r + j)) = 27 * gPk _ j + DD.1 (100 + (6 * r + j))
              rw [ih (by omega), hrow j (by omega)]
          exact this _ (Nat.le_refl _)
  rw [if_neg w20] at hS
  refine skip 1 20 I _ (by decide) rfl (by decide) w20 hF0 ht hA fun I1 hF1 ht1 hA1 => ?_
  rw [Option.toList_some, List.singleton_append, gb_180_29, if_pos rfl, gb_180_40]
  by_cases w22 : w = 22
  · rw [if_pos w22] at hS
    refine hit 4 22 I1 _ (by decide) rfl (by decide) w22 hF1 ht1 fun I1 hF1 ht1 => ?_
    have hFD1 : FD I I1 := fun k i j hn => hF1 _ _ _ (by omega)
    rw [Option.toList_some, List.singleton_append, gb_180_48, if_neg (by decide), gb_180_51]
    refine n_houseT (D := D) (p := s) (mTx_FD hx hFD1) ht1 hA (by rw [hF1 _ _ _ (by omega)]; exact p1) (by rw [hF1 _ _ _ (by omega)]; exact p2) (by rw [hF1 _ _ _ (by omega)]; exact p3) r2 r3 pN (fun I2 b hb hF2 ht2 => ?_) (fun I2 q q1 n8 eτ eq hF2 ht2 c54 c57 c571 hll hl6 v hv => ?_)
    · rw [Option.toList_none, List.nil_append, gb_180_56]
      rcases hb with ⟨h8, _, rfl⟩ | ⟨n8, hb⟩ | hb
      · rw [if_pos h8] at hS
        exact fin I2 J (.inl (5, (s : Int))) _ _ (FD_trans hFD1 (fun k i j hn => hF2 _ _ _ (by omega))) (fun _ _ _ _ => rfl) ht2 (by rw [hS]; rfl) rfl (by rw [hF2 _ _ _ (by omega), hF1 _ _ _ (by omega)]) (fun _ _ _ q e => by cases e)
      · rw [if_neg n8, hb] at hS
        exact fin I2 J (.inl b) _ _ (FD_trans hFD1 (fun k i j hn => hF2 _ _ _ (by omega))) (fun _ _ _ _ => rfl) ht2 (by rw [hS]) rfl (by rw [hF2 _ _ _ (by omega), hF1 _ _ _ (by omega)]) (fun _ _ _ q e => by cases e)
      · cases hb
    · injection eτ with eτ
      subst eτ
      rw [if_neg n8, eq] at hS
      have hBn : (D.1 3).toNat < 8 := by omega
      rw [Option.toList_none, List.nil_append, gb_180_56]
      refine fin I2 _ (.inr q) _ _ (FD_trans hFD1 (fun k i j hn => hF2 _ _ _ (by omega))) (fun k i j hn => u_ne (by omega)) ht2 (by rw [hS]) (by rw [hS]) (by rw [hF2 _ _ _ (by omega), hF1 _ _ _ (by omega)]) (fun I5 hF5 h50 q' e => ?_)
      have hqm := lMo_trans (lMo_I (tp := tp) (n := n) (w2 := 9) (lo2 := 0) (hi2 := 99) (D := D) (τ := .inr (lNx tp n s g))) (lMo_C (tp := tp) (c := 59)) q' (by rw [eq]; exact e)
      obtain ⟨q0, e0, m0⟩ := hqm
      injection e0 with e0
      have hqq := m0 (by rw [← e0]; exact hnx.2.1)
      rw [← e0] at hqq
      have oth : ∀ k i j, ¬ (k = 50 ∧ i = 0 ∧ (j = 2 ∨ j = 4 ∨ j = 5 ∨ j = 6 ∨ j = 10 ∨ j = 38 ∨ j = 47) ∨ k = 54 ∧ i = 0 ∧ j = 2 ∨ k = 57 ∧ i = 0 ∧ (j = 2 * (D.1 3).toNat ∨ j = 2 * (D.1 3).toNat + 1)) → I5 k i j = I k i j := fun k i j hn => by rw [hF5 _ _ _ (by omega), hF2 _ _ _ (by omega), hF1 _ _ _ (by omega)]
      generalize nIt tp n 9 0 99 D (.inr (lNx tp n s g)) = R at *
      have hLL : ∀ k, lLe tp n (lNx tp n s g) k = cLet tp (lNx tp n s g).1 (lEn tp n (lNx tp n s g).1) k := fun k => rfl
      generalize hLe : lLe tp n (lNx tp n s g) = LL at *
      generalize hDD : dUp (dHous D LL R.2.1 R.2.2) 0 (D.1 0 + 1) = DD
      have dv' : ∀ j, DD.1 j = if j = 0 then D.1 0 + 1 else if j = 3 then D.1 3 + 1 else if j = 30 + (D.1 3).toNat then R.2.1 else if j = 40 + (D.1 3).toNat then R.2.2 else if 148 + 6 * (D.1 3).toNat ≤ j ∧ j < 154 + 6 * (D.1 3).toNat then LL (j - (148 + 6 * (D.1 3).toNat)) else D.1 j := fun j => by rw [← hDD]; rfl
      have dn : ∀ j, j ≠ 0 → j ≠ 3 → j ≠ 30 + (D.1 3).toNat → j ≠ 40 + (D.1 3).toNat → ¬ (148 + 6 * (D.1 3).toNat ≤ j ∧ j < 154 + 6 * (D.1 3).toNat) → DD.1 j = D.1 j := fun j h1 h2 h3 h4 h5 => by rw [dv', if_neg h1, if_neg h2, if_neg h3, if_neg h4, if_neg h5]
      have d33 : DD.1 3 = D.1 3 + 1 := by rw [dv', if_neg (by decide), if_pos rfl]
      have d22 : DD.1 2 = D.1 2 := dn _ (by decide) (by decide) (by omega) (by omega) (by omega)
      have hD2 : DD.2 = D.2 := by rw [← hDD]; rfl
      refine ⟨⟨by rw [oth _ _ _ (by omega), dn _ (by decide) (by decide) (by omega) (by omega) (by omega)]; exact p1, by rw [oth _ _ _ (by omega), d22]; exact p2, by rw [hF5 _ _ _ (by omega), c54, d33], by rw [oth _ _ _ (by omega), dn _ (by decide) (by decide) (by omega) (by omega) (by omega)]; exact p4, by rw [oth _ _ _ (by omega), dn _ (by decide) (by decide) (by omega) (by omega) (by omega)]; exact p5, by rw [h50, dv', if_pos rfl]⟩, ⟨by rw [d22]; exact r2, by rw [d33]; omega⟩, fun b hb => ?_, fun b hb => ?_, fun r hr => ?_, z, by omega, by rw [oth _ _ _ (by omega)]; exact pz, fun f hf => mFz_congr (pF f hf) (oth _ _ _ (by omega)) (oth _ _ _ (by omega)) (fun j _ => oth _ _ _ (by omega)) (Nat.le_refl _) (dn _ (by omega) (by omega) (by omega) (by omega) (by omega)) (by rw [hD2])⟩
      · rw [d22] at hb
        rw [oth _ _ _ (by omega), oth _ _ _ (by omega), dn _ (by omega) (by omega) (by omega) (by omega) (by omega), dn _ (by omega) (by omega) (by omega) (by omega) (by omega)]
        exact pB b hb
      · rw [d33] at hb
        by_cases eb : b = (D.1 3).toNat
        · subst eb
          refine ⟨?_, ?_⟩
          · rw [hF5 _ _ _ (by omega), c57, dv', if_neg (by omega), if_neg (by omega), if_pos rfl]
          · rw [hF5 _ _ _ (by omega), c571, dv', if_neg (by omega), if_neg (by omega), if_neg (by omega), if_pos rfl]
        · rw [oth _ _ _ (by omega), oth _ _ _ (by omega), dn _ (by omega) (by omega) (by omega) (by omega) (by omega), dn _ (by omega) (by omega) (by omega) (by omega) (by omega)]
          exact pH b (by omega)
      · rw [d22, d33] at hr
        by_cases er : r = 8 + (D.1 3).toNat
        · subst er
          have hrow : ∀ k, k < 6 → DD.1 (100 + (6 * (8 + (D.1 3).toNat) + k)) = cLet tp (lNx tp n s g).1 (lEn tp n (lNx tp n s g).1) k := fun k hk => by
            rw [dv', if_neg (by omega), if_neg (by omega), if_neg (by omega), if_neg (by omega), if_pos (by omega), show 100 + (6 * (8 + (D.1 3).toNat) + k) - (148 + 6 * (D.1 3).toNat) = k by omega]
            exact hLL k
          have hcr := fun k => cLet_row (tp := tp) (n := n) (s := (lNx tp n s g).1) (k := k) hll hnx.2.1 hl6
          refine ⟨lEn tp n (lNx tp n s g).1 - (lNx tp n s g).1, ⟨hl6, fun k hk => ?_, fun k hk hk6 => ?_⟩, ?_⟩
          · rw [hrow k (by omega)]; have := (hcr k).1 hk; omega
          · rw [hrow k hk6]; exact (hcr k).2 hk
          · rw [u_eq, hv]
            have : ∀ j, j ≤ lEn tp n (lNx tp n s g).1 - (lNx tp n s g).1 → gPk (cLt tp (lNx tp n s g).1) j = gPk (fun k => DD.1 (100 + (6 * (8 + (D.1 3).toNat) + k))) j := fun j => by
              induction j with
              | zero => intro _; rfl
              | succ j ih =>
                intro hj
                show 27 * gPk _ j + cLt tp (lNx tp n s g).1 j = 27 * gPk _ j + DD.1 (100 + (6 * (8 + (D.1 3).toNat) + j))
                rw [ih (by omega), hrow j (by omega), ((hcr j).1 (by omega)).2.2]
            exact this _ (Nat.le_refl _)
        · obtain ⟨m, hR, hJ⟩ := pN r (by omega)
          have hrow : ∀ k, k < 6 → DD.1 (100 + (6 * r + k)) = D.1 (100 + (6 * r + k)) := fun k hk => dn _ (by omega) (by omega) (by omega) (by omega) (by omega)
          have hm6 := hR.1
          refine ⟨m, ⟨hm6, fun k hk => by rw [hrow k (by omega)]; exact hR.2.1 k hk, fun k hk hk6 => by rw [hrow k hk6]; exact hR.2.2 k hk hk6⟩, ?_⟩
          rw [u_j er, hJ]
          have : ∀ j, j ≤ m → gPk (fun k => D.1 (100 + (6 * r + k))) j = gPk (fun k => DD.1 (100 + (6 * r + k))) j := fun j => by
            induction j with
            | zero => intro _; rfl
            | succ j ih =>
              intro hj
              show 27 * gPk _ j + D.1 (100 + (6 * r + j)) = 27 * gPk _ j + DD.1 (100 + (6 * r + j))
              rw [ih (by omega), hrow j (by omega)]
          exact this _ (Nat.le_refl _)
  rw [if_neg w22] at hS
  refine skip 4 22 I1 _ (by decide) rfl (by decide) w22 hF1 ht1 hA1 fun I1 hF1 ht1 hA1 => ?_
  rw [Option.toList_some, List.singleton_append, gb_180_48, if_pos rfl, gb_180_59]
  -- a number is kept
  have kept : ∀ (kk : Nat) (lo hi : Int) (u : Int32) (I1 I2 : Nat → Nat → Nat → Int32), (kk = 3 ∨ kk = 4) → (∀ k i j, ¬ ((k = 50 ∧ i = 0 ∧ (j = 2 ∨ j = 4 ∨ j = 5 ∨ j = 6 ∨ j = 10))) → I2 k i j = I k i j) → mTk I2 tp n (lNumT tp n lo hi (.inr (lNx tp n s g))).1 → (∀ q, (lNumT tp n lo hi (.inr (lNx tp n s g))).1 = .inr q → u.toInt = (lNumT tp n lo hi (.inr (lNx tp n s g))).2) → nSt tp n D s g = (lAskC tp n (lNumT tp n lo hi (.inr (lNx tp n s g))).1 59, dUp D (kk + 1) (lNumT tp n lo hi (.inr (lNx tp n s g))).2) → ∀ a1, (gq (d + 11) 180 167 [some (.inr (.inr (some (50, 0)))), some (.inl (a1))] [] (gwd S (gup I2 54 0 kk u) J h) Q) := fun kk lo hi u I1 I2 hkk hF2 ht2 hu hS' a1 => by
    refine fin _ J _ _ a1 (fun k i j hn => by rw [u_ne (by omega), hF2 _ _ _ (by omega)]) (fun _ _ _ _ => rfl) (mTk_congr ht2 (fun j _ => u_k (by decide))) (by rw [hS']) (by rw [hS']) (by rw [u_k (by decide), hF2 _ _ _ (by omega)]) (fun I5 hF5 h50 q e => ?_)
    have hq := lMo_trans (lMo_N (tp := tp) (n := n) (lo := lo) (hi := hi) (τ := .inr (lNx tp n s g))) lMo_C q e
    obtain ⟨q0, e0, m0⟩ := hq
    injection e0 with e0
    have hqq := m0 (by rw [← e0]; exact hnx.2.1)
    rw [← e0] at hqq
    obtain ⟨q1, eq1, _⟩ := lMo_C (tp := tp) (n := n) q e
    have huv := hu q1 eq1
    generalize lNumT tp n lo hi (.inr (lNx tp n s g)) = R at *
    have oth : ∀ k i j, ¬ (k = 50 ∧ i = 0 ∧ (j = 2 ∨ j = 4 ∨ j = 5 ∨ j = 6 ∨ j = 10 ∨ j = 47) ∨ k = 54 ∧ i = 0 ∧ j = kk) → I5 k i j = I k i j := fun k i j hn => by rw [hF5 _ _ _ (by omega), u_ne (by omega), hF2 _ _ _ (by omega)]
    have dn : ∀ j, j ≠ 0 → j ≠ kk + 1 → (dUp (dUp D (kk + 1) R.2) 0 (D.1 0 + 1)).1 j = D.1 j := fun j h1 h2 => by
      show (if j = 0 then D.1 0 + 1 else (if j = kk + 1 then R.2 else D.1 j)) = D.1 j
      rw [if_neg h1, if_neg h2]
    have d45 : ∀ j, (j = 3 ∨ j = 4) → (I5 54 0 j).toInt = (dUp (dUp D (kk + 1) R.2) 0 (D.1 0 + 1)).1 (j + 1) := fun j hj => by
      by_cases ej : j = kk
      · rw [ej, hF5 _ _ _ (by omega), u_eq, huv]
        show R.2 = (if kk + 1 = 0 then D.1 0 + 1 else (if kk + 1 = kk + 1 then R.2 else D.1 (kk + 1)))
        rw [if_neg (by omega), if_pos rfl]
      · rw [oth _ _ _ (by omega), dn _ (by omega) (by omega)]
        rcases hj with rfl | rfl
        · exact p4
        · exact p5
    refine ⟨⟨by rw [oth _ _ _ (by omega), dn _ (by decide) (by omega)]; exact p1, by rw [oth _ _ _ (by omega), dn _ (by decide) (by omega)]; exact p2, by rw [oth _ _ _ (by omega), dn _ (by decide) (by omega)]; exact p3, d45 3 (by omega), d45 4 (by omega), by rw [h50]; rfl⟩, ⟨by rw [dn _ (by decide) (by omega)]; exact r2, by rw [dn _ (by decide) (by omega)]; exact r3⟩, fun b hb => ?_, fun b hb => ?_, fun r hr => ?_, z, by omega, by rw [oth _ _ _ (by omega)]; exact pz, fun f hf => mFz_congr (pF f hf) (oth _ _ _ (by omega)) (oth _ _ _ (by omega)) (fun j _ => oth _ _ _ (by omega)) (Nat.le_refl _) (dn _ (by omega) (by omega)) rfl⟩
    · rw [dn _ (by decide) (by omega)] at hb
      rw [oth _ _ _ (by omega), oth _ _ _ (by omega), dn _ (by omega) (by omega), dn _ (by omega) (by omega)]; exact pB b hb
    · rw [dn _ (by decide) (by omega)] at hb
      rw [oth _ _ _ (by omega), oth _ _ _ (by omega), dn _ (by omega) (by omega), dn _ (by omega) (by omega)]; exact pH b hb
    · rw [dn 2 (by decide) (by omega), dn 3 (by decide) (by omega)] at hr
      obtain ⟨m, hR, hJ⟩ := pN r hr
      have hrow : ∀ k, (dUp (dUp D (kk + 1) R.2) 0 (D.1 0 + 1)).1 (100 + (6 * r + k)) = D.1 (100 + (6 * r + k)) := fun k => dn _ (by omega) (by omega)
      refine ⟨m, ⟨hR.1, fun k hk => by rw [hrow k]; exact hR.2.1 k hk, fun k hk hk6 => by rw [hrow k]; exact hR.2.2 k hk hk6⟩, ?_⟩
      rw [hJ]; congr 1; funext k; exact (hrow k).symm
  by_cases w23 : w = 23
  · rw [if_pos w23] at hS
    refine hit 6 23 I1 _ (by decide) rfl (by decide) w23 hF1 ht1 fun I2 hF2 ht2 => ?_
    have hx2 : mTx I2 tp n := mTx_congr hx (fun j => hF2 _ _ _ (by omega)) (hF2 _ _ _ (by omega)) (fun i j => hF2 _ _ _ (by omega))
    rw [Option.toList_some, List.singleton_append, gb_180_67, if_neg (by decide), gb_180_70]
    refine n_number (lo := 1) (hi := 99) rfl rfl hx2 ht2 fun I3 u hF3 ht3 hu => ?_
    rw [Option.toList_some, List.singleton_append, gb_180_82]
    refine ⟨g_in.mpr (by decide), ?_⟩
    rw [show (3 : Int32).toNatClampNeg = 3 from rfl, gb_180_83]
    exact kept 3 1 99 u I2 I3 (Or.inl rfl) (fun k i j hn => by rw [hF3 _ _ _ (by omega), hF2 _ _ _ (by omega)]) ht3 hu hS _
  rw [if_neg w23] at hS
  refine skip 6 23 I1 _ (by decide) rfl (by decide) w23 hF1 ht1 hA1 fun I1 hF1 ht1 hA1 => ?_
  rw [Option.toList_some, List.singleton_append, gb_180_67, if_pos rfl, gb_180_86]
  -- a formula
  have form : ∀ (f : Nat) (af a1 : Int32) (I2 : Nat → Nat → Nat → Int32) (Qq : Option gV → gW → Prop), f < 3 → af.toInt = f → a1.toInt = s → nSt tp n D s g = (if D.1 (50 + f) = 1 then (.inl (5, (s : Int)), D) else (lAskC tp n (rd tp n (alT f) (10 * n + 20) (if f = 2 then 9 else 4) 0 (lNx tp n s g).1 (lNx tp n s g).2).1 59, dForm D f (rd tp n (alT f) (10 * n + 20) (if f = 2 then 9 else 4) 0 (lNx tp n s g).1 (lNx tp n s g).2).2)) → (∀ k i j, ¬ ((k = 50 ∧ i = 0 ∧ (j = 2 ∨ j = 4))) → I2 k i j = I k i j) → mTk I2 tp n (.inr (lNx tp n s g)) → (∀ I3, (gq (d + 11) 180 167 [some (.inr (.inr (some (50, 0)))), some (.inl (a1))] [] (gwd S I3 J h) Q) → Qq none (gwd S I3 J h)) → (gq (d + 10) 179 0 [some (.inr (.inr (some (50, 0)))), some (.inl (af)), some (.inl (a1)), none] [] (gwd S I2 J h) Qq) := fun f af a1 I2 Qq hf haf ha1 hS' hF2 ht2 KQ => by
    have hx2 : mTx I2 tp n := mTx_congr hx (fun j => hF2 _ _ _ (by omega)) (hF2 _ _ _ (by omega)) (fun i j => hF2 _ _ _ (by omega))
    have hFD2 : FD I I2 := fun k i j hn => hF2 _ _ _ (by omega)
    have hFz := pF f hf
    refine n_codesT (f := f) (z := z) (F := 10 * n + 20) (p := s) (s := (lNx tp n s g).1) (g := (lNx tp n s g).2) hx2 ht2 hf haf ha1 (by rw [hF2 _ _ _ (by omega)]; exact pz) (by omega) (by omega) (fun hne I3 hF3 ht3 => ?_) (fun hm I3 q l hr hF3 ht3 h47 => ?_) (fun hm I3 s1 g1 l hr hF3 ht3 h46 hO hC h58 h59 hzs => ?_)
    · rw [hF2 _ _ _ (by omega)] at hne
      have ht1' : D.1 (50 + f) = 1 := by
        rcases hFz with ⟨q, _⟩ | ⟨_, q⟩
        · exact q
        · exact absurd q hne
      rw [if_pos ht1'] at hS'
      refine KQ I3 ?_
      exact fin I3 J (.inl (5, (s : Int))) _ _ (FD_trans hFD2 (fun k i j hn => hF3 _ _ _ (by omega))) (fun _ _ _ _ => rfl) ht3 (by rw [hS']; rfl) rfl (by rw [hF3 _ _ _ (by omega), hF2 _ _ _ (by omega)]) (fun _ _ _ q e => by cases e)
    · rw [hF2 _ _ _ (by omega)] at hm
      have hun : ¬ D.1 (50 + f) = 1 := fun e => by
        rcases hFz with ⟨_, b0, q, _⟩ | ⟨q, _⟩
        · omega
        · omega
      rw [if_neg hun, hr] at hS'
      refine KQ I3 ?_
      exact fin I3 J (.inl q) _ _ (FD_trans hFD2 hF3) (fun _ _ _ _ => rfl) ht3 (by rw [hS']) rfl (by rw [h47, hF2 _ _ _ (by omega)]) (fun _ _ _ q e => by cases e)
    · rw [hF2 _ _ _ (by omega)] at hm
      have hun : ¬ D.1 (50 + f) = 1 := fun e => by
        rcases hFz with ⟨_, b0, q, _⟩ | ⟨q, _⟩
        · omega
        · omega
      rw [if_neg hun, hr] at hS'
      have hs1n := mTk_sn ht3
      have hlz : z + l.length ≤ 1600 := by omega
      refine KQ I3 ?_
      refine fin I3 J (.inr (s1, g1)) _ _ (FD_trans hFD2 (fun k i j hn => by
        by_cases e60 : k = 60 ∧ i = 0
        · obtain ⟨rfl, rfl⟩ := e60
          exact hO j (by omega)
        · exact hF3 _ _ _ (by omega))) (fun _ _ _ _ => rfl) ht3 (by rw [hS']) (by rw [hS']) (by rw [hF3 _ _ _ (by omega), hF2 _ _ _ (by omega)]) (fun I5 hF5 h50 q e => ?_)
      have hq := lMo_C (tp := tp) (n := n) (τ := .inr (s1, g1)) q e
      obtain ⟨q1', e1', m1'⟩ := hq
      injection e1' with e1'
      have hqq := m1' (by rw [← e1']; exact hs1n)
      rw [← e1'] at hqq
      have hqq1 : s1 ≤ q.1 := hqq.1
      have oth : ∀ k i j, ¬ (k = 50 ∧ i = 0 ∧ (j = 2 ∨ j = 4 ∨ j = 5 ∨ j = 6 ∨ j = 10 ∨ j = 46 ∨ j = 47 ∨ j = 49 ∨ j = 99 ∨ j = 101 ∨ j = 102 ∨ j = 103) ∨ k = 68 ∨ k = 69 ∨ k = 58 ∧ i = 0 ∧ j = f ∨ k = 59 ∧ i = 0 ∧ j = f ∨ k = 60 ∧ i = 0) → I5 k i j = I k i j := fun k i j hn => by rw [hF5 _ _ _ (by omega), hF3 _ _ _ (by omega), hF2 _ _ _ (by omega)]
      have o60 : ∀ j, I5 60 0 j = I3 60 0 j := fun j => hF5 _ _ _ (by omega)
      have dn : ∀ j, j ≠ 0 → j ≠ 50 + f → (dUp (dForm D f l) 0 (D.1 0 + 1)).1 j = D.1 j := fun j h1 h2 => by
        show (if j = 0 then D.1 0 + 1 else (if j = 50 + f then 1 else D.1 j)) = D.1 j
        rw [if_neg h1, if_neg h2]
      refine ⟨⟨by rw [oth _ _ _ (by omega), dn _ (by decide) (by omega)]; exact p1, by rw [oth _ _ _ (by omega), dn _ (by decide) (by omega)]; exact p2, by rw [oth _ _ _ (by omega), dn _ (by decide) (by omega)]; exact p3, by rw [oth _ _ _ (by omega), dn _ (by decide) (by omega)]; exact p4, by rw [oth _ _ _ (by omega), dn _ (by decide) (by omega)]; exact p5, by rw [h50]; rfl⟩, ⟨by rw [dn _ (by decide) (by omega)]; exact r2, by rw [dn _ (by decide) (by omega)]; exact r3⟩, fun b hb => ?_, fun b hb => ?_, fun r hr => ?_, z + l.length, by omega, by rw [hF5 _ _ _ (by omega)]; exact h46, fun f' hf' => ?_⟩
      · rw [dn _ (by decide) (by omega)] at hb
        rw [oth _ _ _ (by omega), oth _ _ _ (by omega), dn _ (by omega) (by omega), dn _ (by omega) (by omega)]; exact pB b hb
      · rw [dn _ (by decide) (by omega)] at hb
        rw [oth _ _ _ (by omega), oth _ _ _ (by omega), dn _ (by omega) (by omega), dn _ (by omega) (by omega)]; exact pH b hb
      · rw [dn 2 (by decide) (by omega), dn 3 (by decide) (by omega)] at hr
        obtain ⟨m, hR, hJ⟩ := pN r hr
        have hrow : ∀ k, (dUp (dForm D f l) 0 (D.1 0 + 1)).1 (100 + (6 * r + k)) = D.1 (100 + (6 * r + k)) := fun k => dn _ (by omega) (by omega)
        refine ⟨m, ⟨hR.1, fun k hk => by rw [hrow k]; exact hR.2.1 k hk, fun k hk hk6 => by rw [hrow k]; exact hR.2.2 k hk hk6⟩, ?_⟩
        rw [hJ]; congr 1; funext k; exact (hrow k).symm
      · by_cases ef : f' = f
        · subst ef
          have l2 : (dUp (dForm D f' l) 0 (D.1 0 + 1)).2 f' = l := if_pos rfl
          refine Or.inl ⟨?_, z, ?_, ?_, ?_, ?_⟩
          · show (if 50 + f' = 0 then D.1 0 + 1 else (if 50 + f' = 50 + f' then 1 else D.1 (50 + f'))) = 1
            rw [if_neg (by omega), if_pos rfl]
          · rw [hF5 _ _ _ (by omega)]; exact h58
          · rw [hF5 _ _ _ (by omega), h59, l2]; omega
          · rw [l2]; omega
          · rw [l2]; exact gCd_congr (fun k _ _ => o60 k) hC
        · refine mFz_congr (pF f' hf') (oth _ _ _ (by omega)) (oth _ _ _ (by omega)) (fun j hj => by rw [o60, hO j (by omega), hF2 _ _ _ (by omega)]) (by omega) (dn _ (by omega) (by omega)) ?_
          show (if f' = f then l else D.2 f') = D.2 f'
          rw [if_neg ef]
  by_cases w3 : w = 3
  · have hS3 := hS
    rw [if_neg (by omega), if_pos (Or.inl w3)] at hS3
    refine hit 7 3 I1 _ (by decide) rfl (by decide) w3 hF1 ht1 fun I2 hF2 ht2 => ?_
    rw [Option.toList_some, List.singleton_append, gb_180_94, if_neg (by decide), gb_180_97]
    refine form 0 0 _ I2 _ (by decide) rfl hA (by rw [hS3, w3]; rfl) hF2 ht2 fun I3 hg => ?_
    rw [Option.toList_none, List.nil_append, gb_180_103]; exact hg
  refine skip 7 3 I1 _ (by decide) rfl (by decide) w3 hF1 ht1 hA1 fun I1 hF1 ht1 hA1 => ?_
  rw [Option.toList_some, List.singleton_append, gb_180_94, if_pos rfl, gb_180_106]
  by_cases w24 : w = 24
  · have hS3 := hS
    rw [if_neg (by omega), if_pos (Or.inr (Or.inl w24))] at hS3
    refine hit 8 24 I1 _ (by decide) rfl (by decide) w24 hF1 ht1 fun I2 hF2 ht2 => ?_
    rw [Option.toList_some, List.singleton_append, gb_180_114, if_neg (by decide), gb_180_117]
    refine form 1 1 _ I2 _ (by decide) rfl hA (by rw [hS3, w24]; rfl) hF2 ht2 fun I3 hg => ?_
    rw [Option.toList_none, List.nil_append, gb_180_123]; exact hg
  refine skip 8 24 I1 _ (by decide) rfl (by decide) w24 hF1 ht1 hA1 fun I1 hF1 ht1 hA1 => ?_
  rw [Option.toList_some, List.singleton_append, gb_180_114, if_pos rfl, gb_180_126]
  by_cases w25 : w = 25
  · have hS3 := hS
    rw [if_neg (by omega), if_pos (Or.inr (Or.inr w25))] at hS3
    refine hit 9 25 I1 _ (by decide) rfl (by decide) w25 hF1 ht1 fun I2 hF2 ht2 => ?_
    rw [Option.toList_some, List.singleton_append, gb_180_134, if_neg (by decide), gb_180_137]
    refine form 2 2 _ I2 _ (by decide) rfl hA (by rw [hS3, w25]; rfl) hF2 ht2 fun I3 hg => ?_
    rw [Option.toList_none, List.nil_append, gb_180_143]; exact hg
  refine skip 9 25 I1 _ (by decide) rfl (by decide) w25 hF1 ht1 hA1 fun I1 hF1 ht1 hA1 => ?_
  have hx1 : mTx I1 tp n := mTx_congr hx (fun j => hF1 _ _ _ (by omega)) (hF1 _ _ _ (by omega)) (fun i j => hF1 _ _ _ (by omega))
  rw [Option.toList_some, List.singleton_append, gb_180_134, if_pos rfl, gb_180_146]
  refine n_asks (i1 := 10) (by decide) hx1 ht1 fun I2 hF2 ht2 => ?_
  rw [show mWx.getD 10 0 = 26 from rfl] at ht2
  have hx2 : mTx I2 tp n := mTx_congr hx1 (fun j => hF2 _ _ _ (by omega)) (hF2 _ _ _ (by omega)) (fun i j => hF2 _ _ _ (by omega))
  rw [Option.toList_none, List.nil_append, gb_180_154]
  by_cases w26 : w = 26
  · rw [if_pos w26] at hS
    have e : lAskW tp n (.inr (s, g)) 26 = .inr (lNx tp n s g) := if_pos (lIs_iff.mp ((lKd_wKd (by decide)).mpr (by rw [hW]; exact w26)))
    rw [e] at ht2
    refine n_number (lo := 0) (hi := 100) rfl rfl hx2 ht2 fun I3 u hF3 ht3 hu => ?_
    rw [Option.toList_some, List.singleton_append, gb_180_166]
    refine ⟨g_in.mpr (by decide), ?_⟩
    rw [show (4 : Int32).toNatClampNeg = 4 from rfl]
    exact kept 4 0 100 u I2 I3 (Or.inr rfl) (fun k i j hn => by rw [hF3 _ _ _ (by omega), hF2 _ _ _ (by omega), hF1 _ _ _ (by omega)]) ht3 hu hS _
  · rw [if_neg w26, if_neg (by omega)] at hS
    have e : lAskW tp n (.inr (s, g)) 26 = .inl (1, s) := if_neg (fun q => w26 (by rw [← hW]; exact (lKd_wKd (w := 26) (by decide)).mp (lIs_iff.mpr q)))
    rw [e] at ht2
    refine n_number (lo := 0) (hi := 100) rfl rfl hx2 ht2 fun I3 u hF3 ht3 hu => ?_
    rw [Option.toList_some, List.singleton_append, gb_180_166]
    refine ⟨g_in.mpr (by decide), ?_⟩
    rw [show (4 : Int32).toNatClampNeg = 4 from rfl]
    refine fin _ J (.inl (1, (s : Int))) _ _ (fun k i j hn => by rw [u_ne (by omega), hF3 _ _ _ (by omega), hF2 _ _ _ (by omega), hF1 _ _ _ (by omega)]) (fun _ _ _ _ => rfl) (mTk_congr (τ := .inl (1, (s : Int))) ht3 (fun j _ => u_k (by decide))) (by rw [hS]; rfl) rfl (by rw [u_k (by decide), hF3 _ _ _ (by omega), hF2 _ _ _ (by omega), hF1 _ _ _ (by omega)]) (fun _ _ _ q e => by cases e)
