/-! The class reads a statement, and all of a course's text. -/
section LMo
variable {tp : Nat → Int} {n : Nat}
/-- what is read goes ahead -/
def lMo (n : Nat) (τ τ' : lT) : Prop := ∀ q', τ' = .inr q' → ∃ q, τ = .inr q ∧ (q.1 ≤ n → q.1 ≤ q'.1 ∧ q'.1 ≤ n)
theorem lMo_trans {τ1 τ2 τ3 : lT} (h1 : lMo n τ1 τ2) (h2 : lMo n τ2 τ3) : lMo n τ1 τ3 := fun q3 e3 => by
  obtain ⟨q2, e2, m2⟩ := h2 q3 e3
  obtain ⟨q1, e1, m1⟩ := h1 q2 e2
  exact ⟨q1, e1, fun hq => by have a := m1 hq; have b := m2 a.2; omega⟩
theorem lMo_W {w : Nat} {τ : lT} : lMo n τ (lAskW tp n τ w) := fun q' e => by
  match τ, e with
  | .inr (s, g), e =>
    have e' : (if lKd tp n s g = -2 ∧ lWd tp s (lEn tp n s) = w then (.inr (lNx tp n s g) : lT) else .inl (1, (s : Int))) = .inr q' := e
    split at e'
    · injection e' with e'
      exact ⟨(s, g), rfl, fun hq => by rw [← e']; exact ⟨(lNx_r hq).1, (lNx_r hq).2.1⟩⟩
    · cases e'
theorem lMo_C {c : Int} {τ : lT} : lMo n τ (lAskC tp n τ c) := fun q' e => by
  match τ, e with
  | .inr (s, g), e =>
    have e' := lAskC_inr e
    exact ⟨(s, g), rfl, fun hq => by rw [e'.2]; exact ⟨(lNx_r hq).1, (lNx_r hq).2.1⟩⟩
theorem lMo_N {lo hi : Int} {τ : lT} : lMo n τ (lNumT tp n lo hi τ).1 := fun q' e => by
  match τ, e with
  | .inr (s, g), e =>
    have e' := lNumT_inr e
    exact ⟨(s, g), rfl, fun hq => by rw [e'.2.1]; exact ⟨(lNx_r hq).1, (lNx_r hq).2.1⟩⟩
theorem lMo_M {D : gCo} {τ : lT} : lMo n τ (lNmT tp n D τ) := fun q' e => by
  match τ, e with
  | .inr (s, g), e =>
    have e' : (if lKd tp n s g ≠ -2 ∨ (0 ≤ wHere tp n s ∧ wHere tp n s < 27) then (.inl (1, (s : Int)) : lT) else if 6 < lEn tp n s - s then .inl (1, (s : Int) + 6) else if nTkb D (cLet tp s (lEn tp n s)) = true then .inl (3, (s : Int)) else .inr (lNx tp n s g)) = .inr q' := e
    split at e'
    · cases e'
    split at e'
    · cases e'
    split at e'
    · cases e'
    injection e' with e'
    exact ⟨(s, g), rfl, fun hq => by rw [← e']; exact ⟨(lNx_r hq).1, (lNx_r hq).2.1⟩⟩
theorem lMo_I {w2 : Nat} {lo2 hi2 : Int} {D : gCo} {τ : lT} : lMo n τ (nIt tp n w2 lo2 hi2 D τ).1 :=
  lMo_trans lMo_M (lMo_trans lMo_W (lMo_trans lMo_N (lMo_trans lMo_W lMo_N)))
end LMo
theorem mask_tbl : ∀ f, f < 3 → ∀ w, w ≤ 12 → ((([3, 125, 157] : List Int32).getD f 0) >>> (Int32.ofNat w &&& 31) &&& 1 = 1 ↔ alT f w = true) := by decide +kernel
theorem mask_q : ∀ w, w ≤ 12 → ((8071 : Int32) >>> (Int32.ofNat w &&& 31) &&& 1 = 1 ↔ alT 3 w = true) := by decide +kernel
def kWd (I : Nat → Nat → Nat → Int32) : Prop := ∀ f, f < 3 → I 1 0 f = ([3, 125, 157] : List Int32).getD f 0
variable {d S : Nat} {h : Nat × Option gNm} {I : Nat → Nat → Nat → Int32} {J : Nat → Nat → Nat → Int64} {Q : Option gV → gW → Prop}
variable {tp : Nat → Int} {n s c : Nat} {g : Bool} {D : gCo} {τ : lT}
theorem kFz_congr {I I' : Nat → Nat → Nat → Int32} {c z z' f : Nat} {D D' : gCo} (h : kFz I c D z f) (e1 : I' 40 c f = I 40 c f) (e2 : I' 41 c f = I 41 c f) (e3 : ∀ j, j < z → I' 15 c j = I 15 c j) (hz : z ≤ z') (d1 : D'.1 (50 + f) = D.1 (50 + f)) (d2 : D'.2 f = D.2 f) : kFz I' c D' z' f := by
  rcases h with ⟨h1, b0, h2, h3, h4, h5, h6⟩ | ⟨h1, h2⟩
  · refine Or.inl ⟨by rw [d1]; exact h1, b0, by rw [e1]; exact h2, by rw [e2, d2]; exact h3, by rw [d2]; omega, by rw [d2]; exact h5, ?_⟩
    rw [d2]
    exact gCd_congr (fun k h1 h2 => e3 k (by omega)) h6
  · exact Or.inr ⟨by rw [d1]; exact h1, by rw [e2]; exact h2⟩
/-- a statement, from its word on, and what ends it -/
theorem m_stat {x1 x2 x3 : Option gV} (hx : kTx I tp n) (hw : kWd I) (ht : kTk I tp n (.inr (s, g))) (hs : s < n) (hD : kPc I c D s) (h0 : 0 ≤ D.1 0 ∧ D.1 0 ≤ 59)
    (K : ∀ (I' : Nat → Nat → Nat → Int32) x1 x2 x3, FC c I I' → kTk I' tp n (nSt tp n D s g).1 → (I' 34 c 0).toInt = D.1 0 + 1 → (∀ q, (nSt tp n D s g).1 = .inr q → kPc I' c (dUp (nSt tp n D s g).2 0 (D.1 0 + 1)) q.1) → (gq (d + 80) 24 48 [some (.inr (.inr (some (34, c)))), x1, x2, x3] [] (gwd S I' J h) Q)) : (gq (d + 80) 24 64 [some (.inr (.inr (some (34, c)))), x1, x2, x3] [] (gwd S I J h) Q) := by
  have hn := hx.2.2.1
  have hsn := ht.2.2.2.2.2.1
  have hnx := lNx_r (tp := tp) (g := g) hsn
  have hs1 := hnx.2.2.1 hs
  have e1 : (1 : Int32).toInt = 1 := rfl
  have e3 : (3 : Int32).toInt = 3 := rfl
  have e8 : (8 : Int32).toInt = 8 := rfl
  obtain ⟨hN, ⟨p0, p1, p4, p5⟩, pB, pH, z, hz, pz, pF⟩ := hD
  have r2 := hN.2.2.1
  have r3 := hN.2.2.2.1
  -- the end of a statement
  have fin : ∀ (I2 : Nat → Nat → Nat → Int32) (τ2 : lT) (D2 : gCo) (a1 a2 a3 : Int32), FC c I I2 → kTk I2 tp n τ2 → (I2 34 c 0).toInt = D.1 0 → (nSt tp n D s g).1 = lAskC tp n τ2 59 → (nSt tp n D s g).2 = D2 → (∀ (I' : Nat → Nat → Nat → Int32), (∀ k i j, ¬ ((k = 11 ∧ i = 0 ∧ (j = 2 ∨ j = 3 ∨ j = 4 ∨ j = 5 ∨ j = 6 ∨ j = 7)) ∨ (k = 34 ∧ i = c ∧ j = 0)) → I' k i j = I2 k i j) → (I' 34 c 0).toInt = D.1 0 + 1 → ∀ q, lAskC tp n τ2 59 = .inr q → kPc I' c (dUp D2 0 (D.1 0 + 1)) q.1) → (gq (d + 80) 24 285 [some (.inr (.inr (some (34, c)))), some (.inl (a1)), some (.inl (a2)), some (.inl (a3))] [] (gwd S I2 J h) Q) := fun I2 τ2 D2 a1 a2 a3 hF2 ht2 h20 hS1 hS2 hP => by
    rw [gb_24_285]
    refine m_expect (c := 59) rfl (by decide) rfl rfl (kTx_FC hx hF2) ht2 fun I3 hF3 ht3 => ?_
    rw [Option.toList_none, List.nil_append, gb_24_294]
    have h30 : (I3 34 c 0).toInt = D.1 0 := by rw [hF3 _ _ _ (by omega)]; exact h20
    have hq : (I3 34 c 0 + 1).toInt = D.1 0 + 1 := by rw [z_add (by omega) (by omega), h30, e1]
    refine K _ _ _ _ (FC_trans hF2 (fun k i j hn => by rw [u_ne (by omega), hF3 _ _ _ (by omega)])) (by rw [hS1]; exact kTk_congr ht3 (fun j _ _ => u_k (by decide))) (by rw [u_eq]; exact hq) (fun q e => ?_)
    rw [hS2]
    rw [hS1] at e
    exact hP _ (fun k i j hn => by rw [u_ne (by omega), hF3 _ _ _ (by omega)]) (by rw [u_eq]; exact hq) q e
  -- a fault
  have bad : ∀ (a1 a2 a3 s0 : Int32) (f : Int), s0.toInt = f → f ≠ 0 → nSt tp n D s g = (.inl (f, s), D) → (gq (d + 80) 24 117 [some (.inr (.inr (some (34, c)))), some (.inl (a1)), some (.inl (a2)), some (.inl (a3))] [.inl (s0), .inr (.inr (some (11, 0)))] (gwd S I J h) Q) := fun a1 a2 a3 s0 f hs0 hf hS => by
    rw [gb_24_117]
    refine m_failH ht hs0 hf fun I2 hF2 ht2 => ?_
    rw [Option.toList_none, List.nil_append, gb_24_120]
    exact fin I2 (.inl (f, s)) D _ _ _ (fun k i j hn => hF2 _ _ _ (by omega)) ht2 (by rw [hF2 _ _ _ (by omega)]; exact p0) (by rw [hS]; rfl) (by rw [hS]) (fun _ _ _ q e => by cases e)
  have hkd := kKind ht (v := (Int8.ofInt (-2)).toInt32) i8_2
  have hwr : lKd tp n s g = -2 → (I 11 0 5).toInt = wHere tp n s := fun q => ht.2.2.2.2.2.2.1 ((lKd_word hx.2.2.2.1).mp q).1
  have hwd := lWd_r (tp := tp) (s := s) (e := lEn tp n s)
  -- with the word known
  have go : ∀ v : Int32, v.toInt = wKd tp n s g → (gq (d + 80) 24 87 [some (.inr (.inr (some (34, c)))), x1, x2, x3] [.inl (v)] (gwd S I J h) Q) := fun v hv => by
    generalize hW : wKd tp n s g = w at hv
    have hwr2 : -1 ≤ w ∧ w < 33 := by
      rw [← hW]; unfold wKd; split
      · exact hwd
      · omega
    have hS : nSt tp n D s g = if w = 20 then (if D.1 2 = 8 then (.inl (5, (s : Int)), D) else (lAskC tp n (nIt tp n 4 1 9 D (.inr (lNx tp n s g))).1 59, dBear D (lLe tp n (lNx tp n s g)) (nIt tp n 4 1 9 D (.inr (lNx tp n s g))).2.1 (nIt tp n 4 1 9 D (.inr (lNx tp n s g))).2.2))
      else if w = 22 then (if D.1 3 = 8 then (.inl (5, (s : Int)), D) else (lAskC tp n (nIt tp n 9 0 99 D (.inr (lNx tp n s g))).1 59, dHous D (lLe tp n (lNx tp n s g)) (nIt tp n 9 0 99 D (.inr (lNx tp n s g))).2.1 (nIt tp n 9 0 99 D (.inr (lNx tp n s g))).2.2))
      else if w = 23 then (lAskC tp n (lNumT tp n 1 99 (.inr (lNx tp n s g))).1 59, dUp D 4 (lNumT tp n 1 99 (.inr (lNx tp n s g))).2)
      else if w = 26 then (lAskC tp n (lNumT tp n 0 100 (.inr (lNx tp n s g))).1 59, dUp D 5 (lNumT tp n 0 100 (.inr (lNx tp n s g))).2)
      else if w = 3 ∨ w = 24 ∨ w = 25 then
        (if D.1 (50 + fOf w) = 1 then (.inl (5, (s : Int)), D)
        else (lAskC tp n (rd tp n (alT (fOf w)) (10 * n + 20) (if fOf w = 2 then 9 else 4) 0 (lNx tp n s g).1 (lNx tp n s g).2).1 59, dForm D (fOf w) (rd tp n (alT (fOf w)) (10 * n + 20) (if fOf w = 2 then 9 else 4) 0 (lNx tp n s g).1 (lNx tp n s g).2).2))
      else (.inl (1, (s : Int)), D) := by rw [← hW]; rfl
    rw [gb_24_87]
    refine m_formOf hv fun x hx2 => ?_
    rw [Option.toList_some, List.singleton_append, gb_24_92]
    refine m_room hv hx2 fun y hy => ?_
    rw [Option.toList_some, List.singleton_append, gb_24_99]
    by_cases wf : w = 3 ∨ w = 24 ∨ w = 25
    · have hfl : fOf w < 3 := fOf_lt
      rw [if_pos wf] at hx2 hy
      rw [if_neg (by omega), if_neg (by omega), if_neg (by omega), if_neg (by omega), if_pos wf] at hS
      have hFz := pF (fOf w) hfl
      have n2 : x.toNatClampNeg = fOf w := by rw [z_n, hx2]; rfl
      by_cases wt : D.1 (50 + fOf w) = 1
      · rw [if_pos wt] at hS
        have h41 : ¬ I 41 c (fOf w) = 0 := fun e => by
          rcases hFz with ⟨_, b0, _, q2, _, q4, _⟩ | ⟨q1, _⟩
          · rw [e, z_0] at q2; omega
          · omega
        rw [if_neg h41] at hy
        rw [if_neg (by rw [hy]; decide), gb_24_104, if_pos hy, gb_24_112]
        exact bad _ _ _ 5 5 rfl (by decide) hS
      · rw [if_neg wt] at hS
        have hun : D.1 (50 + fOf w) = 0 ∧ (I 41 c (fOf w)).toInt = 0 := by
          rcases hFz with ⟨q1, _⟩ | q
          · exact absurd q1 wt
          · exact q
        rw [if_pos (z_inj (by rw [hun.2, z_0]))] at hy
        rw [if_pos (by rw [hy]; decide), gb_24_123, if_neg (by rw [z_lt, z_0]; omega), gb_24_127, if_neg (by rw [z_le, e3]; omega), gb_24_132]
        refine m_nextT hx ht fun I1 hF1 ht1 => ?_
        have hFC1 : FC c I I1 := fun k i j hn => hF1 _ _ _ (by omega)
        rw [Option.toList_none, List.nil_append, gb_24_139]
        refine ⟨g_in.mpr (by omega), ?_⟩
        rw [n2, gb_24_152]
        refine ⟨g_in.mpr (by omega), ?_⟩
        rw [n2, gb_24_161, gb_38_0, Option.toList_none, List.nil_append]
        generalize hI2 : gup (gup (gup I1 40 c (fOf w) (I1 14 c 2)) 17 c 2 (gup I1 40 c (fOf w) (I1 14 c 2) 1 0 (fOf w))) 17 c 3 0 = I2
        have hF2 : (∀ k i j, ¬ ((k = 40 ∧ i = c) ∨ (k = 17 ∧ i = c)) → I2 k i j = I1 k i j) := fun k i j hn => by rw [← hI2, u_ne (by omega), u_ne (by omega), u_ne (by omega)]
        have hFC2 : FC c I I2 := FC_trans hFC1 (fun k i j hn => hF2 _ _ _ (by omega))
        have h17 : I2 17 c 2 = ([3, 125, 157] : List Int32).getD (fOf w) 0 := by rw [← hI2, u_j (by decide), u_eq, u_k (by decide), hF1 _ _ _ (by omega)]; exact hw _ hfl
        have h173 : (I2 17 c 3).toInt = ((0 : Nat) : Int) := by rw [← hI2, u_eq]; rfl
        have h40 : I2 40 c (fOf w) = I 14 c 2 := by rw [← hI2, u_k (by decide), u_k (by decide), u_eq, hF1 _ _ _ (by omega)]
        have h40o : ∀ j, j ≠ fOf w → I2 40 c j = I 40 c j := fun j hj => by rw [← hI2, u_k (by decide), u_k (by decide), u_j hj, hF1 _ _ _ (by omega)]
        have hx2' := kTx_FC hx hFC2
        have ht2 : kTk I2 tp n (.inr (lNx tp n s g)) := kTk_congr ht1 (fun j _ _ => hF2 _ _ _ (by omega))
        have hz2 : (I2 14 c 2).toInt = z := by rw [hF2 _ _ _ (by omega), hF1 _ _ _ (by omega)]; exact pz
        have hal : kAl I2 c (alT (fOf w)) := fun a u hu hu12 => by
          rw [h17, show a = Int32.ofNat u from z_inj (by rw [hu]; exact (z_of (n := (u : Int)) (by omega) (by omega)).symm)]
          exact mask_tbl _ hfl u hu12
        -- behind the formula
        have beh : ∀ (m : Nat) (a1 a3 : Int32), (m = if fOf w = 2 then 9 else 4) → ∀ (I3 : Nat → Nat → Nat → Int32), FG c I2 I3 → kOut I2 tp n c z 0 (rd tp n (alT (fOf w)) (10 * n + 20) m 0 (lNx tp n s g).1 (lNx tp n s g).2) I3 → (gq (d + 80) 24 186 [some (.inr (.inr (some (34, c)))), some (.inl (a1)), some (.inl (x)), some (.inl (a3))] [] (gwd S I3 J h) Q) := fun m a1 a3 hm I3 hG3 ho3 => by
          have hmm : m ≤ 9 ∧ ¬ (m = 1 ∨ m = 3 ∨ m = 6 ∨ m = 8) := by rw [hm]; split <;> omega
          rw [← hm] at hS
          have hFC3 : FC c I I3 := FC_trans hFC2 (fun k i j hn => hG3 _ _ _ (by omega))
          rw [gb_24_186]
          refine ⟨g_in.mpr (by omega), ?_⟩
          rw [n2, gb_24_199]
          have hFC4 : FC c I (gup I3 41 c (fOf w) (I3 14 c 2)) := FC_trans hFC3 (fun k i j hn => u_ne (by omega))
          match hr : rd tp n (alT (fOf w)) (10 * n + 20) m 0 (lNx tp n s g).1 (lNx tp n s g).2, ho3 with
          | (.inl b, l), ho3 =>
            rw [hr] at hS
            refine fin _ (.inl b) _ _ _ _ hFC4 (kTk_congr (I := I3) (tp := tp) (n := n) (τ := .inl b) ho3 (fun j _ _ => u_k (by decide))) (by rw [u_k (by decide), hG3 _ _ _ (by omega), hF2 _ _ _ (by omega), hF1 _ _ _ (by omega)]; exact p0) (by rw [hS]) (by rw [hS]) (fun _ _ _ q e => by cases e)
          | (.inr q1, l), ho3 =>
            rw [hr] at hS
            obtain ⟨b1, b2, b3, b4, b5⟩ := ho3
            have hlen := rd_len hx.2.2.2.1 _ _ _ _ _ _ _ hnx.2.1 hmm.1 hr
            have hl1 : 1 ≤ l.length := by rcases hlen.2.2 with q | q; exact absurd q hmm.2; exact q
            have hb4 : ∀ j, j < z → I3 15 c j = I 15 c j := fun j hj => by rw [b4 j hj, hF2 _ _ _ (by omega), hF1 _ _ _ (by omega)]
            refine fin _ (.inr q1) _ _ _ _ hFC4 (kTk_congr b1 (fun j _ _ => u_k (by decide))) (by rw [u_k (by decide), hG3 _ _ _ (by omega), hF2 _ _ _ (by omega), hF1 _ _ _ (by omega)]; exact p0) (by rw [hS]) (by rw [hS]) (fun I5 hF5 h50 q e => ?_)
            have hq := lMo_C (tp := tp) (n := n) (τ := .inr q1) q e
            obtain ⟨q1', e1', m1'⟩ := hq
            injection e1' with e1'
            have hq1n : q1.1 ≤ n := hlen.2.1
            have hqq := m1' (by rw [← e1']; exact hq1n)
            rw [← e1'] at hqq
            have oth : ∀ k i j, ¬ (k = 11 ∧ i = 0 ∨ k = 14 ∧ i = c ∧ j = 2 ∨ k = 15 ∧ i = c ∨ k = 17 ∧ i = c ∨ k = 40 ∧ i = c ∨ k = 41 ∧ i = c ∨ k = 34 ∧ i = c ∧ j = 0) → I5 k i j = I k i j := fun k i j hn => by rw [hF5 _ _ _ (by omega), u_ne (by omega), hG3 _ _ _ (by omega), hF2 _ _ _ (by omega), hF1 _ _ _ (by omega)]
            have h515 : ∀ j, I5 15 c j = I3 15 c j := fun j => by rw [hF5 _ _ _ (by omega), u_k (by decide)]
            have dn : ∀ j, j ≠ 0 → j ≠ 50 + fOf w → (dUp (dForm D (fOf w) l) 0 (D.1 0 + 1)).1 j = D.1 j := fun j h1 h2 => by
              show (if j = 0 then D.1 0 + 1 else (if j = 50 + fOf w then 1 else D.1 j)) = D.1 j
              rw [if_neg h1, if_neg h2]
            refine ⟨⟨by rw [oth _ _ _ (by omega), dn _ (by decide) (by omega)]; exact hN.1, by rw [oth _ _ _ (by omega), dn _ (by decide) (by omega)]; exact hN.2.1, by rw [dn _ (by decide) (by omega)]; exact r2, by rw [dn _ (by decide) (by omega)]; exact r3, fun i hi k hk => ?_, fun i hi k hk => ?_⟩, ⟨by rw [h50]; rfl, by rw [oth _ _ _ (by omega), dn _ (by decide) (by omega)]; exact p1, by rw [oth _ _ _ (by omega), dn _ (by decide) (by omega)]; exact p4, by rw [oth _ _ _ (by omega), dn _ (by decide) (by omega)]; exact p5⟩, fun b hb => ?_, fun b hb => ?_, z + l.length, ?_, ?_, fun f hf => ?_⟩
            · rw [dn _ (by decide) (by omega)] at hi
              rw [oth _ _ _ (by omega), dn _ (by omega) (by omega)]; exact hN.2.2.2.2.1 i hi k hk
            · rw [dn _ (by decide) (by omega)] at hi
              rw [oth _ _ _ (by omega), dn _ (by omega) (by omega)]; exact hN.2.2.2.2.2 i hi k hk
            · rw [dn _ (by decide) (by omega)] at hb
              rw [oth _ _ _ (by omega), oth _ _ _ (by omega), dn _ (by omega) (by omega), dn _ (by omega) (by omega)]; exact pB b hb
            · rw [dn _ (by decide) (by omega)] at hb
              rw [oth _ _ _ (by omega), oth _ _ _ (by omega), dn _ (by omega) (by omega), dn _ (by omega) (by omega)]; exact pH b hb
            · have := hlen.1; omega
            · rw [hF5 _ _ _ (by omega), u_k (by decide)]; exact b3
            · by_cases ef : f = fOf w
              · subst ef
                have l2 : (dUp (dForm D (fOf w) l) 0 (D.1 0 + 1)).2 (fOf w) = l := if_pos rfl
                refine Or.inl ⟨?_, z, ?_, ?_, ?_, ?_, ?_⟩
                · show (if 50 + fOf w = 0 then D.1 0 + 1 else (if 50 + fOf w = 50 + fOf w then 1 else D.1 (50 + fOf w))) = 1
                  rw [if_neg (by omega), if_pos rfl]
                · rw [hF5 _ _ _ (by omega), u_k (by decide), hG3 _ _ _ (by omega), h40]; exact pz
                · rw [hF5 _ _ _ (by omega), u_eq, l2, b3]; omega
                · rw [l2]; omega
                · rw [l2]; exact hl1
                · rw [l2]; exact gCd_congr (fun k _ _ => h515 k) b5
              · refine kFz_congr (pF f hf) (by rw [hF5 _ _ _ (by omega), u_k (by decide), hG3 _ _ _ (by omega)]; exact h40o f ef) (by rw [hF5 _ _ _ (by omega), u_j ef, hG3 _ _ _ (by omega), hF2 _ _ _ (by omega), hF1 _ _ _ (by omega)]) (fun j hj => by rw [h515, hb4 j hj]) (by omega) (dn _ (by omega) (by omega)) ?_
                show (if f = fOf w then l else D.2 f) = D.2 f
                rw [if_neg ef]
        have hfuel : ∀ m, m ≤ 9 → 10 * (n - (lNx tp n s g).1) + m < 10 * n + 20 := fun m hm => by omega
        have sp := m_rd (S := S) (h := h) (J := J) (tp := tp) (n := n) (c := c) (al := alT (fOf w)) (10 * n + 20)
        rw [gb_24_164]
        by_cases f2 : fOf w = 2
        · rw [if_pos (z_inj (by rw [hx2, f2]; rfl)), gb_24_169]
          refine sp 9 0 (lNx tp n s g).1 z (lNx tp n s g).2 I2 (d + 79) 0 none none _ (by decide) (by decide) hx2' hal ht2 h173 hz2 (by omega) (hfuel 9 (by decide)) (by show 10 * (6 - 0) + 15 ≤ d + 79; omega) (fun q => by omega) fun I3 hG3 ho3 => ?_
          rw [Option.toList_none, List.nil_append, gb_24_176]
          exact beh 9 _ _ (by rw [if_pos f2]) I3 hG3 ho3
        · rw [if_neg (fun e => f2 (by have := congrArg Int32.toInt e; rw [hx2] at this; have e2 : (2 : Int32).toInt = 2 := rfl; omega)), gb_24_179]
          refine sp 4 0 (lNx tp n s g).1 z (lNx tp n s g).2 I2 (d + 79) 0 none none _ (by decide) (by decide) hx2' hal ht2 h173 hz2 (by omega) (hfuel 4 (by decide)) (by show 10 * (6 - 0) + 12 ≤ d + 79; omega) (fun q => by omega) fun I3 hG3 ho3 => ?_
          rw [Option.toList_none, List.nil_append]
          exact beh 4 _ _ (by rw [if_neg f2]) I3 hG3 ho3
    rw [if_neg wf] at hx2 hy
    -- the rest of the words
    have nxt : ∀ (a3 : Int32) (hk : ∀ (I1 : Nat → Nat → Nat → Int32), (∀ k i j, ¬ ((k = 11 ∧ i = 0 ∧ (j = 2 ∨ j = 3 ∨ j = 4 ∨ j = 5))) → I1 k i j = I k i j) → kTk I1 tp n (.inr (lNx tp n s g)) → (gq (d + 80) 24 209 [some (.inr (.inr (some (34, c)))), some (.inl (v)), some (.inl (x)), some (.inl (a3))] [] (gwd S I1 J h) Q)), (gq (d + 80) 24 123 [some (.inr (.inr (some (34, c)))), some (.inl (v)), some (.inl (x)), some (.inl (a3))] [] (gwd S I J h) Q) := fun a3 hk => by
      rw [gb_24_123, if_pos (by rw [z_lt, z_0]; omega), gb_24_202]
      refine m_nextT hx ht fun I1 hF1 ht1 => ?_
      rw [Option.toList_none, List.nil_append]
      exact hk I1 hF1 ht1
    have ev : ∀ {u : Int32}, v = u ↔ w = u.toInt := fun {u} => by rw [z_eq, hv]
    have e20 : (20 : Int32).toInt = 20 := rfl
    have e21 : (21 : Int32).toInt = 21 := rfl
    have e22 : (22 : Int32).toInt = 22 := rfl
    have e23 : (23 : Int32).toInt = 23 := rfl
    by_cases w20 : w = 20
    · rw [if_pos w20] at hy hS
      have hyv : y.toInt = 8 - D.1 2 := by rw [hy, z_sub (by rw [hN.1]; omega) (by rw [hN.1]; omega), hN.1, e8]
      by_cases full : D.1 2 = 8
      · rw [if_pos full] at hS
        rw [if_neg (by rw [z_lt, z_0]; omega), gb_24_104, if_pos (z_inj (by rw [hyv, full]; rfl)), gb_24_112]
        exact bad _ _ _ 5 5 rfl (by decide) hS
      rw [if_neg full] at hS
      rw [if_pos (by rw [z_lt, z_0]; omega)]
      refine nxt y fun I1 hF1 ht1 => ?_
      have hFC1 : FC c I I1 := fun k i j hn => hF1 _ _ _ (by omega)
      have hN1 : kNs I1 c D := ⟨by rw [hF1 _ _ _ (by omega)]; exact hN.1, by rw [hF1 _ _ _ (by omega)]; exact hN.2.1, r2, r3, fun i hi k hk => by rw [hF1 _ _ _ (by omega)]; exact hN.2.2.2.2.1 i hi k hk, fun i hi k hk => by rw [hF1 _ _ _ (by omega)]; exact hN.2.2.2.2.2 i hi k hk⟩
      rw [gb_24_209, if_pos (ev.mpr (by rw [w20]; rfl)), gb_24_240]
      refine m_readBearer (kTx_FC hx hFC1) ht1 hN1 (by rw [hF1 _ _ _ (by omega)]; exact p1) (by omega) fun I2 hF2 ht2 hO2 hL2 hB2 hE2 hS2 hP2 => ?_
      rw [Option.toList_none, List.nil_append, gb_24_244]
      refine fin I2 _ _ _ _ _ (FC_trans hFC1 (fun k i j hn => hF2 _ _ _ (by omega))) ht2 (by rw [hF2 _ _ _ (by omega), hF1 _ _ _ (by omega)]; exact p0) (by rw [hS]) (by rw [hS]) (fun I5 hF5 h50 q e => ?_)
      have hq := lMo_trans (lMo_I (tp := tp) (n := n) (w2 := 4) (lo2 := 1) (hi2 := 9) (D := D) (τ := .inr (lNx tp n s g))) lMo_C q e
      obtain ⟨q0, e0, m0⟩ := hq
      injection e0 with e0
      have hqq := m0 (by rw [← e0]; exact hnx.2.1)
      rw [← e0] at hqq
      obtain ⟨q1, e1', _⟩ := lMo_C (tp := tp) (n := n) _ e
      have hLl : ∀ k, k < 6 → (I2 39 c (6 * (D.1 2).toNat + k)).toInt = lLe tp n (lNx tp n s g) k := hL2 (lNx tp n s g).1 (lNx tp n s g).2 q1 rfl e1'
      have oth : ∀ k i j, ¬ (k = 11 ∧ i = 0 ∨ k = 39 ∧ i = c ∨ k = 35 ∧ i = c ∨ k = 36 ∧ i = c ∨ k = 34 ∧ i = c ∧ (j = 2 ∨ j = 0)) → I5 k i j = I k i j := fun k i j hn => by rw [hF5 _ _ _ (by omega), hF2 _ _ _ (by omega), hF1 _ _ _ (by omega)]
      have o39 : ∀ j, I5 39 c j = I2 39 c j := fun j => hF5 _ _ _ (by omega)
      have dv : ∀ ltr m p j, (dUp (dBear D ltr m p) 0 (D.1 0 + 1)).1 j = if j = 0 then D.1 0 + 1 else if j = 2 then D.1 2 + 1 else if j = 10 + (D.1 2).toNat then m else if j = 20 + (D.1 2).toNat then p else if 100 + 6 * (D.1 2).toNat ≤ j ∧ j < 106 + 6 * (D.1 2).toNat then ltr (j - (100 + 6 * (D.1 2).toNat)) else D.1 j := fun _ _ _ _ => rfl
      generalize nIt tp n 4 1 9 D (.inr (lNx tp n s g)) = R at *
      generalize hLL : lLe tp n (lNx tp n s g) = LL at *
      generalize hDD : dUp (dBear D LL R.2.1 R.2.2) 0 (D.1 0 + 1) = DD
      have dv' : ∀ j, DD.1 j = if j = 0 then D.1 0 + 1 else if j = 2 then D.1 2 + 1 else if j = 10 + (D.1 2).toNat then R.2.1 else if j = 20 + (D.1 2).toNat then R.2.2 else if 100 + 6 * (D.1 2).toNat ≤ j ∧ j < 106 + 6 * (D.1 2).toNat then LL (j - (100 + 6 * (D.1 2).toNat)) else D.1 j := fun j => by rw [← hDD]; exact dv _ _ _ j
      have dn : ∀ j, j ≠ 0 → j ≠ 2 → j ≠ 10 + (D.1 2).toNat → j ≠ 20 + (D.1 2).toNat → ¬ (100 + 6 * (D.1 2).toNat ≤ j ∧ j < 106 + 6 * (D.1 2).toNat) → DD.1 j = D.1 j := fun j h1 h2 h3 h4 h5 => by rw [dv', if_neg h1, if_neg h2, if_neg h3, if_neg h4, if_neg h5]
      have d22 : DD.1 2 = D.1 2 + 1 := by rw [dv', if_neg (by decide), if_pos rfl]
      have hD2 : DD.2 = D.2 := by rw [← hDD]; rfl
      refine ⟨⟨by rw [hF5 _ _ _ (by omega), hB2, d22], by rw [oth _ _ _ (by omega), dn _ (by decide) (by decide) (by omega) (by omega) (by omega)]; exact hN.2.1, by rw [d22]; omega, by rw [dn _ (by decide) (by decide) (by omega) (by omega) (by omega)]; exact r3, fun i hi k hk => ?_, fun i hi k hk => ?_⟩, ⟨by rw [h50, dv', if_pos rfl], by rw [oth _ _ _ (by omega), dn _ (by decide) (by decide) (by omega) (by omega) (by omega)]; exact p1, by rw [oth _ _ _ (by omega), dn _ (by decide) (by decide) (by omega) (by omega) (by omega)]; exact p4, by rw [oth _ _ _ (by omega), dn _ (by decide) (by decide) (by omega) (by omega) (by omega)]; exact p5⟩, fun b hb => ?_, fun b hb => ?_, z, by omega, by rw [oth _ _ _ (by omega)]; exact pz, fun f hf => ?_⟩
      · rw [d22] at hi
        rw [o39]
        by_cases ei : i = (D.1 2).toNat
        · subst ei
          rw [hLl k hk, dv', if_neg (by omega), if_neg (by omega), if_neg (by omega), if_neg (by omega), if_pos (by omega)]
          congr 1; omega
        · rw [hO2 _ (by omega), hF1 _ _ _ (by omega), dn _ (by omega) (by omega) (by omega) (by omega) (by omega)]
          exact hN.2.2.2.2.1 i (by omega) k hk
      · rw [dn 3 (by decide) (by decide) (by omega) (by omega) (by omega)] at hi
        rw [o39, hO2 _ (by omega), hF1 _ _ _ (by omega), dn _ (by omega) (by omega) (by omega) (by omega) (by omega)]
        exact hN.2.2.2.2.2 i hi k hk
      · rw [d22] at hb
        have h35 : I5 35 c b = I2 35 c b := hF5 _ _ _ (by omega)
        have h36 : I5 36 c b = I2 36 c b := hF5 _ _ _ (by omega)
        rw [h35, h36]
        by_cases eb : b = (D.1 2).toNat
        · subst eb
          refine ⟨?_, ?_⟩
          · rw [hS2, dv', if_neg (by omega), if_neg (by omega), if_pos rfl]
          · rw [hP2, dv', if_neg (by omega), if_neg (by omega), if_neg (by omega), if_pos rfl]
        · have := hE2 b eb
          rw [this.1, this.2, hF1 _ _ _ (by omega), hF1 _ _ _ (by omega), dn _ (by omega) (by omega) (by omega) (by omega) (by omega), dn _ (by omega) (by omega) (by omega) (by omega) (by omega)]
          exact pB b (by omega)
      · rw [dn 3 (by decide) (by decide) (by omega) (by omega) (by omega)] at hb
        rw [oth _ _ _ (by omega), oth _ _ _ (by omega), dn _ (by omega) (by omega) (by omega) (by omega) (by omega), dn _ (by omega) (by omega) (by omega) (by omega) (by omega)]
        exact pH b hb
      · exact kFz_congr (pF f hf) (oth _ _ _ (by omega)) (oth _ _ _ (by omega)) (fun j _ => oth _ _ _ (by omega)) (Nat.le_refl _) (dn _ (by omega) (by omega) (by omega) (by omega) (by omega)) (by rw [hD2])
    rw [if_neg w20] at hy hS
    by_cases w22 : w = 22
    · rw [if_pos w22] at hy hS
      have hyv : y.toInt = 8 - D.1 3 := by rw [hy, z_sub (by rw [hN.2.1]; omega) (by rw [hN.2.1]; omega), hN.2.1, e8]
      by_cases full : D.1 3 = 8
      · rw [if_pos full] at hS
        rw [if_neg (by rw [z_lt, z_0]; omega), gb_24_104, if_pos (z_inj (by rw [hyv, full]; rfl)), gb_24_112]
        exact bad _ _ _ 5 5 rfl (by decide) hS
      rw [if_neg full] at hS
      rw [if_pos (by rw [z_lt, z_0]; omega)]
      refine nxt y fun I1 hF1 ht1 => ?_
      have hFC1 : FC c I I1 := fun k i j hn => hF1 _ _ _ (by omega)
      have hN1 : kNs I1 c D := ⟨by rw [hF1 _ _ _ (by omega)]; exact hN.1, by rw [hF1 _ _ _ (by omega)]; exact hN.2.1, r2, r3, fun i hi k hk => by rw [hF1 _ _ _ (by omega)]; exact hN.2.2.2.2.1 i hi k hk, fun i hi k hk => by rw [hF1 _ _ _ (by omega)]; exact hN.2.2.2.2.2 i hi k hk⟩
      rw [gb_24_209, if_neg (by rw [ev]; omega), if_neg (by rw [ev]; omega), if_pos (ev.mpr (by rw [w22]; rfl)), gb_24_247]
      refine m_readHouse (kTx_FC hx hFC1) ht1 hN1 (by rw [hF1 _ _ _ (by omega)]; exact p1) (by omega) fun I2 hF2 ht2 hO2 hL2 hB2 hE2 hS2 hP2 => ?_
      rw [Option.toList_none, List.nil_append, gb_24_251]
      refine fin I2 _ _ _ _ _ (FC_trans hFC1 (fun k i j hn => hF2 _ _ _ (by omega))) ht2 (by rw [hF2 _ _ _ (by omega), hF1 _ _ _ (by omega)]; exact p0) (by rw [hS]) (by rw [hS]) (fun I5 hF5 h50 q e => ?_)
      have hq := lMo_trans (lMo_I (tp := tp) (n := n) (w2 := 9) (lo2 := 0) (hi2 := 99) (D := D) (τ := .inr (lNx tp n s g))) lMo_C q e
      obtain ⟨q0, e0, m0⟩ := hq
      injection e0 with e0
      have hqq := m0 (by rw [← e0]; exact hnx.2.1)
      rw [← e0] at hqq
      obtain ⟨q1, e1', _⟩ := lMo_C (tp := tp) (n := n) _ e
      have hLl : ∀ k, k < 6 → (I2 39 c (6 * (8 + (D.1 3).toNat) + k)).toInt = lLe tp n (lNx tp n s g) k := hL2 (lNx tp n s g).1 (lNx tp n s g).2 q1 rfl e1'
      have oth : ∀ k i j, ¬ (k = 11 ∧ i = 0 ∨ k = 39 ∧ i = c ∨ k = 37 ∧ i = c ∨ k = 38 ∧ i = c ∨ k = 34 ∧ i = c ∧ (j = 3 ∨ j = 0)) → I5 k i j = I k i j := fun k i j hn => by rw [hF5 _ _ _ (by omega), hF2 _ _ _ (by omega), hF1 _ _ _ (by omega)]
      have o39 : ∀ j, I5 39 c j = I2 39 c j := fun j => hF5 _ _ _ (by omega)
      have dv : ∀ ltr m p j, (dUp (dHous D ltr m p) 0 (D.1 0 + 1)).1 j = if j = 0 then D.1 0 + 1 else if j = 3 then D.1 3 + 1 else if j = 30 + (D.1 3).toNat then m else if j = 40 + (D.1 3).toNat then p else if 148 + 6 * (D.1 3).toNat ≤ j ∧ j < 154 + 6 * (D.1 3).toNat then ltr (j - (148 + 6 * (D.1 3).toNat)) else D.1 j := fun _ _ _ _ => rfl
      generalize nIt tp n 9 0 99 D (.inr (lNx tp n s g)) = R at *
      generalize hLL : lLe tp n (lNx tp n s g) = LL at *
      generalize hDD : dUp (dHous D LL R.2.1 R.2.2) 0 (D.1 0 + 1) = DD
      have dv' : ∀ j, DD.1 j = if j = 0 then D.1 0 + 1 else if j = 3 then D.1 3 + 1 else if j = 30 + (D.1 3).toNat then R.2.1 else if j = 40 + (D.1 3).toNat then R.2.2 else if 148 + 6 * (D.1 3).toNat ≤ j ∧ j < 154 + 6 * (D.1 3).toNat then LL (j - (148 + 6 * (D.1 3).toNat)) else D.1 j := fun j => by rw [← hDD]; exact dv _ _ _ j
      have dn : ∀ j, j ≠ 0 → j ≠ 3 → j ≠ 30 + (D.1 3).toNat → j ≠ 40 + (D.1 3).toNat → ¬ (148 + 6 * (D.1 3).toNat ≤ j ∧ j < 154 + 6 * (D.1 3).toNat) → DD.1 j = D.1 j := fun j h1 h2 h3 h4 h5 => by rw [dv', if_neg h1, if_neg h2, if_neg h3, if_neg h4, if_neg h5]
      have d33 : DD.1 3 = D.1 3 + 1 := by rw [dv', if_neg (by decide), if_pos rfl]
      have hD2 : DD.2 = D.2 := by rw [← hDD]; rfl
      refine ⟨⟨by rw [oth _ _ _ (by omega), dn _ (by decide) (by decide) (by omega) (by omega) (by omega)]; exact hN.1, by rw [hF5 _ _ _ (by omega), hB2, d33], by rw [dn _ (by decide) (by decide) (by omega) (by omega) (by omega)]; exact r2, by rw [d33]; omega, fun i hi k hk => ?_, fun i hi k hk => ?_⟩, ⟨by rw [h50, dv', if_pos rfl], by rw [oth _ _ _ (by omega), dn _ (by decide) (by decide) (by omega) (by omega) (by omega)]; exact p1, by rw [oth _ _ _ (by omega), dn _ (by decide) (by decide) (by omega) (by omega) (by omega)]; exact p4, by rw [oth _ _ _ (by omega), dn _ (by decide) (by decide) (by omega) (by omega) (by omega)]; exact p5⟩, fun b hb => ?_, fun b hb => ?_, z, by omega, by rw [oth _ _ _ (by omega)]; exact pz, fun f hf => ?_⟩
      · rw [dn 2 (by decide) (by decide) (by omega) (by omega) (by omega)] at hi
        rw [o39, hO2 _ (by omega), hF1 _ _ _ (by omega), dn _ (by omega) (by omega) (by omega) (by omega) (by omega)]
        exact hN.2.2.2.2.1 i hi k hk
      · rw [d33] at hi
        rw [o39]
        by_cases ei : i = (D.1 3).toNat
        · subst ei
          rw [hLl k hk, dv', if_neg (by omega), if_neg (by omega), if_neg (by omega), if_neg (by omega), if_pos (by omega)]
          congr 1; omega
        · rw [hO2 _ (by omega), hF1 _ _ _ (by omega), dn _ (by omega) (by omega) (by omega) (by omega) (by omega)]
          exact hN.2.2.2.2.2 i (by omega) k hk
      · rw [dn 2 (by decide) (by decide) (by omega) (by omega) (by omega)] at hb
        rw [oth _ _ _ (by omega), oth _ _ _ (by omega), dn _ (by omega) (by omega) (by omega) (by omega) (by omega), dn _ (by omega) (by omega) (by omega) (by omega) (by omega)]
        exact pB b hb
      · rw [d33] at hb
        have h37 : I5 37 c b = I2 37 c b := hF5 _ _ _ (by omega)
        have h38 : I5 38 c b = I2 38 c b := hF5 _ _ _ (by omega)
        rw [h37, h38]
        by_cases eb : b = (D.1 3).toNat
        · subst eb
          refine ⟨?_, ?_⟩
          · rw [hS2, dv', if_neg (by omega), if_neg (by omega), if_pos rfl]
          · rw [hP2, dv', if_neg (by omega), if_neg (by omega), if_neg (by omega), if_pos rfl]
        · have := hE2 b eb
          rw [this.1, this.2, hF1 _ _ _ (by omega), hF1 _ _ _ (by omega), dn _ (by omega) (by omega) (by omega) (by omega) (by omega), dn _ (by omega) (by omega) (by omega) (by omega) (by omega)]
          exact pH b (by omega)
      · exact kFz_congr (pF f hf) (oth _ _ _ (by omega)) (oth _ _ _ (by omega)) (fun j _ => oth _ _ _ (by omega)) (Nat.le_refl _) (dn _ (by omega) (by omega) (by omega) (by omega) (by omega)) (by rw [hD2])
    rw [if_neg w22] at hy hS
    by_cases wn : w = 23 ∨ w = 26
    · rw [if_pos wn] at hy
      rw [if_pos (by rw [hy]; decide)]
      refine nxt y fun I1 hF1 ht1 => ?_
      have hFC1 : FC c I I1 := fun k i j hn => hF1 _ _ _ (by omega)
      -- a number is kept at k
      have kept : ∀ (kk : Nat) (lo hi : Int) (u : Int32) (I2 : Nat → Nat → Nat → Int32), (kk = 4 ∨ kk = 5) → (∀ k i j, ¬ ((k = 11 ∧ i = 0 ∧ (j = 2 ∨ j = 3 ∨ j = 4 ∨ j = 5 ∨ j = 6 ∨ j = 7))) → I2 k i j = I1 k i j) → kTk I2 tp n (lNumT tp n lo hi (.inr (lNx tp n s g))).1 → u.toInt = (lNumT tp n lo hi (.inr (lNx tp n s g))).2 → nSt tp n D s g = (lAskC tp n (lNumT tp n lo hi (.inr (lNx tp n s g))).1 59, dUp D kk (lNumT tp n lo hi (.inr (lNx tp n s g))).2) → ∀ a1 a2 a3 : Int32, (gq (d + 80) 24 285 [some (.inr (.inr (some (34, c)))), some (.inl (a1)), some (.inl (a2)), some (.inl (a3))] [] (gwd S (gup I2 34 c kk u) J h) Q) := fun kk lo hi u I2 hkk hF2 ht2 hu hS' a1 a2 a3 => by
        refine fin _ _ _ _ _ _ (FC_trans hFC1 (fun k i j hn => by rw [u_ne (by omega), hF2 _ _ _ (by omega)])) (kTk_congr ht2 (fun j _ _ => u_k (by decide))) (by rw [u_j (by omega), hF2 _ _ _ (by omega), hF1 _ _ _ (by omega)]; exact p0) (by rw [hS']) (by rw [hS']) (fun I5 hF5 h50 q e => ?_)
        have hq := lMo_trans (lMo_N (tp := tp) (n := n) (lo := lo) (hi := hi) (τ := .inr (lNx tp n s g))) lMo_C q e
        obtain ⟨q0, e0, m0⟩ := hq
        injection e0 with e0
        have hqq := m0 (by rw [← e0]; exact hnx.2.1)
        rw [← e0] at hqq
        generalize lNumT tp n lo hi (.inr (lNx tp n s g)) = R at *
        have oth : ∀ k i j, ¬ (k = 11 ∧ i = 0 ∨ k = 34 ∧ i = c ∧ (j = kk ∨ j = 0)) → I5 k i j = I k i j := fun k i j hn => by rw [hF5 _ _ _ (by omega), u_ne (by omega), hF2 _ _ _ (by omega), hF1 _ _ _ (by omega)]
        have dn : ∀ j, j ≠ 0 → j ≠ kk → (dUp (dUp D kk R.2) 0 (D.1 0 + 1)).1 j = D.1 j := fun j h1 h2 => by
          show (if j = 0 then D.1 0 + 1 else (if j = kk then R.2 else D.1 j)) = D.1 j
          rw [if_neg h1, if_neg h2]
        have d45 : ∀ j, (j = 4 ∨ j = 5) → (I5 34 c j).toInt = (dUp (dUp D kk R.2) 0 (D.1 0 + 1)).1 j := fun j hj => by
          by_cases ej : j = kk
          · rw [ej, hF5 _ _ _ (by omega), u_eq, hu]
            show R.2 = (if kk = 0 then D.1 0 + 1 else (if kk = kk then R.2 else D.1 kk))
            rw [if_neg (by omega), if_pos rfl]
          · rw [oth _ _ _ (by omega), dn j (by omega) ej]
            rcases hj with rfl | rfl
            · exact p4
            · exact p5
        refine ⟨⟨by rw [oth _ _ _ (by omega), dn _ (by decide) (by omega)]; exact hN.1, by rw [oth _ _ _ (by omega), dn _ (by decide) (by omega)]; exact hN.2.1, by rw [dn _ (by decide) (by omega)]; exact r2, by rw [dn _ (by decide) (by omega)]; exact r3, fun i hi k hk => ?_, fun i hi k hk => ?_⟩, ⟨by rw [h50]; rfl, by rw [oth _ _ _ (by omega), dn _ (by decide) (by omega)]; exact p1, d45 4 (by omega), d45 5 (by omega)⟩, fun b hb => ?_, fun b hb => ?_, z, by omega, by rw [oth _ _ _ (by omega)]; exact pz, fun f hf => kFz_congr (pF f hf) (oth _ _ _ (by omega)) (oth _ _ _ (by omega)) (fun j _ => oth _ _ _ (by omega)) (Nat.le_refl _) (dn _ (by omega) (by omega)) rfl⟩
        · rw [dn _ (by decide) (by omega)] at hi
          rw [oth _ _ _ (by omega), dn _ (by omega) (by omega)]; exact hN.2.2.2.2.1 i hi k hk
        · rw [dn _ (by decide) (by omega)] at hi
          rw [oth _ _ _ (by omega), dn _ (by omega) (by omega)]; exact hN.2.2.2.2.2 i hi k hk
        · rw [dn _ (by decide) (by omega)] at hb
          rw [oth _ _ _ (by omega), oth _ _ _ (by omega), dn _ (by omega) (by omega), dn _ (by omega) (by omega)]; exact pB b hb
        · rw [dn _ (by decide) (by omega)] at hb
          rw [oth _ _ _ (by omega), oth _ _ _ (by omega), dn _ (by omega) (by omega), dn _ (by omega) (by omega)]; exact pH b hb
      rw [gb_24_209, if_neg (by rw [ev]; omega), if_neg (by rw [ev]; omega), if_neg (by rw [ev]; omega)]
      by_cases w23 : w = 23
      · rw [if_pos w23] at hS
        rw [if_pos (ev.mpr (by rw [w23]; rfl)), gb_24_254]
        refine m_expectN (lo := 1) (hi := 99) rfl rfl (kTx_FC hx hFC1) ht1 fun I2 u hF2 ht2 hu => ?_
        rw [Option.toList_some, List.singleton_append, gb_24_265]
        exact kept 4 1 99 u I2 (Or.inl rfl) hF2 ht2 hu hS _ _ _
      · rw [if_neg w23, if_pos (by omega)] at hS
        rw [if_neg (by rw [ev]; omega), gb_24_271]
        refine m_expectN (lo := 0) (hi := 100) rfl rfl (kTx_FC hx hFC1) ht1 fun I2 u hF2 ht2 hu => ?_
        rw [Option.toList_some, List.singleton_append, gb_24_282]
        exact kept 5 0 100 u I2 (Or.inr rfl) hF2 ht2 hu hS _ _ _
    · rw [if_neg wn] at hy
      rw [if_neg (by omega), if_neg (by omega), if_neg wf] at hS
      have em1 : (Int32.ofInt (-1)).toInt = -1 := rfl
      rw [if_neg (by rw [hy]; decide), gb_24_104, if_neg (by rw [hy]; decide), gb_24_116]
      exact bad _ _ _ 1 1 rfl (by decide) hS
  rw [gb_24_64, gb_24_73]
  by_cases w : lKd tp n s g = -2
  · rw [if_pos (hkd.mpr w), gb_24_76]
    exact go _ (by unfold wKd; rw [if_pos w]; exact hwr w)
  · rw [if_neg (fun q => w (hkd.mp q)), gb_24_86]
    exact go _ (by unfold wKd; rw [if_neg w]; rfl)
