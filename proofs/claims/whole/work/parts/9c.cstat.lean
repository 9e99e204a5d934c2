/-! A course's text, and how the class reads a statement. -/
def dUp (D : gCo) (k : Nat) (v : Int) : gCo := (sUp D.1 k v, D.2)
def dBear (D : gCo) (ltr : Nat → Int) (m p : Int) : gCo := (fun j => if j = 2 then D.1 2 + 1 else if j = 10 + (D.1 2).toNat then m else if j = 20 + (D.1 2).toNat then p else if 100 + 6 * (D.1 2).toNat ≤ j ∧ j < 106 + 6 * (D.1 2).toNat then ltr (j - (100 + 6 * (D.1 2).toNat)) else D.1 j, D.2)
def dHous (D : gCo) (ltr : Nat → Int) (m p : Int) : gCo := (fun j => if j = 3 then D.1 3 + 1 else if j = 30 + (D.1 3).toNat then m else if j = 40 + (D.1 3).toNat then p else if 148 + 6 * (D.1 3).toNat ≤ j ∧ j < 154 + 6 * (D.1 3).toNat then ltr (j - (148 + 6 * (D.1 3).toNat)) else D.1 j, D.2)
def dForm (D : gCo) (f : Nat) (l : List Int) : gCo := (sUp D.1 (50 + f) 1, fun k => if k = f then l else D.2 k)
noncomputable def nIt (tp : Nat → Int) (n w2 : Nat) (lo2 hi2 : Int) (D : gCo) (τ0 : lT) : lT × Int × Int :=
  ((lNumT tp n lo2 hi2 (lAskW tp n (lNumT tp n 0 (D.1 1) (lAskW tp n (lNmT tp n D τ0) 21)).1 w2)).1, (lNumT tp n 0 (D.1 1) (lAskW tp n (lNmT tp n D τ0) 21)).2, (lNumT tp n lo2 hi2 (lAskW tp n (lNumT tp n 0 (D.1 1) (lAskW tp n (lNmT tp n D τ0) 21)).1 w2)).2)
def lLe (tp : Nat → Int) (n : Nat) : Nat × Bool → Nat → Int
  | (s, _) => cLet tp s (lEn tp n s)
def fOf (w : Int) : Nat := if w = 3 then 0 else if w = 24 then 1 else 2
theorem fOf_lt {w : Int} : fOf w < 3 := by unfold fOf; (repeat' split) <;> omega
def wKd (tp : Nat → Int) (n s : Nat) (g : Bool) : Int := if lKd tp n s g = -2 then wHere tp n s else -1
noncomputable def nSt (tp : Nat → Int) (n : Nat) (D : gCo) (s : Nat) (g : Bool) : lT × gCo :=
  if wKd tp n s g = 20 then (if D.1 2 = 8 then (.inl (5, s), D) else (lAskC tp n (nIt tp n 4 1 9 D (.inr (lNx tp n s g))).1 59, dBear D (lLe tp n (lNx tp n s g)) (nIt tp n 4 1 9 D (.inr (lNx tp n s g))).2.1 (nIt tp n 4 1 9 D (.inr (lNx tp n s g))).2.2))
  else if wKd tp n s g = 22 then (if D.1 3 = 8 then (.inl (5, s), D) else (lAskC tp n (nIt tp n 9 0 99 D (.inr (lNx tp n s g))).1 59, dHous D (lLe tp n (lNx tp n s g)) (nIt tp n 9 0 99 D (.inr (lNx tp n s g))).2.1 (nIt tp n 9 0 99 D (.inr (lNx tp n s g))).2.2))
  else if wKd tp n s g = 23 then (lAskC tp n (lNumT tp n 1 99 (.inr (lNx tp n s g))).1 59, dUp D 4 (lNumT tp n 1 99 (.inr (lNx tp n s g))).2)
  else if wKd tp n s g = 26 then (lAskC tp n (lNumT tp n 0 100 (.inr (lNx tp n s g))).1 59, dUp D 5 (lNumT tp n 0 100 (.inr (lNx tp n s g))).2)
  else if wKd tp n s g = 3 ∨ wKd tp n s g = 24 ∨ wKd tp n s g = 25 then
    (if D.1 (50 + fOf (wKd tp n s g)) = 1 then (.inl (5, s), D)
    else (lAskC tp n (rd tp n (alT (fOf (wKd tp n s g))) (10 * n + 20) (if fOf (wKd tp n s g) = 2 then 9 else 4) 0 (lNx tp n s g).1 (lNx tp n s g).2).1 59, dForm D (fOf (wKd tp n s g)) (rd tp n (alT (fOf (wKd tp n s g))) (10 * n + 20) (if fOf (wKd tp n s g) = 2 then 9 else 4) 0 (lNx tp n s g).1 (lNx tp n s g).2).2))
  else (.inl (1, s), D)
noncomputable def nLp (tp : Nat → Int) (n : Nat) : Nat → lT → gCo → lT × gCo
  | _, .inl b, D => (.inl b, D)
  | 0, .inr (s, g), D => (if s < n then .inl (5, s) else .inr (s, g), D)
  | m + 1, .inr (s, g), D => if s < n then nLp tp n m (nSt tp n D s g).1 (dUp (nSt tp n D s g).2 0 (D.1 0 + 1)) else (.inr (s, g), D)
def nD0 (r : Int) : gCo := (fun j => if j = 0 then 1 else if j = 1 then r else if j = 4 then 50 else 0, fun _ => [])
noncomputable def nCrs (tp : Nat → Int) (n : Nat) : lT × gCo :=
  nLp tp n 59 (lAskC tp n (lNumT tp n 5 99 (lAskW tp n (.inr (lSk tp n 0, false)) 19)).1 59) (nD0 (lNumT tp n 5 99 (lAskW tp n (.inr (lSk tp n 0, false)) 19)).2)
def FC (c : Nat) (I I' : Nat → Nat → Nat → Int32) : Prop := ∀ k i j, ¬ (k = 11 ∧ i = 0 ∧ 2 ≤ j ∧ j ≤ 7 ∨ k = 14 ∧ i = c ∧ j = 2 ∨ k = 15 ∧ i = c ∨ k = 17 ∧ i = c ∨ 34 ≤ k ∧ k ≤ 41 ∧ i = c) → I' k i j = I k i j
theorem FC_refl {c : Nat} {I : Nat → Nat → Nat → Int32} : FC c I I := fun _ _ _ _ => rfl
theorem FC_trans {c : Nat} {I I' I'' : Nat → Nat → Nat → Int32} (h1 : FC c I I') (h2 : FC c I' I'') : FC c I I'' := fun k i j hn => by rw [h2 k i j hn, h1 k i j hn]
theorem kTx_FC {c : Nat} {I I' : Nat → Nat → Nat → Int32} {tp : Nat → Int} {n : Nat} (h : kTx I tp n) (hF : FC c I I') : kTx I' tp n := kTx_congr h (fun j => hF _ _ _ (by omega)) (hF _ _ _ (by omega)) (fun j => hF _ _ _ (by omega))
/-- a formula as it lies in a course being read -/
def kFz (I : Nat → Nat → Nat → Int32) (c : Nat) (D : gCo) (z f : Nat) : Prop := (D.1 (50 + f) = 1 ∧ ∃ b0 : Nat, (I 40 c f).toInt = b0 ∧ (I 41 c f).toInt = b0 + (D.2 f).length ∧ b0 + (D.2 f).length ≤ z ∧ 1 ≤ (D.2 f).length ∧ gCd (I 15 c) id b0 (D.2 f)) ∨ (D.1 (50 + f) = 0 ∧ (I 41 c f).toInt = 0)
/-- a course being read -/
def kPc (I : Nat → Nat → Nat → Int32) (c : Nat) (D : gCo) (s : Nat) : Prop := kNs I c D ∧ ((I 34 c 0).toInt = D.1 0 ∧ (I 34 c 1).toInt = D.1 1 ∧ (I 34 c 4).toInt = D.1 4 ∧ (I 34 c 5).toInt = D.1 5) ∧ (∀ b : Nat, (b : Int) < D.1 2 → (I 35 c b).toInt = D.1 (10 + b) ∧ (I 36 c b).toInt = D.1 (20 + b)) ∧ (∀ b : Nat, (b : Int) < D.1 3 → (I 37 c b).toInt = D.1 (30 + b) ∧ (I 38 c b).toInt = D.1 (40 + b)) ∧ ∃ z, z + 8 ≤ s ∧ (I 14 c 2).toInt = z ∧ ∀ f, f < 3 → kFz I c D z f
variable {d S : Nat} {h : Nat × Option gNm} {I : Nat → Nat → Nat → Int32} {J : Nat → Nat → Nat → Int64} {Q : Option gV → gW → Prop}
variable {tp : Nat → Int} {n s c : Nat} {g : Bool} {D : gCo} {τ : lT}
theorem m_readNum {a1 a2 a3 : Int32} {w : Nat} {lo hi : Int} (hx : kTx I tp n) (ht : kTk I tp n τ) (h1 : a1.toInt = w) (h2 : a2.toInt = lo) (h3 : a3.toInt = hi) (K : ∀ I' (x : Int32), (∀ k i j, ¬ ((k = 11 ∧ i = 0 ∧ (j = 2 ∨ j = 3 ∨ j = 4 ∨ j = 5 ∨ j = 6 ∨ j = 7))) → I' k i j = I k i j) → kTk I' tp n (lNumT tp n lo hi (lAskW tp n τ w)).1 → x.toInt = (lNumT tp n lo hi (lAskW tp n τ w)).2 → Q (some (.inl x)) (gwd S I' J h)) : (gq (d + 7) 31 0 [some (.inr (.inr (some (34, c)))), some (.inl (a1)), some (.inl (a2)), some (.inl (a3))] [] (gwd S I J h) Q) := by
  rw [gb_31_0]
  refine m_expectW h1 hx ht fun I1 hF1 ht1 => ?_
  rw [Option.toList_none, List.nil_append, gb_31_8]
  refine m_expectN h2 h3 (kTx_congr hx (fun j => hF1 _ _ _ (by omega)) (hF1 _ _ _ (by omega)) (fun j => hF1 _ _ _ (by omega))) ht1 fun I2 x hF2 ht2 hv => ?_
  rw [Option.toList_some, List.singleton_append, gb_31_17]
  exact K I2 x (fun k i j hn => by rw [hF2 _ _ _ hn, hF1 _ _ _ hn]) ht2 hv
theorem m_readBearer {x1 x2 : Option gV} (hx : kTx I tp n) (ht : kTk I tp n τ) (hD : kNs I c D) (hM : (I 34 c 1).toInt = D.1 1) (hB : D.1 2 < 8)
    (K : ∀ (I' : Nat → Nat → Nat → Int32), (∀ k i j, ¬ ((k = 11 ∧ i = 0 ∧ (j = 2 ∨ j = 3 ∨ j = 4 ∨ j = 5 ∨ j = 6 ∨ j = 7)) ∨ (k = 39 ∧ i = c) ∨ (k = 35 ∧ i = c) ∨ (k = 36 ∧ i = c) ∨ (k = 34 ∧ i = c ∧ j = 2)) → I' k i j = I k i j) → kTk I' tp n (nIt tp n 4 1 9 D τ).1 → (∀ j, ¬ (6 * (D.1 2).toNat ≤ j ∧ j < 6 * (D.1 2).toNat + 6) → I' 39 c j = I 39 c j) → (∀ s g q, τ = .inr (s, g) → (nIt tp n 4 1 9 D τ).1 = .inr q → ∀ k, k < 6 → (I' 39 c (6 * (D.1 2).toNat + k)).toInt = cLet tp s (lEn tp n s) k) → (I' 34 c 2).toInt = D.1 2 + 1 → (∀ j, j ≠ (D.1 2).toNat → I' 35 c j = I 35 c j ∧ I' 36 c j = I 36 c j) → (I' 35 c (D.1 2).toNat).toInt = (nIt tp n 4 1 9 D τ).2.1 → (I' 36 c (D.1 2).toNat).toInt = (nIt tp n 4 1 9 D τ).2.2 → Q none (gwd S I' J h)) : (gq (d + 8) 29 0 [some (.inr (.inr (some (34, c)))), x1, x2] [] (gwd S I J h) Q) := by
  have r2 := hD.2.2.1
  have r3 := hD.2.2.2.1
  have d2 := hD.1
  have e1 : (1 : Int32).toInt = 1 := rfl
  rw [gb_29_0]
  refine m_readName (r := (D.1 2).toNat) hx ht hD (by rw [d2]; omega) (by omega) (by omega) (by omega) (by omega) fun I1 hF1 ht1 hO1 hL1 => ?_
  have hx1 : kTx I1 tp n := kTx_congr hx (fun j => hF1 _ _ _ (by omega)) (hF1 _ _ _ (by omega)) (fun j => hF1 _ _ _ (by omega))
  rw [Option.toList_none, List.nil_append, gb_29_8]
  refine m_readNum (w := 21) (lo := 0) (hi := D.1 1) hx1 ht1 rfl rfl (by rw [hF1 _ _ _ (by omega)]; exact hM) fun I2 x hF2 ht2 hv2 => ?_
  have hx2 : kTx I2 tp n := kTx_congr hx1 (fun j => hF2 _ _ _ (by omega)) (hF2 _ _ _ (by omega)) (fun j => hF2 _ _ _ (by omega))
  rw [Option.toList_some, List.singleton_append, gb_29_19]
  refine m_readNum (w := 4) (lo := 1) (hi := 9) hx2 ht2 rfl rfl rfl fun I3 y hF3 ht3 hv3 => ?_
  have hF03 : (∀ k i j, ¬ ((k = 11 ∧ i = 0 ∧ (j = 2 ∨ j = 3 ∨ j = 4 ∨ j = 5 ∨ j = 6 ∨ j = 7)) ∨ (k = 39 ∧ i = c)) → I3 k i j = I k i j) := fun k i j hn => by rw [hF3 _ _ _ (by omega), hF2 _ _ _ (by omega), hF1 _ _ _ hn]
  have hd3 : (I3 34 c 2).toInt = D.1 2 := by rw [hF03 _ _ _ (by omega)]; exact d2
  have n3 : (I3 34 c 2).toNatClampNeg = (D.1 2).toNat := by rw [z_n, hd3]
  have e8 : (8 : Int32).toInt = 8 := rfl
  rw [Option.toList_some, List.singleton_append, gb_29_28, if_neg (by rw [z_lt, z_0]; omega), gb_29_36, if_neg (by rw [z_le]; omega), gb_29_45]
  refine ⟨g_in.mpr (by omega), ?_⟩
  rw [n3, gb_29_55]
  refine ⟨g_in.mpr (by rw [u_k (by decide)]; omega), ?_⟩
  rw [u_k (by decide), n3, gb_29_65, gb_29_75]
  refine K _ (fun k i j hn => by rw [u_ne (by omega), u_ne (by omega), u_ne (by omega), hF03 _ _ _ (by omega)]) (kTk_congr ht3 (fun j _ _ => by rw [u_k (by decide), u_k (by decide), u_k (by decide)])) (fun j hj => by rw [u_k (by decide), u_k (by decide), u_k (by decide), hF3 _ _ _ (by omega), hF2 _ _ _ (by omega)]; exact hO1 j hj) (fun s g q e e2 k hk => ?_) ?_ (fun j hj => ⟨by rw [u_k (by decide), u_k (by decide), u_j hj, hF03 _ _ _ (by omega)], by rw [u_k (by decide), u_j hj, u_k (by decide), hF03 _ _ _ (by omega)]⟩) ?_ ?_
  · rw [u_k (by decide), u_k (by decide), u_k (by decide), hF3 _ _ _ (by omega), hF2 _ _ _ (by omega)]
    match hq : lNmT tp n D τ with
    | .inr q1 => exact hL1 s g q1 e hq k hk
    | .inl b1 =>
      exfalso
      have e3 : (nIt tp n 4 1 9 D τ).1 = .inl b1 := by unfold nIt; rw [hq]; rfl
      rw [e3] at e2; cases e2
  · rw [u_eq, u_k (by decide), u_k (by decide), z_add (by omega) (by omega), hd3, e1]
  · rw [u_k (by decide), u_k (by decide), u_eq]; exact hv2
  · rw [u_k (by decide), u_eq]; exact hv3
theorem m_readHouse {x1 x2 : Option gV} (hx : kTx I tp n) (ht : kTk I tp n τ) (hD : kNs I c D) (hM : (I 34 c 1).toInt = D.1 1) (hB : D.1 3 < 8)
    (K : ∀ (I' : Nat → Nat → Nat → Int32), (∀ k i j, ¬ ((k = 11 ∧ i = 0 ∧ (j = 2 ∨ j = 3 ∨ j = 4 ∨ j = 5 ∨ j = 6 ∨ j = 7)) ∨ (k = 39 ∧ i = c) ∨ (k = 37 ∧ i = c) ∨ (k = 38 ∧ i = c) ∨ (k = 34 ∧ i = c ∧ j = 3)) → I' k i j = I k i j) → kTk I' tp n (nIt tp n 9 0 99 D τ).1 → (∀ j, ¬ (6 * (8 + (D.1 3).toNat) ≤ j ∧ j < 6 * (8 + (D.1 3).toNat) + 6) → I' 39 c j = I 39 c j) → (∀ s g q, τ = .inr (s, g) → (nIt tp n 9 0 99 D τ).1 = .inr q → ∀ k, k < 6 → (I' 39 c (6 * (8 + (D.1 3).toNat) + k)).toInt = cLet tp s (lEn tp n s) k) → (I' 34 c 3).toInt = D.1 3 + 1 → (∀ j, j ≠ (D.1 3).toNat → I' 37 c j = I 37 c j ∧ I' 38 c j = I 38 c j) → (I' 37 c (D.1 3).toNat).toInt = (nIt tp n 9 0 99 D τ).2.1 → (I' 38 c (D.1 3).toNat).toInt = (nIt tp n 9 0 99 D τ).2.2 → Q none (gwd S I' J h)) : (gq (d + 8) 30 0 [some (.inr (.inr (some (34, c)))), x1, x2] [] (gwd S I J h) Q) := by
  have r2 := hD.2.2.1
  have r3 := hD.2.2.2.1
  have d3 := hD.2.1
  have e1 : (1 : Int32).toInt = 1 := rfl
  have e8 : (8 : Int32).toInt = 8 := rfl
  rw [gb_30_0]
  refine m_readName (r := 8 + (D.1 3).toNat) hx ht hD (by rw [z_add (by omega) (by omega), d3, e8]; omega) (by omega) (by omega) (by omega) (by omega) fun I1 hF1 ht1 hO1 hL1 => ?_
  have hx1 : kTx I1 tp n := kTx_congr hx (fun j => hF1 _ _ _ (by omega)) (hF1 _ _ _ (by omega)) (fun j => hF1 _ _ _ (by omega))
  rw [Option.toList_none, List.nil_append, gb_30_11]
  refine m_readNum (w := 21) (lo := 0) (hi := D.1 1) hx1 ht1 rfl rfl (by rw [hF1 _ _ _ (by omega)]; exact hM) fun I2 x hF2 ht2 hv2 => ?_
  have hx2 : kTx I2 tp n := kTx_congr hx1 (fun j => hF2 _ _ _ (by omega)) (hF2 _ _ _ (by omega)) (fun j => hF2 _ _ _ (by omega))
  rw [Option.toList_some, List.singleton_append, gb_30_22]
  refine m_readNum (w := 9) (lo := 0) (hi := 99) hx2 ht2 rfl rfl rfl fun I3 y hF3 ht3 hv3 => ?_
  have hF03 : (∀ k i j, ¬ ((k = 11 ∧ i = 0 ∧ (j = 2 ∨ j = 3 ∨ j = 4 ∨ j = 5 ∨ j = 6 ∨ j = 7)) ∨ (k = 39 ∧ i = c)) → I3 k i j = I k i j) := fun k i j hn => by rw [hF3 _ _ _ (by omega), hF2 _ _ _ (by omega), hF1 _ _ _ hn]
  have hd3 : (I3 34 c 3).toInt = D.1 3 := by rw [hF03 _ _ _ (by omega)]; exact d3
  have n3 : (I3 34 c 3).toNatClampNeg = (D.1 3).toNat := by rw [z_n, hd3]
  rw [Option.toList_some, List.singleton_append, gb_30_32, if_neg (by rw [z_lt, z_0]; omega), gb_30_40, if_neg (by rw [z_le]; omega), gb_30_49]
  refine ⟨g_in.mpr (by omega), ?_⟩
  rw [n3, gb_30_59]
  refine ⟨g_in.mpr (by rw [u_k (by decide)]; omega), ?_⟩
  rw [u_k (by decide), n3, gb_30_69, gb_30_79]
  refine K _ (fun k i j hn => by rw [u_ne (by omega), u_ne (by omega), u_ne (by omega), hF03 _ _ _ (by omega)]) (kTk_congr ht3 (fun j _ _ => by rw [u_k (by decide), u_k (by decide), u_k (by decide)])) (fun j hj => by rw [u_k (by decide), u_k (by decide), u_k (by decide), hF3 _ _ _ (by omega), hF2 _ _ _ (by omega)]; exact hO1 j hj) (fun s g q e e2 k hk => ?_) ?_ (fun j hj => ⟨by rw [u_k (by decide), u_k (by decide), u_j hj, hF03 _ _ _ (by omega)], by rw [u_k (by decide), u_j hj, u_k (by decide), hF03 _ _ _ (by omega)]⟩) ?_ ?_
  · rw [u_k (by decide), u_k (by decide), u_k (by decide), hF3 _ _ _ (by omega), hF2 _ _ _ (by omega)]
    match hq : lNmT tp n D τ with
    | .inr q1 => exact hL1 s g q1 e hq k hk
    | .inl b1 =>
      exfalso
      have e3 : (nIt tp n 9 0 99 D τ).1 = .inl b1 := by unfold nIt; rw [hq]; rfl
      rw [e3] at e2; cases e2
  · rw [u_eq, u_k (by decide), u_k (by decide), z_add (by omega) (by omega), hd3, e1]
  · rw [u_k (by decide), u_k (by decide), u_eq]; exact hv2
  · rw [u_k (by decide), u_eq]; exact hv3
theorem m_formOf {a0 : Int32} {w : Int} (hw : a0.toInt = w) (K : ∀ x : Int32, x.toInt = (if w = 3 ∨ w = 24 ∨ w = 25 then (fOf w : Int) else -1) → Q (some (.inl x)) (gwd S I J h)) : (gq d 25 0 [some (.inl (a0))] [] (gwd S I J h) Q) := by
  have e3 : (3 : Int32).toInt = 3 := rfl
  have e24 : (24 : Int32).toInt = 24 := rfl
  have e25 : (25 : Int32).toInt = 25 := rfl
  rw [gb_25_0]
  by_cases w3 : w = 3
  · rw [if_pos (z_inj (by rw [hw, w3]; rfl)), gb_25_36]
    exact K 0 (by rw [w3]; rfl)
  rw [if_neg (fun e => w3 (by rw [← hw, e]; rfl))]
  by_cases w24 : w = 24
  · rw [if_pos (z_inj (by rw [hw, w24]; rfl)), gb_25_38]
    exact K 1 (by rw [w24]; rfl)
  rw [if_neg (fun e => w24 (by rw [← hw, e]; rfl))]
  by_cases w25 : w = 25
  · rw [if_pos (z_inj (by rw [hw, w25]; rfl)), gb_25_40]
    exact K 2 (by rw [w25]; rfl)
  rw [if_neg (fun e => w25 (by rw [← hw, e]; rfl)), gb_25_42, gb_25_43]
  exact K _ (by rw [if_neg (by omega)]; rfl)
theorem m_room {a1 a2 : Int32} {w : Int} (hw : a1.toInt = w) (h2 : a2.toInt = (if w = 3 ∨ w = 24 ∨ w = 25 then (fOf w : Int) else -1)) (K : ∀ x : Int32, x = (if w = 3 ∨ w = 24 ∨ w = 25 then (if I 41 c (fOf w) = 0 then 1 else 0) else if w = 20 then 8 - I 34 c 2 else if w = 22 then 8 - I 34 c 3 else if w = 23 ∨ w = 26 then 60 else Int32.ofInt (-1)) → Q (some (.inl x)) (gwd S I J h)) : (gq d 26 0 [some (.inr (.inr (some (34, c)))), some (.inl (a1)), some (.inl (a2))] [] (gwd S I J h) Q) := by
  have hf : fOf w < 3 := fOf_lt
  have ev : ∀ {v : Int32}, a1 = v ↔ w = v.toInt := fun {v} => by rw [z_eq, hw]
  have e3 : (3 : Int32).toInt = 3 := rfl
  have e20 : (20 : Int32).toInt = 20 := rfl
  have e21 : (21 : Int32).toInt = 21 := rfl
  have e22 : (22 : Int32).toInt = 22 := rfl
  have e23 : (23 : Int32).toInt = 23 := rfl
  have e24 : (24 : Int32).toInt = 24 := rfl
  have e25 : (25 : Int32).toInt = 25 := rfl
  have e26 : (26 : Int32).toInt = 26 := rfl
  rw [gb_26_0]
  by_cases wf : w = 3 ∨ w = 24 ∨ w = 25
  · rw [if_pos wf] at h2
    have n2 : a2.toNatClampNeg = fOf w := by rw [z_n, h2]; rfl
    rw [if_neg (by rw [z_lt, z_0]; omega), gb_26_4, if_neg (by rw [z_le, e3]; omega), gb_26_9]
    refine ⟨g_in.mpr (by omega), ?_⟩
    rw [n2, gb_26_15]
    by_cases w0 : I 41 c (fOf w) = 0
    · rw [if_pos w0, gb_26_18, gb_26_23]; exact K 1 (by rw [if_pos wf, if_pos w0])
    · rw [if_neg w0, gb_26_22, gb_26_23]; exact K 0 (by rw [if_pos wf, if_neg w0])
  · rw [if_neg wf] at h2
    rw [if_pos (by rw [z_lt, z_0]; omega), gb_26_24]
    by_cases w20 : w = 20
    · rw [if_pos (ev.mpr (by rw [w20]; rfl)), gb_26_68]; exact K _ (by rw [if_neg wf, if_pos w20])
    rw [if_neg (by rw [ev]; omega)]
    by_cases w21 : w = 21
    · rw [if_pos (ev.mpr (by rw [w21]; rfl)), gb_26_90, gb_26_91]; exact K _ (by rw [if_neg wf, if_neg w20, if_neg (by omega), if_neg (by omega)])
    rw [if_neg (by rw [ev]; omega)]
    by_cases w22 : w = 22
    · rw [if_pos (ev.mpr (by rw [w22]; rfl)), gb_26_76]; exact K _ (by rw [if_neg wf, if_neg w20, if_pos w22])
    rw [if_neg (by rw [ev]; omega)]
    by_cases w23 : w = 23
    · rw [if_pos (ev.mpr (by rw [w23]; rfl)), gb_26_84]; exact K _ (by rw [if_neg wf, if_neg w20, if_neg w22, if_pos (Or.inl w23)])
    rw [if_neg (by rw [ev]; omega), if_neg (by rw [ev]; omega), if_neg (by rw [ev]; omega)]
    by_cases w26 : w = 26
    · rw [if_pos (ev.mpr (by rw [w26]; rfl)), gb_26_87]; exact K _ (by rw [if_neg wf, if_neg w20, if_neg w22, if_pos (Or.inr w26)])
    rw [if_neg (by rw [ev]; omega), gb_26_90, gb_26_91]
    exact K _ (by rw [if_neg wf, if_neg w20, if_neg w22, if_neg (by omega)])
theorem m_goesOn (hx : kTx I tp n) (ht : kTk I tp n τ) : (gq d 27 0 [some (.inr (.inr (some (34, c))))] [] (gwd S I J h) Q) ↔ Q (some (.inl (match τ with | .inl _ => 0 | .inr (s, _) => if s < n then 1 else 0))) (gwd S I J h) := by
  rw [gb_27_0]
  match τ, ht with
  | .inl b, ht => rw [if_neg (kTk_bad ht), gb_27_25, gb_27_26, g_t0, true_and]
  | .inr (s, g), ht =>
    have hk := lKd_end (s := s) (g := g) hx.2.2.2.1
    rw [if_pos ht.2.2.2.1, gb_27_10, gb_27_18]
    by_cases w : s < n
    · rw [if_neg (fun e => by have : lKd tp n s g = -1 := by rw [← ht.1, e]; rfl
                              exact hk.mp this w), gb_27_21, gb_27_26, g_t1, true_and]
      show _ ↔ Q (some (.inl (if s < n then 1 else 0))) _
      rw [if_pos w]
    · rw [if_pos (z_inj (by rw [ht.1, hk.mpr w]; rfl)), gb_27_25, gb_27_26, g_t0, true_and]
      show _ ↔ Q (some (.inl (if s < n then 1 else 0))) _
      rw [if_neg w]
