/-! The model: a bearer, a house, a formula are told. -/
def FD (I I' : Nat → Nat → Nat → Int32) : Prop := ∀ k i j, ¬ (i = 0 ∧ (k = 50 ∧ (j = 2 ∨ j = 4 ∨ j = 5 ∨ j = 6 ∨ j = 10 ∨ j = 38 ∨ j = 46 ∨ j = 47 ∨ j = 49 ∨ j = 99 ∨ j = 101 ∨ j = 102 ∨ j = 103) ∨ k = 68 ∨ k = 69 ∨ k = 54 ∧ j < 5 ∨ k = 56 ∧ j < 16 ∨ k = 57 ∧ j < 16 ∨ k = 58 ∧ j < 3 ∨ k = 59 ∧ j < 3 ∨ k = 60 ∧ j < 1600)) → I' k i j = I k i j
theorem FD_refl {I : Nat → Nat → Nat → Int32} : FD I I := fun _ _ _ _ => rfl
theorem FD_trans {I I' I'' : Nat → Nat → Nat → Int32} (h1 : FD I I') (h2 : FD I' I'') : FD I I'' := fun k i j hn => by rw [h2 k i j hn, h1 k i j hn]
theorem mTx_FD {I I' : Nat → Nat → Nat → Int32} {tp : Nat → Int} {n : Nat} (h : mTx I tp n) (hF : FD I I') : mTx I' tp n := mTx_congr h (fun j => hF _ _ _ (by omega)) (hF _ _ _ (by omega)) (fun i j => hF _ _ _ (by omega))
def FDJ (J J' : Nat → Nat → Nat → Int64) : Prop := ∀ k i j, ¬ (k = 55 ∧ i = 0 ∧ j < 16) → J' k i j = J k i j
variable {d S : Nat} {h : Nat × Option gNm} {I : Nat → Nat → Nat → Int32} {J : Nat → Nat → Nat → Int64} {Q : Option gV → gW → Prop}
variable {tp : Nat → Int} {n s : Nat} {g : Bool} {D : gCo} {τ : lT}
theorem mTk_FDo {I I' : Nat → Nat → Nat → Int32} {τ : lT} (h : mTk I tp n τ) (e : ∀ j, I' 50 0 j = I 50 0 j) : mTk I' tp n τ := mTk_congr h fun j _ => e j
theorem n_bearerT {a1 : Int32} {x2 x3 x4 x5 x6 : Option gV} {p : Int} (hx : mTx I tp n) (ht : mTk I tp n τ) (ha : a1.toInt = p) (h0 : (I 54 0 0).toInt = D.1 1) (h1 : (I 54 0 1).toInt = D.1 2) (h2 : (I 54 0 2).toInt = D.1 3) (r2 : 0 ≤ D.1 2 ∧ D.1 2 ≤ 8) (r3 : 0 ≤ D.1 3 ∧ D.1 3 ≤ 8) (hN : mNs J D)
    (K0 : ∀ (I' : Nat → Nat → Nat → Int32) b, (D.1 2 = 8 ∧ (∃ q, τ = .inr q) ∧ b = (5, p) ∨ ¬ D.1 2 = 8 ∧ (nIt tp n 4 1 9 D τ).1 = .inl b ∨ τ = .inl b) → (∀ k i j, ¬ ((k = 50 ∧ i = 0 ∧ (j = 2 ∨ j = 4 ∨ j = 5 ∨ j = 6 ∨ j = 10 ∨ j = 38))) → I' k i j = I k i j) → mTk I' tp n (.inl b) → Q none (gwd S I' J h))
    (K : ∀ (I' : Nat → Nat → Nat → Int32) q q1, ¬ D.1 2 = 8 → τ = .inr q1 → (nIt tp n 4 1 9 D τ).1 = .inr q → (∀ k i j, ¬ ((k = 50 ∧ i = 0 ∧ (j = 2 ∨ j = 4 ∨ j = 5 ∨ j = 6 ∨ j = 10 ∨ j = 38)) ∨ (k = 54 ∧ i = 0 ∧ j = 1) ∨ (k = 56 ∧ i = 0 ∧ (j = 2 * (D.1 2).toNat ∨ j = 2 * (D.1 2).toNat + 1))) → I' k i j = I k i j) → mTk I' tp n (.inr q) → (I' 54 0 1).toInt = D.1 2 + 1 → (I' 56 0 (2 * (D.1 2).toNat)).toInt = (nIt tp n 4 1 9 D τ).2.1 → (I' 56 0 (2 * (D.1 2).toNat + 1)).toInt = (nIt tp n 4 1 9 D τ).2.2 → lIsL (lB tp n q1.1) = true → lEn tp n q1.1 - q1.1 ≤ 6 → ∀ v : Int64, v.toInt = gPk (cLt tp q1.1) (lEn tp n q1.1 - q1.1) → Q none (gwd S I' (gup J 55 0 (D.1 2).toNat v) h)) : (gq (d + 5) 177 0 [some (.inr (.inr (some (50, 0)))), some (.inl (a1)), x2, x3, x4, x5, x6] [] (gwd S I J h) Q) := by
  have e1 : (1 : Int32).toInt = 1 := rfl
  have e2 : (2 : Int32).toInt = 2 := rfl
  have e8 : (8 : Int32).toInt = 8 := rfl
  -- from the name on
  have rest : ∀ (I1 : Nat → Nat → Nat → Int32) (τ1 : lT), (∀ k i j, ¬ ((k = 50 ∧ i = 0 ∧ (j = 5 ∨ j = 6))) → I1 k i j = I k i j) → mTk I1 tp n τ1 → (∀ b, (nIt tp n 4 1 9 D τ1).1 = .inl b → (D.1 2 = 8 ∧ (∃ q, τ = .inr q) ∧ b = (5, p) ∨ ¬ D.1 2 = 8 ∧ (nIt tp n 4 1 9 D τ).1 = .inl b ∨ τ = .inl b)) → (∀ q, (nIt tp n 4 1 9 D τ1).1 = .inr q → τ1 = τ ∧ ¬ D.1 2 = 8) → (gq (d + 5) 177 24 [some (.inr (.inr (some (50, 0)))), some (.inl (a1)), x2, x3, x4, x5, x6] [] (gwd S I1 J h) Q) := fun I1 τ1 hF1 ht1 hB hG => by
    have hx1 : mTx I1 tp n := mTx_congr hx (fun j => hF1 _ _ _ (by omega)) (hF1 _ _ _ (by omega)) (fun i j => hF1 _ _ _ (by omega))
    rw [gb_177_24]
    refine n_newName (D := D) hx1 ht1 (by rw [hF1 _ _ _ (by omega)]; exact h1) (by rw [hF1 _ _ _ (by omega)]; exact h2) r2 r3 hN fun I2 v hF2 ht2 hv2 => ?_
    have hx2 : mTx I2 tp n := mTx_congr hx1 (fun j => hF2 _ _ _ (by omega)) (hF2 _ _ _ (by omega)) (fun i j => hF2 _ _ _ (by omega))
    rw [Option.toList_some, List.singleton_append, gb_177_28]
    refine n_asks (i1 := 2) (by decide) hx2 ht2 fun I3 hF3 ht3 => ?_
    rw [show mWx.getD 2 0 = 21 from rfl] at ht3
    have hx3 : mTx I3 tp n := mTx_congr hx2 (fun j => hF3 _ _ _ (by omega)) (hF3 _ _ _ (by omega)) (fun i j => hF3 _ _ _ (by omega))
    have o3 : ∀ k i j, ¬ (k = 50 ∧ i = 0) → I3 k i j = I k i j := fun k i j hn => by rw [hF3 _ _ _ (by omega), hF2 _ _ _ (by omega), hF1 _ _ _ (by omega)]
    rw [Option.toList_none, List.nil_append, gb_177_37]
    refine ⟨g_in.mpr (by decide), ?_⟩
    rw [show (0 : Int32).toNatClampNeg = 0 from rfl, gb_177_45]
    refine n_number (lo := 0) (hi := D.1 1) rfl (by rw [o3 _ _ _ (by omega)]; exact h0) hx3 ht3 fun I4 x hF4 ht4 hx4v => ?_
    have hx4 : mTx I4 tp n := mTx_congr hx3 (fun j => hF4 _ _ _ (by omega)) (hF4 _ _ _ (by omega)) (fun i j => hF4 _ _ _ (by omega))
    rw [Option.toList_some, List.singleton_append, gb_177_48]
    refine n_asks (i1 := 3) (by decide) hx4 ht4 fun I5 hF5 ht5 => ?_
    rw [show mWx.getD 3 0 = 4 from rfl] at ht5
    have hx5 : mTx I5 tp n := mTx_congr hx4 (fun j => hF5 _ _ _ (by omega)) (hF5 _ _ _ (by omega)) (fun i j => hF5 _ _ _ (by omega))
    rw [Option.toList_none, List.nil_append, gb_177_58]
    refine n_number (lo := 1) (hi := 9) rfl rfl hx5 ht5 fun I6 y hF6 ht6 hx6v => ?_
    have o6 : (∀ k i j, ¬ ((k = 50 ∧ i = 0 ∧ (j = 2 ∨ j = 4 ∨ j = 5 ∨ j = 6 ∨ j = 10 ∨ j = 38))) → I6 k i j = I k i j) := fun k i j hn => by rw [hF6 _ _ _ (by omega), hF5 _ _ _ (by omega), hF4 _ _ _ (by omega), hF3 _ _ _ (by omega), hF2 _ _ _ (by omega), hF1 _ _ _ (by omega)]
    rw [Option.toList_some, List.singleton_append, gb_177_65]
    have eR : (nIt tp n 4 1 9 D τ1).1 = (lNumT tp n 1 9 (lAskW tp n (lNumT tp n 0 (D.1 1) (lAskW tp n (lNmT tp n D τ1) 21)).1 4)).1 := rfl
    have eR1 : (nIt tp n 4 1 9 D τ1).2.1 = (lNumT tp n 0 (D.1 1) (lAskW tp n (lNmT tp n D τ1) 21)).2 := rfl
    have eR2 : (nIt tp n 4 1 9 D τ1).2.2 = (lNumT tp n 1 9 (lAskW tp n (lNumT tp n 0 (D.1 1) (lAskW tp n (lNmT tp n D τ1) 21)).1 4)).2 := rfl
    rw [← eR] at ht6 hx6v
    match hq : (nIt tp n 4 1 9 D τ1).1, ht6 with
    | .inl b, ht6 =>
      rw [if_neg (mTk_bad ht6), gb_177_74]
      exact K0 I6 b (hB b hq) o6 ht6
    | .inr q, ht6 =>
      obtain ⟨rfl, n8⟩ := hG q hq
      rw [eR] at hq
      obtain ⟨q4, e4, _⟩ := lMo_N (tp := tp) (n := n) q hq
      obtain ⟨q3, e3', _⟩ := lMo_W (tp := tp) (n := n) q4 e4
      obtain ⟨q2, e2', _⟩ := lMo_N (tp := tp) (n := n) q3 e3'
      obtain ⟨q1, e1', _⟩ := lMo_W (tp := tp) (n := n) q2 e2'
      obtain ⟨q0, e0', _⟩ := lMo_M (tp := tp) (n := n) q1 e1'
      have hxv := hx4v q3 e3'
      have hyv := hx6v q (by rw [eR]; exact hq)
      obtain ⟨hvv, hll, hl6⟩ := hv2 q0.1 q0.2 q1 e0' e1'
      have o54 : (I6 54 0 1).toInt = D.1 2 := by rw [o6 _ _ _ (by omega)]; exact h1
      have o541 : I6 54 0 (1 : Int32).toNatClampNeg = I6 54 0 1 := rfl
      have nB : (I6 54 0 1).toNatClampNeg = (D.1 2).toNat := by rw [z_n, o54]
      have qB : (2 * I6 54 0 1).toInt = 2 * D.1 2 := by rw [z_mul (by rw [o54, e2]; omega) (by rw [o54, e2]; omega), o54, e2]
      have nqB : (2 * I6 54 0 1).toNatClampNeg = 2 * (D.1 2).toNat := by rw [z_n, qB]; omega
      have qB1 : (2 * I6 54 0 1 + 1).toInt = 2 * D.1 2 + 1 := by rw [z_add (by omega) (by omega), qB, e1]
      have nqB1 : (2 * I6 54 0 1 + 1).toNatClampNeg = 2 * (D.1 2).toNat + 1 := by rw [z_n, qB1]; omega
      rw [if_pos ht6.1, gb_177_75]
      refine ⟨g_in.mpr (by decide), ?_⟩
      rw [o541, gb_177_81]
      refine ⟨g_in.mpr (by omega), ?_⟩
      rw [nB, gb_177_91]
      refine ⟨g_in.mpr (by omega), ?_⟩
      rw [nqB, gb_177_102]
      refine ⟨g_in.mpr (by omega), ?_⟩
      rw [nqB1, gb_177_115]
      refine ⟨g_in.mpr (by decide), ?_⟩
      rw [gb_177_122]
      refine ⟨g_in.mpr (by decide), ?_⟩
      rw [show (1 : Int32).toNatClampNeg = 1 from rfl, gb_177_125]
      refine K _ q q0 n8 e0' (by rw [eR]; exact hq) (fun k i j hn => by rw [u_ne (by omega), u_ne (by omega), u_ne (by omega), o6 _ _ _ (by omega)]) (mTk_congr ht6 (fun j hj => by rw [u_k (by decide), u_k (by decide), u_k (by decide)])) (by rw [u_eq, u_k (by decide), u_k (by decide), z_add (by omega) (by omega), o54, e1]) (by rw [u_k (by decide), u_j (by omega), u_eq, eR1]; exact hxv) (by rw [u_k (by decide), u_eq]; exact hyv) hll hl6 v hvv
  rw [gb_177_0]
  match τ, ht, K0, K, rest with
  | .inl b, ht, K0, K, rest =>
    rw [if_neg (mTk_bad ht)]
    have e : (nIt tp n 4 1 9 D (.inl b)).1 = .inl b := rfl
    exact rest I (.inl b) (fun _ _ _ _ => rfl) ht (fun b' eb => by rw [e] at eb; injection eb with eb; rw [← eb]; exact Or.inr (Or.inr rfl)) (fun q eq => by rw [e] at eq; cases eq)
  | .inr q0, ht, K0, K, rest =>
    rw [if_pos ht.1, gb_177_7]
    refine ⟨g_in.mpr (by decide), ?_⟩
    rw [show (1 : Int32).toNatClampNeg = 1 from rfl, gb_177_13]
    by_cases w8 : D.1 2 = 8
    · rw [if_pos (z_inj (by rw [h1, w8]; rfl)), gb_177_18]
      refine n_failAt (p := p) ht rfl ha (by decide) fun I1 hF1 ht1 => ?_
      rw [Option.toList_none, List.nil_append]
      have e : (nIt tp n 4 1 9 D (.inl (5, p))).1 = .inl (5, p) := rfl
      exact rest I1 (.inl (5, p)) hF1 ht1 (fun b' eb => by rw [e] at eb; injection eb with eb; exact Or.inl ⟨w8, ⟨q0, rfl⟩, eb.symm⟩) (fun q eq => by rw [e] at eq; cases eq)
    · rw [if_neg (fun e => w8 (by rw [← h1, e, e8]))]
      exact rest I (.inr q0) (fun _ _ _ _ => rfl) ht (fun b' eb => Or.inr (Or.inl ⟨w8, eb⟩)) (fun q eq => ⟨rfl, w8⟩)
theorem n_houseT {a1 : Int32} {x2 x3 x4 x5 x6 : Option gV} {p : Int} (hx : mTx I tp n) (ht : mTk I tp n τ) (ha : a1.toInt = p) (h0 : (I 54 0 0).toInt = D.1 1) (h1 : (I 54 0 1).toInt = D.1 2) (h2 : (I 54 0 2).toInt = D.1 3) (r2 : 0 ≤ D.1 2 ∧ D.1 2 ≤ 8) (r3 : 0 ≤ D.1 3 ∧ D.1 3 ≤ 8) (hN : mNs J D)
    (K0 : ∀ (I' : Nat → Nat → Nat → Int32) b, (D.1 3 = 8 ∧ (∃ q, τ = .inr q) ∧ b = (5, p) ∨ ¬ D.1 3 = 8 ∧ (nIt tp n 9 0 99 D τ).1 = .inl b ∨ τ = .inl b) → (∀ k i j, ¬ ((k = 50 ∧ i = 0 ∧ (j = 2 ∨ j = 4 ∨ j = 5 ∨ j = 6 ∨ j = 10 ∨ j = 38))) → I' k i j = I k i j) → mTk I' tp n (.inl b) → Q none (gwd S I' J h))
    (K : ∀ (I' : Nat → Nat → Nat → Int32) q q1, ¬ D.1 3 = 8 → τ = .inr q1 → (nIt tp n 9 0 99 D τ).1 = .inr q → (∀ k i j, ¬ ((k = 50 ∧ i = 0 ∧ (j = 2 ∨ j = 4 ∨ j = 5 ∨ j = 6 ∨ j = 10 ∨ j = 38)) ∨ (k = 54 ∧ i = 0 ∧ j = 2) ∨ (k = 57 ∧ i = 0 ∧ (j = 2 * (D.1 3).toNat ∨ j = 2 * (D.1 3).toNat + 1))) → I' k i j = I k i j) → mTk I' tp n (.inr q) → (I' 54 0 2).toInt = D.1 3 + 1 → (I' 57 0 (2 * (D.1 3).toNat)).toInt = (nIt tp n 9 0 99 D τ).2.1 → (I' 57 0 (2 * (D.1 3).toNat + 1)).toInt = (nIt tp n 9 0 99 D τ).2.2 → lIsL (lB tp n q1.1) = true → lEn tp n q1.1 - q1.1 ≤ 6 → ∀ v : Int64, v.toInt = gPk (cLt tp q1.1) (lEn tp n q1.1 - q1.1) → Q none (gwd S I' (gup J 55 0 (8 + (D.1 3).toNat) v) h)) : (gq (d + 5) 178 0 [some (.inr (.inr (some (50, 0)))), some (.inl (a1)), x2, x3, x4, x5, x6] [] (gwd S I J h) Q) := by
  have e1 : (1 : Int32).toInt = 1 := rfl
  have e2 : (2 : Int32).toInt = 2 := rfl
  have e8 : (8 : Int32).toInt = 8 := rfl
  have rest : ∀ (I1 : Nat → Nat → Nat → Int32) (τ1 : lT), (∀ k i j, ¬ ((k = 50 ∧ i = 0 ∧ (j = 5 ∨ j = 6))) → I1 k i j = I k i j) → mTk I1 tp n τ1 → (∀ b, (nIt tp n 9 0 99 D τ1).1 = .inl b → (D.1 3 = 8 ∧ (∃ q, τ = .inr q) ∧ b = (5, p) ∨ ¬ D.1 3 = 8 ∧ (nIt tp n 9 0 99 D τ).1 = .inl b ∨ τ = .inl b)) → (∀ q, (nIt tp n 9 0 99 D τ1).1 = .inr q → τ1 = τ ∧ ¬ D.1 3 = 8) → (gq (d + 5) 178 24 [some (.inr (.inr (some (50, 0)))), some (.inl (a1)), x2, x3, x4, x5, x6] [] (gwd S I1 J h) Q) := fun I1 τ1 hF1 ht1 hB hG => by
    have hx1 : mTx I1 tp n := mTx_congr hx (fun j => hF1 _ _ _ (by omega)) (hF1 _ _ _ (by omega)) (fun i j => hF1 _ _ _ (by omega))
    rw [gb_178_24]
    refine n_newName (D := D) hx1 ht1 (by rw [hF1 _ _ _ (by omega)]; exact h1) (by rw [hF1 _ _ _ (by omega)]; exact h2) r2 r3 hN fun I2 v hF2 ht2 hv2 => ?_
    have hx2 : mTx I2 tp n := mTx_congr hx1 (fun j => hF2 _ _ _ (by omega)) (hF2 _ _ _ (by omega)) (fun i j => hF2 _ _ _ (by omega))
    rw [Option.toList_some, List.singleton_append, gb_178_28]
    refine n_asks (i1 := 2) (by decide) hx2 ht2 fun I3 hF3 ht3 => ?_
    rw [show mWx.getD 2 0 = 21 from rfl] at ht3
    have hx3 : mTx I3 tp n := mTx_congr hx2 (fun j => hF3 _ _ _ (by omega)) (hF3 _ _ _ (by omega)) (fun i j => hF3 _ _ _ (by omega))
    have o3 : ∀ k i j, ¬ (k = 50 ∧ i = 0) → I3 k i j = I k i j := fun k i j hn => by rw [hF3 _ _ _ (by omega), hF2 _ _ _ (by omega), hF1 _ _ _ (by omega)]
    rw [Option.toList_none, List.nil_append, gb_178_37]
    refine ⟨g_in.mpr (by decide), ?_⟩
    rw [show (0 : Int32).toNatClampNeg = 0 from rfl, gb_178_45]
    refine n_number (lo := 0) (hi := D.1 1) rfl (by rw [o3 _ _ _ (by omega)]; exact h0) hx3 ht3 fun I4 x hF4 ht4 hx4v => ?_
    have hx4 : mTx I4 tp n := mTx_congr hx3 (fun j => hF4 _ _ _ (by omega)) (hF4 _ _ _ (by omega)) (fun i j => hF4 _ _ _ (by omega))
    rw [Option.toList_some, List.singleton_append, gb_178_48]
    refine n_asks (i1 := 5) (by decide) hx4 ht4 fun I5 hF5 ht5 => ?_
    rw [show mWx.getD 5 0 = 9 from rfl] at ht5
    have hx5 : mTx I5 tp n := mTx_congr hx4 (fun j => hF5 _ _ _ (by omega)) (hF5 _ _ _ (by omega)) (fun i j => hF5 _ _ _ (by omega))
    rw [Option.toList_none, List.nil_append, gb_178_58]
    refine n_number (lo := 0) (hi := 99) rfl rfl hx5 ht5 fun I6 y hF6 ht6 hx6v => ?_
    have o6 : (∀ k i j, ¬ ((k = 50 ∧ i = 0 ∧ (j = 2 ∨ j = 4 ∨ j = 5 ∨ j = 6 ∨ j = 10 ∨ j = 38))) → I6 k i j = I k i j) := fun k i j hn => by rw [hF6 _ _ _ (by omega), hF5 _ _ _ (by omega), hF4 _ _ _ (by omega), hF3 _ _ _ (by omega), hF2 _ _ _ (by omega), hF1 _ _ _ (by omega)]
    rw [Option.toList_some, List.singleton_append, gb_178_65]
    have eR : (nIt tp n 9 0 99 D τ1).1 = (lNumT tp n 0 99 (lAskW tp n (lNumT tp n 0 (D.1 1) (lAskW tp n (lNmT tp n D τ1) 21)).1 9)).1 := rfl
    have eR1 : (nIt tp n 9 0 99 D τ1).2.1 = (lNumT tp n 0 (D.1 1) (lAskW tp n (lNmT tp n D τ1) 21)).2 := rfl
    rw [← eR] at ht6 hx6v
    match hq : (nIt tp n 9 0 99 D τ1).1, ht6 with
    | .inl b, ht6 =>
      rw [if_neg (mTk_bad ht6), gb_178_74]
      exact K0 I6 b (hB b hq) o6 ht6
    | .inr q, ht6 =>
      obtain ⟨rfl, n8⟩ := hG q hq
      rw [eR] at hq
      obtain ⟨q4, e4, _⟩ := lMo_N (tp := tp) (n := n) q hq
      obtain ⟨q3, e3', _⟩ := lMo_W (tp := tp) (n := n) q4 e4
      obtain ⟨q2, e2', _⟩ := lMo_N (tp := tp) (n := n) q3 e3'
      obtain ⟨q1, e1', _⟩ := lMo_W (tp := tp) (n := n) q2 e2'
      obtain ⟨q0, e0', _⟩ := lMo_M (tp := tp) (n := n) q1 e1'
      have hxv := hx4v q3 e3'
      have hyv := hx6v q (by rw [eR]; exact hq)
      obtain ⟨hvv, hll, hl6⟩ := hv2 q0.1 q0.2 q1 e0' e1'
      have o54 : (I6 54 0 2).toInt = D.1 3 := by rw [o6 _ _ _ (by omega)]; exact h2
      have o541 : I6 54 0 (2 : Int32).toNatClampNeg = I6 54 0 2 := rfl
      have q8 : (8 + I6 54 0 2).toInt = 8 + D.1 3 := by rw [z_add (by omega) (by omega), o54, e8]
      have n8' : (8 + I6 54 0 2).toNatClampNeg = 8 + (D.1 3).toNat := by rw [z_n, q8]; omega
      have qB : (2 * I6 54 0 2).toInt = 2 * D.1 3 := by rw [z_mul (by rw [o54, e2]; omega) (by rw [o54, e2]; omega), o54, e2]
      have nqB : (2 * I6 54 0 2).toNatClampNeg = 2 * (D.1 3).toNat := by rw [z_n, qB]; omega
      have qB1 : (2 * I6 54 0 2 + 1).toInt = 2 * D.1 3 + 1 := by rw [z_add (by omega) (by omega), qB, e1]
      have nqB1 : (2 * I6 54 0 2 + 1).toNatClampNeg = 2 * (D.1 3).toNat + 1 := by rw [z_n, qB1]; omega
      rw [if_pos ht6.1, gb_178_75]
      refine ⟨g_in.mpr (by decide), ?_⟩
      rw [o541, gb_178_81]
      refine ⟨g_in.mpr (by omega), ?_⟩
      rw [n8', gb_178_94]
      refine ⟨g_in.mpr (by omega), ?_⟩
      rw [nqB, gb_178_105]
      refine ⟨g_in.mpr (by omega), ?_⟩
      rw [nqB1, gb_178_118]
      refine ⟨g_in.mpr (by decide), ?_⟩
      rw [gb_178_125]
      refine ⟨g_in.mpr (by decide), ?_⟩
      rw [show (2 : Int32).toNatClampNeg = 2 from rfl, gb_178_128]
      refine K _ q q0 n8 e0' (by rw [eR]; exact hq) (fun k i j hn => by rw [u_ne (by omega), u_ne (by omega), u_ne (by omega), o6 _ _ _ (by omega)]) (mTk_congr ht6 (fun j hj => by rw [u_k (by decide), u_k (by decide), u_k (by decide)])) (by rw [u_eq, u_k (by decide), u_k (by decide), z_add (by omega) (by omega), o54, e1]) (by rw [u_k (by decide), u_j (by omega), u_eq, eR1]; exact hxv) (by rw [u_k (by decide), u_eq]; exact hyv) hll hl6 v hvv
  rw [gb_178_0]
  match τ, ht, K0, K, rest with
  | .inl b, ht, K0, K, rest =>
    rw [if_neg (mTk_bad ht)]
    have e : (nIt tp n 9 0 99 D (.inl b)).1 = .inl b := rfl
    exact rest I (.inl b) (fun _ _ _ _ => rfl) ht (fun b' eb => by rw [e] at eb; injection eb with eb; rw [← eb]; exact Or.inr (Or.inr rfl)) (fun q eq => by rw [e] at eq; cases eq)
  | .inr q0, ht, K0, K, rest =>
    rw [if_pos ht.1, gb_178_7]
    refine ⟨g_in.mpr (by decide), ?_⟩
    rw [show (2 : Int32).toNatClampNeg = 2 from rfl, gb_178_13]
    by_cases w8 : D.1 3 = 8
    · rw [if_pos (z_inj (by rw [h2, w8]; rfl)), gb_178_18]
      refine n_failAt (p := p) ht rfl ha (by decide) fun I1 hF1 ht1 => ?_
      rw [Option.toList_none, List.nil_append]
      have e : (nIt tp n 9 0 99 D (.inl (5, p))).1 = .inl (5, p) := rfl
      exact rest I1 (.inl (5, p)) hF1 ht1 (fun b' eb => by rw [e] at eb; injection eb with eb; exact Or.inl ⟨w8, ⟨q0, rfl⟩, eb.symm⟩) (fun q eq => by rw [e] at eq; cases eq)
    · rw [if_neg (fun e => w8 (by rw [← h2, e, e8]))]
      exact rest I (.inr q0) (fun _ _ _ _ => rfl) ht (fun b' eb => Or.inr (Or.inl ⟨w8, eb⟩)) (fun q eq => ⟨rfl, w8⟩)
/-- the codes told are kept -/
theorem n_copyC {a1 a2 : Int32} {L : List Int} {z : Nat} (hc : mCd I L) (hzl : z + L.length ≤ 1600) (K : ∀ (I' : Nat → Nat → Nat → Int32), (∀ k i j, ¬ ((k = 50 ∧ i = 0 ∧ j = 46) ∨ (k = 60 ∧ i = 0)) → I' k i j = I k i j) → (I' 50 0 46).toInt = ((z + L.length : Nat) : Int) → (∀ j, ¬ (z ≤ j ∧ j < z + L.length) → I' 60 0 j = I 60 0 j) → gCd (I' 60 0) gMc z L → ∀ a3, (gq d 179 131 [some (.inr (.inr (some (50, 0)))), some (.inl (a1)), some (.inl (a2)), some (.inl (a3))] [] (gwd S I' J h) Q)) : ∀ (m k : Nat) (I2 : Nat → Nat → Nat → Int32) (a3 : Int32), k + m = L.length → a3.toInt = k → (∀ k i j, ¬ ((k = 50 ∧ i = 0 ∧ j = 46) ∨ (k = 60 ∧ i = 0)) → I2 k i j = I k i j) → (I2 50 0 46).toInt = ((z + k : Nat) : Int) → (∀ j, ¬ (z ≤ j ∧ j < z + k) → I2 60 0 j = I 60 0 j) → (∀ j, j < k → I2 60 0 (z + j) = I 68 0 j) → (gq d 179 92 [some (.inr (.inr (some (50, 0)))), some (.inl (a1)), some (.inl (a2)), some (.inl (a3))] [] (gwd S I2 J h) Q)
  | 0, k, I2, a3, hk, h3, hF, h46, hO, hC => by
    have q := hc.1
    rw [gb_179_92, if_pos (by rw [z_le, hF _ _ _ (by omega)]; omega)]
    refine K I2 hF (by rw [h46]; congr 2) (fun j hj => hO j (by omega)) ?_ a3
    have : ∀ (l : List Int) (i : Nat), i + l.length = L.length → gCd (I 68 0) gMc i l → gCd (I2 60 0) gMc (z + i) l := fun l => by
      induction l with
      | nil => intro i _ _; trivial
      | cons c l ih =>
        intro i hi hg
        simp only [List.length_cons] at hi
        exact ⟨by rw [hC i (by omega)]; exact hg.1, ih (i + 1) (by omega) hg.2⟩
    exact this L 0 (by omega) hc.2
  | m + 1, k, I2, a3, hk, h3, hF, h46, hO, hC => by
    have q := hc.1
    have e1 : (1 : Int32).toInt = 1 := rfl
    have n3 : a3.toNatClampNeg = k := by rw [z_n, h3]; rfl
    have n46 : (I2 50 0 46).toNatClampNeg = z + k := by rw [z_n, h46]; rfl
    rw [gb_179_92, if_neg (by rw [z_le, hF _ _ _ (by omega)]; omega), gb_179_100]
    refine ⟨g_in.mpr (by omega), ?_⟩
    rw [n3, gb_179_114]
    refine ⟨g_in.mpr (by omega), ?_⟩
    rw [n46, gb_179_115]
    refine n_copyC hc hzl K m (k + 1) _ _ (by omega) (by rw [z_add (by omega) (by omega), h3, e1]; rfl) (fun k i j hn => by rw [u_ne (by omega), u_ne (by omega), hF _ _ _ hn]) (by rw [u_eq, u_k (by decide), z_add (by omega) (by omega), h46, e1]; rfl) (fun j hj => by rw [u_k (by decide), u_j (by omega)]; exact hO j (by omega)) (fun j hj => ?_)
    by_cases ej : j = k
    · rw [ej, u_k (by decide), u_eq, hF _ _ _ (by omega)]
    · rw [u_k (by decide), u_j (by omega)]; exact hC j (by omega)
theorem n_codesT {a1 a2 : Int32} {x3 : Option gV} {f z F : Nat} {p : Int} (hx : mTx I tp n) (ht : mTk I tp n (.inr (s, g))) (hf : f < 3) (h1 : a1.toInt = f) (ha : a2.toInt = p) (hz : (I 50 0 46).toInt = z) (hzs : z ≤ s) (hF : 10 * (n - s) + 9 < F)
    (K0 : (I 58 0 f).toInt ≠ -1 → ∀ (I' : Nat → Nat → Nat → Int32), (∀ k i j, ¬ ((k = 50 ∧ i = 0 ∧ (j = 5 ∨ j = 6))) → I' k i j = I k i j) → mTk I' tp n (.inl (5, p)) → Q none (gwd S I' J h))
    (Kb : (I 58 0 f).toInt = -1 → ∀ (I' : Nat → Nat → Nat → Int32) q l, rd tp n (alT f) F (if f = 2 then 9 else 4) 0 s g = (.inl q, l) → FD I I' → mTk I' tp n (.inl q) → (I' 50 0 47 = I 50 0 47) → Q none (gwd S I' J h))
    (K : (I 58 0 f).toInt = -1 → ∀ (I' : Nat → Nat → Nat → Int32) s1 g1 l, rd tp n (alT f) F (if f = 2 then 9 else 4) 0 s g = (.inr (s1, g1), l) → (∀ k i j, ¬ ((k = 50 ∧ i = 0 ∧ (j = 2 ∨ j = 4 ∨ j = 5 ∨ j = 6 ∨ j = 10 ∨ j = 46 ∨ j = 49 ∨ j = 99 ∨ j = 101 ∨ j = 102 ∨ j = 103)) ∨ (k = 68 ∧ i = 0) ∨ (k = 69 ∧ i = 0) ∨ (k = 58 ∧ i = 0 ∧ j = f) ∨ (k = 59 ∧ i = 0 ∧ j = f) ∨ (k = 60 ∧ i = 0)) → I' k i j = I k i j) → mTk I' tp n (.inr (s1, g1)) → (I' 50 0 46).toInt = ((z + l.length : Nat) : Int) → (∀ j, ¬ (z ≤ j ∧ j < z + l.length) → I' 60 0 j = I 60 0 j) → gCd (I' 60 0) gMc z l → (I' 58 0 f).toInt = z → (I' 59 0 f).toInt = ((z + l.length : Nat) : Int) → z + l.length ≤ s1 → Q none (gwd S I' J h)) : (gq (d + 10) 179 0 [some (.inr (.inr (some (50, 0)))), some (.inl (a1)), some (.inl (a2)), x3] [] (gwd S I J h) Q) := by
  have hn := hx.2.2.1
  have hsn := mTk_sn ht
  have n1 : a1.toNatClampNeg = f := by rw [z_n, h1]; rfl
  have em1 : (Int32.ofInt (-1)).toInt = -1 := rfl
  rw [gb_179_0, if_pos ht.1, gb_179_7]
  refine ⟨g_in.mpr (by omega), ?_⟩
  rw [n1, gb_179_13, gb_179_14]
  by_cases w : (I 58 0 f).toInt = -1
  case neg =>
    rw [if_neg (fun e => w (by rw [e, em1])), gb_179_17]
    refine n_failAt ht rfl ha (by decide) fun I1 hF1 ht1 => ?_
    rw [Option.toList_none, List.nil_append, gb_179_23, if_neg (mTk_bad ht1), gb_179_30]
    exact K0 w I1 hF1 ht1
  rw [if_pos (z_inj (by rw [w, em1])), gb_179_23, if_pos ht.1, gb_179_31]
  generalize hI1 : gup (gup (gup (gup (gup I 50 0 49 a1) 50 0 99 0) 50 0 101 0) 50 0 102 0) 50 0 103 0 = I1
  have hF1 : (∀ k i j, ¬ ((k = 50 ∧ i = 0 ∧ (j = 49 ∨ j = 99 ∨ j = 101 ∨ j = 102 ∨ j = 103))) → I1 k i j = I k i j) := fun k i j hn => by rw [← hI1]; repeat rw [u_ne (by omega)]
  have h49 : (I1 50 0 49).toInt = f := by rw [← hI1]; simp [gup]; exact h1
  have h99 : I1 50 0 99 = 0 := by rw [← hI1]; simp [gup]
  have h101 : I1 50 0 101 = 0 := by rw [← hI1]; simp [gup]
  have h102 : I1 50 0 102 = 0 := by rw [← hI1]; simp [gup]
  have h103 : I1 50 0 103 = 0 := by rw [← hI1]; simp [gup]
  have hx1 : mTx I1 tp n := mTx_congr hx (fun j => hF1 _ _ _ (by omega)) (hF1 _ _ _ (by omega)) (fun i j => hF1 _ _ _ (by omega))
  have ht1 : mTk I1 tp n (.inr (s, g)) := mTk_congr ht (fun j hj => hF1 _ _ _ (by omega))
  have hp1 : mPs I1 tp n s g ((0 : Nat) : Int) [] [] 0 := ⟨ht1, by rw [h102]; rfl, ⟨by rw [h101]; rfl, trivial⟩, ⟨by rw [h99]; rfl, trivial⟩, Nat.zero_le _, by rw [h103]; rfl⟩
  have hz1 : (I1 50 0 46).toInt = z := by rw [hF1 _ _ _ (by omega)]; exact hz
  -- behind the formula
  have bad : ∀ (I2 : Nat → Nat → Nat → Int32) q l, rd tp n (alT f) F (if f = 2 then 9 else 4) 0 s g = (.inl q, l) → FM I1 I2 → mTk I2 tp n (.inl q) → (gq (d + 10) 179 72 [some (.inr (.inr (some (50, 0)))), some (.inl (a1)), some (.inl (a2)), x3] [] (gwd S I2 J h) Q) := fun I2 q l hr hF2 ht2 => by
    rw [gb_179_72, if_neg (mTk_bad ht2), gb_179_79]
    exact Kb w I2 q l hr (fun k i j hn => by rw [hF2 _ _ _ (by omega), hF1 _ _ _ (by omega)]) ht2 (by rw [hF2 _ _ _ (by omega), hF1 _ _ _ (by omega)])
  have good : ∀ (I2 : Nat → Nat → Nat → Int32) s1 g1 l, rd tp n (alT f) F (if f = 2 then 9 else 4) 0 s g = (.inr (s1, g1), l) → FM I1 I2 → mPs I2 tp n s1 g1 ((0 : Nat) : Int) [] ([] ++ l) 0 → (gq (d + 10) 179 72 [some (.inr (.inr (some (50, 0)))), some (.inl (a1)), some (.inl (a2)), x3] [] (gwd S I2 J h) Q) := fun I2 s1 g1 l hr hF2 hp2 => by
    have hs1n := mTk_sn hp2.1
    have hlen := rd_len hx.2.2.2.1 _ _ _ _ _ _ _ hsn (by split <;> omega) hr
    have l1s : s + l.length ≤ s1 := hlen.1
    have hc2 : mCd I2 l := hp2.2.2.2.1
    have hz2 : (I2 50 0 46).toInt = z := by rw [hF2 _ _ _ (by omega)]; exact hz1
    rw [gb_179_72, if_pos hp2.1.1, gb_179_80]
    refine ⟨g_in.mpr (by omega), ?_⟩
    rw [n1, gb_179_90]
    generalize hI3 : gup I2 58 0 f (I2 50 0 46) = I3
    have hF3 : (∀ k i j, ¬ ((k = 58 ∧ i = 0 ∧ j = f)) → I3 k i j = I2 k i j) := fun k i j hn => by rw [← hI3, u_ne (by omega)]
    have h58 : (I3 58 0 f).toInt = z := by rw [← hI3, u_eq]; exact hz2
    refine n_copyC (z := z) (mCd_congr hc2 (hF3 _ _ _ (by omega)) (fun j => hF3 _ _ _ (by omega))) (by omega) (fun I4 hF4 h46 hO4 hC4 a3 => ?_) l.length 0 I3 _ (by omega) rfl (fun _ _ _ _ => rfl) (by rw [hF3 _ _ _ (by omega), hz2]; rfl) (fun _ _ => rfl) (fun j hj => absurd hj (Nat.not_lt_zero _))
    rw [gb_179_131]
    refine ⟨g_in.mpr (by omega), ?_⟩
    rw [n1, gb_179_141]
    refine K w _ s1 g1 l hr (fun k i j hn => by rw [u_ne (by omega), hF4 _ _ _ (by omega), hF3 _ _ _ (by omega), hF2 _ _ _ (by omega), hF1 _ _ _ (by omega)]) (mTk_congr hp2.1 (fun j hj => by rw [u_k (by decide), hF4 _ _ _ (by omega), hF3 _ _ _ (by omega)])) (by rw [u_k (by decide)]; exact h46) (fun j hj => by rw [u_k (by decide), hO4 j hj, hF3 _ _ _ (by omega), hF2 _ _ _ (by omega), hF1 _ _ _ (by omega)]) (gCd_congr (fun k _ _ => u_k (by decide)) hC4) (by rw [u_k (by decide), hF4 _ _ _ (by omega)]; exact h58) (by rw [u_eq]; exact h46) (by omega)
  by_cases f2 : f = 2
  · rw [if_pos (z_inj (by rw [h1, f2]; rfl)), gb_179_61]
    rw [if_pos f2] at bad good
    refine n_tests (o := 0) (t := f) (f := F) hx1 h49 (by omega) (by decide) hp1 (by omega) (fun I2 q l hr hF2 ht2 => ?_) (fun I2 s1 g1 l hr hF2 hp2 => ?_)
    · rw [Option.toList_none, List.nil_append, gb_179_65]; exact bad I2 q l hr hF2 ht2
    · rw [Option.toList_none, List.nil_append, gb_179_65]; exact good I2 s1 g1 l hr hF2 hp2
  · rw [if_neg (fun e => f2 (by have := congrArg Int32.toInt e; rw [h1] at this; have e2 : (2 : Int32).toInt = 2 := rfl; omega)), gb_179_68]
    rw [if_neg f2] at bad good
    refine n_sums (o := 0) (t := f) (f := F) hx1 h49 (by omega) (by decide) hp1 (Or.inl (by decide)) (fun v hv => by cases hv) (by omega) (fun I2 q l hr hF2 ht2 _ _ => ?_) (fun I2 s1 g1 l hr hF2 hp2 _ => ?_)
    · rw [Option.toList_none, List.nil_append]; exact bad I2 q l hr hF2 ht2
    · rw [Option.toList_none, List.nil_append]; exact good I2 s1 g1 l hr hF2 hp2
