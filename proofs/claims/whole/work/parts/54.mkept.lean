/-! The model: what is kept; a run; an hour. -/
variable {d S : Nat} {h : Nat × Option gNm} {I : Nat → Nat → Nat → Int32} {J : Nat → Nat → Nat → Int64} {Q : Option gV → gW → Prop}
theorem n_shift_loop {a1 : Int32} : ∀ (n k : Nat) (I I0 : Nat → Nat → Nat → Int32) (a2 : Int32), k + n = 185 → 29 ≤ k → a2.toInt = k → (∀ j, j < k → 29 ≤ j → I 61 0 j = I0 61 0 (j + 4)) → (∀ j, k ≤ j → I 61 0 j = I0 61 0 j) →
    (∀ (I' : Nat → Nat → Nat → Int32) a2, (∀ k i j, ¬ ((k = 61 ∧ i = 0)) → I' k i j = I k i j) → (∀ j, j < 29 → I' 61 0 j = I 61 0 j) → (∀ j, j < 185 → 29 ≤ j → I' 61 0 j = I0 61 0 (j + 4)) → (gq d 204 50 [some (.inr (.inr (some (50, 0)))), some (.inl (a1)), some (.inl (a2))] [] (gwd S I' J h) Q)) → (gq d 204 23 [some (.inr (.inr (some (50, 0)))), some (.inl (a1)), some (.inl (a2))] [] (gwd S I J h) Q)
  | 0, k, I, I0, a2, hn, hk, h2, hl, hr, K => by
    have e185 : (185 : Int32).toInt = 185 := rfl
    rw [gb_204_23, if_pos (by rw [z_le]; exact (by have : (Int32.ofNat 185).toInt = 185 := rfl; omega))]
    exact K I _ (fun _ _ _ _ => rfl) (fun _ _ => rfl) (fun j hj h29 => hl j (by omega) h29)
  | n + 1, k, I, I0, a2, hn, hk, h2, hl, hr, K => by
    have e185 : (185 : Int32).toInt = 185 := rfl
    have e4 : (4 : Int32).toInt = 4 := rfl
    have e1 : (1 : Int32).toInt = 1 := rfl
    have q1 : (a2 + 4).toInt = k + 4 := by rw [z_add (by omega) (by omega), h2, e4]
    have n1 : (a2 + 4).toNatClampNeg = k + 4 := by rw [z_n, q1]; omega
    have n0 : a2.toNatClampNeg = k := by rw [z_n]; omega
    rw [gb_204_23, if_neg (by rw [z_le]; exact (by have : (Int32.ofNat 185).toInt = 185 := rfl; omega)), gb_204_30]
    refine ⟨g_in.mpr (by omega), ?_⟩
    rw [gb_204_43]
    refine ⟨g_in.mpr (by omega), ?_⟩
    rw [n0, n1, gb_204_44]
    refine n_shift_loop n (k + 1) _ I0 _ (by omega) (by omega) (by rw [z_add (by omega) (by omega), h2, e1]; rfl) (fun j hj h29 => ?_) (fun j hj => by rw [u_j (by omega)]; exact hr j (by omega)) fun I' a2 hF g1 g2 => K I' a2 (fun k i j hn => by rw [hF _ _ _ hn, u_ne (by omega)]) (fun j hj => by rw [g1 j hj, u_j (by omega)]) g2
    rw [u_at]
    by_cases e : j = k
    · rw [if_pos e, e]
      exact hr _ (by omega)
    · rw [if_neg e]; exact hl j (by omega) h29
theorem n_isKept {a1 : Int32} {x2 : Option gV} {lg : Nat → Int} {nl : Int} (hth : I 50 0 62 = 0) (hk : mKp I lg nl) (hn : 0 ≤ nl ∧ nl ≤ 98)
    (K : ∀ (I' : Nat → Nat → Nat → Int32), (∀ k i j, ¬ (k = 61 ∧ i = 0 ∧ 28 ≤ j) → I' k i j = I k i j) → mKp I' (gLog lg nl (I 61 0 0).toInt a1.toInt (I 61 0 1).toInt (I 61 0 2).toInt) (nl + 1) → Q none (gwd S I' J h)) : (gq d 204 0 [some (.inr (.inr (some (50, 0)))), some (.inl (a1)), x2] [] (gwd S I J h) Q) := by
  have e1 : (1 : Int32).toInt = 1 := rfl
  have e2 : (2 : Int32).toInt = 2 := rfl
  have e3 : (3 : Int32).toInt = 3 := rfl
  have e4 : (4 : Int32).toInt = 4 := rfl
  have e29 : (29 : Int32).toInt = 29 := rfl
  have e40 : (40 : Int32).toInt = 40 := rfl
  obtain ⟨k1, k2⟩ := hk
  have tail : ∀ (I1 : Nat → Nat → Nat → Int32) (x2 : Option gV) (m : Nat), m < 40 → (I1 61 0 28).toInt = m + 1 → ((m : Int) + 1 = min (nl + 1) 40) → (∀ k i j, ¬ (k = 61 ∧ i = 0 ∧ 28 ≤ j) → I1 k i j = I k i j) → (∀ k w : Nat, k < m → w < 4 → (I1 61 0 (29 + 4 * k + w)).toInt = lg (4 * (nl + 1 - min (nl + 1) 40).toNat + 4 * k + w)) → (gq d 204 64 [some (.inr (.inr (some (50, 0)))), some (.inl (a1)), x2] [] (gwd S I1 J h) Q) := fun I1 x2 m hm h28 hmin hF hrows => by
    rw [gb_204_64]
    refine ⟨rfl, ?_⟩
    rw [show (28 : Int32).toNatClampNeg = 28 from rfl, gb_204_74]
    refine ⟨rfl, ?_⟩
    have q0 : (4 * I1 61 0 28).toInt = 4 * m + 4 := by rw [z_mul (by rw [h28, e4]; omega) (by rw [h28, e4]; omega), h28, e4]; omega
    have q1 : (29 + 4 * I1 61 0 28).toInt = 4 * m + 33 := by rw [z_add (by omega) (by omega), q0, e29]; omega
    have q2 : (29 + 4 * I1 61 0 28 - 4).toInt = 29 + 4 * m := by rw [z_sub (by omega) (by omega), q1, e4]; omega
    generalize hA : (29 + 4 * I1 61 0 28 - 4 : Int32) = A at q2
    have a1' : (A + 1).toInt = 29 + 4 * m + 1 := by rw [z_add (by omega) (by omega), q2, e1]
    have a2' : (A + 2).toInt = 29 + 4 * m + 2 := by rw [z_add (by omega) (by omega), q2, e2]
    have a3' : (A + 3).toInt = 29 + 4 * m + 3 := by rw [z_add (by omega) (by omega), q2, e3]
    have n0 : A.toNatClampNeg = 29 + 4 * m := by rw [z_n, q2]; omega
    have n1 : (A + 1).toNatClampNeg = 29 + 4 * m + 1 := by rw [z_n, a1']; omega
    have n2 : (A + 2).toNatClampNeg = 29 + 4 * m + 2 := by rw [z_n, a2']; omega
    have n3 : (A + 3).toNatClampNeg = 29 + 4 * m + 3 := by rw [z_n, a3']; omega
    rw [gb_204_90]
    refine ⟨g_in.mpr (by omega), ?_⟩
    rw [gb_204_91]
    refine ⟨g_in.mpr (by omega), ?_⟩
    rw [gb_204_100]
    refine ⟨rfl, ?_⟩
    rw [gb_204_113]
    refine ⟨g_in.mpr (by omega), ?_⟩
    rw [gb_204_114]
    refine ⟨rfl, ?_⟩
    rw [gb_204_127]
    refine ⟨g_in.mpr (by omega), ?_⟩
    rw [gb_204_128, n0, n1, n2, n3]
    simp only [show (0 : Int32).toNatClampNeg = 0 from rfl, show (1 : Int32).toNatClampNeg = 1 from rfl, show (2 : Int32).toNatClampNeg = 2 from rfl]
    have f0 := hF 61 0 0 (by omega)
    have f1 := hF 61 0 1 (by omega)
    have f2 := hF 61 0 2 (by omega)
    simp only [u_j (show (1 : Nat) ≠ 29 + 4 * m by omega), u_j (show (1 : Nat) ≠ 29 + 4 * m + 1 by omega), u_j (show (2 : Nat) ≠ 29 + 4 * m by omega), u_j (show (2 : Nat) ≠ 29 + 4 * m + 1 by omega), u_j (show (2 : Nat) ≠ 29 + 4 * m + 2 by omega)]
    rw [f0, f1, f2]
    refine K _ (fun k i j hn => ?_) ⟨?_, fun k w hk hw => ?_⟩
    · repeat rw [u_ne (by omega)]
      exact hF _ _ _ hn
    · repeat rw [u_ne (by omega)]
      rw [h28, hmin]
    · by_cases e : k = m
      · have ei : 4 * (nl + 1 - min (nl + 1) 40).toNat + 4 * m = 4 * nl.toNat := by omega
        rw [e, ei]
        unfold gLog
        have ew : w = 0 ∨ w = 1 ∨ w = 2 ∨ w = 3 := by omega
        rcases ew with rfl | rfl | rfl | rfl
        · rw [u_j (by omega), u_j (by omega), u_j (by omega), Nat.add_zero, u_eq, if_pos (by omega)]
        · rw [u_j (by omega), u_j (by omega), u_eq, if_neg (by omega), if_pos (by omega)]
        · rw [u_j (by omega), u_eq, if_neg (by omega), if_neg (by omega), if_pos (by omega)]
        · rw [u_eq, if_neg (by omega), if_neg (by omega), if_neg (by omega), if_pos (by omega)]
      · rw [u_j (by omega), u_j (by omega), u_j (by omega), u_j (by omega), hrows k w (by omega) hw]
        unfold gLog
        rw [if_neg (by omega), if_neg (by omega), if_neg (by omega), if_neg (by omega)]
  rw [gb_204_0, if_pos hth, gb_204_8]
  refine ⟨rfl, ?_⟩
  rw [show (28 : Int32).toNatClampNeg = 28 from rfl, gb_204_15]
  by_cases w : nl < 40
  · rw [if_neg (by rw [z_eq]; omega), gb_204_53]
    refine ⟨rfl, ?_⟩
    rw [gb_204_61]
    refine ⟨rfl, ?_⟩
    simp only [show (28 : Int32).toNatClampNeg = 28 from rfl]
    refine tail _ _ nl.toNat (by omega) ?_ (by omega) (fun k i j hn => u_ne (by omega)) (fun k v hk hv => ?_)
    · rw [u_eq, z_add (by omega) (by omega), k1, e1]; omega
    · rw [u_j (by omega), k2 k v (by omega) hv, show (nl - min nl 40).toNat = (nl + 1 - min (nl + 1) 40).toNat by omega]
  · rw [if_pos (by rw [z_eq]; omega), gb_204_20]
    refine n_shift_loop 156 29 I I _ rfl (by omega) rfl (fun j h1 h2 => by omega) (fun _ _ => rfl) fun I1 a2 hF1 g1 g2 => ?_
    rw [gb_204_50]
    refine tail I1 _ 39 (by omega) ?_ (by omega) (fun k i j hn => ?_) (fun k v hk hv => ?_)
    · rw [g1 28 (by omega), k1]; omega
    · by_cases e : k = 61 ∧ i = 0
      · obtain ⟨rfl, rfl⟩ := e
        exact g1 j (by omega)
      · exact hF1 _ _ _ (by omega)
    · rw [g2 _ (by omega) (by omega), show 29 + 4 * k + v + 4 = 29 + 4 * (k + 1) + v by omega, k2 (k + 1) v (by omega) hv]
      rw [show 4 * (nl - min nl 40).toNat + 4 * (k + 1) + v = 4 * (nl + 1 - min (nl + 1) 40).toNat + 4 * k + v by omega]
