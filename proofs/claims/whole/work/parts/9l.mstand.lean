/-! The model takes a course over, and a state begins. -/
variable {d S : Nat} {h : Nat × Option gNm} {I : Nat → Nat → Nat → Int32} {J : Nat → Nat → Nat → Int64} {Q : Option gV → gW → Prop}
variable {tp : Nat → Int} {n s : Nat} {g : Bool} {D : gCo} {τ : lT}
theorem gPk_c {f f' : Nat → Int} : ∀ {m : Nat}, (∀ k, k < m → f' k = f k) → gPk f' m = gPk f m
  | 0, _ => rfl
  | m + 1, h => by
    show 27 * gPk f' m + f' m = 27 * gPk f m + f m
    rw [h m (by omega), gPk_c fun k hk => h k (by omega)]
theorem gCd_sh {H H' : Nat → Int32} {f : Int → Int} : ∀ {l : List Int} {a : Nat}, (∀ k, a ≤ k → k < a + l.length → H' (1600 + k) = H k) → gCd H f a l → gCd H' f (1600 + a) l
  | [], _, _, _ => trivial
  | c :: l, a, he, h => by
    have hl : (c :: l).length = l.length + 1 := rfl
    exact ⟨by rw [he a (Nat.le_refl _) (by omega)]; exact h.1, gCd_sh (a := a + 1) (fun k h1 h2 => he k (by omega) (by omega)) h.2⟩
theorem gBgN_end {C : gCo} : ∀ (k b : Nat) (w m : Int), C.1 2 ≤ b → gBgN C k b w m = (w, m)
  | 0, _, _, _, _ => rfl
  | k + 1, b, w, m, h => by
    show (if (b : Int) < C.1 2 ∧ (w = -1 ∨ C.1 (10 + b) < m) then gBgN C k (b + 1) b (C.1 (10 + b)) else gBgN C k (b + 1) w m) = (w, m)
    rw [if_neg (fun q => by have := q.1; omega)]
    exact gBgN_end k (b + 1) w m (by omega)
theorem n_st1 (K : ∀ (I' : Nat → Nat → Nat → Int32) (a1 : Int32), (∀ k i j, ¬ (k = 54 ∧ i = 0 ∧ 5 ≤ j ∧ j < 10) → I' k i j = I k i j) → (∀ j, j < 5 → I' 54 0 (5 + j) = I 54 0 j) → (gq d 182 32 [some (.inr (.inr (some (50, 0)))), some (.inl (a1))] [] (gwd S I' J h) Q)) : ∀ (m k : Nat) (I1 : Nat → Nat → Nat → Int32) (a1 : Int32), k + m = 5 → a1.toInt = k → (∀ k i j, ¬ (k = 54 ∧ i = 0 ∧ 5 ≤ j ∧ j < 10) → I1 k i j = I k i j) → (∀ j, j < k → I1 54 0 (5 + j) = I 54 0 j) → (gq d 182 7 [some (.inr (.inr (some (50, 0)))), some (.inl (a1))] [] (gwd S I1 J h) Q)
  | 0, k, I1, a1, hk, h1, hF, hc => by
    have e5 : (5 : Int32).toInt = 5 := rfl
    rw [gb_182_7, if_pos (by rw [z_le]; omega)]
    exact K I1 _ hF (fun j hj => hc j (by omega))
  | m + 1, k, I1, a1, hk, h1, hF, hc => by
    have e5 : (5 : Int32).toInt = 5 := rfl
    have e1 : (1 : Int32).toInt = 1 := rfl
    have n1 : a1.toNatClampNeg = k := by rw [z_n, h1]; rfl
    have hs : (5 + a1).toInt = ((5 + k : Nat) : Int) := by rw [z_add (by omega) (by omega), e5, h1]; omega
    have n2 : (5 + a1).toNatClampNeg = 5 + k := by rw [z_n, hs]; rfl
    rw [gb_182_7, if_neg (by rw [z_le]; omega), gb_182_12]
    refine ⟨g_in.mpr (by omega), ?_⟩
    rw [n1, gb_182_25]
    refine ⟨g_in.mpr (by omega), ?_⟩
    rw [n2, hF 54 0 k (by omega), gb_182_26]
    refine n_st1 K m (k + 1) _ _ (by omega) (by rw [z_add (by omega) (by omega), h1, e1]; rfl) (fun k' i j hn => by rw [u_ne (by omega), hF _ _ _ hn]) fun j hj => ?_
    by_cases ej : j = k
    · rw [ej, u_eq]
    · rw [u_j (by omega)]; exact hc j (by omega)
theorem n_st2 (K : ∀ (I' : Nat → Nat → Nat → Int32) (a1 : Int32), (∀ k i j, ¬ ((k = 58 ∨ k = 59) ∧ i = 0 ∧ 3 ≤ j ∧ j < 6) → I' k i j = I k i j) → (∀ j, j < 3 → I' 58 0 (3 + j) = I 58 0 j ∧ I' 59 0 (3 + j) = I 59 0 j) → (gq d 182 73 [some (.inr (.inr (some (50, 0)))), some (.inl (a1))] [] (gwd S I' J h) Q)) : ∀ (m k : Nat) (I1 : Nat → Nat → Nat → Int32) (a1 : Int32), k + m = 3 → a1.toInt = k → (∀ k i j, ¬ ((k = 58 ∨ k = 59) ∧ i = 0 ∧ 3 ≤ j ∧ j < 6) → I1 k i j = I k i j) → (∀ j, j < k → I1 58 0 (3 + j) = I 58 0 j ∧ I1 59 0 (3 + j) = I 59 0 j) → (gq d 182 34 [some (.inr (.inr (some (50, 0)))), some (.inl (a1))] [] (gwd S I1 J h) Q)
  | 0, k, I1, a1, hk, h1, hF, hc => by
    have e3 : (3 : Int32).toInt = 3 := rfl
    rw [gb_182_34, if_pos (by rw [z_le]; omega)]
    exact K I1 _ hF (fun j hj => hc j (by omega))
  | m + 1, k, I1, a1, hk, h1, hF, hc => by
    have e3 : (3 : Int32).toInt = 3 := rfl
    have e1 : (1 : Int32).toInt = 1 := rfl
    have n1 : a1.toNatClampNeg = k := by rw [z_n, h1]; rfl
    have hs : (3 + a1).toInt = ((3 + k : Nat) : Int) := by rw [z_add (by omega) (by omega), e3, h1]; omega
    have n2 : (3 + a1).toNatClampNeg = 3 + k := by rw [z_n, hs]; rfl
    rw [gb_182_34, if_neg (by rw [z_le]; omega), gb_182_39]
    refine ⟨g_in.mpr (by omega), ?_⟩
    rw [n1, gb_182_52]
    refine ⟨g_in.mpr (by omega), ?_⟩
    rw [n2, hF 58 0 k (by omega), gb_182_53]
    refine ⟨g_in.mpr (by omega), ?_⟩
    rw [n1, gb_182_66]
    refine ⟨g_in.mpr (by omega), ?_⟩
    rw [n2, u_k (by decide), hF 59 0 k (by omega), gb_182_67]
    refine n_st2 K m (k + 1) _ _ (by omega) (by rw [z_add (by omega) (by omega), h1, e1]; rfl) (fun k' i j hn => by rw [u_ne (by omega), u_ne (by omega), hF _ _ _ hn]) fun j hj => ?_
    by_cases ej : j = k
    · rw [ej, u_eq, u_k (by decide), u_eq]; exact ⟨rfl, rfl⟩
    · rw [u_ne (by omega), u_ne (by omega), u_ne (by omega), u_ne (by omega)]; exact hc j (by omega)
theorem n_st3 (K : ∀ (I' : Nat → Nat → Nat → Int32) (J' : Nat → Nat → Nat → Int64) (a1 : Int32), (∀ k i j, ¬ ((k = 56 ∨ k = 57) ∧ i = 0 ∧ 16 ≤ j ∧ j < 32) → I' k i j = I k i j) → (∀ k i j, ¬ (k = 55 ∧ i = 0 ∧ 16 ≤ j ∧ j < 32) → J' k i j = J k i j) → (∀ j, j < 16 → I' 56 0 (16 + j) = I 56 0 j ∧ I' 57 0 (16 + j) = I 57 0 j ∧ J' 55 0 (16 + j) = J 55 0 j) → (gq d 182 132 [some (.inr (.inr (some (50, 0)))), some (.inl (a1))] [] (gwd S I' J' h) Q)) : ∀ (m k : Nat) (I1 : Nat → Nat → Nat → Int32) (J1 : Nat → Nat → Nat → Int64) (a1 : Int32), k + m = 16 → a1.toInt = k → (∀ k i j, ¬ ((k = 56 ∨ k = 57) ∧ i = 0 ∧ 16 ≤ j ∧ j < 32) → I1 k i j = I k i j) → (∀ k i j, ¬ (k = 55 ∧ i = 0 ∧ 16 ≤ j ∧ j < 32) → J1 k i j = J k i j) → (∀ j, j < k → I1 56 0 (16 + j) = I 56 0 j ∧ I1 57 0 (16 + j) = I 57 0 j ∧ J1 55 0 (16 + j) = J 55 0 j) → (gq d 182 75 [some (.inr (.inr (some (50, 0)))), some (.inl (a1))] [] (gwd S I1 J1 h) Q)
  | 0, k, I1, J1, a1, hk, h1, hF, hG, hc => by
    have e16 : (16 : Int32).toInt = 16 := rfl
    rw [gb_182_75, if_pos (by rw [z_le]; omega)]
    exact K I1 J1 _ hF hG (fun j hj => hc j (by omega))
  | m + 1, k, I1, J1, a1, hk, h1, hF, hG, hc => by
    have e16 : (16 : Int32).toInt = 16 := rfl
    have e1 : (1 : Int32).toInt = 1 := rfl
    have n1 : a1.toNatClampNeg = k := by rw [z_n, h1]; rfl
    have hs : (16 + a1).toInt = ((16 + k : Nat) : Int) := by rw [z_add (by omega) (by omega), e16, h1]; omega
    have n2 : (16 + a1).toNatClampNeg = 16 + k := by rw [z_n, hs]; rfl
    rw [gb_182_75, if_neg (by rw [z_le]; omega), gb_182_81]
    refine ⟨g_in.mpr (by omega), ?_⟩
    rw [n1, gb_182_95]
    refine ⟨g_in.mpr (by omega), ?_⟩
    rw [n2, hG 55 0 k (by omega), gb_182_96]
    refine ⟨g_in.mpr (by omega), ?_⟩
    rw [n1, gb_182_110]
    refine ⟨g_in.mpr (by omega), ?_⟩
    rw [n2, hF 56 0 k (by omega), gb_182_111]
    refine ⟨g_in.mpr (by omega), ?_⟩
    rw [n1, gb_182_125]
    refine ⟨g_in.mpr (by omega), ?_⟩
    rw [n2, u_k (by decide), hF 57 0 k (by omega), gb_182_126]
    refine n_st3 K m (k + 1) _ _ _ (by omega) (by rw [z_add (by omega) (by omega), h1, e1]; rfl) (fun k' i j hn => by rw [u_ne (by omega), u_ne (by omega), hF _ _ _ hn]) (fun k' i j hn => by rw [u_ne (by omega), hG _ _ _ hn]) fun j hj => ?_
    by_cases ej : j = k
    · rw [ej, u_eq, u_k (by decide), u_eq, u_eq]; exact ⟨rfl, rfl, rfl⟩
    · rw [u_ne (by omega), u_ne (by omega), u_ne (by omega), u_ne (by omega), u_ne (by omega)]; exact hc j (by omega)
theorem n_st4 {z : Nat} (hz : (I 50 0 46).toInt = z) (hz1 : z ≤ 1600) (K : ∀ (I' : Nat → Nat → Nat → Int32) (a1 : Int32), (∀ k i j, ¬ (k = 60 ∧ i = 0 ∧ 1600 ≤ j) → I' k i j = I k i j) → (∀ j, j < z → I' 60 0 (1600 + j) = I 60 0 j) → (gq d 182 164 [some (.inr (.inr (some (50, 0)))), some (.inl (a1))] [] (gwd S I' J h) Q)) : ∀ (m k : Nat) (I1 : Nat → Nat → Nat → Int32) (a1 : Int32), k + m = z → a1.toInt = k → (∀ k i j, ¬ (k = 60 ∧ i = 0 ∧ 1600 ≤ j) → I1 k i j = I k i j) → (∀ j, j < k → I1 60 0 (1600 + j) = I 60 0 j) → (gq d 182 134 [some (.inr (.inr (some (50, 0)))), some (.inl (a1))] [] (gwd S I1 J h) Q)
  | 0, k, I1, a1, hk, h1, hF, hc => by
    rw [gb_182_134, if_pos (by rw [z_le, hF _ _ _ (by omega)]; omega)]
    exact K I1 _ hF (fun j hj => hc j (by omega))
  | m + 1, k, I1, a1, hk, h1, hF, hc => by
    have ec : (1600 : Int32).toInt = 1600 := rfl
    have e1 : (1 : Int32).toInt = 1 := rfl
    have n1 : a1.toNatClampNeg = k := by rw [z_n, h1]; rfl
    have hs : (1600 + a1).toInt = ((1600 + k : Nat) : Int) := by rw [z_add (by omega) (by omega), ec, h1]; omega
    have n2 : (1600 + a1).toNatClampNeg = 1600 + k := by rw [z_n, hs]; rfl
    rw [gb_182_134, if_neg (by rw [z_le, hF _ _ _ (by omega)]; omega), gb_182_142]
    refine ⟨g_in.mpr (by omega), ?_⟩
    rw [n1, gb_182_157]
    refine ⟨g_in.mpr (by omega), ?_⟩
    rw [n2, hF 60 0 k (by omega), gb_182_158]
    refine n_st4 hz hz1 K m (k + 1) _ _ (by omega) (by rw [z_add (by omega) (by omega), h1, e1]; rfl) (fun k' i j hn => by rw [u_ne (by omega), hF _ _ _ hn]) fun j hj => ?_
    by_cases ej : j = k
    · rw [ej, u_eq]
    · rw [u_j (by omega)]; exact hc j (by omega)
theorem n_st5 (K : ∀ (I' : Nat → Nat → Nat → Int32) (a1 : Int32), (∀ k i j, ¬ (k = 61 ∧ i = 0) → I' k i j = I k i j) → (∀ j, j < 189 → I' 61 0 j = 0) → (gq d 182 186 [some (.inr (.inr (some (50, 0)))), some (.inl (a1))] [] (gwd S I' J h) Q)) : ∀ (m k : Nat) (I1 : Nat → Nat → Nat → Int32) (a1 : Int32), k + m = 189 → a1.toInt = k → (∀ k i j, ¬ (k = 61 ∧ i = 0) → I1 k i j = I k i j) → (∀ j, j < k → I1 61 0 j = 0) → (gq d 182 166 [some (.inr (.inr (some (50, 0)))), some (.inl (a1))] [] (gwd S I1 J h) Q)
  | 0, k, I1, a1, hk, h1, hF, hc => by
    have ec : (189 : Int32).toInt = 189 := rfl
    rw [gb_182_166, if_pos (by rw [z_le]; omega)]
    exact K I1 _ hF (fun j hj => hc j (by omega))
  | m + 1, k, I1, a1, hk, h1, hF, hc => by
    have ec : (189 : Int32).toInt = 189 := rfl
    have e1 : (1 : Int32).toInt = 1 := rfl
    have n1 : a1.toNatClampNeg = k := by rw [z_n, h1]; rfl
    rw [gb_182_166, if_neg (by rw [z_le]; omega), gb_182_173]
    refine ⟨g_in.mpr (by omega), ?_⟩
    rw [n1, gb_182_180]
    refine n_st5 K m (k + 1) _ _ (by omega) (by rw [z_add (by omega) (by omega), h1, e1]; rfl) (fun k' i j hn => by rw [u_ne (by omega), hF _ _ _ hn]) fun j hj => ?_
    by_cases ej : j = k
    · rw [ej, u_eq]
    · rw [u_j (by omega)]; exact hc j (by omega)
theorem n_st6 {C : gCo} (hB : (I 54 0 1).toInt = C.1 2) (r2 : 0 ≤ C.1 2 ∧ C.1 2 ≤ 8) (h56 : ∀ b : Nat, (b : Int) < C.1 2 → (I 56 0 (2 * b)).toInt = C.1 (10 + b)) (K : ∀ (I' : Nat → Nat → Nat → Int32) (a1 : Int32), (∀ k i j, ¬ (k = 61 ∧ i = 0) → I' k i j = I k i j) → (I' 61 0 3).toInt = (gBgN C 8 0 (-1) 0).1 → (I' 61 0 1).toInt = (gBgN C 8 0 (-1) 0).2 → (∀ j, ¬ (j = 1 ∨ j = 3 ∨ 4 ≤ j ∧ j < 20 ∧ j % 2 = 0) → I' 61 0 j = I 61 0 j) → (∀ b : Nat, (b : Int) < C.1 2 → (I' 61 0 (4 + 2 * b)).toInt = C.1 (10 + b)) → (gq d 182 289 [some (.inr (.inr (some (50, 0)))), some (.inl (a1))] [] (gwd S I' J h) Q)) : ∀ (m b : Nat) (w ml : Int) (I1 : Nat → Nat → Nat → Int32) (a1 : Int32), b + m = 8 → a1.toInt = b → (∀ k i j, ¬ (k = 61 ∧ i = 0) → I1 k i j = I k i j) → (I1 61 0 3).toInt = w → (I1 61 0 1).toInt = ml → (∀ j, ¬ (j = 1 ∨ j = 3 ∨ 4 ≤ j ∧ j < 20 ∧ j % 2 = 0) → I1 61 0 j = I 61 0 j) → (∀ b' : Nat, b' < b → (b' : Int) < C.1 2 → (I1 61 0 (4 + 2 * b')).toInt = C.1 (10 + b')) → gBgN C m b w ml = gBgN C 8 0 (-1) 0 → (gq d 182 207 [some (.inr (.inr (some (50, 0)))), some (.inl (a1))] [] (gwd S I1 J h) Q)
  | 0, b, w, ml, I1, a1, hb, h1, hF, h3, hm, ho, hd, hg => by
    have hg' : (w, ml) = gBgN C 8 0 (-1) 0 := hg
    rw [gb_182_207]
    refine ⟨g_in.mpr (by decide), ?_⟩
    rw [show (1 : Int32).toNatClampNeg = 1 from rfl, gb_182_214, if_pos (by rw [z_le, hF _ _ _ (by omega), hB]; omega)]
    exact K I1 _ hF (by rw [← hg']; exact h3) (by rw [← hg']; exact hm) ho (fun b' hb' => hd b' (by omega) hb')
  | m + 1, b, w, ml, I1, a1, hb, h1, hF, h3, hm, ho, hd, hg => by
    have e1 : (1 : Int32).toInt = 1 := rfl
    have e2 : (2 : Int32).toInt = 2 := rfl
    have e4 : (4 : Int32).toInt = 4 := rfl
    rw [gb_182_207]
    refine ⟨g_in.mpr (by decide), ?_⟩
    rw [show (1 : Int32).toNatClampNeg = 1 from rfl, gb_182_214]
    by_cases wB : C.1 2 ≤ b
    · rw [gBgN_end _ _ _ _ wB] at hg
      rw [if_pos (by rw [z_le, hF _ _ _ (by omega), hB]; omega)]
      exact K I1 _ hF (by rw [← hg]; exact h3) (by rw [← hg]; exact hm) ho (fun b' hb' => hd b' (by omega) hb')
    · rw [if_neg (by rw [z_le, hF _ _ _ (by omega), hB]; omega), gb_182_217]
      have s1 : (2 * a1).toInt = ((2 * b : Nat) : Int) := by rw [z_mul (by rw [e2]; omega) (by rw [e2]; omega), e2, h1]; omega
      have s2 : (4 + 2 * a1).toInt = ((4 + 2 * b : Nat) : Int) := by rw [z_add (by omega) (by omega), e4, s1]; omega
      have n1 : (2 * a1).toNatClampNeg = 2 * b := by rw [z_n, s1]; rfl
      have n2 : (4 + 2 * a1).toNatClampNeg = 4 + 2 * b := by rw [z_n, s2]; rfl
      refine ⟨g_in.mpr (by omega), ?_⟩
      rw [n1, gb_182_234]
      refine ⟨g_in.mpr (by omega), ?_⟩
      rw [n2, hF 56 0 _ (by omega)]
      have hv := h56 b (by omega)
      generalize I 56 0 (2 * b) = v at hv
      rw [gb_182_235]
      generalize hI2 : gup I1 61 0 (4 + 2 * b) v = I2
      have hF2 : (∀ k i j, ¬ ((k = 61 ∧ i = 0 ∧ j = 4 + 2 * b)) → I2 k i j = I1 k i j) := fun k i j hn => by rw [← hI2, u_ne (by omega)]
      have d2 : ∀ b' : Nat, b' < b + 1 → (b' : Int) < C.1 2 → (I2 61 0 (4 + 2 * b')).toInt = C.1 (10 + b') := fun b' q1 q2 => by
        by_cases e : b' = b
        · rw [e, ← hI2, u_eq]; exact hv
        · rw [hF2 _ _ _ (by omega)]; exact hd b' (by omega) q2
      have h56' : I2 56 0 (2 * b) = I 56 0 (2 * b) := by rw [hF2 _ _ _ (by omega), hF _ _ _ (by omega)]
      have hg' : (if (b : Int) < C.1 2 ∧ (w = -1 ∨ C.1 (10 + b) < ml) then gBgN C m (b + 1) b (C.1 (10 + b)) else gBgN C m (b + 1) w ml) = gBgN C 8 0 (-1) 0 := hg
      have nx : ∀ (w' ml' : Int) (I3 : Nat → Nat → Nat → Int32), (∀ k i j, ¬ ((k = 61 ∧ i = 0 ∧ (j = 1 ∨ j = 3))) → I3 k i j = I2 k i j) → (I3 61 0 3).toInt = w' → (I3 61 0 1).toInt = ml' → gBgN C m (b + 1) w' ml' = gBgN C 8 0 (-1) 0 → (gq d 182 283 [some (.inr (.inr (some (50, 0)))), some (.inl (a1))] [] (gwd S I3 J h) Q) := fun w' ml' I3 hF3 t3 t1 hgg => by
        rw [gb_182_283]
        refine n_st6 hB r2 h56 K m (b + 1) w' ml' I3 _ (by omega) (by rw [z_add (by omega) (by omega), h1, e1]; rfl) (fun k i j hn => by rw [hF3 _ _ _ (by omega), hF2 _ _ _ (by omega), hF _ _ _ hn]) t3 t1 (fun j hn => by rw [hF3 _ _ _ (by omega), hF2 _ _ _ (by omega), ho j hn]) (fun b' q1 q2 => by rw [hF3 _ _ _ (by omega)]; exact d2 b' q1 q2) hgg
      have take : (w = -1 ∨ C.1 (10 + b) < ml) → (gq d 182 262 [some (.inr (.inr (some (50, 0)))), some (.inl (a1))] [] (gwd S I2 J h) Q) := fun hy => by
        rw [if_pos ⟨by omega, hy⟩] at hg'
        rw [gb_182_262]
        refine ⟨g_in.mpr (by decide), ?_⟩
        rw [show (3 : Int32).toNatClampNeg = 3 from rfl, gb_182_269]
        refine ⟨g_in.mpr (by omega), ?_⟩
        rw [n1, gb_182_282]
        refine ⟨g_in.mpr (by decide), ?_⟩
        rw [show (1 : Int32).toNatClampNeg = 1 from rfl]
        exact nx b (C.1 (10 + b)) _ (fun k i j hn => by rw [u_ne (by omega), u_ne (by omega)]) (by rw [u_j (by decide), u_eq]; exact h1) (by rw [u_eq, u_k (by decide), h56']; exact h56 b (by omega)) hg'
      refine ⟨g_in.mpr (by decide), ?_⟩
      rw [show (3 : Int32).toNatClampNeg = 3 from rfl, gb_182_241, gb_182_242]
      have t3 : (I2 61 0 3).toInt = w := by rw [hF2 _ _ _ (by omega)]; exact h3
      have t1 : (I2 61 0 1).toInt = ml := by rw [hF2 _ _ _ (by omega)]; exact hm
      have em1 : (Int32.ofInt (-1)).toInt = -1 := rfl
      by_cases w2 : w = -1
      · rw [if_pos (z_inj (by rw [t3, w2]; rfl))]; exact take (Or.inl w2)
      rw [if_neg (fun q => w2 (by have := congrArg Int32.toInt q; omega)), gb_182_245]
      refine ⟨g_in.mpr (by omega), ?_⟩
      rw [n1, gb_182_253]
      refine ⟨g_in.mpr (by decide), ?_⟩
      rw [show (1 : Int32).toNatClampNeg = 1 from rfl, gb_182_259]
      have h56b : (I2 56 0 (2 * b)).toInt = C.1 (10 + b) := by rw [h56']; exact h56 b (by omega)
      by_cases w3 : C.1 (10 + b) < ml
      · rw [if_neg (by rw [z_le, t1, h56b]; omega)]; exact take (Or.inr w3)
      · rw [if_pos (by rw [z_le, t1, h56b]; omega)]
        rw [if_neg (fun q => by rcases q.2 with q | q; exact w2 q; exact w3 q)] at hg'
        exact nx w ml I2 (fun _ _ _ _ => rfl) t3 t1 hg'
