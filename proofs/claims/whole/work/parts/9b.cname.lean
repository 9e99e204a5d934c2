/-! The class reads a name. -/
/-- letter k of a word -/
def cLet (tp : Nat → Int) (s e k : Nat) : Int := if s + k < e then tp (s + k) - 96 else 0
def nSame (D : gCo) (ltr : Nat → Int) (r : Nat) : Prop := ∀ k, k < 6 → ltr k = D.1 (100 + (6 * r + k))
def nTaken (D : gCo) (ltr : Nat → Int) : Prop := ∃ i : Nat, i < 8 ∧ ((i : Int) < D.1 2 ∧ nSame D ltr i ∨ (i : Int) < D.1 3 ∧ nSame D ltr (8 + i))
noncomputable def nTkb (D : gCo) (ltr : Nat → Int) : Bool := @decide (nTaken D ltr) (Classical.propDecidable _)
theorem nTkb_iff {D : gCo} {ltr : Nat → Int} : nTkb D ltr = true ↔ nTaken D ltr := @decide_eq_true_iff _ (Classical.propDecidable _)
noncomputable def lNmT (tp : Nat → Int) (n : Nat) (D : gCo) : lT → lT
  | .inl b => .inl b
  | .inr (s, g) => if lKd tp n s g ≠ -2 ∨ (0 ≤ wHere tp n s ∧ wHere tp n s < 27) then .inl (1, s) else if 6 < lEn tp n s - s then .inl (1, s + 6) else if nTkb D (cLet tp s (lEn tp n s)) = true then .inl (3, s) else .inr (lNx tp n s g)
variable {d S : Nat} {h : Nat × Option gNm} {I : Nat → Nat → Nat → Int32} {J : Nat → Nat → Nat → Int64} {Q : Option gV → gW → Prop}
variable {tp : Nat → Int} {n s c : Nat} {g : Bool} {D : gCo} {τ : lT}
theorem m_writeName {r : Nat} {a1 : Int32} {x2 x3 x4 : Option gV} (hx : kTx I tp n) (ht : kTk I tp n (.inr (s, g))) (hl : lIsL (lB tp n s) = true) (h1 : a1.toInt = r) (hr : r < 16) (K : ∀ (I' : Nat → Nat → Nat → Int32), (∀ k i j, ¬ ((k = 39 ∧ i = c)) → I' k i j = I k i j) → (∀ k, k < 6 → (I' 39 c (6 * r + k)).toInt = cLet tp s (lEn tp n s) k) → (∀ j, ¬ (6 * r ≤ j ∧ j < 6 * r + 6) → I' 39 c j = I 39 c j) → Q none (gwd S I' J h)) : (gq (d + 1) 33 0 [some (.inr (.inr (some (34, c)))), some (.inl (a1)), x2, x3, x4] [] (gwd S I J h) Q) := by
  have hn := hx.2.2.1
  have hsn := ht.2.2.2.2.2.1
  have her := lEn_r (tp := tp) hsn
  have e6 : (6 : Int32).toInt = 6 := rfl
  have e1 : (1 : Int32).toInt = 1 := rfl
  have e97 : (97 : Int32).toInt = 97 := rfl
  have e96 : (Int32.ofNat 96).toInt = 96 := rfl
  have q0 : (a1 * 6).toInt = r * 6 := by rw [z_mul (by rw [e6]; omega) (by rw [e6]; omega), h1, e6]
  have loop : ∀ (m k : Nat) (I2 : Nat → Nat → Nat → Int32) (a2 : Int32) (x3 x4 : Option gV), k + m = 6 → a2.toInt = k → (∀ k i j, ¬ ((k = 39 ∧ i = c)) → I2 k i j = I k i j) → (∀ j, j < k → (I2 39 c (6 * r + j)).toInt = cLet tp s (lEn tp n s) j) → (∀ j, ¬ (6 * r ≤ j ∧ j < 6 * r + 6) → I2 39 c j = I 39 c j) → (gq (d + 1) 33 2 [some (.inr (.inr (some (34, c)))), some (.inl (a1)), some (.inl (a2)), x3, x4] [] (gwd S I2 J h) Q) := by
    intro m
    induction m with
    | zero =>
      intro k I2 a2 x3 x4 hk h2 hF h3 h4
      rw [gb_33_2, if_pos (by rw [z_le]; omega), gb_33_96]
      exact K I2 hF (fun j hj => h3 j (by omega)) h4
    | succ m ih =>
      intro k I2 a2 x3 x4 hk h2 hF h3 h4
      have q1 : (a1 * 6 + a2).toInt = r * 6 + k := by rw [z_add (by omega) (by omega), q0, h2]
      have n1 : (a1 * 6 + a2).toNatClampNeg = 6 * r + k := by rw [z_n]; omega
      have hS : (I2 11 0 3).toInt = s := by rw [hF _ _ _ (by omega)]; exact ht.2.1
      have hB : (I2 11 0 4).toInt = lEn tp n s := by rw [hF _ _ _ (by omega)]; exact ht.2.2.1
      have q2 : (I2 11 0 3 + a2).toInt = ((s + k : Nat) : Int) := by rw [z_add (by omega) (by omega), hS, h2]; rfl
      have hx2 : kTx I2 tp n := kTx_congr hx (fun j => hF _ _ _ (by omega)) (hF _ _ _ (by omega)) (fun j => hF _ _ _ (by omega))
      have fin : ∀ (v : Int32) (a4 : Int32), v.toInt = cLet tp s (lEn tp n s) k → (gq (d + 1) 33 89 [some (.inr (.inr (some (34, c)))), some (.inl (a1)), some (.inl (a2)), some (.inl ((a1 * 6 + a2))), some (.inl (a4))] [.inl (v), .inl ((a1 * 6 + a2)), .inr (.inr (some (39, c)))] (gwd S I2 J h) Q) := fun v a4 hv => by
        rw [gb_33_89]
        refine ⟨g_in.mpr (by omega), ?_⟩
        rw [n1, gb_33_90]
        refine ih (k + 1) _ _ _ _ (by omega) (by rw [z_add (by omega) (by omega), h2, e1]; rfl) (fun k i j hn => by rw [u_ne (by omega), hF _ _ _ hn]) (fun j hj => ?_) (fun j hj => by rw [u_j (by omega)]; exact h4 j hj)
        by_cases e : j = k
        · rw [e, u_eq]; exact hv
        · rw [u_j (by omega)]; exact h3 j (by omega)
      rw [gb_33_2, if_neg (by rw [z_le]; omega), gb_33_8, if_neg (by rw [z_lt, z_0]; omega), gb_33_19, if_neg (by rw [z_le, e96]; omega), gb_33_28]
      by_cases w : s + k < lEn tp n s
      · have hb : lIsL (lB tp n (s + k)) = true := lRun_in (p := lIsL) (k := s) lL_m1 (by omega) (by rw [← lEn_L hl]; exact w)
        rw [lB_lt (by omega), lIsL_iff] at hb
        rw [if_neg (by rw [z_le]; omega), gb_33_47, gb_33_52, if_neg (by decide), gb_33_64]
        refine m_byteN hx2 q2 fun x hv => ?_
        rw [lB_lt (by omega)] at hv
        rw [Option.toList_some, List.singleton_append, gb_33_80]
        refine fin _ _ ?_
        unfold cLet
        rw [if_pos w, z_add (by rw [z_sub (by omega) (by omega)]; omega) (by rw [z_sub (by omega) (by omega)]; omega), z_sub (by omega) (by omega), hv, e97, e1]; omega
      · rw [if_pos (by rw [z_le]; omega), gb_33_51, gb_33_52, if_pos rfl, gb_33_88]
        refine fin _ _ ?_
        unfold cLet
        rw [if_neg w]; rfl
  rw [gb_33_0]
  exact loop 6 0 I _ _ _ rfl rfl (fun _ _ _ _ => rfl) (fun j hj => absurd hj (Nat.not_lt_zero _)) (fun _ _ => rfl)
theorem m_letAt {r k : Nat} {a1 a2 : Int32} {x3 : Option gV} (h1 : a1.toInt = r) (hr : r < 16) (h2 : a2.toInt = k) (hk : k < 6) : (gq d 21 0 [some (.inr (.inr (some (34, c)))), some (.inl (a1)), some (.inl (a2)), x3] [] (gwd S I J h) Q) ↔ Q (some (.inl (I 39 c (6 * r + k)))) (gwd S I J h) := by
  have e6 : (6 : Int32).toInt = 6 := rfl
  have e96 : (Int32.ofNat 96).toInt = 96 := rfl
  have q0 : (a1 * 6).toInt = r * 6 := by rw [z_mul (by rw [e6]; omega) (by rw [e6]; omega), h1, e6]
  have q1 : ((a1 * 6) + a2).toInt = r * 6 + k := by rw [z_add (by omega) (by omega), q0, h2]
  have n1 : ((a1 * 6) + a2).toNatClampNeg = 6 * r + k := by rw [z_n]; omega
  have hg : gin (a1 * 6 + a2) 96 = true := g_in.mpr (by omega)
  rw [gb_21_0, if_neg (by rw [z_lt, z_0]; omega), gb_21_11, if_neg (by rw [z_le, e96]; omega), gb_21_20, hg, eq_self, true_and, n1, gb_21_26, gb_21_30]
theorem m_isSame {r q : Nat} {a1 a2 : Int32} {x3 : Option gV} (h1 : a1.toInt = r) (hr : r < 16) (h2 : a2.toInt = q) (hq : q < 16) (K : ∀ x : Int32, (x = 0 ∨ x = 1) → (x = 1 ↔ ∀ k, k < 6 → I 39 c (6 * r + k) = I 39 c (6 * q + k)) → Q (some (.inl x)) (gwd S I J h)) : (gq (d + 1) 35 0 [some (.inr (.inr (some (34, c)))), some (.inl (a1)), some (.inl (a2)), x3] [] (gwd S I J h) Q) := by
  have e1 : (1 : Int32).toInt = 1 := rfl
  have e6 : (6 : Int32).toInt = 6 := rfl
  have loop : ∀ (m k : Nat) (a3 : Int32), k + m = 6 → a3.toInt = k → (∀ j, j < k → I 39 c (6 * r + j) = I 39 c (6 * q + j)) → (gq (d + 1) 35 2 [some (.inr (.inr (some (34, c)))), some (.inl (a1)), some (.inl (a2)), some (.inl (a3))] [] (gwd S I J h) Q) := by
    intro m
    induction m with
    | zero =>
      intro k a3 hk h3 hall
      rw [gb_35_2, if_pos (by rw [z_le]; omega), gb_35_31]
      exact K 1 (Or.inr rfl) ⟨fun _ j hj => hall j (by omega), fun _ => rfl⟩
    | succ m ih =>
      intro k a3 hk h3 hall
      rw [gb_35_2, if_neg (by rw [z_le]; omega), gb_35_8, m_letAt h1 hr h3 (by omega), Option.toList_some, List.singleton_append, gb_35_14, m_letAt h2 hq h3 (by omega), Option.toList_some, List.singleton_append, gb_35_20]
      by_cases w : I 39 c (6 * r + k) = I 39 c (6 * q + k)
      · rw [if_pos w, gb_35_25]
        exact ih (k + 1) _ (by omega) (by rw [z_add (by omega) (by omega), h3, e1]; rfl) fun j hj => by
          by_cases e : j = k
          · rw [e]; exact w
          · exact hall j (by omega)
      · rw [if_neg w, gb_35_23]
        exact K 0 (Or.inl rfl) ⟨fun e => absurd e (by decide), fun hh => absurd (hh k (by omega)) w⟩
  rw [gb_35_0]
  exact loop 6 0 _ rfl rfl (fun j hj => absurd hj (Nat.not_lt_zero _))
/-- the names that stand -/
def kNs (I : Nat → Nat → Nat → Int32) (c : Nat) (D : gCo) : Prop := (I 34 c 2).toInt = D.1 2 ∧ (I 34 c 3).toInt = D.1 3 ∧ (0 ≤ D.1 2 ∧ D.1 2 ≤ 8) ∧ (0 ≤ D.1 3 ∧ D.1 3 ≤ 8) ∧ (∀ i : Nat, (i : Int) < D.1 2 → ∀ k, k < 6 → (I 39 c (6 * i + k)).toInt = D.1 (100 + (6 * i + k))) ∧ (∀ i : Nat, (i : Int) < D.1 3 → ∀ k, k < 6 → (I 39 c (6 * (8 + i) + k)).toInt = D.1 (100 + (6 * (8 + i) + k)))
theorem m_isTaken {r : Nat} {a1 : Int32} {x2 x3 x4 : Option gV} {ltr : Nat → Int} (hD : kNs I c D) (h1 : a1.toInt = r) (hr : r < 16) (hL : ∀ k, k < 6 → (I 39 c (6 * r + k)).toInt = ltr k) (K : ∀ x : Int32, (x = 0 ∨ x = 1) → (x = 1 ↔ nTaken D ltr) → Q (some (.inl x)) (gwd S I J h)) : (gq (d + 2) 34 0 [some (.inr (.inr (some (34, c)))), some (.inl (a1)), x2, x3, x4] [] (gwd S I J h) Q) := by
  have e1 : (1 : Int32).toInt = 1 := rfl
  have e8 : (8 : Int32).toInt = 8 := rfl
  obtain ⟨d2, d3, r2, r3, dB, dH⟩ := hD
  have same1 : ∀ i : Nat, (i : Int) < D.1 2 → ((∀ k, k < 6 → I 39 c (6 * r + k) = I 39 c (6 * i + k)) ↔ nSame D ltr i) := fun i hi => ⟨fun hh k hk => by rw [← hL k hk, hh k hk, dB i hi k hk], fun hh k hk => z_inj (by rw [hL k hk, hh k hk, dB i hi k hk])⟩
  have same2 : ∀ i : Nat, (i : Int) < D.1 3 → ((∀ k, k < 6 → I 39 c (6 * r + k) = I 39 c (6 * (8 + i) + k)) ↔ nSame D ltr (8 + i)) := fun i hi => ⟨fun hh k hk => by rw [← hL k hk, hh k hk, dH i hi k hk], fun hh k hk => z_inj (by rw [hL k hk, hh k hk, dH i hi k hk])⟩
  have loop : ∀ (m i : Nat) (a2 : Int32) (x3 x4 : Option gV), i + m = 8 → a2.toInt = i → (∀ j, j < i → ¬ ((j : Int) < D.1 2 ∧ nSame D ltr j ∨ (j : Int) < D.1 3 ∧ nSame D ltr (8 + j))) → (gq (d + 2) 34 2 [some (.inr (.inr (some (34, c)))), some (.inl (a1)), some (.inl (a2)), x3, x4] [] (gwd S I J h) Q) := by
    intro m
    induction m with
    | zero =>
      intro i a2 x3 x4 hi h2 hno
      rw [gb_34_2, if_pos (by rw [z_le]; omega), gb_34_75]
      refine K 0 (Or.inl rfl) ⟨fun e => absurd e (by decide), fun hh => ?_⟩
      obtain ⟨j, hj, hq⟩ := hh
      exact absurd hq (hno j (by omega))
    | succ m ih =>
      intro i a2 x3 x4 hi h2 hno
      have q8 : (8 + a2).toInt = ((8 + i : Nat) : Int) := by rw [z_add (by omega) (by omega), e8, h2]; rfl
      -- the second half
      have second : ∀ v : Int32, (v = 0 ∨ v = 1) → (v = 1 ↔ (i : Int) < D.1 2 ∧ nSame D ltr i) → (gq (d + 2) 34 30 [some (.inr (.inr (some (34, c)))), some (.inl (a1)), some (.inl (a2)), x3, x4] [.inl (v)] (gwd S I J h) Q) := fun v hv hvi => by
        have last : ∀ u : Int32, (u = 0 ∨ u = 1) → (u = 1 ↔ (i : Int) < D.1 3 ∧ nSame D ltr (8 + i)) → (gq (d + 2) 34 56 [some (.inr (.inr (some (34, c)))), some (.inl (a1)), some (.inl (a2)), some (.inl (v)), x4] [.inl (u)] (gwd S I J h) Q) := fun u hu hui => by
          have yes : ((i : Int) < D.1 2 ∧ nSame D ltr i ∨ (i : Int) < D.1 3 ∧ nSame D ltr (8 + i)) → ∀ a4 : Int32, (gq (d + 2) 34 67 [some (.inr (.inr (some (34, c)))), some (.inl (a1)), some (.inl (a2)), some (.inl (v)), some (.inl (a4))] [] (gwd S I J h) Q) := fun hy a4 => by
            rw [gb_34_67]
            exact K 1 (Or.inr rfl) ⟨fun _ => ⟨i, by omega, hy⟩, fun _ => rfl⟩
          rw [gb_34_56]
          by_cases w1 : v = 0
          · rw [if_pos w1, gb_34_62]
            by_cases w2 : u = 0
            · rw [if_pos w2, gb_34_69]
              refine ih (i + 1) _ _ _ (by omega) (by rw [z_add (by omega) (by omega), h2, e1]; rfl) fun j hj => ?_
              by_cases e : j = i
              · rw [e]
                intro hq
                rcases hq with hq | hq
                · have := hvi.mpr hq; rw [w1] at this; exact absurd this (by decide)
                · have := hui.mpr hq; rw [w2] at this; exact absurd this (by decide)
              · exact hno j (by omega)
            · rw [if_neg w2]
              exact yes (Or.inr (hui.mp (by rcases hu with e | e; exact absurd e w2; exact e))) _
          · rw [if_neg w1]
            exact yes (Or.inl (hvi.mp (by rcases hv with e | e; exact absurd e w1; exact e))) _
        rw [gb_34_30, m_hasHouse, Option.toList_some, List.singleton_append, gb_34_36]
        by_cases w : (i : Int) < D.1 3
        · rw [if_neg (by rw [zb_0, d3, h2]; exact fun e => e (by omega)), gb_34_39]
          refine m_isSame h1 hr q8 (by omega) fun x hx0 hx => ?_
          rw [same2 i w] at hx
          rw [Option.toList_some, List.singleton_append, gb_34_48]
          by_cases w0 : x = 0
          · rw [if_pos w0, gb_34_55]
            exact last 0 (Or.inl rfl) ⟨fun e => absurd e (by decide), fun hq => by have := hx.mpr hq.2; rw [w0] at this; exact absurd this (by decide)⟩
          · rw [if_neg w0, gb_34_51]
            exact last 1 (Or.inr rfl) ⟨fun _ => ⟨w, hx.mp (by rcases hx0 with e | e; exact absurd e w0; exact e)⟩, fun _ => rfl⟩
        · rw [if_pos (by rw [zb_0, d3, h2]; omega), gb_34_55]
          exact last 0 (Or.inl rfl) ⟨fun e => absurd e (by decide), fun hq => absurd hq.1 w⟩
      rw [gb_34_2, if_neg (by rw [z_le]; omega), gb_34_8, m_hasBearer, Option.toList_some, List.singleton_append, gb_34_13]
      by_cases w : (i : Int) < D.1 2
      · rw [if_neg (by rw [zb_0, d2, h2]; exact fun e => e (by omega)), gb_34_16]
        refine m_isSame h1 hr h2 (by omega) fun x hx0 hx => ?_
        rw [same1 i w] at hx
        rw [Option.toList_some, List.singleton_append, gb_34_22]
        by_cases w0 : x = 0
        · rw [if_pos w0, gb_34_29]
          exact second 0 (Or.inl rfl) ⟨fun e => absurd e (by decide), fun hq => by have := hx.mpr hq.2; rw [w0] at this; exact absurd this (by decide)⟩
        · rw [if_neg w0, gb_34_25]
          exact second 1 (Or.inr rfl) ⟨fun _ => ⟨w, hx.mp (by rcases hx0 with e | e; exact absurd e w0; exact e)⟩, fun _ => rfl⟩
      · rw [if_pos (by rw [zb_0, d2, h2]; omega), gb_34_29]
        exact second 0 (Or.inl rfl) ⟨fun e => absurd e (by decide), fun hq => absurd hq.1 w⟩
  rw [gb_34_0]
  exact loop 8 0 _ _ _ rfl rfl (fun j hj => absurd hj (Nat.not_lt_zero _))
theorem m_readName {r : Nat} {a1 : Int32} (hx : kTx I tp n) (ht : kTk I tp n τ) (hD : kNs I c D) (h1 : a1.toInt = r) (hr : r < 16) (hB : D.1 2 ≤ r) (hH : ¬ (8 ≤ r ∧ (r : Int) < 8 + D.1 3)) (hBH : r < 8 ∨ D.1 3 + 8 = r)
    (K : ∀ (I' : Nat → Nat → Nat → Int32), (∀ k i j, ¬ ((k = 11 ∧ i = 0 ∧ (j = 2 ∨ j = 3 ∨ j = 4 ∨ j = 5 ∨ j = 6 ∨ j = 7)) ∨ (k = 39 ∧ i = c)) → I' k i j = I k i j) → kTk I' tp n (lNmT tp n D τ) → (∀ j, ¬ (6 * r ≤ j ∧ j < 6 * r + 6) → I' 39 c j = I 39 c j) → (∀ s g q, τ = .inr (s, g) → lNmT tp n D τ = .inr q → ∀ k, k < 6 → (I' 39 c (6 * r + k)).toInt = cLet tp s (lEn tp n s) k) → Q none (gwd S I' J h)) : (gq (d + 7) 32 0 [some (.inr (.inr (some (34, c)))), some (.inl (a1))] [] (gwd S I J h) Q) := by
  have e27 : (27 : Int32).toInt = 27 := rfl
  have e6 : (6 : Int32).toInt = 6 := rfl
  rw [gb_32_0, gb_32_9]
  match τ, ht, K with
  | .inl b, ht, K =>
    rw [if_neg (kKindB ht i8_2 (by decide)), gb_32_34]
    refine m_failH ht rfl (by decide) fun I1 hF1 ht1 => ?_
    rw [Option.toList_none, List.nil_append, gb_32_42, gb_32_114]
    exact K I1 (fun k i j hn => hF1 _ _ _ (by omega)) ht1 (fun j _ => hF1 _ _ _ (by omega)) (fun s g q e => by cases e)
  | .inr (s, g), ht, K =>
    have hN : lNmT tp n D (.inr (s, g)) = if lKd tp n s g ≠ -2 ∨ (0 ≤ wHere tp n s ∧ wHere tp n s < 27) then .inl (1, (s : Int)) else if 6 < lEn tp n s - s then .inl (1, (s : Int) + 6) else if nTkb D (cLet tp s (lEn tp n s)) = true then .inl (3, (s : Int)) else .inr (lNx tp n s g) := rfl
    have hsn := ht.2.2.2.2.2.1
    have her := lEn_r (tp := tp) hsn
    have hn := hx.2.2.1
    have bad : (lKd tp n s g ≠ -2 ∨ (0 ≤ wHere tp n s ∧ wHere tp n s < 27)) → (gq (d + 7) 32 34 [some (.inr (.inr (some (34, c)))), some (.inl (a1))] [] (gwd S I J h) Q) := fun hb => by
      rw [if_pos hb] at hN
      rw [gb_32_34]
      refine m_failH ht rfl (by decide) fun I1 hF1 ht1 => ?_
      rw [Option.toList_none, List.nil_append, gb_32_42, gb_32_114]
      exact K I1 (fun k i j hn => hF1 _ _ _ (by omega)) (by rw [hN]; exact ht1) (fun j _ => hF1 _ _ _ (by omega)) (fun s g q e e2 => by rw [hN] at e2; cases e2)
    by_cases w1 : lKd tp n s g = -2
    case neg =>
      rw [if_neg (fun e => w1 ((kKind ht i8_2).mp e))]; exact bad (Or.inl w1)
    have hll := ((lKd_word hx.2.2.2.1).mp w1).1
    have hv : (I 11 0 5).toInt = wHere tp n s := ht.2.2.2.2.2.2.1 hll
    rw [if_pos ((kKind ht i8_2).mpr w1), gb_32_12]
    have good : ¬ (0 ≤ wHere tp n s ∧ wHere tp n s < 27) → (gq (d + 7) 32 45 [some (.inr (.inr (some (34, c)))), some (.inl (a1))] [] (gwd S I J h) Q) := fun hw => by
      rw [if_neg (fun q => by rcases q with q | q; exact q w1; exact hw q)] at hN
      have q : (I 11 0 4 - I 11 0 3).toInt = ((lEn tp n s - s : Nat) : Int) := by rw [z_sub (by rw [ht.2.2.1, ht.2.1]; omega) (by rw [ht.2.2.1, ht.2.1]; omega), ht.2.2.1, ht.2.1]; omega
      rw [gb_32_45]
      by_cases w2 : 6 < lEn tp n s - s
      · rw [if_pos w2] at hN
        rw [if_neg (by rw [z_le, q, e6]; omega), gb_32_65]
        refine m_fail (f := 1) (p := s + 6) ht rfl (by decide) (by rw [z_add (by rw [ht.2.1]; omega) (by rw [ht.2.1]; omega), ht.2.1, e6]) fun I1 hF1 ht1 => ?_
        rw [Option.toList_none, List.nil_append, gb_32_83, gb_32_114]
        exact K I1 (fun k i j hn => hF1 _ _ _ (by omega)) (by rw [hN]; exact ht1) (fun j _ => hF1 _ _ _ (by omega)) (fun s g q e e2 => by rw [hN] at e2; cases e2)
      rw [if_neg w2] at hN
      rw [if_pos (by rw [z_le, q, e6]; omega), gb_32_86]
      refine m_writeName hx ht hll h1 hr fun I1 hF1 hL1 hO1 => ?_
      have hx1 : kTx I1 tp n := kTx_congr hx (fun j => hF1 _ _ _ (by omega)) (hF1 _ _ _ (by omega)) (fun j => hF1 _ _ _ (by omega))
      have ht1 : kTk I1 tp n (.inr (s, g)) := kTk_congr ht (fun j _ _ => hF1 _ _ _ (by omega))
      have hD1 : kNs I1 c D := by
        obtain ⟨d2, d3, r2, r3, dB, dH⟩ := hD
        exact ⟨by rw [hF1 _ _ _ (by omega)]; exact d2, by rw [hF1 _ _ _ (by omega)]; exact d3, r2, r3, fun i hi k hk => by rw [hO1 _ (by omega)]; exact dB i hi k hk, fun i hi k hk => by rw [hO1 _ (by omega)]; exact dH i hi k hk⟩
      rw [Option.toList_none, List.nil_append, gb_32_91]
      refine m_isTaken (ltr := cLet tp s (lEn tp n s)) hD1 h1 hr hL1 fun x hx0 hxt => ?_
      rw [Option.toList_some, List.singleton_append, gb_32_96]
      by_cases w3 : x = 0
      · have hnt : ¬ nTkb D (cLet tp s (lEn tp n s)) = true := fun q => by
          have := hxt.mpr (nTkb_iff.mp q); rw [w3] at this; exact absurd this (by decide)
        rw [if_neg hnt] at hN
        rw [if_pos w3, gb_32_107]
        refine m_nextT hx1 ht1 fun I2 hF2 ht2 => ?_
        rw [Option.toList_none, List.nil_append, gb_32_114]
        refine K I2 (fun k i j hn => by rw [hF2 _ _ _ (by omega), hF1 _ _ _ (by omega)]) (by rw [hN]; exact ht2) (fun j hj => by rw [hF2 _ _ _ (by omega)]; exact hO1 j hj) (fun s2 g2 q2 e e2 k hk => ?_)
        injection e with e; injection e with e1 e2'
        subst e1
        rw [hF2 _ _ _ (by omega)]; exact hL1 k hk
      · have hnt : nTkb D (cLet tp s (lEn tp n s)) = true := nTkb_iff.mpr (hxt.mp (by rcases hx0 with e | e; exact absurd e w3; exact e))
        rw [if_pos hnt] at hN
        rw [if_neg w3, gb_32_99]
        refine m_failH ht1 rfl (by decide) fun I2 hF2 ht2 => ?_
        rw [Option.toList_none, List.nil_append, gb_32_107]
        refine m_nextB (tp := tp) (n := n) (b := (3, (s : Int))) ht2 ?_
        rw [Option.toList_none, List.nil_append, gb_32_114]
        exact K I2 (fun k i j hn => by rw [hF2 _ _ _ (by omega), hF1 _ _ _ (by omega)]) (by rw [hN]; exact ht2) (fun j hj => by rw [hF2 _ _ _ (by omega)]; exact hO1 j hj) (fun s g q e e2 => by rw [hN] at e2; cases e2)
    by_cases w0 : wHere tp n s < 0
    · rw [if_pos (by rw [z_lt, z_0]; omega)]; exact good (fun q => by omega)
    · rw [if_neg (by rw [z_lt, z_0]; omega), gb_32_22]
      by_cases w2 : 27 ≤ wHere tp n s
      · rw [if_pos (by rw [z_le]; omega)]; exact good (fun q => by omega)
      · rw [if_neg (by rw [z_le]; omega)]; exact bad (Or.inr ⟨by omega, by omega⟩)
