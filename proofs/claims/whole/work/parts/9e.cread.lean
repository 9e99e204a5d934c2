/-! The class reads all statements of a course; what isn't told. -/
variable {d S : Nat} {h : Nat × Option gNm} {I : Nat → Nat → Nat → Int32} {J : Nat → Nat → Nat → Int64} {Q : Option gV → gW → Prop}
variable {tp : Nat → Int} {n s c : Nat} {g : Bool} {D : gCo} {τ : lT}
theorem kWd_FC {I I' : Nat → Nat → Nat → Int32} (h : kWd I) (hF : FC c I I') : kWd I' := fun f hf => by rw [hF _ _ _ (by omega)]; exact h f hf
theorem m_stats : ∀ (m : Nat) (τ : lT) (D : gCo) (I : Nat → Nat → Nat → Int32) (x1 x2 x3 : Option gV), kTx I tp n → kWd I → kTk I tp n τ → m ≤ 59 → (∀ q, τ = .inr q → kPc I c D q.1 ∧ D.1 0 = 60 - m) → (∀ (I' : Nat → Nat → Nat → Int32) x1 x2 x3, FC c I I' → kTk I' tp n (nLp tp n m τ D).1 → (∀ q, (nLp tp n m τ D).1 = .inr q → kPc I' c (nLp tp n m τ D).2 q.1) → (gq (d + 80) 24 322 [some (.inr (.inr (some (34, c)))), x1, x2, x3] [] (gwd S I' J h) Q)) → (gq (d + 80) 24 48 [some (.inr (.inr (some (34, c)))), x1, x2, x3] [] (gwd S I J h) Q)
  | m, .inl b, D, I, x1, x2, x3, hx, hw, ht, hm, hP, K => by
    have e : nLp tp n m (.inl b) D = (.inl b, D) := by cases m <;> rfl
    rw [e] at K
    have out : (gq (d + 80) 24 307 [some (.inr (.inr (some (34, c)))), x1, x2, x3] [] (gwd S I J h) Q) := by
      rw [gb_24_307, m_goesOn hx ht, Option.toList_some, List.singleton_append, gb_24_311, if_pos rfl]
      exact K I _ _ _ FC_refl ht (fun q e => by cases e)
    rw [gb_24_48]
    by_cases w : 60 ≤ I 34 c 0
    · rw [if_pos w]; exact out
    · rw [if_neg w, gb_24_57, m_goesOn hx ht, Option.toList_some, List.singleton_append, gb_24_61, if_pos rfl]; exact out
  | 0, .inr (s, g), D, I, x1, x2, x3, hx, hw, ht, hm, hP, K => by
    obtain ⟨p, h60⟩ := hP _ rfl
    have e60 : (60 : Int32).toInt = 60 := rfl
    have e : nLp tp n 0 (.inr (s, g)) D = (if s < n then .inl (5, (s : Int)) else .inr (s, g), D) := rfl
    rw [gb_24_48, if_pos (by rw [z_le, p.2.1.1, h60, e60]; decide), gb_24_307, m_goesOn hx ht, Option.toList_some, List.singleton_append, gb_24_311]
    rw [e] at K
    by_cases w : s < n
    · rw [if_pos w] at K
      show if (if s < n then (1 : Int32) else 0) = 0 then _ else _
      rw [if_pos w, if_neg (by decide), gb_24_314]
      refine m_failH ht rfl (by decide) fun I1 hF1 ht1 => ?_
      rw [Option.toList_none, List.nil_append]
      exact K I1 _ _ _ (fun k i j hn => hF1 _ _ _ (by omega)) ht1 (fun q e => by cases e)
    · rw [if_neg w] at K
      show if (if s < n then (1 : Int32) else 0) = 0 then _ else _
      rw [if_neg w, if_pos rfl]
      exact K I _ _ _ FC_refl ht (fun q e => by injection e with e; rw [← e]; exact p)
  | m + 1, .inr (s, g), D, I, x1, x2, x3, hx, hw, ht, hm, hP, K => by
    obtain ⟨p, h60⟩ := hP _ rfl
    have e60 : (60 : Int32).toInt = 60 := rfl
    have p0 := p.2.1.1
    have e : nLp tp n (m + 1) (.inr (s, g)) D = if s < n then nLp tp n m (nSt tp n D s g).1 (dUp (nSt tp n D s g).2 0 (D.1 0 + 1)) else (.inr (s, g), D) := rfl
    rw [e] at K
    rw [gb_24_48, if_neg (by rw [z_le]; omega), gb_24_57, m_goesOn hx ht, Option.toList_some, List.singleton_append, gb_24_61]
    by_cases w : s < n
    · rw [if_pos w] at K
      show if (if s < n then (1 : Int32) else 0) = 0 then _ else _
      rw [if_pos w, if_neg (by decide)]
      refine m_stat hx hw ht w p (by omega) fun I1 y1 y2 y3 hF1 ht1 h0 hP1 => ?_
      refine m_stats m _ _ I1 y1 y2 y3 (kTx_FC hx hF1) (kWd_FC hw hF1) ht1 (by omega) (fun q eq => ⟨hP1 q eq, ?_⟩) fun I2 z1 z2 z3 hF2 ht2 hP2 => K I2 z1 z2 z3 (FC_trans hF1 hF2) ht2 hP2
      show D.1 0 + 1 = 60 - (m : Int)
      omega
    · rw [if_neg w] at K
      show if (if s < n then (1 : Int32) else 0) = 0 then _ else _
      rw [if_neg w, if_pos rfl, gb_24_307, m_goesOn hx ht, Option.toList_some, List.singleton_append, gb_24_311]
      show if (if s < n then (1 : Int32) else 0) = 0 then _ else _
      rw [if_neg w, if_pos rfl]
      exact K I _ _ _ FC_refl ht (fun q e => by injection e with e; rw [← e]; exact p)
/-- behind a fault, what isn't told is put all the same -/
theorem m_defB : ∀ (m f : Nat) (I : Nat → Nat → Nat → Int32) (a1 : Int32), f + m = 3 → a1.toInt = f → (∀ (I' : Nat → Nat → Nat → Int32), (∀ k i j, ¬ ((k = 14 ∧ i = c ∧ j = 2) ∨ (k = 15 ∧ i = c) ∨ (k = 40 ∧ i = c) ∨ (k = 41 ∧ i = c)) → I' k i j = I k i j) → Q none (gwd S I' J h)) → (gq (d + 4) 36 2 [some (.inr (.inr (some (34, c)))), some (.inl (a1))] [] (gwd S I J h) Q)
  | 0, f, I, a1, hf, h1, K => by
    have e3 : (3 : Int32).toInt = 3 := rfl
    rw [gb_36_2, if_pos (by rw [z_le]; omega), gb_36_98]
    exact K I (fun _ _ _ _ => rfl)
  | m + 1, f, I, a1, hf, h1, K => by
    have e3 : (3 : Int32).toInt = 3 := rfl
    have e1 : (1 : Int32).toInt = 1 := rfl
    have nx : ∀ I1, (∀ k i j, ¬ ((k = 14 ∧ i = c ∧ j = 2) ∨ (k = 15 ∧ i = c) ∨ (k = 40 ∧ i = c) ∨ (k = 41 ∧ i = c)) → I1 k i j = I k i j) → (gq (d + 4) 36 92 [some (.inr (.inr (some (34, c)))), some (.inl (a1))] [] (gwd S I1 J h) Q) := fun I1 hF1 => by
      rw [gb_36_92]
      exact m_defB m (f + 1) I1 _ (by omega) (by rw [z_add (by omega) (by omega), h1, e1]; rfl) fun I2 hF2 => K I2 (fun k i j hn => by rw [hF2 _ _ _ hn, hF1 _ _ _ hn])
    have en : ∀ I1, (∀ k i j, ¬ ((k = 14 ∧ i = c ∧ j = 2) ∨ (k = 15 ∧ i = c) ∨ (k = 40 ∧ i = c) ∨ (k = 41 ∧ i = c)) → I1 k i j = I k i j) → (gq (d + 4) 36 79 [some (.inr (.inr (some (34, c)))), some (.inl (a1))] [] (gwd S I1 J h) Q) := fun I1 hF1 => by
      rw [gb_36_79]
      refine ⟨g_in.mpr (by omega), ?_⟩
      exact nx _ (fun k i j hn => by rw [u_ne (by rw [z_n, h1]; omega), hF1 _ _ _ hn])
    rw [gb_36_2, if_neg (by rw [z_le]; omega), gb_36_7]
    refine ⟨g_in.mpr (by omega), ?_⟩
    rw [gb_36_13]
    split
    · rw [gb_36_16]
      refine ⟨g_in.mpr (by omega), ?_⟩
      have hF0 : (∀ k i j, ¬ ((k = 14 ∧ i = c ∧ j = 2) ∨ (k = 15 ∧ i = c) ∨ (k = 40 ∧ i = c) ∨ (k = 41 ∧ i = c)) → gup I 40 c a1.toNatClampNeg (I 14 c 2) k i j = I k i j) := fun k i j hn => u_ne (by rw [z_n, h1]; omega)
      generalize gup I 40 c a1.toNatClampNeg (I 14 c 2) = I0 at hF0
      rw [gb_36_29]
      split
      · rw [gb_36_34]
        refine m_putDB fun I1 hF1 => ?_
        rw [Option.toList_none, List.nil_append, gb_36_42]
        refine m_putDB fun I2 hF2 => ?_
        rw [Option.toList_none, List.nil_append, gb_36_50]
        refine m_putDB fun I3 hF3 => ?_
        rw [Option.toList_none, List.nil_append, gb_36_59]
        exact en I3 (fun k i j hn => by rw [hF3 _ _ _ (by omega), hF2 _ _ _ (by omega), hF1 _ _ _ (by omega), hF0 _ _ _ hn])
      · rw [gb_36_62]
        split
        · rw [gb_36_71, gb_36_76]
          refine m_putB fun I1 hF1 => ?_
          rw [Option.toList_none, List.nil_append]
          exact en I1 (fun k i j hn => by rw [hF1 _ _ _ (by omega), hF0 _ _ _ hn])
        · rw [gb_36_75, gb_36_76]
          refine m_putB fun I1 hF1 => ?_
          rw [Option.toList_none, List.nil_append]
          exact en I1 (fun k i j hn => by rw [hF1 _ _ _ (by omega), hF0 _ _ _ hn])
    · exact nx I (fun _ _ _ _ => rfl)
/-- a formula as it stands behind the text -/
def dDef (D : gCo) (f : Nat) : List Int := if D.1 (50 + f) = 1 then D.2 f else gDef f
def kSz (I : Nat → Nat → Nat → Int32) (c z f : Nat) (l : List Int) : Prop := ∃ b : Nat, (I 40 c f).toInt = b ∧ (I 41 c f).toInt = b + l.length ∧ b + l.length ≤ z ∧ gCd (I 15 c) id b l
theorem kSz_congr {I I' : Nat → Nat → Nat → Int32} {z z' f : Nat} {l : List Int} (h : kSz I c z f l) (e1 : I' 40 c f = I 40 c f) (e2 : I' 41 c f = I 41 c f) (e3 : ∀ j, j < z → I' 15 c j = I 15 c j) (hz : z ≤ z') : kSz I' c z' f l := by
  obtain ⟨b, h1, h2, h3, h4⟩ := h
  exact ⟨b, by rw [e1]; exact h1, by rw [e2]; exact h2, by omega, gCd_congr (fun k a b => e3 k (by omega)) h4⟩
theorem m_putN {z : Nat} {a1 : Int32} (hz : (I 14 c 2).toInt = z) (hl : z < 1600) (K : ∀ (I' : Nat → Nat → Nat → Int32), (∀ k i j, ¬ ((k = 14 ∧ i = c ∧ j = 2) ∨ (k = 15 ∧ i = c)) → I' k i j = I k i j) → (I' 14 c 2).toInt = ((z + 1 : Nat) : Int) → (∀ j, j < z → I' 15 c j = I 15 c j) → I' 15 c z = a1 → Q none (gwd S I' J h)) : (gq d 79 0 [some (.inr (.inr (some (14, c)))), some (.inl (a1))] [] (gwd S I J h) Q) := by
  have e1 : (1 : Int32).toInt = 1 := rfl
  rw [m_put hz hl]
  exact K _ (fun k i j hn => by rw [u_ne (by omega), u_ne (by omega)]) (by rw [u_eq, z_add (by omega) (by omega), hz, e1]; rfl) (fun j hj => by rw [u_k (by decide), u_j (by omega)]) (by rw [u_k (by decide), u_eq])
theorem m_defs {z0 : Nat} (h0 : z0 + 8 ≤ 1600) : ∀ (m f z : Nat) (I : Nat → Nat → Nat → Int32) (a1 : Int32), f + m = 3 → a1.toInt = f → (I 14 c 2).toInt = z → z0 ≤ z → z ≤ z0 + (if f = 0 then 0 else if f = 1 then 1 else 4) + (if f = 3 then 1 else 0) → (∀ j, j < f → kSz I c z j (dDef D j)) → (∀ j, f ≤ j → j < 3 → kFz I c D z0 j) → (∀ (I' : Nat → Nat → Nat → Int32), (∀ k i j, ¬ ((k = 14 ∧ i = c ∧ j = 2) ∨ (k = 15 ∧ i = c) ∨ (k = 40 ∧ i = c) ∨ (k = 41 ∧ i = c)) → I' k i j = I k i j) → (∀ j, j < 3 → kSl I' c j (dDef D j)) → Q none (gwd S I' J h)) → (gq (d + 4) 36 2 [some (.inr (.inr (some (34, c)))), some (.inl (a1))] [] (gwd S I J h) Q)
  | 0, f, z, I, a1, hf, h1, hz, hz0, hzm, hdone, hto, K => by
    have e3 : (3 : Int32).toInt = 3 := rfl
    rw [gb_36_2, if_pos (by rw [z_le]; omega), gb_36_98]
    refine K I (fun _ _ _ _ => rfl) fun j hj => ?_
    obtain ⟨b, q1, q2, q3, q4⟩ := hdone j (by omega)
    have : z ≤ 1600 := by (repeat' split at hzm) <;> omega
    exact ⟨b, q1, q2, by omega, q4⟩
  | m + 1, f, z, I, a1, hf, h1, hz, hz0, hzm, hdone, hto, K => by
    have e3 : (3 : Int32).toInt = 3 := rfl
    have e1 : (1 : Int32).toInt = 1 := rfl
    have n1 : a1.toNatClampNeg = f := by rw [z_n, h1]; rfl
    have hzl : z + 4 ≤ 1600 := by rw [if_neg (show ¬ f = 3 by omega)] at hzm; (repeat' split at hzm) <;> omega
    have nx : ∀ (I1 : Nat → Nat → Nat → Int32) (z1 : Nat), (∀ k i j, ¬ ((k = 14 ∧ i = c ∧ j = 2) ∨ (k = 15 ∧ i = c) ∨ (k = 40 ∧ i = c) ∨ (k = 41 ∧ i = c)) → I1 k i j = I k i j) → (I1 14 c 2).toInt = z1 → z ≤ z1 → z1 ≤ z + (if f = 1 then 3 else 1) → (∀ j, j < f + 1 → kSz I1 c z1 j (dDef D j)) → (∀ j, f + 1 ≤ j → j < 3 → kFz I1 c D z0 j) → (gq (d + 4) 36 92 [some (.inr (.inr (some (34, c)))), some (.inl (a1))] [] (gwd S I1 J h) Q) := fun I1 z1 hF1 hz1 hle hle2 hd hk => by
      rw [gb_36_92]
      refine m_defs h0 m (f + 1) z1 I1 _ (by omega) (by rw [z_add (by omega) (by omega), h1, e1]; rfl) hz1 (by omega) ?_ hd hk fun I2 hF2 hS => K I2 (fun k i j hn => by rw [hF2 _ _ _ hn, hF1 _ _ _ hn]) hS
      have ef : f = 0 ∨ f = 1 ∨ f = 2 := by omega
      rcases ef with rfl | rfl | rfl <;> simp at hzm hle2 ⊢ <;> omega
    rw [gb_36_2, if_neg (by rw [z_le]; omega), gb_36_7]
    refine ⟨g_in.mpr (by omega), ?_⟩
    rw [n1, gb_36_13]
    rcases hto f (Nat.le_refl _) (by omega) with ⟨q0, b0, q1, q2, q3, q4, q5⟩ | ⟨q0, q1⟩
    · have hdd : dDef D f = D.2 f := if_pos q0
      rw [if_neg (fun e => by rw [e, z_0] at q2; omega)]
      refine nx I z (fun _ _ _ _ => rfl) hz (Nat.le_refl _) (by omega) (fun j hj => ?_) (fun j hj hj3 => hto j (by omega) hj3)
      by_cases ej : j = f
      · rw [ej, hdd]; exact ⟨b0, q1, q2, by omega, q5⟩
      · exact hdone j (by omega)
    · have hdd : dDef D f = gDef f := if_neg (by omega)
      rw [if_pos (z_inj (by rw [q1, z_0])), gb_36_16]
      refine ⟨g_in.mpr (by omega), ?_⟩
      rw [n1]
      have hF0 : (∀ k i j, ¬ ((k = 40 ∧ i = c ∧ j = f)) → gup I 40 c f (I 14 c 2) k i j = I k i j) := fun k i j hn => u_ne (by omega)
      have h40 : gup I 40 c f (I 14 c 2) 40 c f = I 14 c 2 := u_eq
      generalize gup I 40 c f (I 14 c 2) = I0 at hF0 h40
      have hz00 : (I0 14 c 2).toInt = z := by rw [hF0 _ _ _ (by omega)]; exact hz
      -- behind the codes
      have en : ∀ (I1 : Nat → Nat → Nat → Int32) (z1 : Nat), (∀ k i j, ¬ ((k = 14 ∧ i = c ∧ j = 2) ∨ (k = 15 ∧ i = c)) → I1 k i j = I0 k i j) → (I1 14 c 2).toInt = z1 → z1 = z + (gDef f).length → (∀ j, j < z → I1 15 c j = I0 15 c j) → gCd (I1 15 c) id z (gDef f) → z1 ≤ z + (if f = 1 then 3 else 1) → (gq (d + 4) 36 79 [some (.inr (.inr (some (34, c)))), some (.inl (a1))] [] (gwd S I1 J h) Q) := fun I1 z1 hF1 hz1 hzl hO hc hle => by
        rw [gb_36_79]
        refine ⟨g_in.mpr (by omega), ?_⟩
        rw [n1]
        have hFF : (∀ k i j, ¬ ((k = 14 ∧ i = c ∧ j = 2) ∨ (k = 15 ∧ i = c) ∨ (k = 40 ∧ i = c ∧ j = f) ∨ (k = 41 ∧ i = c ∧ j = f)) → gup I1 41 c f (I1 14 c 2) k i j = I k i j) := fun k i j hn => by rw [u_ne (by omega), hF1 _ _ _ (by omega), hF0 _ _ _ (by omega)]
        refine nx _ z1 (fun k i j hn => hFF _ _ _ (by omega)) (by rw [u_k (by decide)]; exact hz1) (by omega) hle (fun j hj => ?_) (fun j hj hj3 => ?_)
        · by_cases ej : j = f
          · rw [ej, hdd]
            exact ⟨z, by rw [u_k (by decide), hF1 _ _ _ (by omega), h40]; exact hz, by rw [u_eq, hz1, hzl]; omega, by omega, gCd_congr (fun k _ _ => u_k (by decide)) hc⟩
          · exact kSz_congr (hdone j (by omega)) (hFF _ _ _ (by omega)) (hFF _ _ _ (by omega)) (fun k hk => by rw [u_k (by decide), hO k hk, hF0 _ _ _ (by omega)]) (by omega)
        · exact kFz_congr (hto j (by omega) hj3) (hFF _ _ _ (by omega)) (hFF _ _ _ (by omega)) (fun k hk => by rw [u_k (by decide), hO k (by omega), hF0 _ _ _ (by omega)]) (Nat.le_refl _) rfl rfl
      rw [gb_36_29]
      by_cases f1 : f = 1
      · subst f1
        rw [if_pos (z_inj (by rw [h1]; rfl)), gb_36_34]
        refine m_putD (z := z) (w := 2) hz00 (by omega) rfl (by decide) fun I1 hF1 r1 r2 r3 => ?_
        rw [Option.toList_none, List.nil_append, gb_36_42]
        refine m_putD (z := z + 1) (w := 3) r1 (by omega) rfl (by decide) fun I2 hF2 s1 s2 s3 => ?_
        rw [Option.toList_none, List.nil_append, gb_36_50]
        refine m_putD (z := z + 1 + 1) (w := 45) s1 (by omega) rfl (by decide) fun I3 hF3 t1 t2 t3 => ?_
        rw [Option.toList_none, List.nil_append, gb_36_59]
        refine en I3 (z + 1 + 1 + 1) (fun k i j hn => by rw [hF3 _ _ _ hn, hF2 _ _ _ hn, hF1 _ _ _ hn]) t1 rfl (fun j hj => by rw [t2 j (by omega), s2 j (by omega), r2 j hj]) ⟨?_, ?_, ?_, trivial⟩ (by (repeat' split) <;> omega)
        · rw [t2 _ (by omega), s2 _ (by omega), r3]; rfl
        · rw [t2 _ (by omega), s3]; rfl
        · rw [t3]; rfl
      · rw [if_neg (fun e => f1 (by have := congrArg Int32.toInt e; omega)), gb_36_62]
        have ef : f = 0 ∨ f = 2 := by omega
        rcases ef with rfl | rfl
        · have e2 : (2 : Int32).toInt = 2 := rfl
          rw [if_neg (fun e => by have := congrArg Int32.toInt e; omega), gb_36_75, gb_36_76]
          refine m_putN (z := z) hz00 (by omega) fun I1 hF1 r1 r2 r3 => ?_
          rw [Option.toList_none, List.nil_append]
          exact en I1 (z + 1) hF1 r1 rfl r2 ⟨by rw [r3]; rfl, trivial⟩ (by (repeat' split) <;> omega)
        · rw [if_pos (z_inj (by rw [h1]; rfl)), gb_36_71, gb_36_76]
          refine m_putN (z := z) hz00 (by omega) fun I1 hF1 r1 r2 r3 => ?_
          rw [Option.toList_none, List.nil_append]
          exact en I1 (z + 1) hF1 r1 rfl r2 ⟨by rw [r3]; rfl, trivial⟩ (by (repeat' split) <;> omega)
