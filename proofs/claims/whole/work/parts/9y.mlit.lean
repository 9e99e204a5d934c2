/-! The model: how light it is at each house in each hour; what a question's words ask. -/
/-- light laid by hours of houses, as far as a place -/
def mLit (I : Nat → Nat → Nat → Int32) (C : gCo) (N : Nat) : Prop := ∀ p, p < N → (I 63 0 p).toInt = gLight (C.2 0) (C.1 (30 + p / 1000)) ((p % 1000 : Nat) : Int)
def FLt (I I' : Nat → Nat → Nat → Int32) : Prop := ∀ k i j, ¬ (k = 50 ∧ i = 0 ∧ (j = 49 ∨ j = 52 ∨ j = 53 ∨ j = 105) ∨ k = 63 ∧ i = 0) → I' k i j = I k i j
theorem FLt_refl {I : Nat → Nat → Nat → Int32} : FLt I I := fun _ _ _ _ => rfl
theorem FLt_trans {I I' I'' : Nat → Nat → Nat → Int32} (h1 : FLt I I') (h2 : FLt I' I'') : FLt I I'' := fun k i j hn => by rw [h2 _ _ _ hn, h1 _ _ _ hn]
theorem mCo_FLt {I I' : Nat → Nat → Nat → Int32} {C : gCo} (hC : mCo I C) (hF : FLt I I') : mCo I' C := mCo_congr hC fun k j hk => hF _ _ _ (by omega)
variable {d S : Nat} {h : Nat × Option gNm} {I : Nat → Nat → Nat → Int32} {J : Nat → Nat → Nat → Int64} {Q : Option gV → gW → Prop}
theorem n_lit_in {u : Nat} {C : gCo} {a1 : Int32} (hc : cOk C) (hu : (u : Int) < C.1 3) (h1 : a1.toInt = u) : ∀ (n k : Nat) (I : Nat → Nat → Nat → Int32) (J : Nat → Nat → Nat → Int64) (a2 : Int32), k + n = 1000 → a2.toInt = k → mCo I C → mLit I C (1000 * u + k) →
    (∀ (I' : Nat → Nat → Nat → Int32) (J' : Nat → Nat → Nat → Int64) (a2 : Int32), FLt I I' → FJ J J' → mLit I' C (1000 * (u + 1)) → (gq (d + 4) 197 47 [some (.inr (.inr (some (50, 0)))), some (.inl (a1)), some (.inl (a2))] [] (gwd S I' J' h) Q)) → (gq (d + 4) 197 12 [some (.inr (.inr (some (50, 0)))), some (.inl (a1)), some (.inl (a2))] [] (gwd S I J h) Q)
  | 0, k, I, J, a2, hk, h2, hC, hL, K => by
    have e9 : (999 : Int32).toInt = 999 := rfl
    rw [gb_197_12, if_pos (by rw [z_lt]; omega)]
    exact K I J a2 FLt_refl FJ_refl (fun p hp => hL p (by omega))
  | n + 1, k, I, J, a2, hk, h2, hC, hL, K => by
    have e9 : (999 : Int32).toInt = 999 := rfl
    have e1 : (1 : Int32).toInt = 1 := rfl
    have e1000 : (1000 : Int32).toInt = 1000 := rfl
    have r1 := hc.2.1
    have r3 := hc.2.2.2.1
    have hm := hC.2.2.1 u hu
    have rh := hc.2.2.2.2.2.2.2.1 u hu
    have em : (1000 * a1).toInt = 1000 * (u : Int) := by rw [z_mul (by rw [h1, e1000]; omega) (by rw [h1, e1000]; omega), h1, e1000]
    have ep : (1000 * a1 + a2).toInt = ((1000 * u + k : Nat) : Int) := by rw [z_add (by omega) (by omega), em, h2]; omega
    have en : (1000 * a1 + a2).toNatClampNeg = 1000 * u + k := by rw [z_n, ep]; rfl
    rw [gb_197_12, if_neg (by rw [z_lt]; omega), gb_197_19, n_houseMile h1 (by omega), Option.toList_some, List.singleton_append, gb_197_36]
    refine n_lightAt hc hC (by rw [hm.1]; omega) (by omega) fun I1 J1 x hF1 hJ1 hx => ?_
    rw [Option.toList_some, List.singleton_append, gb_197_40]
    refine ⟨g_in.mpr (by rw [ep]; omega), ?_⟩
    rw [en, gb_197_41]
    generalize hI2 : gup I1 63 0 (1000 * u + k) x = I2
    have hF2 : FLt I I2 := fun k i j hn => by rw [← hI2, u_ne (by omega), hF1 _ _ _ (by omega)]
    refine n_lit_in hc hu h1 n (k + 1) I2 J1 (a2 + 1) (by omega) (by rw [z_add (by omega) (by omega), h2, e1]; rfl) (mCo_FLt hC hF2) (fun p hp => ?_) fun I' J' b hF' hJ' hL' => K I' J' b (FLt_trans hF2 hF') (FJ_trans hJ1 hJ') hL'
    by_cases e : p = 1000 * u + k
    · have q1 : (1000 * u + k) / 1000 = u := by omega
      have q2 : (1000 * u + k) % 1000 = k := by omega
      rw [e, q1, q2, ← hI2, u_eq, hx, hm.1, h2]
    · rw [← hI2, u_j e, hF1 _ _ _ (by omega)]
      exact hL p (by omega)
theorem n_lit_out {C : gCo} {H : Nat} (hc : cOk C) (hH : C.1 3 = H) : ∀ (n u : Nat) (I : Nat → Nat → Nat → Int32) (J : Nat → Nat → Nat → Int64) (a1 : Int32) (x2 : Option gV), u + n = H → a1.toInt = u → mCo I C → mLit I C (1000 * u) →
    (∀ (I' : Nat → Nat → Nat → Int32) (J' : Nat → Nat → Nat → Int64), FLt I I' → FJ J J' → mLit I' C (1000 * H) → Q none (gwd S I' J' h)) → (gq (d + 4) 197 2 [some (.inr (.inr (some (50, 0)))), some (.inl (a1)), x2] [] (gwd S I J h) Q)
  | 0, u, I, J, a1, x2, hun, h1, hC, hL, K => by
    rw [gb_197_2, n_houses, Option.toList_some, List.singleton_append, gb_197_7, if_pos (by rw [z_le, hC.1.2.2.1]; omega), gb_197_53]
    exact K I J FLt_refl FJ_refl (fun p hp => hL p (by omega))
  | n + 1, u, I, J, a1, x2, hun, h1, hC, hL, K => by
    have e1 : (1 : Int32).toInt = 1 := rfl
    have r3 := hc.2.2.2.1
    rw [gb_197_2, n_houses, Option.toList_some, List.singleton_append, gb_197_7, if_neg (by rw [z_le, hC.1.2.2.1]; omega), gb_197_10]
    refine n_lit_in (u := u) hc (by omega) h1 1000 0 I J 0 rfl rfl hC hL fun I1 J1 b hF1 hJ1 hL1 => ?_
    rw [gb_197_47]
    exact n_lit_out hc hH n (u + 1) I1 J1 _ _ (by omega) (by rw [z_add (by omega) (by omega), h1, e1]; rfl) (mCo_FLt hC hF1) hL1 fun I' J' hF' hJ' hL' => K I' J' (FLt_trans hF1 hF') (FJ_trans hJ1 hJ') hL'
theorem n_laysLit {x1 x2 : Option gV} {C : gCo} (hc : cOk C) (hC : mCo I C) (K : ∀ (I' : Nat → Nat → Nat → Int32) (J' : Nat → Nat → Nat → Int64), FLt I I' → FJ J J' → mLit I' C (1000 * (C.1 3).toNat) → Q none (gwd S I' J' h)) : (gq (d + 4) 197 0 [some (.inr (.inr (some (50, 0)))), x1, x2] [] (gwd S I J h) Q) := by
  have r3 := hc.2.2.2.1
  rw [gb_197_0]
  exact n_lit_out (H := (C.1 3).toNat) hc (by omega) (C.1 3).toNat 0 I J 0 x2 (by omega) rfl hC (fun p hp => absurd hp (by omega)) K
/-- what a word that asks tells -/
theorem n_qOf {a1 a4 : Int32} {a2 : Int64} {C : gCo} {t : gSt} {u : Nat} {w : Int} (hc : cOk C) (hC : mCo I C) (hS : mS I C t) (ht : tOk C t) (hu : (u : Int) < C.1 3) (h4 : a4.toInt = u) (h1 : a1.toInt = w - 11) (hw : w = 11 ∨ w = 12) (hL : mLit I C (1000 * (C.1 3).toNat)) (ha : -1000000 ≤ a2.toInt ∧ a2.toInt ≤ 1000000) (K : ∀ x : Int64, x.toInt = qLf C t (C.1 (30 + u)) w a2.toInt → Q (some (.inr (.inl x))) (gwd S I J h)) : (gq (d + 2) 272 0 [some (.inr (.inr (some (50, 0)))), some (.inl (a1)), some (.inr (.inl (a2))), none, some (.inl (a4))] [] (gwd S I J h) Q) := by
  have e1000 : (1000 : Int32).toInt = 1000 := rfl
  have e2 : (2 : Int32).toInt = 2 := rfl
  have e4 : (4 : Int32).toInt = 4 := rfl
  have l0 : (0 : Int64).toInt = 0 := rfl
  have l9 : (999 : Int64).toInt = 999 := rfl
  have r1 := hc.2.1
  have r2 := hc.2.2.1
  have r3 := hc.2.2.2.1
  have hm := hC.2.2.1 u hu
  have rh := hc.2.2.2.2.2.2.2.1 u hu
  have ea : a2.toInt32.toInt = a2.toInt := y_32 (by omega) (by omega)
  rw [gb_272_0]
  by_cases w11 : w = 11
  · rw [if_pos (z_inj (by rw [h1, w11]; rfl)), gb_272_20, n_isIn, Option.toList_some, List.singleton_append, gb_272_28]
    by_cases q : 0 ≤ a2.toInt ∧ a2.toInt ≤ 999
    · have em : (1000 * a4).toInt = 1000 * (u : Int) := by rw [z_mul (by rw [h4, e1000]; omega) (by rw [h4, e1000]; omega), h4, e1000]
      have ep : (1000 * a4 + a2.toInt32).toInt = ((1000 * u + a2.toInt.toNat : Nat) : Int) := by rw [z_add (by omega) (by omega), em, ea]; omega
      have en : (1000 * a4 + a2.toInt32).toNatClampNeg = 1000 * u + a2.toInt.toNat := by rw [z_n, ep]; rfl
      have hp := hL (1000 * u + a2.toInt.toNat) (by omega)
      have q1 : (1000 * u + a2.toInt.toNat) / 1000 = u := by omega
      have q2 : (((1000 * u + a2.toInt.toNat) % 1000 : Nat) : Int) = a2.toInt := by omega
      rw [q1, q2] at hp
      rw [if_neg (by rw [zb_0]; exact fun e => e (by first | exact q | (rw [l0, l9]; exact q))), gb_272_31]
      refine ⟨g_in.mpr (by rw [ep]; omega), ?_⟩
      rw [en, gb_272_45, gb_272_50]
      exact K _ (by rw [z_64, hp]; unfold qLf; rw [if_pos w11, if_pos q])
    · rw [if_pos (by rw [zb_0]; first | exact q | (rw [l0, l9]; exact q)), gb_272_49, gb_272_50]
      exact K _ (by unfold qLf; rw [if_pos w11, if_neg q]; rfl)
  · have w12 : w = 12 := by omega
    rw [if_neg (fun e => by rw [e, w12] at h1; exact absurd h1 (by decide)), gb_272_51, n_isBearer (by rw [hC.1.2.1]; omega), Option.toList_some, List.singleton_append, gb_272_56, hC.1.2.1]
    by_cases q : 0 ≤ a2.toInt ∧ a2.toInt < C.1 2
    · have hb := hS.2.1 a2.toInt.toNat (by omega)
      have rb := ht.2.2.2.2.2.2 a2.toInt.toNat (by omega)
      have em : (2 * a2.toInt32).toInt = 2 * a2.toInt := by rw [z_mul (by rw [ea, e2]; omega) (by rw [ea, e2]; omega), ea, e2]
      have ep : (4 + 2 * a2.toInt32).toInt = ((4 + 2 * a2.toInt.toNat : Nat) : Int) := by rw [z_add (by omega) (by omega), em, e4]; omega
      have en : (4 + 2 * a2.toInt32).toNatClampNeg = 4 + 2 * a2.toInt.toNat := by rw [z_n, ep]; rfl
      rw [if_neg (by rw [zb_0]; exact fun e => e q), gb_272_59, n_houseMile h4 (by omega), Option.toList_some, List.singleton_append, gb_272_65]
      refine ⟨g_in.mpr (by rw [ep]; omega), ?_⟩
      rw [en, gb_272_76]
      refine n_far (by rw [hm.1]; omega) (by rw [hb.1]; omega) fun x hx => ?_
      rw [Option.toList_some, List.singleton_append, gb_272_79, gb_272_86]
      exact K _ (by rw [z_64, hx, hm.1, hb.1]; unfold qLf; rw [if_neg w11, if_pos q])
    · rw [if_pos (by rw [zb_0]; exact q), gb_272_83, gb_272_86]
      exact K _ (by unfold qLf; rw [if_neg w11, if_neg q]; decide)
/-- the words of a question that the model has laid for a house -/
def mQp (I : Nat → Nat → Nat → Int32) (C : gCo) (t : gSt) (u : Nat) : Prop := (I 50 0 52).toInt = t 0 ∧ (I 50 0 53).toInt = C.1 (30 + u) ∧ (I 50 0 54).toInt = t 2 ∧ (I 50 0 59).toInt = gabs (C.1 (30 + u) - t 1) ∧ (I 50 0 60).toInt = u
theorem n_qPart {a1 a2 : Int32} {C : gCo} {t : gSt} {u w : Nat} (hc : cOk C) (hC : mCo I C) (hS : mS I C t) (hu : (u : Int) < C.1 3) (h1 : a1.toInt = w) (hw : w < 11) (hal : alT 3 w = true) (hp : mQp I C t u) (K : ∀ x : Int64, x.toInt = qVl C t u w → Q (some (.inr (.inl x))) (gwd S I J h)) : (gq d 271 0 [some (.inr (.inr (some (50, 0)))), some (.inl (a1)), some (.inl (a2))] [] (gwd S I J h) Q) := by
  have e17 : (17 : Int32).toInt = 17 := rfl
  have e20 : (20 : Int32).toInt = 20 := rfl
  have e2 : (2 : Int32).toInt = 2 := rfl
  have r3 := hc.2.2.2.1
  obtain ⟨p0, p1, p2, p7, p8⟩ := hp
  rw [al_tbl3 w (by omega)] at hal
  have h2' := of_decide_eq_true hal
  have e : w = 0 ∨ w = 1 ∨ w = 2 ∨ w = 7 ∨ w = 8 ∨ w = 9 ∨ w = 10 := by omega
  have k : ∀ j : Int32, a1 = j ↔ (w : Int) = j.toInt := fun j => by rw [z_eq, h1]
  rcases e with rfl | rfl | rfl | rfl | rfl | rfl | rfl
  · rw [n_part h1 (by decide)]; exact K _ (by rw [z_64]; exact p0)
  · rw [n_part h1 (by decide)]; exact K _ (by rw [z_64]; exact p1)
  · rw [n_part h1 (by decide)]; exact K _ (by rw [z_64]; exact p2)
  · rw [n_part h1 (by decide)]; exact K _ (by rw [z_64]; exact p7)
  · rw [n_part h1 (by decide)]; exact K _ (by rw [z_64]; exact p8)
  · have em : (2 * I 50 0 60).toInt = 2 * (u : Int) := by rw [z_mul (by rw [p8, e2]; omega) (by rw [p8, e2]; omega), p8, e2]
    have ep : (17 + 2 * I 50 0 60).toInt = ((17 + 2 * u : Nat) : Int) := by rw [z_add (by omega) (by omega), em, e17]; omega
    have en : (17 + 2 * I 50 0 60).toNatClampNeg = 17 + 2 * u := by rw [z_n, ep]; rfl
    rw [gb_271_0]
    repeat rw [if_neg (fun e => absurd ((k _).mp e) (by decide))]
    rw [if_pos ((k _).mpr (by decide)), gb_271_110]
    refine ⟨g_in.mpr (by rw [ep]; omega), ?_⟩
    rw [en, gb_271_124]
    exact K _ (by rw [z_64]; exact (hC.2.2.1 u hu).2)
  · have ep : (20 + I 50 0 60).toInt = ((20 + u : Nat) : Int) := by rw [z_add (by omega) (by omega), p8, e20]; omega
    have en : (20 + I 50 0 60).toNatClampNeg = 20 + u := by rw [z_n, ep]; rfl
    rw [gb_271_0]
    repeat rw [if_neg (fun e => absurd ((k _).mp e) (by decide))]
    rw [gb_271_126]
    refine ⟨g_in.mpr (by rw [ep]; omega), ?_⟩
    rw [en, gb_271_138]
    exact K _ (by rw [z_64]; exact hS.2.2 u hu)
