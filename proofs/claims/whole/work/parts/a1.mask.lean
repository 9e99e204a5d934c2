/-! Both sides answer a question. -/
variable {d S : Nat} {h : Nat × Option gNm} {I : Nat → Nat → Nat → Int32} {J : Nat → Nat → Nat → Int64} {Q : Option gV → gW → Prop}
variable {tp : Nat → Int} {n : Nat}
/-- a question that was read is one -/
theorem qRd_ok (ho : ∀ j, j < n → 0 ≤ tp j ∧ tp j ≤ 255) {q : Nat × Bool} (e : (qRd tp n).1 = .inr q) : (∃ tt, gTy (alT 3) (qRd tp n).2 [] = some [tt] ∧ (qW tp n < 30 → tt = true)) ∧ (qRd tp n).2.length ≤ n ∧ 27 ≤ qW tp n ∧ qW tp n ≤ 32 := by
  have e1 : ∃ q', (qBd tp n).1 = .inr q' := by
    have e' : lFin n (qBd tp n).1 = .inr q := e
    match hb : (qBd tp n).1 with
    | .inl b => rw [hb] at e'; cases e'
    | .inr q' => exact ⟨q', rfl⟩
  obtain ⟨q', e1⟩ := e1
  have h0 : (qRd tp n).2 = (qBd tp n).2 := rfl
  have hB : qBd tp n = (.inr q', (qBd tp n).2) := Prod.ext e1 rfl
  rw [h0]
  generalize (qBd tp n).2 = L at hB
  unfold qBd at hB
  obtain ⟨s, g, l', h1, h2⟩ := bR_inr hB
  have h1' : qHd tp n = .inr (s, g) := congrArg Prod.fst h1
  unfold qHd at h1'
  split at h1'
  case isFalse => cases h1'
  rename_i hw
  have hr := @lWd_r tp (lSk tp n 0) (lEn tp n (lSk tp n 0))
  have hq32 : qW tp n < 33 := hr.2
  have hs0 := lSk_r (tp := tp) (n := n) (k := 0) (Nat.zero_le _)
  have hnx := lNx_r (tp := tp) (n := n) (s := lSk tp n 0) (g := false) hs0.2
  have hsn : s ≤ n := by
    have : (lNx tp n (lSk tp n 0) false) = (s, g) := Sum.inr.inj h1'
    rw [this] at hnx
    exact hnx.2.1
  have hlen := rd_len ho _ _ _ _ _ _ _ hsn (by split <;> decide) h2
  refine ⟨?_, by omega, hw.2, by omega⟩
  by_cases w : 29 < qW tp n
  · rw [if_pos w] at h2
    exact ⟨false, rd_ty4 h2, fun h => by omega⟩
  · rw [if_neg w] at h2
    exact ⟨true, rd_ty9 h2, fun _ => rfl⟩
/-- what a question changes in the class -/
def FKa (c : Nat) (I I' : Nat → Nat → Nat → Int32) : Prop := ∀ k i j, ¬ (k = 10 ∧ i = 0 ∧ (j = 12 ∨ j = 13) ∨ k = 11 ∧ i = 0 ∧ 1 ≤ j ∧ j ≤ 7 ∨ k = 13 ∧ i = 0 ∧ j = 4 ∨ k = 14 ∧ (i = 2 ∧ 2 ≤ j ∧ j ≤ 6 ∨ i = c ∧ 3 ≤ j ∧ j ≤ 6) ∨ k = 15 ∧ i = 2 ∨ k = 16 ∧ (i = 2 ∨ i = c) ∨ k = 17 ∧ i = 2 ∨ k = 18 ∧ (i = 2 ∨ i = c)) → I' k i j = I k i j
theorem m_askP {C : gCo} {t : gSt} (hx : kTx I tp n) (h10 : I 10 0 10 ≠ 0) (h1 : h.1 ≤ 1) (hc : cOk C) (hC : kCo I h.1 C) (ht : tOk C t) (hS : kS I 0 t)
    (Kb : ∀ (I' : Nat → Nat → Nat → Int32) f p, (qRd tp n).1 = .inl (f, p) → FKa h.1 I I' → (I' 10 0 12).toInt = f → (I' 10 0 13).toInt = p → I' 11 0 1 = 0 → Q (some (.inr (.inl (Int64.ofNat 18445744073709551616)))) (gwd S I' J h))
    (K : ∀ (I' : Nat → Nat → Nat → Int32) q (x : Int64), (qRd tp n).1 = .inr q → FKa h.1 I I' → I' 10 0 12 = 0 → (I' 10 0 13).toInt = -1 → I' 11 0 1 = 0 → x.toInt = qAns C t (qRd tp n).2 (qW tp n) → Q (some (.inr (.inl x))) (gwd S I' J h)) : (gq (d + 81) 143 0 [some (.inr (.inr (some (10, 0))))] [] (gwd S I J h) Q) := by
  rw [gb_143_0, if_neg h10, gb_143_19]
  refine m_qread hx fun I1 hF1 ht1 hg1 => ?_
  rw [Option.toList_none, List.nil_append, gb_143_26, gb_148_0, Option.toList_none, List.nil_append, gb_143_30]
  generalize hI2 : gup (gup I1 10 0 12 (I1 11 0 6)) 10 0 13 (I1 11 0 7) = I2
  have v12 : I2 10 0 12 = I1 11 0 6 := by rw [← hI2, u_j (by decide), u_eq]
  have v13 : I2 10 0 13 = I1 11 0 7 := by rw [← hI2, u_eq]
  have hF3 : FKa h.1 I (gup I2 11 0 1 0) := fun k i j hn => by rw [u_ne (by omega), ← hI2, u_ne (by omega), u_ne (by omega), hF1 _ _ _ (by omega)]
  have o3 : ∀ k i j, ¬ (k = 10 ∧ i = 0 ∧ (j = 12 ∨ j = 13) ∨ k = 11 ∧ i = 0 ∧ j = 1) → gup I2 11 0 1 0 k i j = I1 k i j := fun k i j hn => by rw [u_ne (by omega), ← hI2, u_ne (by omega), u_ne (by omega)]
  match hq : (qRd tp n).1, ht1 with
  | .inl (f, p), ht1 =>
    rw [v12, if_neg (kTk_bad ht1), gb_143_63, gb_143_66]
    exact Kb _ f p hq hF3 (by rw [u_k (by decide), v12]; exact ht1.2.1) (by rw [u_k (by decide), v13]; exact ht1.2.2.2) u_eq
  | .inr q, ht1 =>
    obtain ⟨⟨tt, hty, _⟩, hl, hw⟩ := qRd_ok hx.2.2.2.1 hq
    obtain ⟨g1, _, g2, g3⟩ := hg1 q hq
    have hn := hx.2.2.1
    have b6 : I1 11 0 6 = 0 := ht1.2.2.2.1
    rw [v12, if_pos b6, gb_143_45]
    refine m_answer (c := h.1) (i2 := 0) (l := (qRd tp n).2) (w := qW tp n) hc ht (by omega) (by omega) hty hw (by rw [o3 _ _ _ (by omega)]; exact g1) (kCo_congr hC fun k j hk => hF3 _ _ _ (by omega)) (kS_congr hS (fun j => hF3 _ _ _ (by omega)) (fun j => hF3 _ _ _ (by omega))) (by rw [o3 _ _ _ (by omega)]; exact g2) (gCd_congr (fun j _ _ => o3 _ _ _ (by omega)) g3) fun I4 x hF4 hx4 => ?_
    rw [Option.toList_some, List.singleton_append, gb_143_60, gb_143_66]
    exact K I4 q x hq (fun k i j hn => by rw [hF4 _ _ _ (by omega), hF3 _ _ _ hn]) (by rw [hF4 _ _ _ (by omega), u_k (by decide), v12]; exact b6) (by rw [hF4 _ _ _ (by omega), u_k (by decide), v13]; exact ht1.2.2.2.2.1) (by rw [hF4 _ _ _ (by omega), u_eq]) hx4
theorem m_ask0 (h10 : I 10 0 10 = 0) (K : Q (some (.inr (.inl (Int64.ofNat 18445744073709551616)))) (gwd S (gup I 11 0 1 0) J h)) : (gq (d + 81) 143 0 [some (.inr (.inr (some (10, 0))))] [] (gwd S I J h) Q) := by
  rw [gb_143_0, if_pos h10, gb_143_7, gb_143_18]
  exact K
/-! The model's. -/
def FMa (I I' : Nat → Nat → Nat → Int32) : Prop := ∀ k i j, ¬ (i = 0 ∧ (k = 50 ∧ (1 ≤ j ∧ j ≤ 8 ∨ j = 10 ∨ 49 ≤ j ∧ j ≤ 60 ∨ j = 99 ∨ j = 101 ∨ j = 102 ∨ j = 103 ∨ j = 105 ∨ j = 107) ∨ k = 63 ∨ k = 68 ∨ k = 69)) → I' k i j = I k i j
def FJq (J J' : Nat → Nat → Nat → Int64) : Prop := ∀ k i j, ¬ (k = 70 ∧ i = 0 ∨ k = 50 ∧ i = 0 ∧ j = 106) → J' k i j = J k i j
theorem FMa_trans {I I' I'' : Nat → Nat → Nat → Int32} (h1 : FMa I I') (h2 : FMa I' I'') : FMa I I'' := fun k i j hn => by rw [h2 _ _ _ hn, h1 _ _ _ hn]
theorem FJq_trans {J J' J'' : Nat → Nat → Nat → Int64} (h1 : FJq J J') (h2 : FJq J' J'') : FJq J J'' := fun k i j hn => by rw [h2 _ _ _ hn, h1 _ _ _ hn]
theorem FJq_of {J J' : Nat → Nat → Nat → Int64} (h : FJ J J') : FJq J J' := fun k i j hn => h _ _ _ (by omega)
/-- what stays while houses are gone through -/
def mAq (I : Nat → Nat → Nat → Int32) (C : gCo) (t : gSt) (l : List Int) : Prop := mCo I C ∧ mS I C t ∧ mLit I C (1000 * (C.1 3).toNat) ∧ mCd I l ∧ (I 50 0 52).toInt = t 0 ∧ (I 50 0 54).toInt = t 2
theorem mAq_congr {I I' : Nat → Nat → Nat → Int32} {C : gCo} {t : gSt} {l : List Int} (hc : cOk C) (h : mAq I C t l) (hF : (∀ k i j, ¬ ((k = 50 ∧ i = 0 ∧ (j = 53 ∨ j = 59 ∨ j = 60 ∨ j = 105 ∨ j = 107))) → I' k i j = I k i j)) : mAq I' C t l := by
  obtain ⟨h1, h2, h3, h4, h5, h6⟩ := h
  exact ⟨mCo_congr h1 fun k j hk => hF _ _ _ (by omega), mS_congr hc h2 fun j hj => hF _ _ _ (by omega), fun p hp => by rw [hF _ _ _ (by omega)]; exact h3 p hp, mCd_congr h4 (hF _ _ _ (by omega)) (fun j => hF _ _ _ (by omega)), by rw [hF _ _ _ (by omega)]; exact h5, by rw [hF _ _ _ (by omega)]; exact h6⟩
theorem n_askLoop {C : gCo} {t : gSt} {l : List Int} {tt : Bool} {w : Int} {H : Nat} {a1 : Int32} (hc : cOk C) (ht : tOk C t) (hl : l.length ≤ 1600) (hty : gTy (alT 3) l [] = some [tt]) (htt : w < 30 → tt = true) (hH : C.1 3 = H) (hw : 27 ≤ w ∧ w ≤ 32) (h1 : a1.toInt = w - 27) : ∀ (n u : Nat) (a : Int) (I : Nat → Nat → Nat → Int32) (J : Nat → Nat → Nat → Int64) (a2 : Int32), u + n = H → a2.toInt = u → (J 50 0 106).toInt = a → (-1000000 * (u + 1) ≤ a ∧ a ≤ 1000000 * (u + 1)) → (I 50 0 107 = 0 ↔ u ≠ 0) → mAq I C t l →
    (∀ (I' : Nat → Nat → Nat → Int32) (J' : Nat → Nat → Nat → Int64) (x : Int64), FMa I I' → I' 50 0 1 = I 50 0 1 → I' 50 0 7 = I 50 0 7 → I' 50 0 8 = I 50 0 8 → FJq J J' → x.toInt = qFo w (qV C t l) n u a → Q (some (.inr (.inl x))) (gwd S I' J' h)) → (gq (d + 5) 276 212 [some (.inr (.inr (some (50, 0)))), some (.inl (a1)), some (.inl (a2))] [] (gwd S I J h) Q)
  | 0, u, a, I, J, a2, hun, h2, h3, har, h107, hA, K => by
    rw [gb_276_212, n_houses, Option.toList_some, List.singleton_append, gb_276_217, if_pos (by rw [z_le, hA.1.1.2.2.1]; omega), gb_276_268]
    exact K I J _ (fun _ _ _ _ => rfl) rfl rfl rfl (fun _ _ _ _ => rfl) h3
  | n + 1, u, a, I, J, a2, hun, h2, h3, har, h107, hA, K => by
    have e1 : (1 : Int32).toInt = 1 := rfl
    have r1 := hc.2.1
    have r3 := hc.2.2.2.1
    have t1 := ht.2.1
    have hu : (u : Int) < C.1 3 := by omega
    have rh := hc.2.2.2.2.2.2.2.1 u hu
    have hm := hA.1.2.2.1 u hu
    have hs1 := hA.2.1.1.2.1
    have n1 : (1 : Int32).toNatClampNeg = 1 := rfl
    rw [gb_276_212, n_houses, Option.toList_some, List.singleton_append, gb_276_217, if_neg (by rw [z_le, hA.1.1.2.2.1]; omega), gb_276_220, n_houseMile h2 (by omega), Option.toList_some, List.singleton_append, gb_276_231]
    refine ⟨g_in.mpr (by omega), ?_⟩
    rw [n1, gb_276_245]
    have em : (gup I 50 0 60 a2 57 0 (16 + 2 * u)).toInt = C.1 (30 + u) := by rw [u_k (by decide)]; exact hm.1
    generalize gup I 50 0 60 a2 57 0 (16 + 2 * u) = vm at em
    have es : (gup I 50 0 60 a2 61 0 1).toInt = t 1 := by rw [u_k (by decide)]; exact hs1
    generalize gup I 50 0 60 a2 61 0 1 = vs at es
    refine n_far (by omega) (by omega) fun y hy => ?_
    rw [em, es] at hy
    rw [Option.toList_some, List.singleton_append, gb_276_248]
    generalize hI2 : gup (gup (gup I 50 0 60 a2) 50 0 53 vm) 50 0 59 y = I2
    have hF2 : (∀ k i j, ¬ ((k = 50 ∧ i = 0 ∧ (j = 53 ∨ j = 59 ∨ j = 60))) → I2 k i j = I k i j) := fun k i j hn => by rw [← hI2, u_ne (by omega), u_ne (by omega), u_ne (by omega)]
    have hA2 := mAq_congr hc hA (fun k i j hn => hF2 k i j (by omega))
    have w60 : (I2 50 0 60).toInt = u := by rw [← hI2, u_j (by decide), u_j (by decide), u_eq]; exact h2
    have w53 : (I2 50 0 53).toInt = C.1 (30 + u) := by rw [← hI2, u_j (by decide), u_eq]; exact em
    have w59 : (I2 50 0 59).toInt = gabs (C.1 (30 + u) - t 1) := by rw [← hI2, u_eq]; exact hy
    refine n_qTold hc ht hu h2 hty hl hA2.1 hA2.2.1 ⟨hA2.2.2.2.2.1, w53, hA2.2.2.2.2.2, w59, w60⟩ hA2.2.2.1 hA2.2.2.2.1 fun I3 J3 v hF3 hJ3 hv => ?_
    have hvo := qV_ok hc ht hu hty
    have hvr := eVal_r hvo
    rw [Option.toList_some, List.singleton_append, gb_276_258]
    refine n_qTakes (w := w) (v := qV C t l u) (a := a) (u := u) h1 hw hv h2 (by rw [hJ3 _ _ _ (by omega)]; exact h3) (by rw [hF3 _ _ _ (by omega), hF2 _ _ _ (by omega)]; exact h107) (fun hw3 => by rw [htt hw3] at hvo; exact hvo) hvr (by omega) fun J4 hJ4 hq4 => ?_
    rw [Option.toList_none, List.nil_append, gb_276_262]
    generalize hI5 : gup I3 50 0 107 0 = I5
    have hF5 : (∀ k i j, ¬ ((k = 50 ∧ i = 0 ∧ (j = 53 ∨ j = 59 ∨ j = 60 ∨ j = 105 ∨ j = 107))) → I5 k i j = I k i j) := fun k i j hn => by rw [← hI5, u_ne (by omega), hF3 _ _ _ (by omega), hF2 _ _ _ (by omega)]
    have hA5 := mAq_congr hc hA hF5
    have hJ5 : FJq J J4 := fun k i j hn => by rw [hJ4 _ _ _ (by omega), hJ3 _ _ _ (by omega)]
    refine n_askLoop hc ht hl hty htt hH hw h1 n (u + 1) (qStep w u a (qV C t l u)) I5 J4 (a2 + 1) (by omega) (by rw [z_add (by omega) (by omega), h2, e1]; rfl) hq4 (qStep_r har hvr (by omega)) ⟨fun _ => by omega, fun _ => by rw [← hI5, u_eq]⟩ hA5 fun I' J' x hF' o1 o7 o8 hJ' hx => K I' J' x (FMa_trans (fun k i j hn => hF5 _ _ _ (by omega)) hF') (by rw [o1, hF5 _ _ _ (by omega)]) (by rw [o7, hF5 _ _ _ (by omega)]) (by rw [o8, hF5 _ _ _ (by omega)]) (FJq_trans hJ5 hJ') (by rw [hx]; rfl)
theorem n_ask {x1 x2 : Option gV} {C : gCo} {t : gSt} (hT : ∀ j, j < n → (I 51 0 j).toInt = tp j) (hL : (I 50 0 1).toInt = n) (hn : n ≤ 1600) (hB : ∀ j, j < n → 0 ≤ tp j ∧ tp j ≤ 255) (hW : mWs I) (hc : cOk C) (ht : tOk C t) (hC : mCo I C) (hS : mS I C t)
    (Kb : ∀ (I' : Nat → Nat → Nat → Int32) f p, (qRd tp n).1 = .inl (f, p) → FMa I I' → (I' 50 0 7).toInt = f → (I' 50 0 8).toInt = p → I' 50 0 1 = 0 → Q (some (.inr (.inl (Int64.ofNat 18445744073709551616)))) (gwd S I' J h))
    (K : ∀ (I' : Nat → Nat → Nat → Int32) (J' : Nat → Nat → Nat → Int64) q (x : Int64), (qRd tp n).1 = .inr q → FMa I I' → FJq J J' → I' 50 0 7 = 0 → (I' 50 0 8).toInt = -1 → I' 50 0 1 = 0 → x.toInt = qAns C t (qRd tp n).2 (qW tp n) → Q (some (.inr (.inl x))) (gwd S I' J' h)) : (gq (d + 12) 276 0 [some (.inr (.inr (some (50, 0)))), x1, x2] [] (gwd S I J h) Q) := by
  have e2 : (2 : Int32).toInt = 2 := rfl
  have em : (Int64.ofNat 18446744073709551615).toInt = -1 := by decide
  have n0 : (0 : Int32).toNatClampNeg = 0 := rfl
  have n2 : (2 : Int32).toNatClampNeg = 2 := rfl
  have r3 := hc.2.2.2.1
  refine n_askR hC.2.2.2.2 hT hL hn hB hW fun I1 a1 hF1 h01 ht1 hg1 => ?_
  rw [gb_276_133]
  generalize hI2 : gup (gup I1 50 0 7 (I1 50 0 5)) 50 0 8 (I1 50 0 6) = I2
  have v7 : I2 50 0 7 = I1 50 0 5 := by rw [← hI2, u_j (by decide), u_eq]
  have v8 : I2 50 0 8 = I1 50 0 6 := by rw [← hI2, u_eq]
  have hF2 : (∀ k i j, ¬ ((k = 50 ∧ i = 0 ∧ (j = 7 ∨ j = 8))) → I2 k i j = I1 k i j) := fun k i j hn => by rw [← hI2, u_ne (by omega), u_ne (by omega)]
  have hFI2 : FMa I I2 := fun k i j hn => by rw [hF2 _ _ _ (by omega), hF1 _ _ _ (by omega)]
  match hq : (qRd tp n).1, ht1 with
  | .inl (f, p), ht1 =>
    have b := mTk_bad ht1
    rw [if_neg (by first | exact b | (rw [hF2 _ _ _ (by omega)]; exact b)), gb_276_156, gb_276_159]
    exact Kb I2 f p hq hFI2 (by rw [v7]; exact ht1.1) (by rw [v8]; exact ht1.2.2) (by rw [hF2 _ _ _ (by omega)]; exact h01)
  | .inr q, ht1 =>
    have b5 : I1 50 0 5 = 0 := ht1.1
    obtain ⟨⟨tt, hty, htt⟩, hl, hw⟩ := qRd_ok hB hq
    obtain ⟨g1, g2⟩ := hg1 q hq
    rw [if_pos (by first | exact b5 | (rw [hF2 _ _ _ (by omega)]; exact b5)), gb_276_160]
    have go : ∀ b : Int64, b.toInt = (if qW tp n < 29 then -1 else 0) → (gq (d + 12) 276 173 [some (.inr (.inr (some (50, 0)))), some (.inl (a1)), x2] [.inr (.inl (b)), .inr (.inr (some (50, 0)))] (gwd S I2 J h) Q) := fun b hb => by
      rw [gb_276_173]
      generalize hI3 : gup I2 50 0 107 1 = I3
      generalize hJ3 : gup J 50 0 106 b = J3
      have hF3 : (∀ k i j, ¬ ((k = 50 ∧ i = 0 ∧ j = 107)) → I3 k i j = I2 k i j) := fun k i j hn => by rw [← hI3, u_ne (by omega)]
      have hFI3 : FMa I I3 := fun k i j hn => by rw [hF3 _ _ _ (by omega), hFI2 _ _ _ hn]
      have hC3 : mCo I3 C := mCo_congr hC fun k j hk => by rw [hF3 _ _ _ (by omega), hF2 _ _ _ (by omega), hF1 _ _ _ (by omega)]
      refine n_laysLit hc hC3 fun I4 J4 hF4 hJ4 hL4 => ?_
      rw [Option.toList_none, List.nil_append, gb_276_185]
      refine ⟨g_in.mpr (by decide), ?_⟩
      rw [n0, gb_276_197]
      refine ⟨g_in.mpr (by decide), ?_⟩
      rw [n2, gb_276_207]
      have hFI4 : FMa I I4 := fun k i j hn => by rw [hF4 _ _ _ (by omega), hFI3 _ _ _ hn]
      have hS4 : mS I4 C t := mS_congr hc hS fun j hj => hFI4 _ _ _ (by omega)
      generalize hI5 : gup (gup (gup I4 50 0 49 3) 50 0 52 (I4 61 0 0)) 50 0 54 (gup I4 50 0 49 3 61 0 2) = I5
      have hF5 : (∀ k i j, ¬ ((k = 50 ∧ i = 0 ∧ (j = 49 ∨ j = 52 ∨ j = 54))) → I5 k i j = I4 k i j) := fun k i j hn => by rw [← hI5, u_ne (by omega), u_ne (by omega), u_ne (by omega)]
      have hFI5 : FMa I I5 := fun k i j hn => by rw [hF5 _ _ _ (by omega), hFI4 _ _ _ hn]
      have v52 : (I5 50 0 52).toInt = t 0 := by rw [← hI5, u_j (by decide), u_eq]; exact hS4.1.1
      have v54 : (I5 50 0 54).toInt = t 2 := by rw [← hI5, u_eq, u_k (by decide)]; exact hS4.1.2.2.1
      have o5 : ∀ j, (j = 1 ∨ j = 7 ∨ j = 8) → I5 50 0 j = I2 50 0 j := fun j hj => by rw [hF5 _ _ _ (by omega), hF4 _ _ _ (by omega), hF3 _ _ _ (by omega)]
      have hA : mAq I5 C t (qRd tp n).2 := ⟨mCo_congr hC3 fun k j hk => by rw [hF5 _ _ _ (by omega), hF4 _ _ _ (by omega)], mS_congr hc hS4 fun j hj => hF5 _ _ _ (by omega), fun p hp => by rw [hF5 _ _ _ (by omega)]; exact hL4 p hp, mCd_congr g2 (by rw [hF5 _ _ _ (by omega), hF4 _ _ _ (by omega), hF3 _ _ _ (by omega), hF2 _ _ _ (by omega)]) (fun j => by rw [hF5 _ _ _ (by omega), hF4 _ _ _ (by omega), hF3 _ _ _ (by omega), hF2 _ _ _ (by omega)]), v52, v54⟩
      have hJ4b : FJq J J4 := fun k i j hn => by rw [hJ4 _ _ _ (by omega), ← hJ3, u_ne (by omega)]
      have hJv : (J4 50 0 106).toInt = b.toInt := by rw [hJ4 _ _ _ (by omega), ← hJ3, u_eq]
      have w107 : I5 50 0 107 = 1 := by rw [hF5 _ _ _ (by omega), hF4 _ _ _ (by omega), ← hI3, u_eq]
      refine n_askLoop (H := (C.1 3).toNat) hc ht (by omega) hty htt (by omega) hw g1 (C.1 3).toNat 0 b.toInt I5 J4 0 (by omega) rfl hJv (by rw [hb]; split <;> omega) (by rw [w107]; decide) hA fun I' J' x hF' o1 o7 o8 hJ' hx => K I' J' q x hq (FMa_trans hFI5 hF') (FJq_trans hJ4b hJ') (by rw [o7, o5 _ (by omega), v7]; exact b5) (by rw [o8, o5 _ (by omega), v8]; exact ht1.2.1) (by rw [o1, o5 _ (by omega), hF2 _ _ _ (by omega)]; exact h01) (by rw [hx, hb]; rfl)
    by_cases w2 : qW tp n < 29
    · rw [if_neg (by rw [z_le]; omega), gb_276_166, gb_276_169]
      exact go _ (by rw [em, if_pos w2])
    · rw [if_pos (by rw [z_le]; omega), gb_276_172]
      exact go 0 (by rw [if_neg w2]; rfl)
theorem n_ask0 {x1 x2 : Option gV} (z : I 50 0 48 = 0) (K : Q (some (.inr (.inl (Int64.ofNat 18445744073709551616)))) (gwd S (gup I 50 0 1 0) J h)) : (gq (d + 12) 276 0 [some (.inr (.inr (some (50, 0)))), x1, x2] [] (gwd S I J h) Q) := by
  rw [gb_276_0, if_pos z, gb_276_7, gb_276_15]
  exact K
