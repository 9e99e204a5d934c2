/-! The class answers a question. -/
theorem gRun_ok {al : Nat → Bool} {V : Nat → Int} {lf : Int → Int → Int} (hV : ∀ w, w < 11 → al w = true → -1000000 ≤ V w ∧ V w ≤ 1000000) (hlf : ∀ w x, -1000000 ≤ lf w x ∧ lf w x ≤ 1000000) : ∀ {l s : List Int} {T T' : List Bool}, gTy al l T = some T' → eVs T s → eVs T' (gRun V lf l s)
  | [], s, T, T', ht, hs => by
    simp only [gTy] at ht
    cases ht
    exact hs
  | c :: cs, s, T, T', ht, hs => by
    unfold gTy at ht
    split at ht
    case h_2 => cases ht
    rename_i T1 ht1
    split at ht
    case isFalse => cases ht
    show eVs T' (gRun V lf cs (if gAsks c then gPop1 (lf (-1 - c)) s else gStep V c s))
    refine gRun_ok hV hlf ht ?_
    by_cases hq : gAsks c = true
    · have hc' : c = -12 ∨ c = -13 := of_decide_eq_true hq
      unfold gTy1 at ht1
      rw [if_neg (by omega), if_neg (by omega), if_pos hq] at ht1
      split at ht1
      · obtain ⟨T0, rfl, rfl⟩ := gT1_inv ht1
        obtain ⟨v, s', rfl, hv, hs'⟩ := eVs_cons hs
        rw [if_pos hq]
        exact ⟨by show -1000000 ≤ lf (-1 - c) v ∧ lf (-1 - c) v ≤ 1000000; exact hlf _ _, hs'⟩
      · cases ht1
    · rw [if_neg hq]
      exact gStep_ok ht1 (by simpa using hq) hV hs
/-- what a question tells of a house -/
def qV (C : gCo) (t : gSt) (l : List Int) (u : Nat) : Int := gTop (gRun (qVl C t u) (qLf C t (C.1 (30 + u))) l [])
theorem qV_ok {C : gCo} {t : gSt} {l : List Int} {u : Nat} {tt : Bool} (hc : cOk C) (ht : tOk C t) (hu : (u : Int) < C.1 3) (hty : gTy (alT 3) l [] = some [tt]) : eVal tt (qV C t l u) := by
  have r1 := hc.2.1
  have rh := hc.2.2.2.2.2.2.2.1 u hu
  have h := gRun_ok (al := alT 3) (V := qVl C t u) (lf := qLf C t (C.1 (30 + u))) (fun w _ _ => qVl_r hc ht hu w) (fun w x => qLf_r hc ht (by omega)) hty (s := []) trivial
  obtain ⟨v, s', hv, hvt, _⟩ := eVs_cons h
  unfold qV
  rw [hv]
  exact hvt
theorem eVal_r {tt : Bool} {v : Int} (h : eVal tt v) : -1000000 ≤ v ∧ v ≤ 1000000 := by
  cases tt
  · exact h
  · have h' : v = 0 ∨ v = 1 := h
    omega
def qStep (w : Int) (u : Nat) (a v : Int) : Int := if w = 27 then (if a = -1 ∧ v ≠ 0 then (u : Int) else a) else if w = 28 then (if v ≠ 0 then (u : Int) else a) else if w = 29 ∨ w = 30 then a + v else if w = 31 then (if u = 0 then v else max a v) else (if u = 0 then v else min a v)
def qFo (w : Int) (f : Nat → Int) : Nat → Nat → Int → Int
  | 0, _, a => a
  | n + 1, u, a => qFo w f n (u + 1) (qStep w u a (f u))
theorem qStep_r {w a v : Int} {u : Nat} (ha : -1000000 * (u + 1) ≤ a ∧ a ≤ 1000000 * (u + 1)) (hv : -1000000 ≤ v ∧ v ≤ 1000000) (hu : u < 8) : -1000000 * ((u + 1 : Nat) + 1) ≤ qStep w u a v ∧ qStep w u a v ≤ 1000000 * ((u + 1 : Nat) + 1) := by
  unfold qStep
  (repeat' split) <;> omega
def qAns (C : gCo) (t : gSt) (l : List Int) (w : Int) : Int := qFo w (qV C t l) (C.1 3).toNat 0 (if w < 29 then -1 else 0)
variable {d S : Nat} {h : Nat × Option gNm} {I : Nat → Nat → Nat → Int32} {J : Nat → Nat → Nat → Int64} {Q : Option gV → gW → Prop}
/-- what answering changes -/
def FQa (c : Nat) (I I' : Nat → Nat → Nat → Int32) : Prop := ∀ k i j, ¬ (k = 14 ∧ (i = 2 ∨ i = c) ∧ 3 ≤ j ∧ j ≤ 6 ∨ k = 16 ∧ (i = 2 ∨ i = c) ∨ k = 18 ∧ (i = 2 ∨ i = c)) → I' k i j = I k i j
theorem m_ansLoop {c i2 : Nat} {C : gCo} {t : gSt} {tt : Bool} {l : List Int} {w : Int} {H : Nat} (hc : cOk C) (ht : tOk C t) (hc2 : c < 2) (hl : l.length ≤ 1600) (hty : gTy (alT 3) l [] = some [tt]) (hH : C.1 3 = H) (hw : 27 ≤ w ∧ w ≤ 32) : ∀ (n u : Nat) (a : Int) (I : Nat → Nat → Nat → Int32) (a3 : Int64) (a5 : Int32) (x4 x6 : Option gV), u + n = H → a5.toInt = u → a3.toInt = a → (-1000000 * (u + 1) ≤ a ∧ a ≤ 1000000 * (u + 1)) → (I 13 0 4).toInt = w → kCo I c C → kS I i2 t → (I 14 2 2).toInt = l.length → gCd (I 15 2) id 0 l →
    (∀ (I' : Nat → Nat → Nat → Int32) (x : Int64), FQa c I I' → x.toInt = qFo w (qV C t l) n u a → Q (some (.inr (.inl x))) (gwd S I' J h)) → (gq (d + 7) 70 29 [some (.inr (.inr (some (13, 0)))), some (.inr (.inr (some (34, c)))), some (.inr (.inr (some (21, i2)))), some (.inr (.inl (a3))), x4, some (.inl (a5)), x6] [] (gwd S I J h) Q)
  | 0, u, a, I, a3, a5, x4, x6, hun, h5, h3, har, hW, hC, hS, hz, hcd, K => by
    rw [gb_70_29, if_pos (by rw [z_le, hC.1 3 (by decide)]; omega), gb_70_195]
    exact K I a3 (fun _ _ _ _ => rfl) h3
  | n + 1, u, a, I, a3, a5, x4, x6, hun, h5, h3, har, hW, hC, hS, hz, hcd, K => by
    have r3 := hc.2.2.2.1
    have e1 : (1 : Int32).toInt = 1 := rfl
    have e8 : (8 : Int32).toInt = 8 := rfl
    have em : (Int64.ofNat 18446744073709551615).toInt = -1 := by decide
    have hu : (u : Int) < C.1 3 := by omega
    rw [gb_70_29, if_neg (by rw [z_le, hC.1 3 (by decide)]; omega), gb_70_38, if_neg (by rw [z_le]; omega), gb_70_45]
    refine m_qOf hc ht hu hc2 hC hS h5 hz hl hcd hty fun I1 v hF1 hv => ?_
    have hvV : v.toInt = qV C t l u := hv
    have hvr := eVal_r (qV_ok hc ht hu hty)
    rw [← hvV] at hvr
    have hW1 : (I1 13 0 4).toInt = w := by rw [hF1 _ _ _ (by omega)]; exact hW
    have k : ∀ j : Int32, I1 13 0 4 = j ↔ w = j.toInt := fun j => by rw [z_eq, hW1]
    have next : ∀ (b3 : Int64) (y : Option gV), b3.toInt = qStep w u a v.toInt → (gq (d + 7) 70 189 [some (.inr (.inr (some (13, 0)))), some (.inr (.inr (some (34, c)))), some (.inr (.inr (some (21, i2)))), some (.inr (.inl (b3))), y, some (.inl (a5)), some (.inl (v))] [] (gwd S I1 J h) Q) := fun b3 y hb => by
      have hqr := qStep_r (w := w) har hvr (by omega)
      rw [gb_70_189]
      refine m_ansLoop hc ht hc2 hl hty hH hw n (u + 1) (qStep w u a v.toInt) I1 b3 (a5 + 1) _ _ (by omega) (by rw [z_add (by omega) (by omega), h5, e1]; rfl) hb hqr hW1 (kCo_congr hC fun k j hk => hF1 _ _ _ (by omega)) (kS_congr hS (fun j => hF1 _ _ _ (by omega)) (fun j => hF1 _ _ _ (by omega))) (by rw [hF1 _ _ _ (by omega)]; exact hz) (gCd_congr (fun j _ _ => hF1 _ _ _ (by omega)) hcd) fun I' x hF' hx => K I' x (fun k i j hn => by rw [hF' _ _ _ hn, hF1 _ _ _ hn]) ?_
      rw [hx, hvV]; rfl
    have hv0 : v = 0 ↔ v.toInt = 0 := by rw [z_eq]; exact Iff.rfl
    have e5 : a5.toInt64.toInt = u := by rw [z_64]; exact h5
    have e50 : a5 = 0 ↔ u = 0 := by rw [z_eq, h5, z_0]; omega
    rw [Option.toList_some, List.singleton_append, gb_70_53]
    by_cases w27 : w = 27
    · rw [if_pos ((k 27).mpr w27), gb_70_96, gb_70_100]
      by_cases hm : a = -1
      · rw [if_pos ((lg_cmp_eq _ _).mpr (y_inj (by rw [h3, em, hm]))), gb_70_104]
        by_cases v0 : v.toInt = 0
        · rw [if_pos (hv0.mpr v0), gb_70_115, gb_70_116]
          exact next a3 _ (by rw [h3]; unfold qStep; rw [if_pos w27, if_neg (fun e => e.2 v0)])
        · rw [if_neg (fun e => v0 (hv0.mp e)), gb_70_109, gb_70_116]
          exact next _ _ (by rw [e5]; unfold qStep; rw [if_pos w27, if_pos ⟨hm, v0⟩])
      · rw [if_neg (fun e => hm (by rw [← h3, (lg_cmp_eq _ _).mp e, em])), gb_70_115, gb_70_116]
        exact next a3 _ (by rw [h3]; unfold qStep; rw [if_pos w27, if_neg (fun e => hm e.1)])
    rw [if_neg (fun e => w27 ((k 27).mp e))]
    by_cases w28 : w = 28
    · rw [if_pos ((k 28).mpr w28), gb_70_120]
      by_cases v0 : v.toInt = 0
      · rw [if_pos (hv0.mpr v0), gb_70_131, gb_70_132]
        exact next a3 _ (by rw [h3]; unfold qStep; rw [if_neg w27, if_pos w28, if_neg (fun e => e v0)])
      · rw [if_neg (fun e => v0 (hv0.mp e)), gb_70_125, gb_70_132]
        exact next _ _ (by rw [e5]; unfold qStep; rw [if_neg w27, if_pos w28, if_pos v0])
    rw [if_neg (fun e => w28 ((k 28).mp e))]
    have add : (w = 29 ∨ w = 30) → (gq (d + 7) 70 136 [some (.inr (.inr (some (13, 0)))), some (.inr (.inr (some (34, c)))), some (.inr (.inr (some (21, i2)))), some (.inr (.inl (a3))), x4, some (.inl (a5)), some (.inl (v))] [] (gwd S I1 J h) Q) := fun hww => by
      rw [gb_70_136]
      exact next _ _ (by rw [y_add (by rw [z_64, h3]; omega) (by rw [z_64, h3]; omega), z_64, h3]; unfold qStep; rw [if_neg w27, if_neg w28, if_pos hww])
    by_cases w29 : w = 29
    · rw [if_pos ((k 29).mpr w29)]; exact add (Or.inl w29)
    rw [if_neg (fun e => w29 ((k 29).mp e))]
    by_cases w30 : w = 30
    · rw [if_pos ((k 30).mpr w30)]; exact add (Or.inr w30)
    rw [if_neg (fun e => w30 ((k 30).mp e))]
    have no : ¬ (w = 29 ∨ w = 30) := by omega
    by_cases w31 : w = 31
    · rw [if_pos ((k 31).mpr w31), gb_70_145]
      by_cases u0 : u = 0
      · rw [if_pos (e50.mpr u0), gb_70_150, gb_70_163]
        exact next _ _ (by rw [z_64]; unfold qStep; rw [if_neg w27, if_neg w28, if_neg no, if_pos w31, if_pos u0])
      · rw [if_neg (fun e => u0 (e50.mp e)), gb_70_156, m_lmax, Option.toList_some, List.singleton_append, gb_70_163]
        exact next _ _ (by rw [ymax_i, z_64, h3]; unfold qStep; rw [if_neg w27, if_neg w28, if_neg no, if_pos w31, if_neg u0])
    rw [if_neg (fun e => w31 ((k 31).mp e))]
    have w32 : w = 32 := by omega
    rw [if_pos ((k 32).mpr w32), gb_70_167]
    by_cases u0 : u = 0
    · rw [if_pos (e50.mpr u0), gb_70_172, gb_70_185]
      exact next _ _ (by rw [z_64]; unfold qStep; rw [if_neg w27, if_neg w28, if_neg no, if_neg w31, if_pos u0])
    · rw [if_neg (fun e => u0 (e50.mp e)), gb_70_178, m_lmin, Option.toList_some, List.singleton_append, gb_70_185]
      exact next _ _ (by rw [ymin_i, z_64, h3]; unfold qStep; rw [if_neg w27, if_neg w28, if_neg no, if_neg w31, if_neg u0])
theorem m_answer {c i2 : Nat} {C : gCo} {t : gSt} {tt : Bool} {l : List Int} {w : Int} {x3 x4 x5 x6 : Option gV} (hc : cOk C) (ht : tOk C t) (hc2 : c < 2) (hl : l.length ≤ 1600) (hty : gTy (alT 3) l [] = some [tt]) (hw : 27 ≤ w ∧ w ≤ 32) (hW : (I 13 0 4).toInt = w) (hC : kCo I c C) (hS : kS I i2 t) (hz : (I 14 2 2).toInt = l.length) (hcd : gCd (I 15 2) id 0 l)
    (K : ∀ (I' : Nat → Nat → Nat → Int32) (x : Int64), FQa c I I' → x.toInt = qAns C t l w → Q (some (.inr (.inl x))) (gwd S I' J h)) : (gq (d + 7) 70 0 [some (.inr (.inr (some (13, 0)))), some (.inr (.inr (some (34, c)))), some (.inr (.inr (some (21, i2)))), x3, x4, x5, x6] [] (gwd S I J h) Q) := by
  have r3 := hc.2.2.2.1
  have em : (Int64.ofNat 18446744073709551615).toInt = -1 := by decide
  have k : ∀ j : Int32, I 13 0 4 = j ↔ w = j.toInt := fun j => by rw [z_eq, hW]
  have go : ∀ (a : Int) (b : Int64), b.toInt = a → (-1 ≤ a ∧ a ≤ 0) → a = (if w < 29 then -1 else 0) → (gq (d + 7) 70 29 [some (.inr (.inr (some (13, 0)))), some (.inr (.inr (some (34, c)))), some (.inr (.inr (some (21, i2)))), some (.inr (.inl (b))), none, some (.inl (0)), x6] [] (gwd S I J h) Q) := fun a b hb ha e => by
    refine m_ansLoop (H := (C.1 3).toNat) hc ht hc2 hl hty (by omega) hw (C.1 3).toNat 0 a I b 0 _ _ (by omega) rfl hb (by omega) hW hC hS hz hcd fun I' x hF hx => K I' x hF ?_
    rw [hx, e]; rfl
  rw [gb_70_0]
  by_cases w27 : w = 27
  · rw [if_pos ((k 27).mpr w27), gb_70_18, gb_70_21, gb_70_25]
    exact go (-1) _ em (by omega) (by rw [if_pos (by omega)])
  rw [if_neg (fun e => w27 ((k 27).mp e)), gb_70_9]
  by_cases w28 : w = 28
  · rw [if_pos ((k 28).mpr w28), gb_70_18, gb_70_21, gb_70_25]
    exact go (-1) _ em (by omega) (by rw [if_pos (by omega)])
  rw [if_neg (fun e => w28 ((k 28).mp e)), gb_70_24, gb_70_25]
  exact go 0 0 rfl (by omega) (by rw [if_neg (by omega)])
