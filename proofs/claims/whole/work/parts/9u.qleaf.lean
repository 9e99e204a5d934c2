/-! The class: what a question's words ask. -/
theorem gRun1_len {V : Nat → Int} : ∀ {l s : List Int}, ((gRun1 V l s).2.1 = -1 ∧ (gRun1 V l s).1 = []) ∨ (gRun1 V l s).1.length < l.length
  | [], s => Or.inl ⟨rfl, rfl⟩
  | c :: cs, s => by
    rw [show gRun1 V (c :: cs) s = (if gAsks c then (cs, -1 - c, s) else gRun1 V cs (gStep V c s)) from rfl]
    by_cases hq : gAsks c = true
    · rw [if_pos hq]; exact Or.inr (Nat.lt_succ_self _)
    · rw [if_neg hq]
      rcases @gRun1_len V cs (gStep V c s) with h | h
      · exact Or.inl h
      · exact Or.inr (Nat.lt_succ_of_lt h)
/-- what the words of a question say of a house -/
def qVl (C : gCo) (t : gSt) (u w : Nat) : Int := if w = 0 then t 0 else if w = 1 then C.1 (30 + u) else if w = 2 then t 2 else if w = 7 then gabs (C.1 (30 + u) - t 1) else if w = 8 then (u : Int) else if w = 9 then C.1 (40 + u) else gBi (t 5) u
def qLf (C : gCo) (t : gSt) (mile w x : Int) : Int := if w = 11 then (if 0 ≤ x ∧ x ≤ 999 then gLight (C.2 0) mile x else 0) else (if 0 ≤ x ∧ x < C.1 2 then gabs (mile - t (10 + x.toNat)) else -1)
variable {d S : Nat} {h : Nat × Option gNm} {I : Nat → Nat → Nat → Int32} {J : Nat → Nat → Nat → Int64} {Q : Option gV → gW → Prop}
theorem m_qLit {c : Nat} {a1 a2 : Int32} {C : gCo} (hc : cOk C) (hC : kCo I c C) (h1 : -10000 ≤ a1.toInt ∧ a1.toInt ≤ 10000) (K : ∀ (I' : Nat → Nat → Nat → Int32) (x : Int32), (∀ k i j, ¬ ((k = 14 ∧ i = c ∧ (j = 3 ∨ j = 4 ∨ j = 5 ∨ j = 6)) ∨ (k = 16 ∧ i = c) ∨ (k = 18 ∧ i = c)) → I' k i j = I k i j) → x.toInt = (if 0 ≤ a2.toInt ∧ a2.toInt ≤ 999 then gLight (C.2 0) a1.toInt a2.toInt else 0) → Q (some (.inl x)) (gwd S I' J h)) : (gq (d + 4) 72 0 [some (.inr (.inr (some (34, c)))), some (.inl (a1)), some (.inl (a2))] [] (gwd S I J h) Q) := by
  rw [gb_72_0]
  by_cases w1 : a2.toInt < 0
  · rw [if_pos (by rw [z_lt, z_0]; exact w1), gb_72_11, gb_72_21]
    exact K I 0 (fun _ _ _ _ => rfl) (by rw [if_neg (by omega)]; rfl)
  rw [if_neg (by rw [z_lt, z_0]; exact w1), gb_72_4]
  by_cases w2 : a2.toInt ≤ 999
  · rw [if_pos (by rw [z_le]; exact w2), gb_72_15]
    refine m_lightAt hc.2.2.2.2.2.2.2.2.1 (hC.2.2.2.2.2.2 0 (by decide)) h1 (by omega) fun I' x hF hx => ?_
    rw [Option.toList_some, List.singleton_append, gb_72_21]
    exact K I' x hF (by rw [hx, if_pos ⟨by omega, w2⟩])
  · rw [if_neg (by rw [z_le]; exact w2), gb_72_11, gb_72_21]
    exact K I 0 (fun _ _ _ _ => rfl) (by rw [if_neg (by omega)]; rfl)
theorem m_qFar {c i2 : Nat} {a2 a3 : Int32} {C : gCo} {t : gSt} (hc : cOk C) (hC : kCo I c C) (hS : kS I i2 t) (ht : tOk C t) (h2 : 0 ≤ a2.toInt ∧ a2.toInt ≤ 99) (K : ∀ x : Int32, x.toInt = (if 0 ≤ a3.toInt ∧ a3.toInt < C.1 2 then gabs (a2.toInt - t (10 + a3.toInt.toNat)) else -1) → Q (some (.inl x)) (gwd S I J h)) : (gq (d + 1) 73 0 [some (.inr (.inr (some (34, c)))), some (.inr (.inr (some (21, i2)))), some (.inl (a2)), some (.inl (a3))] [] (gwd S I J h) Q) := by
  have r2 := hc.2.2.1
  have r1 := hc.2.1
  have hB := hC.1 2 (by decide)
  rw [gb_73_0, m_hasBearer, Option.toList_some, List.singleton_append, gb_73_5]
  by_cases w : 0 ≤ a3.toInt ∧ a3.toInt < C.1 2
  · have hm := hS.2 a3.toInt.toNat (by omega)
    have rm := ht.2.2.2.2.2.2 a3.toInt.toNat (by omega)
    rw [if_neg (by rw [zb_0, hB]; exact fun e => e ⟨w.1, w.2, by omega⟩), gb_73_8]
    refine ⟨g_in.mpr (by omega), ?_⟩
    have e : (a2 - I 22 i2 a3.toInt.toNat).toInt = a2.toInt - t (10 + a3.toInt.toNat) := by rw [z_sub (by omega) (by omega), hm]
    rw [gb_73_15, m_abs, Option.toList_some, List.singleton_append, gb_73_19, gb_73_23]
    refine K _ ?_
    rw [if_pos w, z_n, zabs_i (by rw [e]; omega), e]
    rfl
  · rw [if_pos (by rw [zb_0, hB]; omega), gb_73_22, gb_73_23]
    exact K _ (by rw [if_neg w]; rfl)
