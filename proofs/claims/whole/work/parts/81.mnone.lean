/-! Without a course: a letter. What hours and changes keep of a state. -/
variable {d S : Nat} {h : Nat × Option gNm} {I : Nat → Nat → Nat → Int32} {J : Nat → Nat → Nat → Int64} {Q : Option gV → gW → Prop}
theorem n_letter0 {a1 a2 a3 : Int32} {x4 x5 x6 x7 x8 : Option gV} (z6 : I 54 0 6 = 0) (z7 : I 54 0 7 = 0) (K : ∀ x : Int32, x.toInt = -1 → Q (some (.inl x)) (gwd S I J h)) : (gq (d + 1) 215 0 [some (.inr (.inr (some (50, 0)))), some (.inl (a1)), some (.inl (a2)), some (.inl (a3)), x4, x5, x6, x7, x8] [] (gwd S I J h) Q) := by
  have e6 : (6 : Int32).toInt = 6 := rfl
  have y1 : (1 : Int64).toInt = 1 := rfl
  have y5 : (5 : Int64).toInt = 5 := rfl
  have ym : ((0 - 1 : Int32).toInt64).toInt = -1 := rfl
  have no : (gq (d + 1) 215 43 [some (.inr (.inr (some (50, 0)))), some (.inl (a1)), some (.inl (a2)), some (.inl (a3)), x4, x5, x6, x7, x8] [] (gwd S I J h) Q) := by
    rw [gb_215_43, gb_215_44]; exact K _ rfl
  rw [gb_215_0, n_isIn, Option.toList_some, List.singleton_append, gb_215_7, z_64, yi_0, y1]
  by_cases w1 : 0 ≤ a1.toInt ∧ a1.toInt ≤ 1
  case neg => rw [if_pos (zb_neg w1)]; exact no
  have q6 : (6 + a1).toInt = 6 + a1.toInt := by rw [z_add (by omega) (by omega), e6]
  have n6 : (6 + a1).toNatClampNeg = 6 + a1.toInt.toNat := by rw [z_n]; omega
  have hx : I 54 0 (6 + a1.toInt.toNat) = 0 := by
    by_cases e : a1.toInt = 0
    · rw [e]; exact z6
    · rw [show a1.toInt = 1 by omega]; exact z7
  rw [if_neg (by rw [zb_pos w1]; decide), gb_215_10]
  refine ⟨g_in.mpr (by omega), ?_⟩
  rw [n6, hx, gb_215_22, n_isIn, Option.toList_some, List.singleton_append, gb_215_28, z_64, yi_0, ym, if_pos (zb_neg (by omega))]
  exact no
theorem tHd_upm {t : gSt} {b : Nat} {m : Int} (hh : tHd t) (hb : (b : Int) ≠ t 3) : tHd (sUp t (10 + b) m) := by
  have e3 : sUp t (10 + b) m 3 = t 3 := sUp_ne (by omega)
  have e1 : sUp t (10 + b) m 1 = t 1 := sUp_ne (by omega)
  intro h3
  rw [e3] at h3
  have := hh h3
  rw [e3, e1, sUp_ne (by omega)]
  exact this
theorem tHd_upk {t : gSt} {k : Nat} {m : Int} (hh : tHd t) (hk : k = 0 ∨ k = 2 ∨ k = 4 ∨ k = 5) : tHd (sUp t k m) := by
  have e3 : sUp t k m 3 = t 3 := sUp_ne (by omega)
  have e1 : sUp t k m 1 = t 1 := sUp_ne (by omega)
  intro h3
  rw [e3] at h3
  have := hh h3
  rw [e3, e1, sUp_ne (by omega)]
  exact this
theorem tPs_upk {C : gCo} {t : gSt} {k : Nat} {m : Int} (hp : tPs C t) (hk : k ≠ 5) : tPs C (sUp t k m) := fun b hb => hp b (by rw [sUp_ne (fun e => hk e.symm)] at hb; exact hb)
