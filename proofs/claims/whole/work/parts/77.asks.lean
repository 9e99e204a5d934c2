/-! The class: what is asked of the hours ahead and of what was seen. -/
variable {d S : Nat} {h : Nat × Option gNm} {I : Nat → Nat → Nat → Int32} {J : Nat → Nat → Nat → Int64} {Q : Option gV → gW → Prop}
def FQ (c : Nat) (I I' : Nat → Nat → Nat → Int32) : Prop := ∀ k i j, ¬ (k = 14 ∧ i = c ∧ (j = 3 ∨ j = 4 ∨ j = 5 ∨ j = 6) ∨ k = 16 ∧ i = c ∨ k = 18 ∧ i = c ∨ k = 21 ∧ (i = 1 ∨ i = 2) ∨ k = 22 ∧ (i = 1 ∨ i = 2) ∨ k = 27 ∧ i = 0 ∨ k = 26 ∧ i = 0 ∨ k = 20 ∧ i = 0 ∧ j = 8) → I' k i j = I k i j
theorem FQ_refl {c : Nat} {I : Nat → Nat → Nat → Int32} : FQ c I I := fun _ _ _ _ => rfl
theorem m_laterP {a1 a2 : Int32} {C : gCo} {t : gSt} (hc : cOk C) (h10 : I 10 0 10 ≠ 0) (hC : kCo I h.1 C) (hto : tOk C t) (hS : kS I 0 t)
    (K : ∀ I' (x : Int32), FQ h.1 I I' → x.toInt = (if 0 ≤ a1.toInt ∧ a1.toInt ≤ 60 ∧ t 0 + a1.toInt ≤ 999 ∧ 0 ≤ a2.toInt ∧ a2.toInt ≤ 3 then gTold (gIt C a1.toInt.toNat t) a2.toInt else -1) → Q (some (.inl x)) (gwd S I' J h)) : (gq (d + 6) 126 0 [some (.inr (.inr (some (10, 0)))), some (.inl (a1)), some (.inl (a2))] [] (gwd S I J h) Q) := by
  have e3 : (3 : Int32).toInt = 3 := rfl
  have e60 : (60 : Int32).toInt = 60 := rfl
  have no : ¬ (0 ≤ a1.toInt ∧ a1.toInt ≤ 60 ∧ t 0 + a1.toInt ≤ 999 ∧ 0 ≤ a2.toInt ∧ a2.toInt ≤ 3) → (gq (d + 6) 126 27 [some (.inr (.inr (some (10, 0)))), some (.inl (a1)), some (.inl (a2))] [] (gwd S I J h) Q) := fun w => by
    rw [gb_126_27, gb_126_28]
    exact K I _ FQ_refl (by rw [if_neg w]; rfl)
  rw [gb_126_0, if_neg h10, gb_126_7]
  by_cases w1 : 0 ≤ a2.toInt
  case neg => rw [if_pos (by rw [z_lt, z_0]; omega)]; exact no (by omega)
  rw [if_neg (by rw [z_lt, z_0]; omega), gb_126_11]
  by_cases w2 : a2.toInt ≤ 3
  case neg => rw [if_pos (by rw [z_lt]; omega)]; exact no (by omega)
  rw [if_neg (by rw [z_lt]; omega), gb_126_16]
  refine m_isAhead h10 hS hto.1 fun x hx => ?_
  rw [Option.toList_some, List.singleton_append, gb_126_24, hx, e60, z_0]
  by_cases w3 : 0 ≤ a1.toInt ∧ a1.toInt ≤ 60 ∧ t 0 + a1.toInt ≤ 999
  case neg => rw [if_pos (zb_neg w3)]; exact no (by omega)
  rw [if_neg (by rw [zb_pos w3]; decide), gb_126_29]
  refine m_behind hc hC hto hS (by decide) (by omega) ⟨w1, w2⟩ fun I1 y hF1 hy => ?_
  rw [Option.toList_some, List.singleton_append, gb_126_46]
  exact K I1 _ (fun k i j hn => hF1 _ _ _ (by omega)) (by rw [if_pos (by omega)]; exact hy)
theorem m_throughP {C : gCo} {t : gSt} (hc : cOk C) (h10 : I 10 0 10 ≠ 0) (hC : kCo I h.1 C) (hto : tOk C t) (h9 : t 0 ≤ 999) (hS : kS I 0 t)
    (K : ∀ I' (x : Int32), FQ h.1 I I' → x.toInt = (gThrough C t).1 → Q (some (.inl x)) (gwd S I' J h)) : (gq (d + 6) 127 0 [some (.inr (.inr (some (10, 0))))] [] (gwd S I J h) Q) := by
  rw [gb_127_0, if_neg h10, gb_127_7]
  refine m_htt hc hC hto h9 hS (by decide) fun I1 y hF1 hS1 hy => ?_
  rw [Option.toList_some, List.singleton_append, gb_127_22, gb_127_26]
  exact K I1 _ (fun k i j hn => hF1 _ _ _ (by omega)) hy
theorem m_fewP {C : gCo} {t : gSt} (hc : cOk C) (h10 : I 10 0 10 ≠ 0) (hC : kCo I h.1 C) (hto : tOk C t) (h9 : t 0 ≤ 999) (hS : kS I 0 t)
    (K : ∀ I' (x : Int32), FQ h.1 I I' → x.toInt = gFew C t → Q (some (.inl x)) (gwd S I' J h)) : (gq (d + 7) 128 0 [some (.inr (.inr (some (10, 0))))] [] (gwd S I J h) Q) := by
  rw [gb_128_0, if_neg h10, gb_128_7]
  refine m_few hc hC hto h9 hS ⟨by decide, by decide⟩ fun I1 y hF1 hy => ?_
  rw [Option.toList_some, List.singleton_append, gb_128_22, gb_128_26]
  exact K I1 _ (fun k i j hn => hF1 _ _ _ (by omega)) hy
theorem m_postP {a1 a2 : Int32} {C : gCo} {t : gSt} (hc : cOk C) (h10 : I 10 0 10 ≠ 0) (hC : kCo I h.1 C) (hto : tOk C t) (h9 : t 0 ≤ 999) (hS : kS I 0 t)
    (K : ∀ I' (x : Int32), FQ h.1 I I' → x.toInt = (if (0 ≤ a1.toInt ∧ a1.toInt < C.1 2) ∧ a1.toInt ≠ t 3 ∧ 0 ≤ a2.toInt ∧ a2.toInt ≤ 1 then (if (gPost C t a1.toInt.toNat).2 = -1 ∨ a2.toInt = 0 then (gPost C t a1.toInt.toNat).2 else (gPost C t a1.toInt.toNat).1) else -1) → Q (some (.inl x)) (gwd S I' J h)) : (gq (d + 7) 129 0 [some (.inr (.inr (some (10, 0)))), some (.inl (a1)), some (.inl (a2))] [] (gwd S I J h) Q) := by
  have e1 : (1 : Int32).toInt = 1 := rfl
  have c2 := hC.1 2 (by decide)
  have s3 := hS.1 3 (by decide)
  have rB := hc.2.2.1
  have no : ¬ ((0 ≤ a1.toInt ∧ a1.toInt < C.1 2) ∧ a1.toInt ≠ t 3 ∧ 0 ≤ a2.toInt ∧ a2.toInt ≤ 1) → (gq (d + 7) 129 38 [some (.inr (.inr (some (10, 0)))), some (.inl (a1)), some (.inl (a2))] [] (gwd S I J h) Q) := fun w => by
    rw [gb_129_38, gb_129_39]
    exact K I _ FQ_refl (by rw [if_neg w]; rfl)
  rw [gb_129_0, if_neg h10, gb_129_7, m_hasBearer, Option.toList_some, List.singleton_append, gb_129_15]
  by_cases w : 0 ≤ a1.toInt ∧ a1.toInt < C.1 2
  case neg => rw [if_pos (zb_neg (by omega))]; exact no (fun e => w e.1)
  rw [if_neg (by rw [zb_pos (by omega)]; decide), gb_129_18]
  by_cases w1 : a1.toInt = t 3
  · rw [if_pos (z_inj (by rw [s3, w1]))]; exact no (fun e => e.2.1 w1)
  rw [if_neg (fun e => w1 (by rw [e, s3])), gb_129_29]
  by_cases w2 : 0 ≤ a2.toInt
  case neg => rw [if_pos (by rw [z_lt, z_0]; omega)]; exact no (by omega)
  rw [if_neg (by rw [z_lt, z_0]; omega), gb_129_33]
  by_cases w3 : a2.toInt ≤ 1
  case neg => rw [if_neg (by rw [z_le]; omega)]; exact no (by omega)
  rw [if_pos (by rw [z_le]; omega), gb_129_40]
  refine m_post (b := a1.toInt.toNat) hc hC hto h9 hS (by decide) (by omega) (by omega) fun I1 y hF1 hy => ?_
  rw [Option.toList_some, List.singleton_append, gb_129_57]
  exact K I1 _ (fun k i j hn => hF1 _ _ _ (by omega)) (by rw [if_pos ⟨w, w1, w2, w3⟩]; exact hy)
theorem m_changeP {a1 : Int32} {C : gCo} {t : gSt} (hc : cOk C) (h10 : I 10 0 10 ≠ 0) (hC : kCo I h.1 C) (hto : tOk C t) (h9 : t 0 ≤ 999) (hS : kS I 0 t)
    (K : ∀ I' (x : Int32), FQ h.1 I I' → x.toInt = (if 0 ≤ a1.toInt ∧ a1.toInt ≤ 2 then (if a1.toInt = 0 then (gChange C t).2.1 else if a1.toInt = 1 then (gChange C t).2.2 else (gChange C t).1) else -1) → Q (some (.inl x)) (gwd S I' J h)) : (gq (d + 7) 130 0 [some (.inr (.inr (some (10, 0)))), some (.inl (a1))] [] (gwd S I J h) Q) := by
  have e2 : (2 : Int32).toInt = 2 := rfl
  have no : ¬ (0 ≤ a1.toInt ∧ a1.toInt ≤ 2) → (gq (d + 7) 130 16 [some (.inr (.inr (some (10, 0)))), some (.inl (a1))] [] (gwd S I J h) Q) := fun w => by
    rw [gb_130_16, gb_130_17]
    exact K I _ FQ_refl (by rw [if_neg w]; rfl)
  rw [gb_130_0, if_neg h10, gb_130_7]
  by_cases w1 : 0 ≤ a1.toInt
  case neg => rw [if_pos (by rw [z_lt, z_0]; omega)]; exact no (by omega)
  rw [if_neg (by rw [z_lt, z_0]; omega), gb_130_11]
  by_cases w2 : a1.toInt ≤ 2
  case neg => rw [if_neg (by rw [z_le]; omega)]; exact no (by omega)
  rw [if_pos (by rw [z_le]; omega), gb_130_18]
  refine m_change hc hC hto h9 hS ⟨by decide, by decide⟩ fun I1 y hF1 hy => ?_
  rw [Option.toList_some, List.singleton_append, gb_130_34]
  exact K I1 _ (fun k i j hn => hF1 _ _ _ (by omega)) (by rw [if_pos ⟨w1, w2⟩]; exact hy)
theorem m_leastP {C : gCo} {t : gSt} (hc : cOk C) (h10 : I 10 0 10 ≠ 0) (hC : kCo I h.1 C) (hto : tOk C t) (h9 : t 0 ≤ 999) (hS : kS I 0 t)
    (K : ∀ I' (x : Int32), FQ h.1 I I' → x.toInt = gLeastF C t 99 1 → Q (some (.inl x)) (gwd S I' J h)) : (gq (d + 7) 131 0 [some (.inr (.inr (some (10, 0))))] [] (gwd S I J h) Q) := by
  rw [gb_131_0, if_neg h10, gb_131_7]
  refine m_least hc hC hto h9 hS (by decide) fun I1 y hF1 hy => ?_
  rw [Option.toList_some, List.singleton_append, gb_131_22, gb_131_26]
  exact K I1 _ (fun k i j hn => hF1 _ _ _ (by omega)) hy
theorem m_oddsP {C : gCo} {t : gSt} (hc : cOk C) (h10 : I 10 0 10 ≠ 0) (hC : kCo I h.1 C) (hto : tOk C t) (hS : kS I 0 t)
    (K : ∀ I' (x : Int32), FQ h.1 I I' → x.toInt = (if t 0 + 1 ≤ 999 then gOdds C t else -1) → Q (some (.inl x)) (gwd S I' J h)) : (gq (d + 7) 132 0 [some (.inr (.inr (some (10, 0))))] [] (gwd S I J h) Q) := by
  have e1 : (1 : Int32).toInt = 1 := rfl
  rw [gb_132_0, if_neg h10, gb_132_7]
  refine m_isAhead h10 hS hto.1 fun x hx => ?_
  rw [Option.toList_some, List.singleton_append, gb_132_14, hx, e1]
  by_cases w : t 0 + 1 ≤ 999
  · rw [if_neg (by rw [zb_pos ⟨by omega, by omega, w⟩]; decide), gb_132_17]
    refine m_odds hc hC hto hS (by decide) fun I1 y hF1 hy => ?_
    rw [Option.toList_some, List.singleton_append, gb_132_32, gb_132_36]
    exact K I1 _ (fun k i j hn => hF1 _ _ _ (by omega)) (by rw [if_pos w]; exact hy)
  · rw [if_pos (zb_neg (by omega)), gb_132_35, gb_132_36]
    exact K I _ FQ_refl (by rw [if_neg w]; rfl)
theorem m_strengthsP {a1 : Int32} {C : gCo} {t : gSt} {sn : Nat → Int} {rm : Int} (hc : cOk C) (h10 : I 10 0 10 ≠ 0) (hC : kCo I h.1 C) (hto : tOk C t) (hS : kS I 0 t) (hk : snOk C sn rm) (hs : kSn I sn rm)
    (K : ∀ I' (x : Int32), FQ h.1 I I' → x.toInt = gKth (gFits C sn rm t) a1.toInt (gLeft (gFits C sn rm t) 100 0 0) 100 0 0 → Q (some (.inl x)) (gwd S I' J h)) : (gq (d + 6) 134 0 [some (.inr (.inr (some (10, 0)))), some (.inl (a1))] [] (gwd S I J h) Q) := by
  rw [gb_134_0, if_neg h10, gb_134_9]
  refine m_sift hc hC hto hS hk hs (by decide) fun I1 hF1 hf1 => ?_
  rw [Option.toList_none, List.nil_append, gb_134_24]
  refine m_strengthLeft hf1 fun x hx => ?_
  rw [Option.toList_some, List.singleton_append, gb_134_32]
  exact K I1 _ (fun k i j hn => hF1 _ _ _ (by omega)) hx
theorem m_tellsP {a1 : Int32} {C : gCo} {t : gSt} {sn : Nat → Int} {rm : Int} (hc : cOk C) (h10 : I 10 0 10 ≠ 0) (hC : kCo I h.1 C) (hto : tOk C t) (h9 : t 0 ≤ 999) (hS : kS I 0 t) (hk : snOk C sn rm) (hs : kSn I sn rm)
    (K : ∀ I' (x : Int32), FQ h.1 I I' → x.toInt = (if 0 ≤ a1.toInt ∧ a1.toInt ≤ 2 then (if (gTell C t (gFits C sn rm t)).2 = -1 then -1 else if a1.toInt = 0 then (gTell C t (gFits C sn rm t)).2 / 8 + 1 else if a1.toInt = 1 then (gTell C t (gFits C sn rm t)).2 % 8 else (gTell C t (gFits C sn rm t)).1) else -1) → Q (some (.inl x)) (gwd S I' J h)) : (gq (d + 7) 135 0 [some (.inr (.inr (some (10, 0)))), some (.inl (a1))] [] (gwd S I J h) Q) := by
  have e2 : (2 : Int32).toInt = 2 := rfl
  have no : ¬ (0 ≤ a1.toInt ∧ a1.toInt ≤ 2) → (gq (d + 7) 135 16 [some (.inr (.inr (some (10, 0)))), some (.inl (a1))] [] (gwd S I J h) Q) := fun w => by
    rw [gb_135_16, gb_135_17]
    exact K I _ FQ_refl (by rw [if_neg w]; rfl)
  rw [gb_135_0, if_neg h10, gb_135_7]
  by_cases w1 : 0 ≤ a1.toInt
  case neg => rw [if_pos (by rw [z_lt, z_0]; omega)]; exact no (by omega)
  rw [if_neg (by rw [z_lt, z_0]; omega), gb_135_11]
  by_cases w2 : a1.toInt ≤ 2
  case neg => rw [if_neg (by rw [z_le]; omega)]; exact no (by omega)
  rw [if_pos (by rw [z_le]; omega), gb_135_18]
  refine m_sift hc hC hto hS hk hs (by decide) fun I1 hF1 hf1 => ?_
  rw [Option.toList_none, List.nil_append, gb_135_33]
  refine m_mostTelling hc (kCo_congr hC fun k j hk => hF1 _ _ _ (by omega)) hto h9 (kS_congr hS (fun j => hF1 _ _ _ (by omega)) (fun j => hF1 _ _ _ (by omega))) hf1 (by decide) fun I2 y hF2 hy => ?_
  rw [Option.toList_some, List.singleton_append, gb_135_49]
  exact K I2 _ (fun k i j hn => by rw [hF2 _ _ _ (by omega), hF1 _ _ _ (by omega)]) (by rw [if_pos ⟨w1, w2⟩]; exact hy)
/-! Without a course: minus one. -/
theorem m_later0 {a1 a2 : Int32} (h10 : I 10 0 10 = 0) (K : ∀ x : Int32, x.toInt = -1 → Q (some (.inl x)) (gwd S I J h)) : (gq (d + 6) 126 0 [some (.inr (.inr (some (10, 0)))), some (.inl (a1)), some (.inl (a2))] [] (gwd S I J h) Q) := by
  rw [gb_126_0, if_pos h10, gb_126_27, gb_126_28]; exact K _ rfl
theorem m_through0 (h10 : I 10 0 10 = 0) (K : ∀ x : Int32, x.toInt = -1 → Q (some (.inl x)) (gwd S I J h)) : (gq (d + 6) 127 0 [some (.inr (.inr (some (10, 0))))] [] (gwd S I J h) Q) := by
  rw [gb_127_0, if_pos h10, gb_127_25, gb_127_26]; exact K _ rfl
theorem m_few0 (h10 : I 10 0 10 = 0) (K : ∀ x : Int32, x.toInt = -1 → Q (some (.inl x)) (gwd S I J h)) : (gq (d + 7) 128 0 [some (.inr (.inr (some (10, 0))))] [] (gwd S I J h) Q) := by
  rw [gb_128_0, if_pos h10, gb_128_25, gb_128_26]; exact K _ rfl
theorem m_post0 {a1 a2 : Int32} (h10 : I 10 0 10 = 0) (K : ∀ x : Int32, x.toInt = -1 → Q (some (.inl x)) (gwd S I J h)) : (gq (d + 7) 129 0 [some (.inr (.inr (some (10, 0)))), some (.inl (a1)), some (.inl (a2))] [] (gwd S I J h) Q) := by
  rw [gb_129_0, if_pos h10, gb_129_38, gb_129_39]; exact K _ rfl
theorem m_change0 {a1 : Int32} (h10 : I 10 0 10 = 0) (K : ∀ x : Int32, x.toInt = -1 → Q (some (.inl x)) (gwd S I J h)) : (gq (d + 7) 130 0 [some (.inr (.inr (some (10, 0)))), some (.inl (a1))] [] (gwd S I J h) Q) := by
  rw [gb_130_0, if_pos h10, gb_130_16, gb_130_17]; exact K _ rfl
theorem m_least0 (h10 : I 10 0 10 = 0) (K : ∀ x : Int32, x.toInt = -1 → Q (some (.inl x)) (gwd S I J h)) : (gq (d + 7) 131 0 [some (.inr (.inr (some (10, 0))))] [] (gwd S I J h) Q) := by
  rw [gb_131_0, if_pos h10, gb_131_25, gb_131_26]; exact K _ rfl
theorem m_odds0 (h10 : I 10 0 10 = 0) (K : ∀ x : Int32, x.toInt = -1 → Q (some (.inl x)) (gwd S I J h)) : (gq (d + 7) 132 0 [some (.inr (.inr (some (10, 0))))] [] (gwd S I J h) Q) := by
  rw [gb_132_0, if_pos h10, gb_132_35, gb_132_36]; exact K _ rfl
theorem m_strengths0 {a1 : Int32} (h10 : I 10 0 10 = 0) (K : ∀ x : Int32, x.toInt = -1 → Q (some (.inl x)) (gwd S I J h)) : (gq (d + 6) 134 0 [some (.inr (.inr (some (10, 0)))), some (.inl (a1))] [] (gwd S I J h) Q) := by
  rw [gb_134_0, if_pos h10, gb_134_7, gb_134_8]; exact K _ rfl
theorem m_tells0 {a1 : Int32} (h10 : I 10 0 10 = 0) (K : ∀ x : Int32, x.toInt = -1 → Q (some (.inl x)) (gwd S I J h)) : (gq (d + 7) 135 0 [some (.inr (.inr (some (10, 0)))), some (.inl (a1))] [] (gwd S I J h) Q) := by
  rw [gb_135_0, if_pos h10, gb_135_16, gb_135_17]; exact K _ rfl
