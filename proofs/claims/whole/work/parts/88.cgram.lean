/-! The class reads formulas. -/
def FG (c : Nat) (I I' : Nat → Nat → Nat → Int32) : Prop := ∀ k i j, ¬ (k = 11 ∧ i = 0 ∧ 2 ≤ j ∧ j ≤ 7 ∨ k = 14 ∧ i = c ∧ j = 2 ∨ k = 15 ∧ i = c ∨ k = 17 ∧ i = c ∧ j = 3) → I' k i j = I k i j
theorem FG_refl {c : Nat} {I : Nat → Nat → Nat → Int32} : FG c I I := fun _ _ _ _ => rfl
theorem FG_trans {c : Nat} {I I' I'' : Nat → Nat → Nat → Int32} (h1 : FG c I I') (h2 : FG c I' I'') : FG c I I'' := fun k i j hn => by rw [h2 k i j hn, h1 k i j hn]
theorem kTx_FG {c : Nat} {I I' : Nat → Nat → Nat → Int32} {tp : Nat → Int} {n : Nat} (h : kTx I tp n) (hF : FG c I I') : kTx I' tp n := kTx_congr h (fun j => hF _ _ _ (by omega)) (hF _ _ _ (by omega)) (fun j => hF _ _ _ (by omega))
/-- which words are allowed -/
def kAl (I : Nat → Nat → Nat → Int32) (c : Nat) (al : Nat → Bool) : Prop := ∀ (a : Int32) (w : Nat), a.toInt = w → w ≤ 12 → (I 17 c 2 >>> (a &&& 31) &&& 1 = 1 ↔ al w = true)
theorem kAl_FG {c : Nat} {I I' : Nat → Nat → Nat → Int32} {al : Nat → Bool} (h : kAl I c al) (hF : FG c I I') : kAl I' c al := fun a w h1 h2 => by rw [hF 17 c 2 (by omega)]; exact h a w h1 h2
/-- what a method leaves -/
def kOut (I : Nat → Nat → Nat → Int32) (tp : Nat → Int) (n c z o : Nat) (r : lT × List Int) (I' : Nat → Nat → Nat → Int32) : Prop :=
  match r with
  | (.inl b, _) => kTk I' tp n (.inl b)
  | (.inr q, l) => kTk I' tp n (.inr q) ∧ (I' 17 c 3).toInt = o ∧ (I' 14 c 2).toInt = ((z + l.length : Nat) : Int) ∧ (∀ j, j < z → I' 15 c j = I 15 c j) ∧ gCd (I' 15 c) id z l
variable {d S : Nat} {h : Nat × Option gNm} {I : Nat → Nat → Nat → Int32} {J : Nat → Nat → Nat → Int64} {Q : Option gV → gW → Prop}
theorem m_put {c z : Nat} {a1 : Int32} (hz : (I 14 c 2).toInt = z) (hl : z < 1600) : (gq d 79 0 [some (.inr (.inr (some (14, c)))), some (.inl (a1))] [] (gwd S I J h) Q) ↔ Q none (gwd S (gup (gup I 15 c z a1) 14 c 2 (I 14 c 2 + 1)) J h) := by
  have e : (Int32.ofNat 1600).toInt = 1600 := rfl
  rw [gb_79_0, if_neg (by rw [z_lt, z_0]; omega), gb_79_7, if_neg (by rw [z_le, e]; omega), gb_79_19, z_n, hz, Int.toNat_natCast, gb_79_29, gb_79_39]
  have hg : gin (I 14 c 2) 1600 = true := g_in.mpr (by omega)
  rw [hg, eq_self, true_and]
  simp only [u_k (show (14 : Nat) ≠ 15 by decide)]
theorem m_putB {c : Nat} {a1 : Int32} (K : ∀ (I' : Nat → Nat → Nat → Int32), (∀ k i j, ¬ ((k = 14 ∧ i = c ∧ j = 2) ∨ (k = 15 ∧ i = c)) → I' k i j = I k i j) → Q none (gwd S I' J h)) : (gq d 79 0 [some (.inr (.inr (some (14, c)))), some (.inl (a1))] [] (gwd S I J h) Q) := by
  have e : (Int32.ofNat 1600).toInt = 1600 := rfl
  rw [gb_79_0]
  by_cases w1 : I 14 c 2 < 0
  · rw [if_pos w1, gb_79_39]; exact K I (fun _ _ _ _ => rfl)
  rw [if_neg w1, gb_79_7]
  by_cases w2 : Int32.ofNat 1600 ≤ I 14 c 2
  · rw [if_pos w2, gb_79_39]; exact K I (fun _ _ _ _ => rfl)
  rw [if_neg w2, gb_79_19]
  rw [z_lt, z_0] at w1
  rw [z_le, e] at w2
  refine ⟨g_in.mpr (by omega), ?_⟩
  rw [gb_79_29, gb_79_39]
  exact K _ (fun k i j hn => by rw [u_ne (by omega), u_ne (by omega)])
theorem m_putD {c z : Nat} {a1 : Int32} {w : Int} (hz : (I 14 c 2).toInt = z) (hl : z < 1600) (hw : a1.toInt = w) (h0 : 0 ≤ w ∧ w ≤ 10000) (K : ∀ (I' : Nat → Nat → Nat → Int32), (∀ k i j, ¬ ((k = 14 ∧ i = c ∧ j = 2) ∨ (k = 15 ∧ i = c)) → I' k i j = I k i j) → (I' 14 c 2).toInt = ((z + 1 : Nat) : Int) → (∀ j, j < z → I' 15 c j = I 15 c j) → (I' 15 c z).toInt = -1 - w → Q none (gwd S I' J h)) : (gq (d + 1) 80 0 [some (.inr (.inr (some (14, c)))), some (.inl (a1))] [] (gwd S I J h) Q) := by
  have e1 : (1 : Int32).toInt = 1 := rfl
  rw [gb_80_0, gb_80_2, m_put hz hl, Option.toList_none, List.nil_append, gb_80_7]
  exact K _ (fun k i j hn => by rw [u_ne (by omega), u_ne (by omega)]) (by rw [u_eq, z_add (by omega) (by omega), hz, e1]; rfl) (fun j hj => by rw [u_k (by decide), u_j (by omega)]) (by rw [u_k (by decide), u_eq, z_sub (by rw [z_m1]; omega) (by rw [z_m1]; omega), z_m1, hw])
theorem m_putDB {c : Nat} {a1 : Int32} (K : ∀ (I' : Nat → Nat → Nat → Int32), (∀ k i j, ¬ ((k = 14 ∧ i = c ∧ j = 2) ∨ (k = 15 ∧ i = c)) → I' k i j = I k i j) → Q none (gwd S I' J h)) : (gq (d + 1) 80 0 [some (.inr (.inr (some (14, c)))), some (.inl (a1))] [] (gwd S I J h) Q) := by
  rw [gb_80_0, gb_80_2]
  refine m_putB fun I1 hF => ?_
  rw [Option.toList_none, List.nil_append, gb_80_7]
  exact K I1 hF
theorem kTk_FP {c : Nat} {I I' : Nat → Nat → Nat → Int32} {tp : Nat → Int} {n : Nat} {τ : lT} (h : kTk I tp n τ) (hF : (∀ k i j, ¬ ((k = 14 ∧ i = c ∧ j = 2) ∨ (k = 15 ∧ i = c)) → I' k i j = I k i j)) : kTk I' tp n τ := kTk_congr h fun j _ _ => hF _ _ _ (by omega)
theorem FG_p {c : Nat} {I I' : Nat → Nat → Nat → Int32} (hF : (∀ k i j, ¬ ((k = 14 ∧ i = c ∧ j = 2) ∨ (k = 15 ∧ i = c)) → I' k i j = I k i j)) : FG c I I' := fun k i j hn => hF _ _ _ (by omega)
theorem FG_t {c : Nat} {I I' : Nat → Nat → Nat → Int32} (hF : (∀ k i j, ¬ ((k = 11 ∧ i = 0 ∧ (j = 2 ∨ j = 3 ∨ j = 4 ∨ j = 5 ∨ j = 6 ∨ j = 7))) → I' k i j = I k i j)) : FG c I I' := fun k i j hn => hF _ _ _ (by omega)
/-- behind what opens, or a fault -/
theorem m_opens {tp : Nat → Int} {n c s o : Nat} {g : Bool} (hx : kTx I tp n) (ht : kTk I tp n (.inr (s, g))) (ho : (I 17 c 3).toInt = o) (h6 : o ≤ 6) (K0 : 6 ≤ o → ∀ (I' : Nat → Nat → Nat → Int32), FG c I I' → kTk I' tp n (.inl (4, s)) → Q (some (.inl 0)) (gwd S I' J h)) (K1 : ¬ 6 ≤ o → ∀ (I' : Nat → Nat → Nat → Int32), (∀ k i j, ¬ ((k = 11 ∧ i = 0 ∧ (j = 2 ∨ j = 3 ∨ j = 4 ∨ j = 5 ∨ j = 6 ∨ j = 7)) ∨ (k = 17 ∧ i = c ∧ j = 3)) → I' k i j = I k i j) → kTk I' tp n (.inr (lNx tp n s g)) → (I' 17 c 3).toInt = ((o + 1 : Nat) : Int) → Q (some (.inl 1)) (gwd S I' J h)) : (gq (d + 6) 48 0 [some (.inr (.inr (some (17, c))))] [] (gwd S I J h) Q) := by
  have e6 : (6 : Int32).toInt = 6 := rfl
  have e1 : (1 : Int32).toInt = 1 := rfl
  rw [gb_48_0]
  by_cases w : 6 ≤ o
  · rw [if_neg (by rw [z_lt]; omega), gb_48_9]
    refine m_failH ht rfl (by decide) fun I1 hF1 ht1 => ?_
    rw [Option.toList_none, List.nil_append, gb_48_17]
    exact K0 w I1 (fun k i j hn => hF1 _ _ _ (by omega)) ht1
  · rw [if_pos (by rw [z_lt]; omega), gb_48_19]
    refine m_nextT (s := s) (g := g) (kTx_congr hx (fun j => u_k (by decide)) (u_k (by decide)) (fun j => u_k (by decide))) (kTk_congr ht fun j _ _ => u_k (by decide)) fun I1 hF1 ht1 => ?_
    rw [Option.toList_none, List.nil_append, gb_48_36]
    exact K1 w I1 (fun k i j hn => by rw [hF1 _ _ _ (by omega), u_ne (by omega)]) ht1 (by rw [hF1 _ _ _ (by omega), u_eq, z_add (by omega) (by omega), ho, e1]; rfl)
theorem kKind {I : Nat → Nat → Nat → Int32} {tp : Nat → Int} {n s : Nat} {g : Bool} {v : Int32} {c : Int} (ht : kTk I tp n (.inr (s, g))) (hv : v.toInt = c) : I 11 0 2 = v ↔ lKd tp n s g = c := by
  rw [z_eq, ht.1, hv]
theorem kSig {I : Nat → Nat → Nat → Int32} {tp : Nat → Int} {n s : Nat} {g : Bool} {v : Int32} {c : Int} (ht : kTk I tp n (.inr (s, g))) (hv : v.toInt = c) (h0 : 0 ≤ c) (hl : lIsL c = false) (hd : lIsD c = false) : I 11 0 2 = v ↔ lB tp n s = c := (kKind ht hv).trans (lKd_sign h0 hl hd)
theorem kKindB {I : Nat → Nat → Nat → Int32} {tp : Nat → Int} {n : Nat} {b : Int × Int} {v : Int32} {c : Int} (ht : kTk I tp n (.inl b)) (hv : v.toInt = c) (hc : c ≠ -4) : ¬ I 11 0 2 = v := fun e => by
  have h1 : (I 11 0 2).toInt = -4 := ht.1
  rw [e, hv] at h1; exact hc h1
/-- behind a fault nothing is read -/
theorem m_partB {tp : Nat → Int} {n c : Nat} {b : Int × Int} (hx : kTx I tp n) (ht : kTk I tp n (.inl b)) (K : ∀ (I' : Nat → Nat → Nat → Int32), (∀ k i j, ¬ ((k = 11 ∧ i = 0 ∧ (j = 2 ∨ j = 6 ∨ j = 7))) → I' k i j = I k i j) → kTk I' tp n (.inl b) → Q none (gwd S I' J h)) : (gq (d + 3) 44 0 [some (.inr (.inr (some (17, c))))] [] (gwd S I J h) Q) := by
  rw [gb_44_0, gb_44_9, if_neg (kKindB ht i8_3 (by decide)), gb_44_33, if_neg (kKindB (v := 40) (c := 40) ht rfl (by decide)), gb_44_78, m_isWord (w := 17) rfl hx ht, Option.toList_some, List.singleton_append, gb_44_87, lIs_l, if_neg Bool.false_ne_true, if_pos rfl, gb_44_90, m_isWord (w := 18) rfl hx ht, Option.toList_some, List.singleton_append, gb_44_99, lIs_l, if_neg Bool.false_ne_true, if_pos rfl, gb_44_116, gb_44_125, if_neg (kKindB ht i8_2 (by decide)), gb_44_156]
  refine m_failH ht rfl (by decide) fun I1 hF1 ht1 => ?_
  rw [Option.toList_none, List.nil_append, gb_44_164]
  exact K I1 hF1 ht1
theorem m_prodLB {tp : Nat → Int} {n c : Nat} {b : Int × Int} {a1 : Int32} {x2 : Option gV} (ht : kTk I tp n (.inl b)) (K : Q none (gwd S I J h)) : (gq d 43 6 [some (.inr (.inr (some (17, c)))), some (.inl (a1)), x2] [] (gwd S I J h) Q) := by
  rw [gb_43_6]
  by_cases w : 1600 ≤ a1
  · rw [if_pos w, gb_43_70]; exact K
  · rw [if_neg w, gb_43_13, if_neg (kKindB (v := 42) (c := 42) ht rfl (by decide)), gb_43_25, if_neg (kKindB (v := 47) (c := 47) ht rfl (by decide)), gb_43_70]; exact K
theorem m_sumLB {tp : Nat → Int} {n c : Nat} {b : Int × Int} {a1 : Int32} {x2 : Option gV} (ht : kTk I tp n (.inl b)) (K : Q none (gwd S I J h)) : (gq d 42 6 [some (.inr (.inr (some (17, c)))), some (.inl (a1)), x2] [] (gwd S I J h) Q) := by
  rw [gb_42_6]
  by_cases w : 1600 ≤ a1
  · rw [if_pos w, gb_42_70]; exact K
  · rw [if_neg w, gb_42_13, if_neg (kKindB (v := 43) (c := 43) ht rfl (by decide)), gb_42_25, if_neg (kKindB (v := 45) (c := 45) ht rfl (by decide)), gb_42_70]; exact K
theorem m_bothLB {tp : Nat → Int} {n c : Nat} {b : Int × Int} {a1 : Int32} (hx : kTx I tp n) (ht : kTk I tp n (.inl b)) (K : Q none (gwd S I J h)) : (gq (d + 1) 40 6 [some (.inr (.inr (some (17, c)))), some (.inl (a1))] [] (gwd S I J h) Q) := by
  rw [gb_40_6]
  by_cases w : 1600 ≤ a1
  · rw [if_pos w, gb_40_51]; exact K
  · rw [if_neg w, gb_40_13, m_isWord (w := 16) rfl hx ht, Option.toList_some, List.singleton_append, gb_40_22, lIs_l, if_neg Bool.false_ne_true, if_pos rfl, gb_40_51]; exact K
theorem m_testLB {tp : Nat → Int} {n c : Nat} {b : Int × Int} {a1 : Int32} (hx : kTx I tp n) (ht : kTk I tp n (.inl b)) (K : Q none (gwd S I J h)) : (gq (d + 1) 39 6 [some (.inr (.inr (some (17, c)))), some (.inl (a1))] [] (gwd S I J h) Q) := by
  rw [gb_39_6]
  by_cases w : 1600 ≤ a1
  · rw [if_pos w, gb_39_51]; exact K
  · rw [if_neg w, gb_39_13, m_isWord (w := 15) rfl hx ht, Option.toList_some, List.singleton_append, gb_39_22, lIs_l, if_neg Bool.false_ne_true, if_pos rfl, gb_39_51]; exact K
theorem m_sumB {tp : Nat → Int} {n c : Nat} {b : Int × Int} {x1 x2 : Option gV} (hx : kTx I tp n) (ht : kTk I tp n (.inl b)) (K : ∀ (I' : Nat → Nat → Nat → Int32), (∀ k i j, ¬ ((k = 11 ∧ i = 0 ∧ (j = 2 ∨ j = 6 ∨ j = 7))) → I' k i j = I k i j) → kTk I' tp n (.inl b) → Q none (gwd S I' J h)) : (gq (d + 5) 42 0 [some (.inr (.inr (some (17, c)))), x1, x2] [] (gwd S I J h) Q) := by
  rw [gb_42_0, gb_43_0]
  refine m_partB hx ht fun I1 hF1 ht1 => ?_
  rw [Option.toList_none, List.nil_append, gb_43_4]
  refine m_prodLB ht1 ?_
  rw [Option.toList_none, List.nil_append, gb_42_4]
  exact m_sumLB ht1 (K I1 hF1 ht1)
/-- how many calls may be open below -/
def kNeed (m o : Nat) : Nat := 10 * (6 - o) + (if m = 0 then 10 else if m ≤ 2 then 11 else if m ≤ 4 then 12 else if m = 5 then 13 else if m ≤ 7 then 14 else 15)
/-- where a mode's run begins -/
def kGq (m D c S : Nat) (h : Nat × Option gNm) (I : Nat → Nat → Nat → Int32) (J : Nat → Nat → Nat → Int64) (a1 : Int32) (x1 x2 : Option gV) (Q : Option gV → gW → Prop) : Prop :=
  if m = 0 then (gq D 44 0 [some (.inr (.inr (some (17, c))))] [] (gwd S I J h) Q)
  else if m = 1 then (gq D 43 6 [some (.inr (.inr (some (17, c)))), some (.inl (a1)), x2] [] (gwd S I J h) Q)
  else if m = 2 then (gq D 43 0 [some (.inr (.inr (some (17, c)))), x1, x2] [] (gwd S I J h) Q)
  else if m = 3 then (gq D 42 6 [some (.inr (.inr (some (17, c)))), some (.inl (a1)), x2] [] (gwd S I J h) Q)
  else if m = 4 then (gq D 42 0 [some (.inr (.inr (some (17, c)))), x1, x2] [] (gwd S I J h) Q)
  else if m = 5 then (gq D 41 0 [some (.inr (.inr (some (17, c)))), x1] [] (gwd S I J h) Q)
  else if m = 6 then (gq D 40 6 [some (.inr (.inr (some (17, c)))), some (.inl (a1))] [] (gwd S I J h) Q)
  else if m = 7 then (gq D 40 0 [some (.inr (.inr (some (17, c)))), x1] [] (gwd S I J h) Q)
  else if m = 8 then (gq D 39 6 [some (.inr (.inr (some (17, c)))), some (.inl (a1))] [] (gwd S I J h) Q)
  else (gq D 39 0 [some (.inr (.inr (some (17, c)))), x1] [] (gwd S I J h) Q)
def kSp (tp : Nat → Int) (n c : Nat) (al : Nat → Bool) (S : Nat) (h : Nat × Option gNm) (J : Nat → Nat → Nat → Int64) (f : Nat) : Prop :=
  ∀ (m o s z : Nat) (g : Bool) (I : Nat → Nat → Nat → Int32) (D : Nat) (a1 : Int32) (x1 x2 : Option gV) (Q : Option gV → gW → Prop), m ≤ 9 → o ≤ 6 → kTx I tp n → kAl I c al → kTk I tp n (.inr (s, g)) → (I 17 c 3).toInt = o → (I 14 c 2).toInt = z → z ≤ s → 10 * (n - s) + m < f → kNeed m o ≤ D → ((m = 1 ∨ m = 3 ∨ m = 6 ∨ m = 8) → a1.toInt ≤ s) → (∀ (I' : Nat → Nat → Nat → Int32), FG c I I' → kOut I tp n c z o (rd tp n al f m o s g) I' → Q none (gwd S I' J h)) → kGq m D c S h I J a1 x1 x2 Q
theorem kOut_app {I I1 I' : Nat → Nat → Nat → Int32} {tp : Nat → Int} {n c z o : Nat} {q : Nat × Bool} {l1 l2 : List Int} (h1 : ∀ j, j < z → I1 15 c j = I 15 c j) (hl : gCd (I1 15 c) id z l1) (h2 : kOut I1 tp n c (z + l1.length) o (.inr q, l2) I') : kOut I tp n c z o (.inr q, l1 ++ l2) I' := by
  obtain ⟨a1, a2, a3, a4, a5⟩ := h2
  refine ⟨a1, a2, by rw [a3, List.length_append]; omega, fun j hj => by rw [a4 j (by omega), h1 j hj], ?_⟩
  rw [gCd_app]
  exact ⟨gCd_congr (fun k h1 h2 => a4 k (by omega)) hl, a5⟩
theorem m_rd_1 {tp : Nat → Int} {n c : Nat} {al : Nat → Bool} {f : Nat} (ih : kSp tp n c al S h J f) {o s z D : Nat} {g : Bool} {a1 : Int32} {x2 : Option gV} (ho : o ≤ 6) (hx : kTx I tp n) (ha : kAl I c al) (ht : kTk I tp n (.inr (s, g))) (hop : (I 17 c 3).toInt = o) (hz : (I 14 c 2).toInt = z) (hzs : z ≤ s) (hf : 10 * (n - s) + 1 < f + 1) (hD : kNeed 1 o ≤ D) (h1 : a1.toInt ≤ s) (K : ∀ (I' : Nat → Nat → Nat → Int32), FG c I I' → kOut I tp n c z o (rd tp n al (f + 1) 1 o s g) I' → Q none (gwd S I' J h)) : (gq D 43 6 [some (.inr (.inr (some (17, c)))), some (.inl (a1)), x2] [] (gwd S I J h) Q) := by
  have hsn := ht.2.2.2.2.2.1
  have hn := hx.2.2.1
  have nd : kNeed 1 o = 10 * (6 - o) + 11 := rfl
  obtain ⟨d, rfl⟩ : ∃ d, D = d + 8 := ⟨D - 8, by omega⟩
  have e1 : (1 : Int32).toInt = 1 := rfl
  have hlo := z_lo a1
  rw [rd_loop (by decide)] at K
  have hO0 : ¬ (lB tp n s = 42 ∨ lB tp n s = 47) → lOpc tp n 1 s g = -1 := fun q => if_neg q
  have hO1 : (lB tp n s = 42 ∨ lB tp n s = 47) → lOpc tp n 1 s g = lB tp n s := fun q => if_pos q
  rw [gb_43_6]
  by_cases wl : s < 1600
  case neg =>
    have e : lB tp n s = -1 := lB_ge (by omega)
    rw [if_pos (hO0 (by rw [e]; decide))] at K
    have out : Q none (gwd S I J h) := K I FG_refl ⟨ht, hop, hz, fun _ _ => rfl, trivial⟩
    by_cases w : 1600 ≤ a1
    · rw [if_pos w, gb_43_70]; exact out
    · rw [if_neg w, gb_43_13, if_neg (fun q => by have := (kSig (v := 42) (c := 42) ht rfl (by decide) rfl rfl).mp q; omega), gb_43_25, if_neg (fun q => by have := (kSig (v := 47) (c := 47) ht rfl (by decide) rfl rfl).mp q; omega), gb_43_70]; exact out
  have e1600 : (1600 : Int32).toInt = 1600 := rfl
  rw [if_neg (by rw [z_le]; omega), gb_43_13]
  have go : ∀ cc : Int, lB tp n s = cc → (cc = 42 ∨ cc = 47) → (gq (d + 8) 43 37 [some (.inr (.inr (some (17, c)))), some (.inl (a1)), x2] [] (gwd S I J h) Q) := fun cc hc hcc => by
    have hkd : lKd tp n s g = cc := (lKd_sign (by omega) (by rcases hcc with rfl | rfl <;> rfl) (by rcases hcc with rfl | rfl <;> rfl)).mpr hc
    have hk2 := ht.1
    have hlt : s < n := lB_le (tp := tp) (by omega)
    have hnx := lNx_r (tp := tp) (g := g) hsn
    have hs1 := hnx.2.2.1 hlt
    have hOc := hO1 (by omega)
    rw [if_neg (by omega), hOc, hc] at K
    rw [gb_43_37]
    refine m_nextT hx ht fun I1 hF1 ht1 => ?_
    have hG1 : FG c I I1 := fun k i j hn => hF1 _ _ _ (by omega)
    rw [Option.toList_none, List.nil_append, gb_43_52]
    refine ih 0 o (lNx tp n s g).1 z (lNx tp n s g).2 I1 (d + 7) 0 none none _ (by decide) ho (kTx_FG hx hG1) (kAl_FG ha hG1) ht1 (by rw [hF1 _ _ _ (by omega)]; exact hop) (by rw [hF1 _ _ _ (by omega)]; exact hz) (by omega) (by omega) (by show 10 * (6 - o) + 10 ≤ d + 7; omega) (fun q => by omega) fun I2 hG2 ho2 => ?_
    have hG02 := FG_trans hG1 hG2
    have hx2 := kTx_FG hx hG02
    rw [Option.toList_none, List.nil_append, gb_43_56]
    show gq _ _ _ _ _ _ _
    match hr : rd tp n al f 0 o (lNx tp n s g).1 (lNx tp n s g).2, ho2 with
    | (.inl b, l), ho2 =>
      have hr' : rd tp n al f (1 - 1) o (lNx tp n s g).1 (lNx tp n s g).2 = (.inl b, l) := hr
      rw [hr', bR_l] at K
      refine m_putDB fun I3 hF3 => ?_
      rw [Option.toList_none, List.nil_append, gb_43_64]
      have ht3 : kTk I3 tp n (.inl b) := kTk_FP (I := I2) ho2 hF3
      exact m_prodLB ht3 (K I3 (FG_trans hG02 (FG_p hF3)) ht3)
    | (.inr (s1, g1), l1), ho2 =>
      have hr' : rd tp n al f (1 - 1) o (lNx tp n s g).1 (lNx tp n s g).2 = (.inr (s1, g1), l1) := hr
      rw [hr', bR_r] at K
      obtain ⟨b1, b2, b3, b4, b5⟩ := ho2
      have hlen := rd_len hx.2.2.2.1 f 0 o _ _ _ _ hnx.2.1 (by decide) hr
      have l1s : (lNx tp n s g).1 + l1.length ≤ s1 := hlen.1
      have l2s : s1 ≤ n := hlen.2.1
      refine m_putD b3 (by omega) (by rw [hk2, hkd]) (by omega) fun I3 hF3 q1 q2 q3 => ?_
      rw [Option.toList_none, List.nil_append, gb_43_64]
      have hG3 := FG_trans hG02 (FG_p hF3)
      refine ih 1 o s1 (z + l1.length + 1) g1 I3 (d + 8) (a1 + 1) none _ _ (by decide) ho (kTx_FG hx hG3) (kAl_FG ha hG3) (kTk_FP b1 hF3) (by rw [hF3 _ _ _ (by omega)]; exact b2) q1 (by omega) (by omega) hD (fun _ => by rw [z_add (by omega) (by omega), e1]; omega) fun I4 hG4 ho4 => ?_
      refine K I4 (FG_trans hG3 hG4) ?_
      match hr4 : rd tp n al f 1 o s1 g1, ho4 with
      | (.inl b, l), ho4 => exact ho4
      | (.inr (s2, g2), l2), ho4 =>
        have hc1 : gCd (I3 15 c) id z (l1 ++ [-1 - cc]) := by
          rw [gCd_app]
          exact ⟨gCd_congr (fun k h1 h2 => q2 k (by omega)) b5, q3, trivial⟩
        have := kOut_app (I := I) (I1 := I3) (l1 := l1 ++ [-1 - cc]) (fun j hj => by rw [q2 j (by omega), b4 j hj, hF1 _ _ _ (by omega)]) hc1 (by rw [List.length_append]; exact ho4)
        rw [List.append_assoc] at this
        exact this
  by_cases w1 : lB tp n s = 42
  · rw [if_pos ((kSig (v := 42) (c := 42) ht rfl (by decide) rfl rfl).mpr w1)]; exact go 42 w1 (Or.inl rfl)
  rw [if_neg (fun q => w1 ((kSig (v := 42) (c := 42) ht rfl (by decide) rfl rfl).mp q)), gb_43_25]
  by_cases w2 : lB tp n s = 47
  · rw [if_pos ((kSig (v := 47) (c := 47) ht rfl (by decide) rfl rfl).mpr w2)]; exact go 47 w2 (Or.inr rfl)
  rw [if_neg (fun q => w2 ((kSig (v := 47) (c := 47) ht rfl (by decide) rfl rfl).mp q)), gb_43_70]
  rw [if_pos (hO0 (fun q => by rcases q with q | q; exact w1 q; exact w2 q))] at K
  exact K I FG_refl ⟨ht, hop, hz, fun _ _ => rfl, trivial⟩
theorem m_rd_3 {tp : Nat → Int} {n c : Nat} {al : Nat → Bool} {f : Nat} (ih : kSp tp n c al S h J f) {o s z D : Nat} {g : Bool} {a1 : Int32} {x2 : Option gV} (ho : o ≤ 6) (hx : kTx I tp n) (ha : kAl I c al) (ht : kTk I tp n (.inr (s, g))) (hop : (I 17 c 3).toInt = o) (hz : (I 14 c 2).toInt = z) (hzs : z ≤ s) (hf : 10 * (n - s) + 3 < f + 1) (hD : kNeed 3 o ≤ D) (h1 : a1.toInt ≤ s) (K : ∀ (I' : Nat → Nat → Nat → Int32), FG c I I' → kOut I tp n c z o (rd tp n al (f + 1) 3 o s g) I' → Q none (gwd S I' J h)) : (gq D 42 6 [some (.inr (.inr (some (17, c)))), some (.inl (a1)), x2] [] (gwd S I J h) Q) := by
  have hsn := ht.2.2.2.2.2.1
  have hn := hx.2.2.1
  have nd : kNeed 3 o = 10 * (6 - o) + 12 := rfl
  obtain ⟨d, rfl⟩ : ∃ d, D = d + 8 := ⟨D - 8, by omega⟩
  have e1 : (1 : Int32).toInt = 1 := rfl
  have hlo := z_lo a1
  rw [rd_loop (by decide)] at K
  have hO0 : ¬ (lB tp n s = 43 ∨ lB tp n s = 45) → lOpc tp n 3 s g = -1 := fun q => if_neg q
  have hO1 : (lB tp n s = 43 ∨ lB tp n s = 45) → lOpc tp n 3 s g = lB tp n s := fun q => if_pos q
  rw [gb_42_6]
  by_cases wl : s < 1600
  case neg =>
    have e : lB tp n s = -1 := lB_ge (by omega)
    rw [if_pos (hO0 (by rw [e]; decide))] at K
    have out : Q none (gwd S I J h) := K I FG_refl ⟨ht, hop, hz, fun _ _ => rfl, trivial⟩
    by_cases w : 1600 ≤ a1
    · rw [if_pos w, gb_42_70]; exact out
    · rw [if_neg w, gb_42_13, if_neg (fun q => by have := (kSig (v := 43) (c := 43) ht rfl (by decide) rfl rfl).mp q; omega), gb_42_25, if_neg (fun q => by have := (kSig (v := 45) (c := 45) ht rfl (by decide) rfl rfl).mp q; omega), gb_42_70]; exact out
  have e1600 : (1600 : Int32).toInt = 1600 := rfl
  rw [if_neg (by rw [z_le]; omega), gb_42_13]
  have go : ∀ cc : Int, lB tp n s = cc → (cc = 43 ∨ cc = 45) → (gq (d + 8) 42 37 [some (.inr (.inr (some (17, c)))), some (.inl (a1)), x2] [] (gwd S I J h) Q) := fun cc hc hcc => by
    have hkd : lKd tp n s g = cc := (lKd_sign (by omega) (by rcases hcc with rfl | rfl <;> rfl) (by rcases hcc with rfl | rfl <;> rfl)).mpr hc
    have hk2 := ht.1
    have hlt : s < n := lB_le (tp := tp) (by omega)
    have hnx := lNx_r (tp := tp) (g := g) hsn
    have hs1 := hnx.2.2.1 hlt
    have hOc := hO1 (by omega)
    rw [if_neg (by omega), hOc, hc] at K
    rw [gb_42_37]
    refine m_nextT hx ht fun I1 hF1 ht1 => ?_
    have hG1 : FG c I I1 := fun k i j hn => hF1 _ _ _ (by omega)
    rw [Option.toList_none, List.nil_append, gb_42_52]
    refine ih 2 o (lNx tp n s g).1 z (lNx tp n s g).2 I1 (d + 7) 0 none none _ (by decide) ho (kTx_FG hx hG1) (kAl_FG ha hG1) ht1 (by rw [hF1 _ _ _ (by omega)]; exact hop) (by rw [hF1 _ _ _ (by omega)]; exact hz) (by omega) (by omega) (by show 10 * (6 - o) + 11 ≤ d + 7; omega) (fun q => by omega) fun I2 hG2 ho2 => ?_
    have hG02 := FG_trans hG1 hG2
    have hx2 := kTx_FG hx hG02
    rw [Option.toList_none, List.nil_append, gb_42_56]
    show gq _ _ _ _ _ _ _
    match hr : rd tp n al f 2 o (lNx tp n s g).1 (lNx tp n s g).2, ho2 with
    | (.inl b, l), ho2 =>
      have hr' : rd tp n al f (3 - 1) o (lNx tp n s g).1 (lNx tp n s g).2 = (.inl b, l) := hr
      rw [hr', bR_l] at K
      refine m_putDB fun I3 hF3 => ?_
      rw [Option.toList_none, List.nil_append, gb_42_64]
      have ht3 : kTk I3 tp n (.inl b) := kTk_FP (I := I2) ho2 hF3
      exact m_sumLB ht3 (K I3 (FG_trans hG02 (FG_p hF3)) ht3)
    | (.inr (s1, g1), l1), ho2 =>
      have hr' : rd tp n al f (3 - 1) o (lNx tp n s g).1 (lNx tp n s g).2 = (.inr (s1, g1), l1) := hr
      rw [hr', bR_r] at K
      obtain ⟨b1, b2, b3, b4, b5⟩ := ho2
      have hlen := rd_len hx.2.2.2.1 f 2 o _ _ _ _ hnx.2.1 (by decide) hr
      have l1s : (lNx tp n s g).1 + l1.length ≤ s1 := hlen.1
      have l2s : s1 ≤ n := hlen.2.1
      refine m_putD b3 (by omega) (by rw [hk2, hkd]) (by omega) fun I3 hF3 q1 q2 q3 => ?_
      rw [Option.toList_none, List.nil_append, gb_42_64]
      have hG3 := FG_trans hG02 (FG_p hF3)
      refine ih 3 o s1 (z + l1.length + 1) g1 I3 (d + 8) (a1 + 1) none _ _ (by decide) ho (kTx_FG hx hG3) (kAl_FG ha hG3) (kTk_FP b1 hF3) (by rw [hF3 _ _ _ (by omega)]; exact b2) q1 (by omega) (by omega) hD (fun _ => by rw [z_add (by omega) (by omega), e1]; omega) fun I4 hG4 ho4 => ?_
      refine K I4 (FG_trans hG3 hG4) ?_
      match hr4 : rd tp n al f 3 o s1 g1, ho4 with
      | (.inl b, l), ho4 => exact ho4
      | (.inr (s2, g2), l2), ho4 =>
        have hc1 : gCd (I3 15 c) id z (l1 ++ [-1 - cc]) := by
          rw [gCd_app]
          exact ⟨gCd_congr (fun k h1 h2 => q2 k (by omega)) b5, q3, trivial⟩
        have := kOut_app (I := I) (I1 := I3) (l1 := l1 ++ [-1 - cc]) (fun j hj => by rw [q2 j (by omega), b4 j hj, hF1 _ _ _ (by omega)]) hc1 (by rw [List.length_append]; exact ho4)
        rw [List.append_assoc] at this
        exact this
  by_cases w1 : lB tp n s = 43
  · rw [if_pos ((kSig (v := 43) (c := 43) ht rfl (by decide) rfl rfl).mpr w1)]; exact go 43 w1 (Or.inl rfl)
  rw [if_neg (fun q => w1 ((kSig (v := 43) (c := 43) ht rfl (by decide) rfl rfl).mp q)), gb_42_25]
  by_cases w2 : lB tp n s = 45
  · rw [if_pos ((kSig (v := 45) (c := 45) ht rfl (by decide) rfl rfl).mpr w2)]; exact go 45 w2 (Or.inr rfl)
  rw [if_neg (fun q => w2 ((kSig (v := 45) (c := 45) ht rfl (by decide) rfl rfl).mp q)), gb_42_70]
  rw [if_pos (hO0 (fun q => by rcases q with q | q; exact w1 q; exact w2 q))] at K
  exact K I FG_refl ⟨ht, hop, hz, fun _ _ => rfl, trivial⟩
theorem m_rd_6 {tp : Nat → Int} {n c : Nat} {al : Nat → Bool} {f : Nat} (ih : kSp tp n c al S h J f) {o s z D : Nat} {g : Bool} {a1 : Int32} (ho : o ≤ 6) (hx : kTx I tp n) (ha : kAl I c al) (ht : kTk I tp n (.inr (s, g))) (hop : (I 17 c 3).toInt = o) (hz : (I 14 c 2).toInt = z) (hzs : z ≤ s) (hf : 10 * (n - s) + 6 < f + 1) (hD : kNeed 6 o ≤ D) (h1 : a1.toInt ≤ s) (K : ∀ (I' : Nat → Nat → Nat → Int32), FG c I I' → kOut I tp n c z o (rd tp n al (f + 1) 6 o s g) I' → Q none (gwd S I' J h)) : (gq D 40 6 [some (.inr (.inr (some (17, c)))), some (.inl (a1))] [] (gwd S I J h) Q) := by
  have hsn := ht.2.2.2.2.2.1
  have hn := hx.2.2.1
  have nd : kNeed 6 o = 10 * (6 - o) + 14 := rfl
  obtain ⟨d, rfl⟩ : ∃ d, D = d + 8 := ⟨D - 8, by omega⟩
  have e1 : (1 : Int32).toInt = 1 := rfl
  have hlo := z_lo a1
  have e1600 : (1600 : Int32).toInt = 1600 := rfl
  rw [rd_loop (by decide)] at K
  have hO0 : ¬ lIs tp n (.inr (s, g)) 16 = true → lOpc tp n 6 s g = -1 := fun q => if_neg q
  have hO1 : lIs tp n (.inr (s, g)) 16 = true → lOpc tp n 6 s g = 16 := fun q => if_pos q
  rw [gb_40_6]
  by_cases wi : lIs tp n (.inr (s, g)) 16 = true
  case neg =>
    rw [if_pos (hO0 wi)] at K
    have out : Q none (gwd S I J h) := K I FG_refl ⟨ht, hop, hz, fun _ _ => rfl, trivial⟩
    by_cases w : 1600 ≤ a1
    · rw [if_pos w, gb_40_51]; exact out
    · rw [if_neg w, gb_40_13, m_isWord (w := 16) rfl hx ht, Option.toList_some, List.singleton_append, gb_40_22, if_neg wi, if_pos rfl, gb_40_51]; exact out
  have hlt : s < n := lKd_lt hx.2.2.2.1 (Or.inl (lIs_iff.mp wi).1)
  have hnx := lNx_r (tp := tp) (g := g) hsn
  have hs1 := hnx.2.2.1 hlt
  rw [hO1 wi, if_neg (by decide)] at K
  rw [if_neg (by rw [z_le]; omega), gb_40_13, m_isWord (w := 16) rfl hx ht, Option.toList_some, List.singleton_append, gb_40_22, if_pos wi, if_neg (by decide), gb_40_25]
  refine m_nextT hx ht fun I1 hF1 ht1 => ?_
  have hG1 : FG c I I1 := fun k i j hn => hF1 _ _ _ (by omega)
  rw [Option.toList_none, List.nil_append, gb_40_32]
  refine ih 5 o (lNx tp n s g).1 z (lNx tp n s g).2 I1 (d + 7) 0 none none _ (by decide) ho (kTx_FG hx hG1) (kAl_FG ha hG1) ht1 (by rw [hF1 _ _ _ (by omega)]; exact hop) (by rw [hF1 _ _ _ (by omega)]; exact hz) (by omega) (by omega) (by show 10 * (6 - o) + 13 ≤ d + 7; omega) (fun q => by omega) fun I2 hG2 ho2 => ?_
  have hG02 := FG_trans hG1 hG2
  have hx2 := kTx_FG hx hG02
  rw [Option.toList_none, List.nil_append, gb_40_36]
  match hr : rd tp n al f 5 o (lNx tp n s g).1 (lNx tp n s g).2, ho2 with
  | (.inl b, l), ho2 =>
    have hr' : rd tp n al f (6 - 1) o (lNx tp n s g).1 (lNx tp n s g).2 = (.inl b, l) := hr
    rw [hr', bR_l] at K
    refine m_putDB fun I3 hF3 => ?_
    rw [Option.toList_none, List.nil_append, gb_40_45]
    have ht3 : kTk I3 tp n (.inl b) := kTk_FP (I := I2) ho2 hF3
    exact m_bothLB (kTx_FG hx2 (FG_p hF3)) ht3 (K I3 (FG_trans hG02 (FG_p hF3)) ht3)
  | (.inr (s1, g1), l1), ho2 =>
    have hr' : rd tp n al f (6 - 1) o (lNx tp n s g).1 (lNx tp n s g).2 = (.inr (s1, g1), l1) := hr
    rw [hr', bR_r] at K
    obtain ⟨b1, b2, b3, b4, b5⟩ := ho2
    have hlen := rd_len hx.2.2.2.1 f 5 o _ _ _ _ hnx.2.1 (by decide) hr
    have l1s : (lNx tp n s g).1 + l1.length ≤ s1 := hlen.1
    have l2s : s1 ≤ n := hlen.2.1
    refine m_putD (w := 16) b3 (by omega) rfl (by omega) fun I3 hF3 q1 q2 q3 => ?_
    rw [Option.toList_none, List.nil_append, gb_40_45]
    have hG3 := FG_trans hG02 (FG_p hF3)
    refine ih 6 o s1 (z + l1.length + 1) g1 I3 (d + 8) (a1 + 1) none none _ (by decide) ho (kTx_FG hx hG3) (kAl_FG ha hG3) (kTk_FP b1 hF3) (by rw [hF3 _ _ _ (by omega)]; exact b2) q1 (by omega) (by omega) hD (fun _ => by rw [z_add (by omega) (by omega), e1]; omega) fun I4 hG4 ho4 => ?_
    refine K I4 (FG_trans hG3 hG4) ?_
    match hr4 : rd tp n al f 6 o s1 g1, ho4 with
    | (.inl b, l), ho4 => exact ho4
    | (.inr (s2, g2), l2), ho4 =>
      have hc1 : gCd (I3 15 c) id z (l1 ++ [-1 - 16]) := by
        rw [gCd_app]
        exact ⟨gCd_congr (fun k h1 h2 => q2 k (by omega)) b5, q3, trivial⟩
      have := kOut_app (I := I) (I1 := I3) (l1 := l1 ++ [-1 - 16]) (fun j hj => by rw [q2 j (by omega), b4 j hj, hF1 _ _ _ (by omega)]) hc1 (by rw [List.length_append]; exact ho4)
      rw [List.append_assoc] at this
      exact this
theorem m_rd_8 {tp : Nat → Int} {n c : Nat} {al : Nat → Bool} {f : Nat} (ih : kSp tp n c al S h J f) {o s z D : Nat} {g : Bool} {a1 : Int32} (ho : o ≤ 6) (hx : kTx I tp n) (ha : kAl I c al) (ht : kTk I tp n (.inr (s, g))) (hop : (I 17 c 3).toInt = o) (hz : (I 14 c 2).toInt = z) (hzs : z ≤ s) (hf : 10 * (n - s) + 8 < f + 1) (hD : kNeed 8 o ≤ D) (h1 : a1.toInt ≤ s) (K : ∀ (I' : Nat → Nat → Nat → Int32), FG c I I' → kOut I tp n c z o (rd tp n al (f + 1) 8 o s g) I' → Q none (gwd S I' J h)) : (gq D 39 6 [some (.inr (.inr (some (17, c)))), some (.inl (a1))] [] (gwd S I J h) Q) := by
  have hsn := ht.2.2.2.2.2.1
  have hn := hx.2.2.1
  have nd : kNeed 8 o = 10 * (6 - o) + 15 := rfl
  obtain ⟨d, rfl⟩ : ∃ d, D = d + 8 := ⟨D - 8, by omega⟩
  have e1 : (1 : Int32).toInt = 1 := rfl
  have hlo := z_lo a1
  have e1600 : (1600 : Int32).toInt = 1600 := rfl
  rw [rd_loop (by decide)] at K
  have hO0 : ¬ lIs tp n (.inr (s, g)) 15 = true → lOpc tp n 8 s g = -1 := fun q => if_neg q
  have hO1 : lIs tp n (.inr (s, g)) 15 = true → lOpc tp n 8 s g = 15 := fun q => if_pos q
  rw [gb_39_6]
  by_cases wi : lIs tp n (.inr (s, g)) 15 = true
  case neg =>
    rw [if_pos (hO0 wi)] at K
    have out : Q none (gwd S I J h) := K I FG_refl ⟨ht, hop, hz, fun _ _ => rfl, trivial⟩
    by_cases w : 1600 ≤ a1
    · rw [if_pos w, gb_39_51]; exact out
    · rw [if_neg w, gb_39_13, m_isWord (w := 15) rfl hx ht, Option.toList_some, List.singleton_append, gb_39_22, if_neg wi, if_pos rfl, gb_39_51]; exact out
  have hlt : s < n := lKd_lt hx.2.2.2.1 (Or.inl (lIs_iff.mp wi).1)
  have hnx := lNx_r (tp := tp) (g := g) hsn
  have hs1 := hnx.2.2.1 hlt
  rw [hO1 wi, if_neg (by decide)] at K
  rw [if_neg (by rw [z_le]; omega), gb_39_13, m_isWord (w := 15) rfl hx ht, Option.toList_some, List.singleton_append, gb_39_22, if_pos wi, if_neg (by decide), gb_39_25]
  refine m_nextT hx ht fun I1 hF1 ht1 => ?_
  have hG1 : FG c I I1 := fun k i j hn => hF1 _ _ _ (by omega)
  rw [Option.toList_none, List.nil_append, gb_39_32]
  refine ih 7 o (lNx tp n s g).1 z (lNx tp n s g).2 I1 (d + 7) 0 none none _ (by decide) ho (kTx_FG hx hG1) (kAl_FG ha hG1) ht1 (by rw [hF1 _ _ _ (by omega)]; exact hop) (by rw [hF1 _ _ _ (by omega)]; exact hz) (by omega) (by omega) (by show 10 * (6 - o) + 14 ≤ d + 7; omega) (fun q => by omega) fun I2 hG2 ho2 => ?_
  have hG02 := FG_trans hG1 hG2
  have hx2 := kTx_FG hx hG02
  rw [Option.toList_none, List.nil_append, gb_39_36]
  match hr : rd tp n al f 7 o (lNx tp n s g).1 (lNx tp n s g).2, ho2 with
  | (.inl b, l), ho2 =>
    have hr' : rd tp n al f (8 - 1) o (lNx tp n s g).1 (lNx tp n s g).2 = (.inl b, l) := hr
    rw [hr', bR_l] at K
    refine m_putDB fun I3 hF3 => ?_
    rw [Option.toList_none, List.nil_append, gb_39_45]
    have ht3 : kTk I3 tp n (.inl b) := kTk_FP (I := I2) ho2 hF3
    exact m_testLB (kTx_FG hx2 (FG_p hF3)) ht3 (K I3 (FG_trans hG02 (FG_p hF3)) ht3)
  | (.inr (s1, g1), l1), ho2 =>
    have hr' : rd tp n al f (8 - 1) o (lNx tp n s g).1 (lNx tp n s g).2 = (.inr (s1, g1), l1) := hr
    rw [hr', bR_r] at K
    obtain ⟨b1, b2, b3, b4, b5⟩ := ho2
    have hlen := rd_len hx.2.2.2.1 f 7 o _ _ _ _ hnx.2.1 (by decide) hr
    have l1s : (lNx tp n s g).1 + l1.length ≤ s1 := hlen.1
    have l2s : s1 ≤ n := hlen.2.1
    refine m_putD (w := 15) b3 (by omega) rfl (by omega) fun I3 hF3 q1 q2 q3 => ?_
    rw [Option.toList_none, List.nil_append, gb_39_45]
    have hG3 := FG_trans hG02 (FG_p hF3)
    refine ih 8 o s1 (z + l1.length + 1) g1 I3 (d + 8) (a1 + 1) none none _ (by decide) ho (kTx_FG hx hG3) (kAl_FG ha hG3) (kTk_FP b1 hF3) (by rw [hF3 _ _ _ (by omega)]; exact b2) q1 (by omega) (by omega) hD (fun _ => by rw [z_add (by omega) (by omega), e1]; omega) fun I4 hG4 ho4 => ?_
    refine K I4 (FG_trans hG3 hG4) ?_
    match hr4 : rd tp n al f 8 o s1 g1, ho4 with
    | (.inl b, l), ho4 => exact ho4
    | (.inr (s2, g2), l2), ho4 =>
      have hc1 : gCd (I3 15 c) id z (l1 ++ [-1 - 15]) := by
        rw [gCd_app]
        exact ⟨gCd_congr (fun k h1 h2 => q2 k (by omega)) b5, q3, trivial⟩
      have := kOut_app (I := I) (I1 := I3) (l1 := l1 ++ [-1 - 15]) (fun j hj => by rw [q2 j (by omega), b4 j hj, hF1 _ _ _ (by omega)]) hc1 (by rw [List.length_append]; exact ho4)
      rw [List.append_assoc] at this
      exact this
theorem m_rd_2 {tp : Nat → Int} {n c : Nat} {al : Nat → Bool} {f : Nat} (ih : kSp tp n c al S h J f) {o s z D : Nat} {g : Bool} {x1 x2 : Option gV} (ho : o ≤ 6) (hx : kTx I tp n) (ha : kAl I c al) (ht : kTk I tp n (.inr (s, g))) (hop : (I 17 c 3).toInt = o) (hz : (I 14 c 2).toInt = z) (hzs : z ≤ s) (hf : 10 * (n - s) + 2 < f + 1) (hD : kNeed 2 o ≤ D) (K : ∀ (I' : Nat → Nat → Nat → Int32), FG c I I' → kOut I tp n c z o (rd tp n al (f + 1) 2 o s g) I' → Q none (gwd S I' J h)) : (gq D 43 0 [some (.inr (.inr (some (17, c)))), x1, x2] [] (gwd S I J h) Q) := by
  have hsn := ht.2.2.2.2.2.1
  have hn := hx.2.2.1
  have nd : kNeed 2 o = 10 * (6 - o) + 11 := rfl
  obtain ⟨d, rfl⟩ : ∃ d, D = d + 8 := ⟨D - 8, by omega⟩
  rw [rd_full (by decide)] at K
  rw [gb_43_0]
  refine ih 0 o s z g I (d + 7) 0 none none _ (by decide) ho hx ha ht hop hz hzs (by omega) (by show 10 * (6 - o) + 10 ≤ d + 7; omega) (fun q => by omega) fun I2 hG2 ho2 => ?_
  have hx2 := kTx_FG hx hG2
  rw [Option.toList_none, List.nil_append, gb_43_4]
  match hr : rd tp n al f 0 o s g, ho2 with
  | (.inl b, l), ho2 =>
    have hr' : rd tp n al f (2 - 2) o s g = (.inl b, l) := hr
    rw [hr', bR_l] at K
    exact m_prodLB (tp := tp) (n := n) ho2 (K I2 hG2 ho2)
  | (.inr (s1, g1), l1), ho2 =>
    have hr' : rd tp n al f (2 - 2) o s g = (.inr (s1, g1), l1) := hr
    rw [hr', bR_r] at K
    obtain ⟨b1, b2, b3, b4, b5⟩ := ho2
    have hlen := rd_len hx.2.2.2.1 f 0 o _ _ _ _ hsn (by decide) hr
    have l1s : s + l1.length ≤ s1 := hlen.1
    have l2s : s1 ≤ n := hlen.2.1
    refine ih 1 o s1 (z + l1.length) g1 I2 (d + 8) 0 none x2 _ (by decide) ho hx2 (kAl_FG ha hG2) b1 b2 b3 (by omega) (by omega) (by show 10 * (6 - o) + 11 ≤ d + 8; omega) (fun _ => by show (0 : Int) ≤ s1; omega) fun I4 hG4 ho4 => ?_
    refine K I4 (FG_trans hG2 hG4) ?_
    show kOut I tp n c z o (bR (rd tp n al f 1 o s1 g1) _) I4
    match hr4 : rd tp n al f 1 o s1 g1, ho4 with
    | (.inl b, l), ho4 => exact ho4
    | (.inr (s2, g2), l2), ho4 => exact kOut_app b4 b5 ho4
theorem m_rd_4 {tp : Nat → Int} {n c : Nat} {al : Nat → Bool} {f : Nat} (ih : kSp tp n c al S h J f) {o s z D : Nat} {g : Bool} {x1 x2 : Option gV} (ho : o ≤ 6) (hx : kTx I tp n) (ha : kAl I c al) (ht : kTk I tp n (.inr (s, g))) (hop : (I 17 c 3).toInt = o) (hz : (I 14 c 2).toInt = z) (hzs : z ≤ s) (hf : 10 * (n - s) + 4 < f + 1) (hD : kNeed 4 o ≤ D) (K : ∀ (I' : Nat → Nat → Nat → Int32), FG c I I' → kOut I tp n c z o (rd tp n al (f + 1) 4 o s g) I' → Q none (gwd S I' J h)) : (gq D 42 0 [some (.inr (.inr (some (17, c)))), x1, x2] [] (gwd S I J h) Q) := by
  have hsn := ht.2.2.2.2.2.1
  have hn := hx.2.2.1
  have nd : kNeed 4 o = 10 * (6 - o) + 12 := rfl
  obtain ⟨d, rfl⟩ : ∃ d, D = d + 8 := ⟨D - 8, by omega⟩
  rw [rd_full (by decide)] at K
  rw [gb_42_0]
  refine ih 2 o s z g I (d + 7) 0 none none _ (by decide) ho hx ha ht hop hz hzs (by omega) (by show 10 * (6 - o) + 11 ≤ d + 7; omega) (fun q => by omega) fun I2 hG2 ho2 => ?_
  have hx2 := kTx_FG hx hG2
  rw [Option.toList_none, List.nil_append, gb_42_4]
  match hr : rd tp n al f 2 o s g, ho2 with
  | (.inl b, l), ho2 =>
    have hr' : rd tp n al f (4 - 2) o s g = (.inl b, l) := hr
    rw [hr', bR_l] at K
    exact m_sumLB (tp := tp) (n := n) ho2 (K I2 hG2 ho2)
  | (.inr (s1, g1), l1), ho2 =>
    have hr' : rd tp n al f (4 - 2) o s g = (.inr (s1, g1), l1) := hr
    rw [hr', bR_r] at K
    obtain ⟨b1, b2, b3, b4, b5⟩ := ho2
    have hlen := rd_len hx.2.2.2.1 f 2 o _ _ _ _ hsn (by decide) hr
    have l1s : s + l1.length ≤ s1 := hlen.1
    have l2s : s1 ≤ n := hlen.2.1
    refine ih 3 o s1 (z + l1.length) g1 I2 (d + 8) 0 none x2 _ (by decide) ho hx2 (kAl_FG ha hG2) b1 b2 b3 (by omega) (by omega) (by show 10 * (6 - o) + 12 ≤ d + 8; omega) (fun _ => by show (0 : Int) ≤ s1; omega) fun I4 hG4 ho4 => ?_
    refine K I4 (FG_trans hG2 hG4) ?_
    show kOut I tp n c z o (bR (rd tp n al f 3 o s1 g1) _) I4
    match hr4 : rd tp n al f 3 o s1 g1, ho4 with
    | (.inl b, l), ho4 => exact ho4
    | (.inr (s2, g2), l2), ho4 => exact kOut_app b4 b5 ho4
theorem m_rd_7 {tp : Nat → Int} {n c : Nat} {al : Nat → Bool} {f : Nat} (ih : kSp tp n c al S h J f) {o s z D : Nat} {g : Bool} {x1 : Option gV} (ho : o ≤ 6) (hx : kTx I tp n) (ha : kAl I c al) (ht : kTk I tp n (.inr (s, g))) (hop : (I 17 c 3).toInt = o) (hz : (I 14 c 2).toInt = z) (hzs : z ≤ s) (hf : 10 * (n - s) + 7 < f + 1) (hD : kNeed 7 o ≤ D) (K : ∀ (I' : Nat → Nat → Nat → Int32), FG c I I' → kOut I tp n c z o (rd tp n al (f + 1) 7 o s g) I' → Q none (gwd S I' J h)) : (gq D 40 0 [some (.inr (.inr (some (17, c)))), x1] [] (gwd S I J h) Q) := by
  have hsn := ht.2.2.2.2.2.1
  have hn := hx.2.2.1
  have nd : kNeed 7 o = 10 * (6 - o) + 14 := rfl
  obtain ⟨d, rfl⟩ : ∃ d, D = d + 8 := ⟨D - 8, by omega⟩
  rw [rd_full (by decide)] at K
  rw [gb_40_0]
  refine ih 5 o s z g I (d + 7) 0 none none _ (by decide) ho hx ha ht hop hz hzs (by omega) (by show 10 * (6 - o) + 13 ≤ d + 7; omega) (fun q => by omega) fun I2 hG2 ho2 => ?_
  have hx2 := kTx_FG hx hG2
  rw [Option.toList_none, List.nil_append, gb_40_4]
  match hr : rd tp n al f 5 o s g, ho2 with
  | (.inl b, l), ho2 =>
    have hr' : rd tp n al f (7 - 2) o s g = (.inl b, l) := hr
    rw [hr', bR_l] at K
    exact m_bothLB (tp := tp) (n := n) hx2 ho2 (K I2 hG2 ho2)
  | (.inr (s1, g1), l1), ho2 =>
    have hr' : rd tp n al f (7 - 2) o s g = (.inr (s1, g1), l1) := hr
    rw [hr', bR_r] at K
    obtain ⟨b1, b2, b3, b4, b5⟩ := ho2
    have hlen := rd_len hx.2.2.2.1 f 5 o _ _ _ _ hsn (by decide) hr
    have l1s : s + l1.length ≤ s1 := hlen.1
    have l2s : s1 ≤ n := hlen.2.1
    refine ih 6 o s1 (z + l1.length) g1 I2 (d + 8) 0 none none _ (by decide) ho hx2 (kAl_FG ha hG2) b1 b2 b3 (by omega) (by omega) (by show 10 * (6 - o) + 14 ≤ d + 8; omega) (fun _ => by show (0 : Int) ≤ s1; omega) fun I4 hG4 ho4 => ?_
    refine K I4 (FG_trans hG2 hG4) ?_
    show kOut I tp n c z o (bR (rd tp n al f 6 o s1 g1) _) I4
    match hr4 : rd tp n al f 6 o s1 g1, ho4 with
    | (.inl b, l), ho4 => exact ho4
    | (.inr (s2, g2), l2), ho4 => exact kOut_app b4 b5 ho4
theorem m_rd_9 {tp : Nat → Int} {n c : Nat} {al : Nat → Bool} {f : Nat} (ih : kSp tp n c al S h J f) {o s z D : Nat} {g : Bool} {x1 : Option gV} (ho : o ≤ 6) (hx : kTx I tp n) (ha : kAl I c al) (ht : kTk I tp n (.inr (s, g))) (hop : (I 17 c 3).toInt = o) (hz : (I 14 c 2).toInt = z) (hzs : z ≤ s) (hf : 10 * (n - s) + 9 < f + 1) (hD : kNeed 9 o ≤ D) (K : ∀ (I' : Nat → Nat → Nat → Int32), FG c I I' → kOut I tp n c z o (rd tp n al (f + 1) 9 o s g) I' → Q none (gwd S I' J h)) : (gq D 39 0 [some (.inr (.inr (some (17, c)))), x1] [] (gwd S I J h) Q) := by
  have hsn := ht.2.2.2.2.2.1
  have hn := hx.2.2.1
  have nd : kNeed 9 o = 10 * (6 - o) + 15 := rfl
  obtain ⟨d, rfl⟩ : ∃ d, D = d + 8 := ⟨D - 8, by omega⟩
  rw [rd_full (by decide)] at K
  rw [gb_39_0]
  refine ih 7 o s z g I (d + 7) 0 none none _ (by decide) ho hx ha ht hop hz hzs (by omega) (by show 10 * (6 - o) + 14 ≤ d + 7; omega) (fun q => by omega) fun I2 hG2 ho2 => ?_
  have hx2 := kTx_FG hx hG2
  rw [Option.toList_none, List.nil_append, gb_39_4]
  match hr : rd tp n al f 7 o s g, ho2 with
  | (.inl b, l), ho2 =>
    have hr' : rd tp n al f (9 - 2) o s g = (.inl b, l) := hr
    rw [hr', bR_l] at K
    exact m_testLB (tp := tp) (n := n) hx2 ho2 (K I2 hG2 ho2)
  | (.inr (s1, g1), l1), ho2 =>
    have hr' : rd tp n al f (9 - 2) o s g = (.inr (s1, g1), l1) := hr
    rw [hr', bR_r] at K
    obtain ⟨b1, b2, b3, b4, b5⟩ := ho2
    have hlen := rd_len hx.2.2.2.1 f 7 o _ _ _ _ hsn (by decide) hr
    have l1s : s + l1.length ≤ s1 := hlen.1
    have l2s : s1 ≤ n := hlen.2.1
    refine ih 8 o s1 (z + l1.length) g1 I2 (d + 8) 0 none none _ (by decide) ho hx2 (kAl_FG ha hG2) b1 b2 b3 (by omega) (by omega) (by show 10 * (6 - o) + 15 ≤ d + 8; omega) (fun _ => by show (0 : Int) ≤ s1; omega) fun I4 hG4 ho4 => ?_
    refine K I4 (FG_trans hG2 hG4) ?_
    show kOut I tp n c z o (bR (rd tp n al f 8 o s1 g1) _) I4
    match hr4 : rd tp n al f 8 o s1 g1, ho4 with
    | (.inl b, l), ho4 => exact ho4
    | (.inr (s2, g2), l2), ho4 => exact kOut_app b4 b5 ho4
