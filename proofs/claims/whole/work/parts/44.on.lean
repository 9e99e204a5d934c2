/-! The class: an image looked through and taken. -/
variable {d S : Nat} {h : Nat × Option gNm} {I : Nat → Nat → Nat → Int32} {J : Nat → Nat → Nat → Int64} {Q : Option gV → gW → Prop}
def gHold (C : gCo) (tp : Nat → Int) : Bool := if C.1 2 = 0 then decide (tp 4 = 255) else decide (tp 4 < C.1 2) && (decide (tp (5 + 2 * (tp 4).toNat) = tp 2) && decide (tp (6 + 2 * (tp 4).toNat) = 0))
def gOnB (C : gCo) (tp : Nat → Int) : Nat → Nat → Bool
  | 0, _ => true
  | n + 1, b => if tp (5 + 2 * b) ≤ C.1 1 ∧ tp (6 + 2 * b) ≤ 1 then gOnB C tp n (b + 1) else false
def gOnF (tp : Nat → Int) : Nat → Nat → Bool
  | 0, _ => true
  | n + 1, i => if tp i ≤ 1 then gOnF tp n (i + 1) else false
def gIsOf (C : gCo) (tp : Nat → Int) (ln : Int) : Bool := decide (ln = 6 + 2 * C.1 2 + C.1 3) && (decide (tp (ln - 1).toNat = gSum tp (ln - 1).toNat 0 199) && (decide (256 * tp 0 + tp 1 ≤ 999) && (decide (tp 2 ≤ C.1 1) && (decide (tp 3 ≤ 99) && (gHold C tp && (gOnB C tp (C.1 2).toNat 0 && gOnF tp (C.1 3).toNat (5 + 2 * (C.1 2).toNat)))))))
theorem gByt_at {tp : Nat → Int} {ln : Int} {k : Nat} (h : (k : Int) < ln) : gByt tp ln k = tp k := by unfold gByt; rw [if_pos (by omega)]; congr 1
theorem m_isHolder {i1 : Nat} {x2 : Option gV} {C : gCo} {tp : Nat → Int} {ln : Int} (hc : cOk C) (hC : kCo I i1 C) (hp : kTp I tp ln) (ho : tpOk tp ln) (hl : ln = 6 + 2 * C.1 2 + C.1 3) (K : ∀ x, (x = 0 ∨ x = 1) → (x = 1 ↔ gHold C tp = true) → Q (some (.inl x)) (gwd S I J h)) : (gq (d + 1) 63 0 [some (.inr (.inr (some (34, i1)))), some (.inr (.inr (some (11, 0)))), x2] [] (gwd S I J h) Q) := by
  have e1 : (1 : Int32).toInt = 1 := rfl
  have e2 : (2 : Int32).toInt = 2 := rfl
  have e4 : (4 : Int32).toInt = 4 := rfl
  have e5 : (5 : Int32).toInt = 5 := rfl
  have e255 : (255 : Int32).toInt = 255 := rfl
  have c2 := hC.1 2 (by decide)
  have rB := hc.2.2.1
  have rH := hc.2.2.2.1
  have t4 := ho.2 4 (by omega)
  rw [gb_63_0]
  refine m_byte hp ho fun x hx => ?_
  rw [e4, show (4 : Int) = ((4 : Nat) : Int) from rfl, gByt_at (by omega)] at hx
  rw [Option.toList_some, List.singleton_append, gb_63_5]
  by_cases hz : C.1 2 = 0
  · rw [if_pos (z_inj (by rw [c2, hz]; rfl)), gb_63_13]
    have hh : gHold C tp = decide (tp 4 = 255) := if_pos hz
    by_cases w : tp 4 = 255
    · rw [if_pos (z_inj (by rw [hx, w]; rfl)), gb_63_20, gb_63_25, g_t1, true_and]
      exact K 1 (Or.inr rfl) ⟨fun _ => by rw [hh]; exact decide_eq_true w, fun _ => rfl⟩
    · rw [if_neg (fun e => w (by rw [← hx, e]; rfl)), gb_63_24, gb_63_25, g_t0, true_and]
      exact K 0 (Or.inl rfl) ⟨fun e => absurd e (by decide), fun e => by rw [hh] at e; exact absurd (of_decide_eq_true e) w⟩
  · have hh : gHold C tp = (decide (tp 4 < C.1 2) && (decide (tp (5 + 2 * (tp 4).toNat) = tp 2) && decide (tp (6 + 2 * (tp 4).toNat) = 0))) := if_neg hz
    have no : ¬ (tp 4 < C.1 2 ∧ tp (5 + 2 * (tp 4).toNat) = tp 2 ∧ tp (6 + 2 * (tp 4).toNat) = 0) → (gq (d + 1) 63 69 [some (.inr (.inr (some (34, i1)))), some (.inr (.inr (some (11, 0)))), some (.inl (x))] [] (gwd S I J h) Q) := fun hno => by
      rw [gb_63_69, gb_63_70, g_t0, true_and]
      refine K 0 (Or.inl rfl) ⟨fun e => absurd e (by decide), fun e => absurd ?_ hno⟩
      rw [hh] at e
      simp only [Bool.and_eq_true, decide_eq_true_eq] at e
      exact e
    rw [if_neg (fun e => hz (by rw [← c2, e]; rfl)), gb_63_26, m_hasBearer, Option.toList_some, List.singleton_append, gb_63_31]
    by_cases w1 : tp 4 < C.1 2
    case neg => rw [if_pos (by rw [zb_0]; omega)]; exact no (fun e => w1 e.1)
    have q0 : (2 * x).toInt = 2 * tp 4 := by rw [z_mul (by rw [hx, e2]; omega) (by rw [hx, e2]; omega), hx, e2]
    have q1 : (5 + 2 * x).toInt = ((5 + 2 * (tp 4).toNat : Nat) : Int) := by rw [z_add (by omega) (by omega), q0, e5]; omega
    have q2 : (5 + 2 * x + 1).toInt = ((6 + 2 * (tp 4).toNat : Nat) : Int) := by rw [z_add (by omega) (by omega), q1, e1]; omega
    rw [if_neg (by rw [zb_0]; exact fun e => e (by omega)), gb_63_34]
    refine m_byte hp ho fun y hy => ?_
    rw [q1, gByt_at (by omega)] at hy
    rw [Option.toList_some, List.singleton_append, gb_63_43]
    refine m_byte hp ho fun z hz2 => ?_
    rw [e2, show (2 : Int) = ((2 : Nat) : Int) from rfl, gByt_at (by omega)] at hz2
    rw [Option.toList_some, List.singleton_append, gb_63_48]
    by_cases w2 : tp (5 + 2 * (tp 4).toNat) = tp 2
    case neg => rw [if_neg (fun e => w2 (by rw [← hy, e, hz2]))]; exact no (fun e => w2 e.2.1)
    rw [if_pos (z_inj (by rw [hy, w2, hz2])), gb_63_51]
    refine m_byte hp ho fun u hu => ?_
    rw [q2, gByt_at (by omega)] at hu
    rw [Option.toList_some, List.singleton_append, gb_63_62]
    by_cases w3 : tp (6 + 2 * (tp 4).toNat) = 0
    case neg => rw [if_neg (fun e => w3 (by rw [← hu, e]; rfl))]; exact no (fun e => w3 e.2.2)
    rw [if_pos (z_inj (by rw [hu, w3]; rfl)), gb_63_65, gb_63_70, g_t1, true_and]
    refine K 1 (Or.inr rfl) ⟨fun _ => ?_, fun _ => rfl⟩
    rw [hh, decide_eq_true w1, decide_eq_true w2, decide_eq_true w3]; rfl
theorem m_isOf_f {i1 : Nat} {tp : Nat → Int} {ln : Int} {a3 : Int32} {F : Bool} (hp : kTp I tp ln) (ho : tpOk tp ln) (h3 : a3.toInt = ln) (K : ∀ x, (x = 0 ∨ x = 1) → (x = 1 ↔ F = true) → Q (some (.inl x)) (gwd S I J h)) : ∀ (n i : Nat) (g : Bool) (a4 a5 : Int32), ((i + n : Nat) : Int) = ln - 1 → a5.toInt = i → (a4 = 0 ∨ a4 = 1) → (a4 = 1 ↔ g = true) → (g && gOnF tp n i) = F → (gq (d + 2) 60 163 [some (.inr (.inr (some (31, 0)))), some (.inr (.inr (some (34, i1)))), some (.inr (.inr (some (11, 0)))), some (.inl (a3)), some (.inl (a4)), some (.inl (a5))] [] (gwd S I J h) Q)
  | 0, i, g, a4, a5, hn, h5, h4, h4', he => by
    have e1 : (1 : Int32).toInt = 1 := rfl
    have r1 := ho.1
    have q : (a3 - 1).toInt = ln - 1 := by rw [z_sub (by omega) (by omega), h3, e1]
    have eF : F = g := by rw [← he]; exact Bool.and_true g
    rw [gb_60_163, if_pos (by rw [z_le]; omega), gb_60_199]
    refine ⟨by rcases h4 with rfl | rfl <;> rfl, K _ h4 (by rw [eF]; exact h4')⟩
  | n + 1, i, g, a4, a5, hn, h5, h4, h4', he => by
    have e1 : (1 : Int32).toInt = 1 := rfl
    have r1 := ho.1
    have q : (a3 - 1).toInt = ln - 1 := by rw [z_sub (by omega) (by omega), h3, e1]
    have ea : (a5 + 1).toInt = ((i + 1 : Nat) : Int) := by rw [z_add (by omega) (by omega), h5, e1]; rfl
    rw [show gOnF tp (n + 1) i = if tp i ≤ 1 then gOnF tp n (i + 1) else false from rfl] at he
    rw [gb_60_163, if_neg (by rw [z_le]; omega), gb_60_171]
    have fls : F = false → (gq (d + 2) 60 190 [some (.inr (.inr (some (31, 0)))), some (.inr (.inr (some (34, i1)))), some (.inr (.inr (some (11, 0)))), some (.inl (a3)), some (.inl (a4)), some (.inl (a5))] [] (gwd S I J h) Q) := fun hF => by
      rw [gb_60_190, gb_60_191]
      exact m_isOf_f hp ho h3 K n (i + 1) false _ _ (by omega) ea (Or.inl rfl) ⟨fun e => absurd e (by decide), fun e => by cases e⟩ (by rw [hF]; rfl)
    by_cases hg : g = true
    · rw [if_neg (by rw [h4'.mpr hg]; decide), gb_60_176]
      refine m_byte hp ho fun x hx => ?_
      rw [h5, gByt_at (by omega)] at hx
      rw [Option.toList_some, List.singleton_append, gb_60_182]
      by_cases w : tp i ≤ 1
      · rw [if_neg (by rw [z_lt]; omega), gb_60_186, gb_60_191]
        rw [if_pos w, hg] at he
        exact m_isOf_f hp ho h3 K n (i + 1) true _ _ (by omega) ea (Or.inr rfl) ⟨fun _ => rfl, fun _ => rfl⟩ he
      · rw [if_pos (by rw [z_lt]; omega)]
        exact fls (by rw [← he, if_neg w, Bool.and_false])
    · rw [if_pos (h4.resolve_right fun e => hg (h4'.mp e))]
      exact fls (by rw [← he, Bool.eq_false_iff.mpr hg]; rfl)
theorem m_isOf_b {i1 : Nat} {C : gCo} {tp : Nat → Int} {ln : Int} {a3 : Int32} {F : Bool} (hc : cOk C) (hC : kCo I i1 C) (hp : kTp I tp ln) (ho : tpOk tp ln) (hl : ln = 6 + 2 * C.1 2 + C.1 3) (K : ∀ (a4 a5 : Int32), (a4 = 0 ∨ a4 = 1) → (a4 = 1 ↔ F = true) → (gq (d + 2) 60 153 [some (.inr (.inr (some (31, 0)))), some (.inr (.inr (some (34, i1)))), some (.inr (.inr (some (11, 0)))), some (.inl (a3)), some (.inl (a4)), some (.inl (a5))] [] (gwd S I J h) Q)) : ∀ (n b : Nat) (g : Bool) (a4 a5 : Int32), ((b + n : Nat) : Int) = C.1 2 → a5.toInt = b → (a4 = 0 ∨ a4 = 1) → (a4 = 1 ↔ g = true) → (g && gOnB C tp n b) = F → (gq (d + 2) 60 93 [some (.inr (.inr (some (31, 0)))), some (.inr (.inr (some (34, i1)))), some (.inr (.inr (some (11, 0)))), some (.inl (a3)), some (.inl (a4)), some (.inl (a5))] [] (gwd S I J h) Q)
  | 0, b, g, a4, a5, hn, h5, h4, h4', he => by
    have c2 := hC.1 2 (by decide)
    have eF : F = g := by rw [← he]; exact Bool.and_true g
    rw [gb_60_93, if_pos (by rw [z_le]; omega)]
    exact K _ _ h4 (by rw [eF]; exact h4')
  | n + 1, b, g, a4, a5, hn, h5, h4, h4', he => by
    have e1 : (1 : Int32).toInt = 1 := rfl
    have e2 : (2 : Int32).toInt = 2 := rfl
    have e5 : (5 : Int32).toInt = 5 := rfl
    have c1 := hC.1 1 (by decide)
    have c2 := hC.1 2 (by decide)
    have rB := hc.2.2.1
    have rH := hc.2.2.2.1
    have ea : (a5 + 1).toInt = ((b + 1 : Nat) : Int) := by rw [z_add (by omega) (by omega), h5, e1]; rfl
    have q0 : (2 * a5).toInt = 2 * b := by rw [z_mul (by rw [h5, e2]; omega) (by rw [h5, e2]; omega), h5, e2]
    have q1 : (5 + 2 * a5).toInt = ((5 + 2 * b : Nat) : Int) := by rw [z_add (by omega) (by omega), q0, e5]; omega
    have q2 : (5 + 2 * a5 + 1).toInt = ((6 + 2 * b : Nat) : Int) := by rw [z_add (by omega) (by omega), q1, e1]; omega
    rw [show gOnB C tp (n + 1) b = if tp (5 + 2 * b) ≤ C.1 1 ∧ tp (6 + 2 * b) ≤ 1 then gOnB C tp n (b + 1) else false from rfl] at he
    rw [gb_60_93, if_neg (by rw [z_le]; omega), gb_60_102]
    have fls : F = false → (gq (d + 2) 60 144 [some (.inr (.inr (some (31, 0)))), some (.inr (.inr (some (34, i1)))), some (.inr (.inr (some (11, 0)))), some (.inl (a3)), some (.inl (a4)), some (.inl (a5))] [] (gwd S I J h) Q) := fun hF => by
      rw [gb_60_144, gb_60_145]
      exact m_isOf_b hc hC hp ho hl K n (b + 1) false _ _ (by omega) ea (Or.inl rfl) ⟨fun e => absurd e (by decide), fun e => by cases e⟩ (by rw [hF]; rfl)
    by_cases hg : g = true
    · rw [if_neg (by rw [h4'.mpr hg]; decide), gb_60_107]
      refine m_byte hp ho fun x hx => ?_
      rw [q1, gByt_at (by omega)] at hx
      have tb := ho.2 (5 + 2 * b) (by omega)
      rw [Option.toList_some, List.singleton_append, gb_60_118, m_hasMile, Option.toList_some, List.singleton_append, gb_60_121]
      by_cases w1 : tp (5 + 2 * b) ≤ C.1 1
      case neg =>
        rw [if_pos (by rw [zb_0]; omega)]
        exact fls (by rw [← he, if_neg (fun e => w1 e.1), Bool.and_false])
      rw [if_neg (by rw [zb_0]; exact fun e => e (by omega)), gb_60_124]
      refine m_byte hp ho fun y hy => ?_
      rw [q2, gByt_at (by omega)] at hy
      rw [Option.toList_some, List.singleton_append, gb_60_136]
      by_cases w2 : tp (6 + 2 * b) ≤ 1
      · rw [if_neg (by rw [z_lt]; omega), gb_60_140, gb_60_145]
        rw [if_pos ⟨w1, w2⟩, hg] at he
        exact m_isOf_b hc hC hp ho hl K n (b + 1) true _ _ (by omega) ea (Or.inr rfl) ⟨fun _ => rfl, fun _ => rfl⟩ he
      · rw [if_pos (by rw [z_lt]; omega)]
        exact fls (by rw [← he, if_neg (fun e => w2 e.2), Bool.and_false])
    · rw [if_pos (h4.resolve_right fun e => hg (h4'.mp e))]
      exact fls (by rw [← he, Bool.eq_false_iff.mpr hg]; rfl)
theorem m_isOf {i1 : Nat} {x3 x4 x5 : Option gV} {C : gCo} {tp : Nat → Int} {ln : Int} (hc : cOk C) (hC : kCo I i1 C) (hp : kTp I tp ln) (ho : tpOk tp ln) (K : ∀ x, (x = 0 ∨ x = 1) → (x = 1 ↔ gIsOf C tp ln = true) → Q (some (.inl x)) (gwd S I J h)) : (gq (d + 2) 60 0 [some (.inr (.inr (some (31, 0)))), some (.inr (.inr (some (34, i1)))), some (.inr (.inr (some (11, 0)))), x3, x4, x5] [] (gwd S I J h) Q) := by
  have e1 : (1 : Int32).toInt = 1 := rfl
  have e2 : (2 : Int32).toInt = 2 := rfl
  have e3 : (3 : Int32).toInt = 3 := rfl
  have e5 : (5 : Int32).toInt = 5 := rfl
  have e99 : (99 : Int32).toInt = 99 := rfl
  have e999 : (999 : Int32).toInt = 999 := rfl
  have c1 := hC.1 1 (by decide)
  have c2 := hC.1 2 (by decide)
  have c3 := hC.1 3 (by decide)
  have rB := hc.2.2.1
  have rH := hc.2.2.2.1
  have r1 := ho.1
  have hl := hp.1
  have q0 : (2 * I 34 i1 2).toInt = 2 * C.1 2 := by rw [z_mul (by rw [c2, e2]; omega) (by rw [c2, e2]; omega), c2, e2]
  have q1 : (5 + 2 * I 34 i1 2).toInt = 5 + 2 * C.1 2 := by rw [z_add (by omega) (by omega), q0, e5]
  have q2 : (5 + 2 * I 34 i1 2 + I 34 i1 3).toInt = 5 + 2 * C.1 2 + C.1 3 := by rw [z_add (by omega) (by omega), q1, c3]
  have q3 : (5 + 2 * I 34 i1 2 + I 34 i1 3 + 1).toInt = 6 + 2 * C.1 2 + C.1 3 := by rw [z_add (by omega) (by omega), q2, e1]; omega
  generalize hL : (5 + 2 * I 34 i1 2 + I 34 i1 3 + 1 : Int32) = L at q3
  rw [gb_60_0, hL]
  have fin : gIsOf C tp ln = false → (gq (d + 2) 60 41 [some (.inr (.inr (some (31, 0)))), some (.inr (.inr (some (34, i1)))), some (.inr (.inr (some (11, 0)))), some (.inl (L)), x4, x5] [] (gwd S I J h) Q) := fun hF => by
    rw [gb_60_41]
    exact K 0 (Or.inl rfl) ⟨fun e => absurd e (by decide), fun e => by rw [hF] at e; cases e⟩
  by_cases w0 : ln = 6 + 2 * C.1 2 + C.1 3
  case neg =>
    rw [if_neg (fun e => w0 (by rw [← hl, e, q3]))]
    exact fin (by unfold gIsOf; rw [decide_eq_false w0]; rfl)
  have q4 : (L - 1).toInt = (((ln - 1).toNat : Nat) : Int) := by rw [z_sub (by omega) (by omega), q3, e1]; omega
  rw [if_pos (z_inj (by rw [hl, q3, w0])), gb_60_24]
  refine m_byte hp ho fun x hx => ?_
  rw [q4, gByt_at (by omega)] at hx
  rw [Option.toList_some, List.singleton_append, gb_60_31]
  refine m_check (N := (ln - 1).toNat) hp ho q4 (by omega) fun y hy => ?_
  rw [Option.toList_some, List.singleton_append, gb_60_38]
  by_cases w1 : tp (ln - 1).toNat = gSum tp (ln - 1).toNat 0 199
  case neg =>
    rw [if_neg (fun e => w1 (by rw [← hx, e, hy]))]
    exact fin (by unfold gIsOf; rw [decide_eq_false w1, Bool.false_and, Bool.and_false])
  rw [if_pos (z_inj (by rw [hx, w1, hy])), gb_60_43]
  have hall : gIsOf C tp ln = ((decide (256 * tp 0 + tp 1 ≤ 999) && (decide (tp 2 ≤ C.1 1) && (decide (tp 3 ≤ 99) && gHold C tp))) && gOnB C tp (C.1 2).toNat 0 && gOnF tp (C.1 3).toNat (5 + 2 * (C.1 2).toNat)) := by
    unfold gIsOf; rw [decide_eq_true w0, decide_eq_true w1, Bool.true_and, Bool.true_and]; simp only [Bool.and_assoc]
  have go : ∀ (g : Bool) (y : Int32), (y = 0 ∨ y = 1) → (y = 1 ↔ g = true) → g = (decide (256 * tp 0 + tp 1 ≤ 999) && (decide (tp 2 ≤ C.1 1) && (decide (tp 3 ≤ 99) && gHold C tp))) → (gq (d + 2) 60 88 [some (.inr (.inr (some (31, 0)))), some (.inr (.inr (some (34, i1)))), some (.inr (.inr (some (11, 0)))), some (.inl (L)), x4, x5] [.inl (y)] (gwd S I J h) Q) := fun g y hy hy1 hg => by
    rw [gb_60_88]
    refine m_isOf_b (F := g && gOnB C tp (C.1 2).toNat 0) hc hC hp ho w0 (fun a4 a5 h4 h4' => ?_) (C.1 2).toNat 0 g _ _ (by omega) rfl hy hy1 rfl
    rw [gb_60_153]
    exact m_isOf_f (F := gIsOf C tp ln) hp ho (by rw [q3, w0]) K (C.1 3).toNat (5 + 2 * (C.1 2).toNat) _ _ _ (by omega) (by rw [q1]; omega) h4 h4' (by rw [hall, ← hg])
  have bad : (decide (256 * tp 0 + tp 1 ≤ 999) && (decide (tp 2 ≤ C.1 1) && (decide (tp 3 ≤ 99) && gHold C tp))) = false → (gq (d + 2) 60 87 [some (.inr (.inr (some (31, 0)))), some (.inr (.inr (some (34, i1)))), some (.inr (.inr (some (11, 0)))), some (.inl (L)), x4, x5] [] (gwd S I J h) Q) := fun hF => by
    rw [gb_60_87]
    exact go false 0 (Or.inl rfl) ⟨fun e => absurd e (by decide), fun e => by cases e⟩ hF.symm
  refine m_hourOf hp ho (by omega) fun z hz => ?_
  rw [Option.toList_some, List.singleton_append, gb_60_47]
  by_cases v1 : 256 * tp 0 + tp 1 ≤ 999
  case neg => rw [if_pos (by rw [z_lt]; omega)]; exact bad (by rw [decide_eq_false v1]; rfl)
  rw [if_neg (by rw [z_lt]; omega), gb_60_53]
  refine m_byte hp ho fun z2 hz2 => ?_
  have t2 := ho.2 2 (by omega)
  rw [e2, show (2 : Int) = ((2 : Nat) : Int) from rfl, gByt_at (by omega)] at hz2
  rw [Option.toList_some, List.singleton_append, gb_60_59, m_hasMile, Option.toList_some, List.singleton_append, gb_60_62]
  by_cases v2 : tp 2 ≤ C.1 1
  case neg => rw [if_pos (by rw [zb_0]; omega)]; exact bad (by rw [decide_eq_false v2, Bool.false_and, Bool.and_false])
  rw [if_neg (by rw [zb_0]; exact fun e => e (by omega)), gb_60_65]
  refine m_byte hp ho fun z3 hz3 => ?_
  rw [e3, show (3 : Int) = ((3 : Nat) : Int) from rfl, gByt_at (by omega)] at hz3
  rw [Option.toList_some, List.singleton_append, gb_60_70]
  by_cases v3 : tp 3 ≤ 99
  case neg => rw [if_pos (by rw [z_lt]; omega)]; exact bad (by rw [decide_eq_false v3, Bool.false_and, Bool.and_false, Bool.and_false])
  rw [if_neg (by rw [z_lt]; omega), gb_60_75]
  refine m_isHolder hc hC hp ho w0 fun u hu hu1 => ?_
  rw [Option.toList_some, List.singleton_append, gb_60_80]
  by_cases v4 : gHold C tp = true
  · rw [if_neg (by rw [hu1.mpr v4]; decide), gb_60_83]
    exact go true 1 (Or.inr rfl) ⟨fun _ => rfl, fun _ => rfl⟩ (by rw [decide_eq_true v1, decide_eq_true v2, decide_eq_true v3, v4]; rfl)
  · rw [if_pos (hu.resolve_right fun e => v4 (hu1.mp e))]
    exact bad (by rw [Bool.eq_false_iff.mpr v4, Bool.and_false, Bool.and_false, Bool.and_false])
def gMsk (f : Nat → Int) : Nat → Nat → Int → Int
  | 0, _, m => m
  | n + 1, i, m => gMsk f n (i + 1) (if f i = 1 then gSetB m i else m)
theorem gMsk_r {f : Nat → Int} : ∀ {n i : Nat} {m : Int}, i + n ≤ 8 → 0 ≤ m → m < 256 → 0 ≤ gMsk f n i m ∧ gMsk f n i m < 256
  | 0, _, _, _, h0, h1 => ⟨h0, h1⟩
  | n + 1, i, m, hi, h0, h1 => by
    unfold gMsk
    split
    · have := gSetB_r h0 h1 (show i < 8 by omega)
      exact gMsk_r (by omega) this.1 this.2
    · exact gMsk_r (by omega) h0 h1
def gOn (C : gCo) (tp : Nat → Int) (t : gSt) : gSt := fun j => if j = 0 then 256 * tp 0 + tp 1 else if j = 1 then tp 2 else if j = 2 then tp 3 else if j = 3 then (if C.1 2 = 0 then -1 else tp 4) else if j = 4 then gMsk (fun b => tp (6 + 2 * b)) (C.1 2).toNat 0 0 else if j = 5 then gMsk (fun b => tp (5 + 2 * (C.1 2).toNat + b)) (C.1 3).toNat 0 0 else if 10 ≤ j ∧ ((j - 10 : Nat) : Int) < C.1 2 then tp (5 + 2 * (j - 10)) else t j
theorem or0_tbl : ∀ n, n < 256 → ∀ b, b < 8 → Int32.ofNat n ||| ((0 : Int32) <<< (Int32.ofNat b &&& 31)) = Int32.ofNat n := by decide +kernel
theorem z_orv {x v a : Int32} {b : Nat} {w : Int} (h0 : 0 ≤ x.toInt) (h1 : x.toInt < 256) (ha : a.toInt = b) (hb : b < 8) (hv : v.toInt = w) (hw : w = 0 ∨ w = 1) : (x ||| (v <<< (a &&& 31))).toInt = if w = 1 then gSetB x.toInt b else x.toInt := by
  rcases hw with rfl | rfl
  · obtain rfl : v = 0 := z_inj hv
    have e := or0_tbl x.toInt.toNat (by omega) b hb
    rw [← z_ofn x h0] at e
    rw [z_ofn a (by omega), ha, Int.toNat_natCast, e]; rfl
  · obtain rfl : v = 1 := z_inj hv
    rw [if_pos rfl]; exact (z_orb h0 h1 ha hb).1
theorem gOnB_at {C : gCo} {tp : Nat → Int} : ∀ {n b : Nat}, gOnB C tp n b = true → ∀ k, b ≤ k → k < b + n → tp (5 + 2 * k) ≤ C.1 1 ∧ tp (6 + 2 * k) ≤ 1
  | 0, b, _, k, h1, h2 => by omega
  | n + 1, b, h, k, h1, h2 => by
    unfold gOnB at h
    split at h
    · rename_i w
      by_cases e : k = b
      · rw [e]; exact w
      · exact gOnB_at h k (by omega) (by omega)
    · cases h
theorem gOnF_at {tp : Nat → Int} : ∀ {n b : Nat}, gOnF tp n b = true → ∀ k, b ≤ k → k < b + n → tp k ≤ 1
  | 0, b, _, k, h1, h2 => by omega
  | n + 1, b, h, k, h1, h2 => by
    unfold gOnF at h
    split at h
    · rename_i w
      by_cases e : k = b
      · rw [e]; exact w
      · exact gOnF_at h k (by omega) (by omega)
    · cases h
theorem gIsOf_iff {C : gCo} {tp : Nat → Int} {ln : Int} : gIsOf C tp ln = true ↔ (ln = 6 + 2 * C.1 2 + C.1 3 ∧ tp (ln - 1).toNat = gSum tp (ln - 1).toNat 0 199 ∧ 256 * tp 0 + tp 1 ≤ 999 ∧ tp 2 ≤ C.1 1 ∧ tp 3 ≤ 99 ∧ gHold C tp = true ∧ gOnB C tp (C.1 2).toNat 0 = true ∧ gOnF tp (C.1 3).toNat (5 + 2 * (C.1 2).toNat) = true) := by
  unfold gIsOf
  simp only [Bool.and_eq_true, decide_eq_true_eq]
theorem m_apply_b {i1 i2 : Nat} {C : gCo} {tp : Nat → Int} {ln : Int} (hc : cOk C) (ho : tpOk tp ln) (hl : ln = 6 + 2 * C.1 2 + C.1 3) (hb : gOnB C tp (C.1 2).toNat 0 = true) : ∀ (n b : Nat) (m : Int) (I : Nat → Nat → Nat → Int32) (a4 : Int32), ((b + n : Nat) : Int) = C.1 2 → a4.toInt = b → kCo I i1 C → kTp I tp ln → (I 21 i2 4).toInt = m → 0 ≤ m → m < 256 →
    (∀ (I' : Nat → Nat → Nat → Int32) a4, (∀ k i j, ¬ ((k = 21 ∧ i = i2 ∧ j = 4) ∨ (k = 22 ∧ i = i2)) → I' k i j = I k i j) → (I' 21 i2 4).toInt = gMsk (fun b => tp (6 + 2 * b)) n b m → (∀ k, b ≤ k → k < b + n → (I' 22 i2 k).toInt = tp (5 + 2 * k)) → (∀ k, ¬ (b ≤ k ∧ k < b + n) → I' 22 i2 k = I 22 i2 k) → (gq (d + 2) 61 120 [some (.inr (.inr (some (31, 0)))), some (.inr (.inr (some (34, i1)))), some (.inr (.inr (some (11, 0)))), some (.inr (.inr (some (21, i2)))), some (.inl (a4))] [] (gwd S I' J h) Q)) → (gq (d + 2) 61 54 [some (.inr (.inr (some (31, 0)))), some (.inr (.inr (some (34, i1)))), some (.inr (.inr (some (11, 0)))), some (.inr (.inr (some (21, i2)))), some (.inl (a4))] [] (gwd S I J h) Q)
  | 0, b, m, I, a4, hn, h4, hC, hp, hm, hm0, hm1, K => by
    have c2 := hC.1 2 (by decide)
    rw [gb_61_54, if_pos (by rw [z_le]; omega)]
    exact K I _ (fun _ _ _ _ => rfl) hm (fun k h1 h2 => by omega) (fun _ _ => rfl)
  | n + 1, b, m, I, a4, hn, h4, hC, hp, hm, hm0, hm1, K => by
    have e1 : (1 : Int32).toInt = 1 := rfl
    have e2 : (2 : Int32).toInt = 2 := rfl
    have e5 : (5 : Int32).toInt = 5 := rfl
    have e8 : (Int32.ofNat 8).toInt = 8 := rfl
    have c2 := hC.1 2 (by decide)
    have rB := hc.2.2.1
    have rH := hc.2.2.2.1
    have ea : (a4 + 1).toInt = ((b + 1 : Nat) : Int) := by rw [z_add (by omega) (by omega), h4, e1]; rfl
    have q0 : (2 * a4).toInt = 2 * b := by rw [z_mul (by rw [h4, e2]; omega) (by rw [h4, e2]; omega), h4, e2]
    have q1 : (5 + 2 * a4).toInt = ((5 + 2 * b : Nat) : Int) := by rw [z_add (by omega) (by omega), q0, e5]; omega
    have q2 : (5 + 2 * a4 + 1).toInt = ((6 + 2 * b : Nat) : Int) := by rw [z_add (by omega) (by omega), q1, e1]; omega
    have en : a4.toNatClampNeg = b := by rw [z_n]; omega
    have tb := gOnB_at hb b (by omega) (by omega)
    have t6 := ho.2 (6 + 2 * b) (by omega)
    rw [gb_61_54, if_neg (by rw [z_le]; omega), gb_61_63, if_neg (by rw [z_le]; omega), gb_61_73]
    refine m_byte hp ho fun x hx => ?_
    rw [q1, gByt_at (by omega)] at hx
    rw [Option.toList_some, List.singleton_append, gb_61_89]
    refine ⟨g_in.mpr (by omega), ?_⟩
    rw [en, gb_61_90]
    refine m_byte (kTp_congr hp (u_ne (by omega)) (fun j => u_ne (by omega))) ho fun y hy => ?_
    rw [q2, gByt_at (by omega)] at hy
    rw [Option.toList_some, List.singleton_append, gb_61_107, u_k (show (21 : Nat) ≠ 22 by decide)]
    have hz := z_orv (x := I 21 i2 4) (v := y) (a := a4) (b := b) (w := tp (6 + 2 * b)) (by omega) (by omega) h4 (by omega) hy (by omega)
    rw [hm] at hz
    have hr : 0 ≤ (if tp (6 + 2 * b) = 1 then gSetB m b else m) ∧ (if tp (6 + 2 * b) = 1 then gSetB m b else m) < 256 := by
      split
      · exact gSetB_r hm0 hm1 (by omega)
      · exact ⟨hm0, hm1⟩
    refine m_apply_b hc ho hl hb n (b + 1) (if tp (6 + 2 * b) = 1 then gSetB m b else m) _ _ (by omega) ea (kCo_congr hC fun k j hk => by rw [u_ne (by omega), u_ne (by omega)]) (kTp_congr hp (by rw [u_ne (by omega), u_ne (by omega)]) (fun j => by rw [u_ne (by omega), u_ne (by omega)])) (by rw [u_eq]; exact hz) hr.1 hr.2 fun I' z4 hF g1 g2 g3 => K I' z4 (fun k i j hn => by rw [hF _ _ _ hn, u_ne (by omega), u_ne (by omega)]) g1 (fun k h1 h2 => ?_) (fun k hk => ?_)
    · by_cases e : k = b
      · rw [g3 k (by omega), u_k (by decide), e, u_eq]; exact hx
      · exact g2 k (by omega) (by omega)
    · rw [g3 k (by omega), u_k (by decide), u_j (by omega)]
theorem m_apply_h {i1 i2 : Nat} {C : gCo} {tp : Nat → Int} {ln : Int} (hc : cOk C) (ho : tpOk tp ln) (hl : ln = 6 + 2 * C.1 2 + C.1 3) (hf : gOnF tp (C.1 3).toNat (5 + 2 * (C.1 2).toNat) = true) : ∀ (n b : Nat) (m : Int) (I : Nat → Nat → Nat → Int32) (a4 : Int32), ((b + n : Nat) : Int) = C.1 3 → a4.toInt = b → kCo I i1 C → kTp I tp ln → (I 21 i2 5).toInt = m → 0 ≤ m → m < 256 →
    (∀ (I' : Nat → Nat → Nat → Int32), (∀ k i j, ¬ ((k = 21 ∧ i = i2 ∧ j = 5)) → I' k i j = I k i j) → (I' 21 i2 5).toInt = gMsk (fun b => tp (5 + 2 * (C.1 2).toNat + b)) n b m → Q none (gwd S I' J h)) → (gq (d + 2) 61 128 [some (.inr (.inr (some (31, 0)))), some (.inr (.inr (some (34, i1)))), some (.inr (.inr (some (11, 0)))), some (.inr (.inr (some (21, i2)))), some (.inl (a4))] [] (gwd S I J h) Q)
  | 0, b, m, I, a4, hn, h4, hC, hp, hm, hm0, hm1, K => by
    have c3 := hC.1 3 (by decide)
    rw [gb_61_128, if_pos (by rw [z_le]; omega), gb_61_170]
    exact K I (fun _ _ _ _ => rfl) hm
  | n + 1, b, m, I, a4, hn, h4, hC, hp, hm, hm0, hm1, K => by
    have e1 : (1 : Int32).toInt = 1 := rfl
    have e2 : (2 : Int32).toInt = 2 := rfl
    have e5 : (5 : Int32).toInt = 5 := rfl
    have c2 := hC.1 2 (by decide)
    have c3 := hC.1 3 (by decide)
    have rB := hc.2.2.1
    have rH := hc.2.2.2.1
    have ea : (a4 + 1).toInt = ((b + 1 : Nat) : Int) := by rw [z_add (by omega) (by omega), h4, e1]; rfl
    have q0 : (2 * I 34 i1 2).toInt = 2 * C.1 2 := by rw [z_mul (by rw [c2, e2]; omega) (by rw [c2, e2]; omega), c2, e2]
    have q1 : (5 + 2 * I 34 i1 2).toInt = 5 + 2 * C.1 2 := by rw [z_add (by omega) (by omega), q0, e5]
    have q2 : (5 + 2 * I 34 i1 2 + a4).toInt = ((5 + 2 * (C.1 2).toNat + b : Nat) : Int) := by rw [z_add (by omega) (by omega), q1]; omega
    have tb := gOnF_at hf (5 + 2 * (C.1 2).toNat + b) (by omega) (by omega)
    have t6 := ho.2 (5 + 2 * (C.1 2).toNat + b) (by omega)
    rw [gb_61_128, if_neg (by rw [z_le]; omega), gb_61_137]
    refine m_byte hp ho fun y hy => ?_
    rw [q2, gByt_at (by omega)] at hy
    rw [Option.toList_some, List.singleton_append, gb_61_157]
    have hz := z_orv (x := I 21 i2 5) (v := y) (a := a4) (b := b) (w := tp (5 + 2 * (C.1 2).toNat + b)) (by omega) (by omega) h4 (by omega) hy (by omega)
    rw [hm] at hz
    have hr : 0 ≤ (if tp (5 + 2 * (C.1 2).toNat + b) = 1 then gSetB m b else m) ∧ (if tp (5 + 2 * (C.1 2).toNat + b) = 1 then gSetB m b else m) < 256 := by
      split
      · exact gSetB_r hm0 hm1 (by omega)
      · exact ⟨hm0, hm1⟩
    exact m_apply_h hc ho hl hf n (b + 1) (if tp (5 + 2 * (C.1 2).toNat + b) = 1 then gSetB m b else m) _ _ (by omega) ea (kCo_congr hC fun k j hk => u_ne (by omega)) (kTp_congr hp (u_ne (by omega)) (fun j => u_ne (by omega))) (by rw [u_eq]; exact hz) hr.1 hr.2 fun I' hF g1 => K I' (fun k i j hn => by rw [hF _ _ _ hn, u_ne (by omega)]) g1
theorem m_apply {i1 i2 : Nat} {x4 : Option gV} {C : gCo} {t : gSt} {tp : Nat → Int} {ln : Int} (hc : cOk C) (hC : kCo I i1 C) (hp : kTp I tp ln) (ho : tpOk tp ln) (hS : kS I i2 t) (hi : gIsOf C tp ln = true) (K : ∀ (I' : Nat → Nat → Nat → Int32), (∀ k i j, ¬ ((k = 21 ∧ i = i2) ∨ (k = 22 ∧ i = i2)) → I' k i j = I k i j) → kS I' i2 (gOn C tp t) → Q none (gwd S I' J h)) : (gq (d + 2) 61 0 [some (.inr (.inr (some (31, 0)))), some (.inr (.inr (some (34, i1)))), some (.inr (.inr (some (11, 0)))), some (.inr (.inr (some (21, i2)))), x4] [] (gwd S I J h) Q) := by
  obtain ⟨hl, _, w1, w2, w3, w4, w5, w6⟩ := gIsOf_iff.mp hi
  have e2 : (2 : Int32).toInt = 2 := rfl
  have e3 : (3 : Int32).toInt = 3 := rfl
  have e4 : (4 : Int32).toInt = 4 := rfl
  have c2 := hC.1 2 (by decide)
  have rB := hc.2.2.1
  have rH := hc.2.2.2.1
  rw [gb_61_0]
  refine m_hourOf hp ho (by omega) fun x0 hx0 => ?_
  rw [Option.toList_some, List.singleton_append, gb_61_5]
  refine m_byte (kTp_congr hp (u_ne (by omega)) (fun j => u_ne (by omega))) ho fun x1 hx1 => ?_
  rw [e2, show (2 : Int) = ((2 : Nat) : Int) from rfl, gByt_at (by omega)] at hx1
  rw [Option.toList_some, List.singleton_append, gb_61_14]
  refine m_byte (kTp_congr hp (by rw [u_ne (by omega), u_ne (by omega)]) (fun j => by rw [u_ne (by omega), u_ne (by omega)])) ho fun x2 hx2 => ?_
  rw [e3, show (3 : Int) = ((3 : Nat) : Int) from rfl, gByt_at (by omega)] at hx2
  rw [Option.toList_some, List.singleton_append, gb_61_23]
  simp only [u_k (show (34 : Nat) ≠ 21 by decide)]
  have go : ∀ y : Int32, y.toInt = (if C.1 2 = 0 then -1 else tp 4) → (gq (d + 2) 61 43 [some (.inr (.inr (some (31, 0)))), some (.inr (.inr (some (34, i1)))), some (.inr (.inr (some (11, 0)))), some (.inr (.inr (some (21, i2)))), x4] [.inl (y), .inr (.inr (some (21, i2)))] (gwd S (gup (gup (gup I 21 i2 0 x0) 21 i2 1 x1) 21 i2 2 x2) J h) Q) := fun y hy => by
    rw [gb_61_43]
    generalize hI0 : gup (gup (gup (gup (gup I 21 i2 0 x0) 21 i2 1 x1) 21 i2 2 x2) 21 i2 3 y) 21 i2 4 0 = I0
    have hF0 : (∀ k i j, ¬ ((k = 21 ∧ i = i2)) → I0 k i j = I k i j) := fun k i j hn => by rw [← hI0]; repeat rw [u_ne (by omega)]
    have v0 : I0 21 i2 0 = x0 := by rw [← hI0, u_j (by decide), u_j (by decide), u_j (by decide), u_j (by decide), u_eq]
    have v1 : I0 21 i2 1 = x1 := by rw [← hI0, u_j (by decide), u_j (by decide), u_j (by decide), u_eq]
    have v2 : I0 21 i2 2 = x2 := by rw [← hI0, u_j (by decide), u_j (by decide), u_eq]
    have v3 : I0 21 i2 3 = y := by rw [← hI0, u_j (by decide), u_eq]
    have v4 : I0 21 i2 4 = 0 := by rw [← hI0, u_eq]
    refine m_apply_b (i1 := i1) hc ho hl w5 (C.1 2).toNat 0 0 I0 _ (by omega) rfl (kCo_congr hC fun k j hk => hF0 _ _ _ (by omega)) (kTp_congr hp (hF0 _ _ _ (by omega)) (fun j => hF0 _ _ _ (by omega))) (by rw [v4]; rfl) (by omega) (by omega) fun I1 z4 hF1 g1 g2 g3 => ?_
    rw [gb_61_120]
    refine m_apply_h (i1 := i1) hc ho hl w6 (C.1 3).toNat 0 0 _ _ (by omega) rfl (kCo_congr hC fun k j hk => by rw [u_ne (by omega), hF1 _ _ _ (by omega), hF0 _ _ _ (by omega)]) (kTp_congr hp (by rw [u_ne (by omega), hF1 _ _ _ (by omega), hF0 _ _ _ (by omega)]) (fun j => by rw [u_ne (by omega), hF1 _ _ _ (by omega), hF0 _ _ _ (by omega)])) (by rw [u_eq]; rfl) (by omega) (by omega) fun I2 hF2 g4 => ?_
    have f : ∀ j, j ≠ 5 → I2 21 i2 j = I1 21 i2 j := fun j hj => by rw [hF2 _ _ _ (by omega), u_j hj]
    refine K I2 (fun k i j hn => by rw [hF2 _ _ _ (by omega), u_ne (by omega), hF1 _ _ _ (by omega), hF0 _ _ _ (by omega)]) ⟨fun j hj => ?_, fun b hb => ?_⟩
    · have e : j = 0 ∨ j = 1 ∨ j = 2 ∨ j = 3 ∨ j = 4 ∨ j = 5 := by omega
      rcases e with rfl | rfl | rfl | rfl | rfl | rfl
      · rw [f 0 (by decide), hF1 _ _ _ (by omega), v0, hx0]; rfl
      · rw [f 1 (by decide), hF1 _ _ _ (by omega), v1, hx1]; rfl
      · rw [f 2 (by decide), hF1 _ _ _ (by omega), v2, hx2]; rfl
      · rw [f 3 (by decide), hF1 _ _ _ (by omega), v3, hy]; rfl
      · rw [f 4 (by decide), g1]; rfl
      · rw [g4]; rfl
    · rw [hF2 _ _ _ (by omega), u_k (by decide)]
      unfold gOn
      rw [if_neg (by omega), if_neg (by omega), if_neg (by omega), if_neg (by omega), if_neg (by omega), if_neg (by omega)]
      by_cases w : (b : Int) < C.1 2
      · rw [if_pos (by omega), g2 b (by omega) (by omega), show 10 + b - 10 = b by omega]
      · rw [if_neg (by omega), g3 b (by omega), hF0 _ _ _ (by omega)]; exact hS.2 b hb
  by_cases hz : C.1 2 = 0
  · rw [if_pos (z_inj (by rw [c2, hz]; rfl)), gb_61_34, gb_61_35]
    exact go _ (by rw [if_pos hz]; rfl)
  · rw [if_neg (fun e => hz (by rw [← c2, e]; rfl)), gb_61_38]
    refine m_byte (kTp_congr hp (by rw [u_ne (by omega), u_ne (by omega), u_ne (by omega)]) (fun j => by rw [u_ne (by omega), u_ne (by omega), u_ne (by omega)])) ho fun y hy => ?_
    rw [e4, show (4 : Int) = ((4 : Nat) : Int) from rfl, gByt_at (by omega)] at hy
    rw [Option.toList_some, List.singleton_append]
    exact go y (by rw [if_neg hz]; exact hy)
