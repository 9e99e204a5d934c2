/-! The class reads a question. -/
variable {d S : Nat} {h : Nat × Option gNm} {I : Nat → Nat → Nat → Int32} {J : Nat → Nat → Nat → Int64} {Q : Option gV → gW → Prop}
variable {tp : Nat → Int} {n : Nat}
/-- the question's word -/
def qW (tp : Nat → Int) (n : Nat) : Int := wHere tp n (lSk tp n 0)
def qHd (tp : Nat → Int) (n : Nat) : lT := if lKd tp n (lSk tp n 0) false = -2 ∧ 27 ≤ qW tp n then .inr (lNx tp n (lSk tp n 0) false) else .inl (1, ((lSk tp n 0 : Nat) : Int))
def qBd (tp : Nat → Int) (n : Nat) : lT × List Int := bR (qHd tp n, []) fun s g _ => rd tp n (alT 3) (10 * n + 20) (if 29 < qW tp n then 4 else 9) 0 s g
def lFin (n : Nat) : lT → lT
  | .inl b => .inl b
  | .inr (s, g) => if s < n then .inl (1, (s : Int)) else .inr (s, g)
/-- a question's text -/
def qRd (tp : Nat → Int) (n : Nat) : lT × List Int := (lFin n (qBd tp n).1, (qBd tp n).2)
/-- behind a token -/
theorem bR_q {q : Nat × Bool} {l : List Int} {k : Nat → Bool → List Int → lT × List Int} : bR (.inr q, l) k = k q.1 q.2 l := by cases q; rfl
theorem m_qread (hx : kTx I tp n) (K : ∀ I' : Nat → Nat → Nat → Int32, (∀ k i j, ¬ (k = 11 ∧ i = 0 ∧ 2 ≤ j ∧ j ≤ 7 ∨ k = 13 ∧ i = 0 ∧ j = 4 ∨ k = 14 ∧ i = 2 ∧ j = 2 ∨ k = 15 ∧ i = 2 ∨ k = 17 ∧ i = 2) → I' k i j = I k i j) → kTk I' tp n (qRd tp n).1 → (∀ q, (qRd tp n).1 = .inr q → (I' 13 0 4).toInt = qW tp n ∧ 27 ≤ qW tp n ∧ (I' 14 2 2).toInt = (((qRd tp n).2.length : Nat) : Int) ∧ gCd (I' 15 2) id 0 (qRd tp n).2) → Q none (gwd S I' J h)) : (gq (d + 80) 69 0 [some (.inr (.inr (some (13, 0))))] [] (gwd S I J h) Q) := by
  have e27 : (27 : Int32).toInt = 27 := rfl
  have e29 : (29 : Int32).toInt = 29 := rfl
  have hs0 := lSk_r (tp := tp) (n := n) (k := 0) (Nat.zero_le _)
  rw [gb_69_0]
  refine m_begin hx fun I1 hF1 ht1 => ?_
  have hx1 : kTx I1 tp n := kTx_congr hx (fun j => hF1 _ _ _ (by omega)) (hF1 _ _ _ (by omega)) (fun j => hF1 _ _ _ (by omega))
  rw [Option.toList_none, List.nil_append, gb_69_7, gb_69_17]
  have fault : ∀ s0 : Int32, s0.toInt < 27 → qHd tp n = .inl (1, ((lSk tp n 0 : Nat) : Int)) → (gq (d + 80) 69 31 [some (.inr (.inr (some (13, 0))))] [.inl (s0), .inr (.inr (some (13, 0)))] (gwd S I1 J h) Q) := fun s0 h0 hq => by
    have hr : (qRd tp n).1 = .inl (1, ((lSk tp n 0 : Nat) : Int)) := by unfold qRd qBd; rw [hq]; rfl
    rw [gb_69_31, if_neg (by rw [z_le, e27]; omega), gb_69_43]
    refine m_failH (f := 1) (τ := .inr (lSk tp n 0, false)) (kTk_congr ht1 (fun j _ _ => u_k (by decide))) rfl (by decide) fun I2 hF2 ht2 => ?_
    rw [Option.toList_none, List.nil_append, gb_69_51]
    exact K I2 (fun k i j hn => by rw [hF2 _ _ _ (by omega), u_ne (by omega), hF1 _ _ _ (by omega)]) (by rw [hr]; exact ht2) (fun q e => by rw [hr] at e; cases e)
  by_cases hk : lKd tp n (lSk tp n 0) false = -2
  case neg =>
    rw [if_neg (fun e => hk (by rw [← ht1.1, e]; rfl)), gb_69_30]
    exact fault _ (by decide) (if_neg (fun q => hk q.1))
  rw [if_pos (z_inj (by rw [ht1.1, hk]; rfl)), gb_69_20]
  have hL := (lKd_word hx.2.2.2.1).mp hk
  have h5 : (I1 11 0 5).toInt = qW tp n := ht1.2.2.2.2.2.2.1 hL.1
  by_cases hw : 27 ≤ qW tp n
  case neg => exact fault _ (by omega) (if_neg (fun q => hw q.2))
  have hq : qHd tp n = .inr (lNx tp n (lSk tp n 0) false) := if_pos ⟨hk, hw⟩
  have hnx := lNx_r (tp := tp) (g := false) hs0.2
  rw [gb_69_31, if_pos (by rw [z_le, e27, h5]; exact hw)]
  generalize hI2 : gup I1 13 0 4 (I1 11 0 5) = I2
  have hF2 : (∀ k i j, ¬ ((k = 13 ∧ i = 0 ∧ j = 4)) → I2 k i j = I1 k i j) := fun k i j hn => by rw [← hI2, u_ne (by omega)]
  have h13 : (I2 13 0 4).toInt = qW tp n := by rw [← hI2, u_eq]; exact h5
  have hx2 : kTx I2 tp n := kTx_congr hx1 (fun j => hF2 _ _ _ (by omega)) (hF2 _ _ _ (by omega)) (fun j => hF2 _ _ _ (by omega))
  rw [gb_69_52]
  refine m_nextT hx2 (kTk_congr ht1 (fun j _ _ => hF2 _ _ _ (by omega))) fun I3 hF3 ht3 => ?_
  rw [Option.toList_none, List.nil_append, gb_69_59, gb_38_0, Option.toList_none, List.nil_append]
  generalize hI4 : gup (gup (gup I3 14 2 2 0) 17 2 2 8071) 17 2 3 0 = I4
  have hF4 : (∀ k i j, ¬ ((k = 14 ∧ i = 2 ∧ j = 2) ∨ (k = 17 ∧ i = 2)) → I4 k i j = I3 k i j) := fun k i j hn => by rw [← hI4, u_ne (by omega), u_ne (by omega), u_ne (by omega)]
  have h17 : I4 17 2 2 = 8071 := by rw [← hI4, u_j (by decide), u_eq]
  have h173 : (I4 17 2 3).toInt = ((0 : Nat) : Int) := by rw [← hI4, u_eq]; rfl
  have hz4 : (I4 14 2 2).toInt = ((0 : Nat) : Int) := by rw [← hI4, u_k (by decide), u_k (by decide), u_eq]; rfl
  have hx4 : kTx I4 tp n := kTx_congr hx2 (fun j => by rw [hF4 _ _ _ (by omega), hF3 _ _ _ (by omega)]) (by rw [hF4 _ _ _ (by omega), hF3 _ _ _ (by omega)]) (fun j => by rw [hF4 _ _ _ (by omega), hF3 _ _ _ (by omega)])
  have ht4 : kTk I4 tp n (.inr (lNx tp n (lSk tp n 0) false)) := kTk_congr ht3 (fun j _ _ => hF4 _ _ _ (by omega))
  have h134 : (I4 13 0 4).toInt = qW tp n := by rw [hF4 _ _ _ (by omega), hF3 _ _ _ (by omega)]; exact h13
  have hal : kAl I4 2 (alT 3) := fun a u hu hu12 => by
    rw [h17, show a = Int32.ofNat u from z_inj (by rw [hu]; exact (z_of (n := (u : Int)) (by omega) (by omega)).symm)]
    exact mask_q u hu12
  have beh : ∀ m : Nat, (m = if 29 < qW tp n then 4 else 9) → ∀ I5 : Nat → Nat → Nat → Int32, FG 2 I4 I5 → kOut I4 tp n 2 0 0 (rd tp n (alT 3) (10 * n + 20) m 0 (lNx tp n (lSk tp n 0) false).1 (lNx tp n (lSk tp n 0) false).2) I5 → (gq (d + 80) 69 103 [some (.inr (.inr (some (13, 0))))] [] (gwd S I5 J h) Q) := fun m hm I5 hG5 ho5 => by
    have hb : qBd tp n = rd tp n (alT 3) (10 * n + 20) m 0 (lNx tp n (lSk tp n 0) false).1 (lNx tp n (lSk tp n 0) false).2 := by unfold qBd; rw [hq, bR_q, ← hm]
    have hF5 : ∀ k i j, ¬ (k = 11 ∧ i = 0 ∧ 2 ≤ j ∧ j ≤ 7 ∨ k = 13 ∧ i = 0 ∧ j = 4 ∨ k = 14 ∧ i = 2 ∧ j = 2 ∨ k = 15 ∧ i = 2 ∨ k = 17 ∧ i = 2) → I5 k i j = I k i j := fun k i j hn => by rw [hG5 _ _ _ (by omega), hF4 _ _ _ (by omega), hF3 _ _ _ (by omega), hF2 _ _ _ (by omega), hF1 _ _ _ (by omega)]
    have h135 : (I5 13 0 4).toInt = qW tp n := by rw [hG5 _ _ _ (by omega)]; exact h134
    have em1 : (Int32.ofInt (-1)).toInt = -1 := rfl
    rw [gb_69_103, gb_69_111]
    match hr : rd tp n (alT 3) (10 * n + 20) m 0 (lNx tp n (lSk tp n 0) false).1 (lNx tp n (lSk tp n 0) false).2, ho5 with
    | (.inl b, l), ho5 =>
      have hR : (qRd tp n).1 = .inl b := by unfold qRd; rw [hb, hr]; rfl
      have ho5' : kTk I5 tp n (.inl b) := ho5
      rw [if_neg (fun e => by have := ho5'.1; rw [e, em1] at this; omega), gb_69_114]
      refine m_failH (f := 1) (τ := .inl b) ho5' rfl (by decide) fun I6 hF6 ht6 => ?_
      rw [Option.toList_none, List.nil_append, gb_69_122]
      exact K I6 (fun k i j hn => by rw [hF6 _ _ _ (by omega), hF5 _ _ _ hn]) (by rw [hR]; exact ht6) (fun q e => by rw [hR] at e; cases e)
    | (.inr (s, g), l), ho5 =>
      obtain ⟨b1, b2, b3, b4, b5⟩ := ho5
      have hE := lKd_end (s := s) (g := g) hx.2.2.2.1
      by_cases w : s < n
      · have hR : (qRd tp n).1 = .inl (1, (s : Int)) := by unfold qRd; rw [hb, hr]; exact if_pos w
        rw [if_neg (fun e => hE.mp (by rw [← b1.1, e]; rfl) w), gb_69_114]
        refine m_failH (f := 1) (τ := .inr (s, g)) b1 rfl (by decide) fun I6 hF6 ht6 => ?_
        rw [Option.toList_none, List.nil_append, gb_69_122]
        exact K I6 (fun k i j hn => by rw [hF6 _ _ _ (by omega), hF5 _ _ _ hn]) (by rw [hR]; exact ht6) (fun q e => by rw [hR] at e; cases e)
      · have hR : qRd tp n = (.inr (s, g), l) := by unfold qRd; rw [hb, hr]; exact congrArg (fun t => (t, l)) (if_neg w)
        rw [if_pos (z_inj (by rw [b1.1, hE.mpr w]; rfl)), gb_69_122]
        refine K I5 hF5 (by rw [hR]; exact b1) (fun q e => ⟨h135, hw, ?_, ?_⟩)
        · rw [hR, b3, Nat.zero_add]
        · rw [hR]; exact b5
  have hfuel : ∀ m, m ≤ 9 → 10 * (n - (lNx tp n (lSk tp n 0) false).1) + m < 10 * n + 20 := fun m hm => by omega
  have sp := m_rd (S := S) (h := h) (J := J) (tp := tp) (n := n) (c := 2) (al := alT 3) (10 * n + 20)
  rw [gb_69_77]
  by_cases w29 : 29 < qW tp n
  · rw [if_pos (by rw [z_lt, e29, h134]; exact w29), gb_69_96]
    refine sp 4 0 (lNx tp n (lSk tp n 0) false).1 0 (lNx tp n (lSk tp n 0) false).2 I4 (d + 79) 0 none none _ (by decide) (by decide) hx4 hal ht4 h173 hz4 (Nat.zero_le _) (hfuel 4 (by decide)) (by show 10 * (6 - 0) + 12 ≤ d + 79; omega) (fun q => by omega) fun I5 hG5 ho5 => ?_
    rw [Option.toList_none, List.nil_append]
    exact beh 4 (by rw [if_pos w29]) I5 hG5 ho5
  · rw [if_neg (by rw [z_lt, e29, h134]; exact w29), gb_69_86]
    refine sp 9 0 (lNx tp n (lSk tp n 0) false).1 0 (lNx tp n (lSk tp n 0) false).2 I4 (d + 79) 0 none none _ (by decide) (by decide) hx4 hal ht4 h173 hz4 (Nat.zero_le _) (hfuel 9 (by decide)) (by show 10 * (6 - 0) + 15 ≤ d + 79; omega) (fun q => by omega) fun I5 hG5 ho5 => ?_
    rw [Option.toList_none, List.nil_append, gb_69_93]
    exact beh 9 (by rw [if_neg w29]) I5 hG5 ho5
