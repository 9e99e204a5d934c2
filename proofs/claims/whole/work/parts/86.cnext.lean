/-! The class: the next token, faults, what is expected. -/
variable {d S : Nat} {h : Nat × Option gNm} {I : Nat → Nat → Nat → Int32} {J : Nat → Nat → Nat → Int64} {Q : Option gV → gW → Prop}
theorem m_next_fin {tp : Nat → Int} {n s b : Nat} {G : Bool} {a1 a2 : Int32} (hx : kTx I tp n) (h1 : a1.toInt = if G = true then (b : Int) else -1) (hsn : s ≤ n) (h2 : (I 11 0 2).toInt = lKd tp n s false) (h3 : (I 11 0 3).toInt = s) (h4 : (I 11 0 4).toInt = lEn tp n s) (h6 : I 11 0 6 = 0) (h7 : (I 11 0 7).toInt = -1) (hL : lIsL (lB tp n s) = true → (I 11 0 5).toInt = lWd tp s (lEn tp n s)) (hD : lIsD (lB tp n s) = true → (I 11 0 5).toInt = min (lDg tp s (lEn tp n s - s)) 9999)
    (K : ∀ (I' : Nat → Nat → Nat → Int32), (∀ k i j, ¬ ((k = 11 ∧ i = 0 ∧ j = 2)) → I' k i j = I k i j) → kTk I' tp n (.inr (s, G && decide (s = b))) → Q none (gwd S I' J h)) : (gq d 106 287 [some (.inr (.inr (some (11, 0)))), some (.inl (a1)), some (.inl (a2))] [] (gwd S I J h) Q) := by
  have hr := lB_r (s := s) hx.2.2.2.1
  rw [gb_106_287]
  by_cases w : (G && decide (s = b)) = true
  case neg =>
    have wf : (G && decide (s = b)) = false := Bool.eq_false_iff.mpr w
    rw [if_neg (fun e => w (by
      have e' := congrArg Int32.toInt e
      rw [h3, h1] at e'
      cases hG : G with
      | false => rw [hG, if_neg Bool.false_ne_true] at e'; omega
      | true => rw [hG, if_pos rfl] at e'; rw [Bool.true_and]; exact decide_eq_true (by omega))), gb_106_319]
    rw [wf] at K
    exact K I (fun _ _ _ _ => rfl) ⟨h2, h3, h4, h6, h7, hsn, hL, hD⟩
  rw [w] at K
  rw [Bool.and_eq_true, decide_eq_true_iff] at w
  rw [if_pos (z_inj (by rw [h3, h1, if_pos w.1, w.2])), gb_106_295, gb_106_301]
  have put : lKd tp n s true = -4 → (gq d 106 313 [some (.inr (.inr (some (11, 0)))), some (.inl (a1)), some (.inl (a2))] [] (gwd S I J h) Q) := fun hk => by
    rw [gb_106_313, gb_106_316, gb_106_319]
    refine K _ (fun k i j hn => by rw [u_ne (by omega)]) ⟨by rw [u_eq, i8_4, hk], by rw [u_j (by decide)]; exact h3, by rw [u_j (by decide)]; exact h4, by rw [u_j (by decide)]; exact h6, by rw [u_j (by decide)]; exact h7, hsn, by rw [u_j (by decide)]; exact hL, by rw [u_j (by decide)]; exact hD⟩
  cases hl : lIsL (lB tp n s) with
  | true =>
    rw [lKd_L hl, if_neg Bool.false_ne_true] at h2
    rw [if_pos (z_inj (by rw [h2, i8_2]))]
    exact put (by rw [lKd_L hl, if_pos rfl])
  | false =>
    cases hd : lIsD (lB tp n s) with
    | true =>
      rw [lKd_D hd, if_neg Bool.false_ne_true] at h2
      rw [if_neg (fun e => by rw [e, i8_2] at h2; omega), gb_106_304, gb_106_310, if_pos (z_inj (by rw [h2, i8_3]))]
      exact put (by rw [lKd_D hd, if_pos rfl])
    | false =>
      rw [lKd_o hl hd] at h2
      rw [if_neg (fun e => by rw [e, i8_2] at h2; omega), gb_106_304, gb_106_310, if_neg (fun e => by rw [e, i8_3] at h2; omega), gb_106_319]
      exact K I (fun _ _ _ _ => rfl) ⟨by rw [h2, lKd_o hl hd], h3, h4, h6, h7, hsn, hL, hD⟩
theorem m_next {tp : Nat → Int} {n b : Nat} {kd : Int} {x1 x2 : Option gV} (hx : kTx I tp n) (hb : b ≤ n) (hk : (I 11 0 2).toInt = kd) (h4 : (I 11 0 4).toInt = b) (h6 : I 11 0 6 = 0) (h7 : (I 11 0 7).toInt = -1)
    (K : ∀ (I' : Nat → Nat → Nat → Int32), (∀ k i j, ¬ ((k = 11 ∧ i = 0 ∧ (j = 2 ∨ j = 3 ∨ j = 4 ∨ j = 5))) → I' k i j = I k i j) → kTk I' tp n (.inr (lSk tp n b, decide (kd = -2 ∨ kd = -3) && decide (lSk tp n b = b))) → Q none (gwd S I' J h)) : (gq (d + 5) 106 0 [some (.inr (.inr (some (11, 0)))), x1, x2] [] (gwd S I J h) Q) := by
  have em1 : (Int32.ofInt (-1)).toInt = -1 := rfl
  have hskr := lSk_r (tp := tp) hb
  have hn := hx.2.2.1
  generalize hG : decide (kd = -2 ∨ kd = -3) = G at K
  have e1 : (1 : Int32).toInt = 1 := rfl
  have e48 : (48 : Int32).toInt = 48 := rfl
  generalize hs : lSk tp n b = s at K hskr
  have st : ∀ a1 : Int32, a1.toInt = (if G = true then (b : Int) else -1) → (gq (d + 5) 106 43 [some (.inr (.inr (some (11, 0)))), some (.inl (a1)), x2] [] (gwd S (gup I 11 0 3 (I 11 0 4)) J h) Q) := fun a1 h1 => by
    refine m_next_sk _ b _ rfl hb (kTx_congr hx (fun j => by rw [u_k (by decide)]) (by rw [u_j (by decide)]) (fun j => by rw [u_k (by decide)])) (by rw [u_eq]; exact h4) fun I1 hF1 g3 => ?_
    rw [hs] at g3
    have hF01 : (∀ k i j, ¬ ((k = 11 ∧ i = 0 ∧ j = 3)) → I1 k i j = I k i j) := fun k i j hn => by rw [hF1 _ _ _ hn, u_ne (by omega)]
    have hx1 : kTx I1 tp n := kTx_congr hx (fun j => hF01 _ _ _ (by omega)) (hF01 _ _ _ (by omega)) (fun j => hF01 _ _ _ (by omega))
    rw [gb_106_81]
    refine m_byteN hx1 g3 fun x hv => ?_
    rw [Option.toList_some, List.singleton_append, gb_106_89, gb_106_93]
    have hr := lB_r (s := s) hx.2.2.2.1
    have body : ∀ (I2 : Nat → Nat → Nat → Int32), (∀ k i j, ¬ ((k = 11 ∧ i = 0 ∧ (j = 2 ∨ j = 3 ∨ j = 4))) → I2 k i j = I k i j) → (I2 11 0 2).toInt = lB tp n s → (I2 11 0 3).toInt = s → (I2 11 0 4).toInt = (if s < n then (s : Int) + 1 else s) → (gq (d + 5) 106 130 [some (.inr (.inr (some (11, 0)))), some (.inl (a1)), some (.inl (x))] [.inl ((zb (97 ≤ x.toInt ∧ x.toInt ≤ 122)))] (gwd S I2 J h) Q) := fun I2 hF2 k2 k3 k4 => by
      have hx2 : kTx I2 tp n := kTx_congr hx (fun j => hF2 _ _ _ (by omega)) (hF2 _ _ _ (by omega)) (fun j => hF2 _ _ _ (by omega))
      have fin : ∀ (I4 : Nat → Nat → Nat → Int32), (∀ k i j, ¬ ((k = 11 ∧ i = 0 ∧ (j = 2 ∨ j = 3 ∨ j = 4 ∨ j = 5))) → I4 k i j = I k i j) → (I4 11 0 2).toInt = lKd tp n s false → (I4 11 0 3).toInt = s → (I4 11 0 4).toInt = lEn tp n s → (lIsL (lB tp n s) = true → (I4 11 0 5).toInt = lWd tp s (lEn tp n s)) → (lIsD (lB tp n s) = true → (I4 11 0 5).toInt = min (lDg tp s (lEn tp n s - s)) 9999) → (gq (d + 5) 106 287 [some (.inr (.inr (some (11, 0)))), some (.inl (a1)), some (.inl (x))] [] (gwd S I4 J h) Q) := fun I4 hF4 q2 q3 q4 qL qD => by
        refine m_next_fin (b := b) (G := G) (kTx_congr hx (fun j => hF4 _ _ _ (by omega)) (hF4 _ _ _ (by omega)) (fun j => hF4 _ _ _ (by omega))) h1 hskr.2 q2 q3 q4 (by rw [hF4 _ _ _ (by omega)]; exact h6) (by rw [hF4 _ _ _ (by omega)]; exact h7) qL qD fun I5 hF5 ht => K I5 (fun k i j hn => by rw [hF5 _ _ _ (by omega), hF4 _ _ _ (by omega)]) ht
      rw [gb_106_130]
      cases hl : lIsL (lB tp n s) with
      | true =>
        have hll := lIsL_iff.mp hl
        have hlt : s < n := lB_le (tp := tp) (by omega)
        rw [if_pos hlt] at k4
        rw [if_neg (by rw [zb_0, hv]; exact fun e => e hll)]
        refine m_next_L _ (s + 1) I2 rfl (by omega) hx2 k4 fun I3 hF3 q4 => ?_
        rw [← lRun_t hl hlt, ← lEn_L hl] at q4
        have her := lEn_r (tp := tp) hskr.2
        rw [gb_106_171, gb_106_174]
        refine m_code (s := s) (e := lEn tp n s) (kTx_congr hx2 (fun j => by rw [u_k (by decide), hF3 _ _ _ (by omega)]) (by rw [u_j (by decide), hF3 _ _ _ (by omega)]) (fun j => by rw [u_k (by decide), hF3 _ _ _ (by omega)])) her.1 her.2.1 (by rw [hF3 _ _ _ (by omega)]; exact k3) q4 fun y hy => ?_
        rw [Option.toList_some, List.singleton_append, gb_106_193]
        refine fin _ (fun k i j hn => by rw [u_ne (by omega), u_ne (by omega), hF3 _ _ _ (by omega), hF2 _ _ _ (by omega)]) ?_ ?_ ?_ (fun _ => ?_) (fun e => by rw [lNotD_L hl] at e; cases e)
        · rw [u_j (by decide), u_eq, i8_2, lKd_L hl, if_neg Bool.false_ne_true]
        · rw [u_j (by decide), u_j (by decide), hF3 _ _ _ (by omega)]; exact k3
        · rw [u_j (by decide), u_j (by decide)]; exact q4
        · rw [u_eq]; exact hy
      | false =>
        rw [if_pos (by rw [zb_0, hv]; exact lIsL_f.mp hl), gb_106_199, m_isDigit, Option.toList_some, List.singleton_append, gb_106_203]
        cases hd : lIsD (lB tp n s) with
        | true =>
          have hdd := lIsD_iff.mp hd
          have hlt : s < n := lB_le (tp := tp) (by omega)
          rw [if_pos hlt] at k4
          rw [if_neg (by rw [zb_0, hv]; exact fun e => e hdd), gb_106_206]
          have q5 : (x - 48).toInt = min (lDg tp s (s + 1 - s)) 9999 := by
            have e : lDg tp s 1 = tp s - 48 := by show 10 * 0 + tp (s + 0) - 48 = _; rw [Nat.add_zero]; omega
            rw [show s + 1 - s = 1 by omega, e, z_sub (by omega) (by omega), hv, e48]
            rw [lB_lt hlt] at hdd ⊢
            omega
          refine m_next_D (s := s) hskr.2 _ (s + 1) _ rfl (by omega) (by omega) (kTx_congr hx2 (fun j => by rw [u_k (by decide)]) (by rw [u_j (by decide)]) (fun j => by rw [u_k (by decide)])) (fun j a b => by rw [show j = s by omega]; exact hd) (by rw [u_j (by decide)]; exact k4) (by rw [u_eq]; exact q5) fun I3 hF3 q4 q5 => ?_
          rw [← lRun_t hd hlt, ← lEn_D hd] at q4 q5
          rw [gb_106_281, gb_106_284]
          refine fin _ (fun k i j hn => by rw [u_ne (by omega), hF3 _ _ _ (by omega), u_ne (by omega), hF2 _ _ _ (by omega)]) ?_ ?_ ?_ (fun e => by rw [hl] at e; cases e) (fun _ => ?_)
          · rw [u_eq, i8_3, lKd_D hd, if_neg Bool.false_ne_true]
          · rw [u_j (by decide), hF3 _ _ _ (by omega), u_j (by decide)]; exact k3
          · rw [u_j (by decide)]; exact q4
          · rw [u_j (by decide)]; exact q5
        | false =>
          rw [if_pos (by rw [zb_0, hv]; exact lIsD_f.mp hd)]
          refine fin I2 (fun k i j hn => hF2 _ _ _ (by omega)) (by rw [k2, lKd_o hl hd]) k3 ?_ (fun e => by rw [hl] at e; cases e) (fun e => by rw [hd] at e; cases e)
          rw [k4, lEn_o hl hd]; split <;> rfl
    by_cases w : s < n
    · have hne : ¬ x = Int32.ofInt (-1) := fun e => by rw [e, em1] at hv; have := hr.2.2 w; omega
      rw [if_neg hne, gb_106_103, gb_106_109, gb_106_115, if_neg hne, gb_106_122, gb_106_123, m_isLetter, Option.toList_some, List.singleton_append]
      exact body _ (fun k i j hn => by rw [u_ne (by omega), u_ne (by omega), hF01 _ _ _ (by omega)]) (by rw [u_eq]; exact hv) (by rw [u_j (by decide), u_j (by decide)]; exact g3) (by rw [u_j (by decide), u_eq, if_pos w, z_add (by omega) (by omega), g3, e1])
    · have he : x = Int32.ofInt (-1) := z_inj (by rw [hv, em1, lB_ge (by omega)])
      rw [if_pos he, gb_106_96, gb_106_109, gb_106_115, if_pos he, gb_106_118, gb_106_119, gb_106_123, m_isLetter, Option.toList_some, List.singleton_append]
      exact body _ (fun k i j hn => by rw [u_ne (by omega), u_ne (by omega), hF01 _ _ _ (by omega)]) (by rw [u_eq, em1, lB_ge (by omega)]) (by rw [u_j (by decide), u_j (by decide)]; exact g3) (by rw [u_j (by decide), u_eq, if_neg w]; exact g3)
  rw [gb_106_0, if_pos h6, gb_106_8, gb_106_14]
  by_cases w2 : kd = -2
  · rw [if_pos (z_inj (by rw [hk, w2, i8_2])), gb_106_26, gb_106_34]
    exact st _ (by rw [if_pos (by rw [← hG]; exact decide_eq_true (Or.inl w2))]; exact h4)
  · rw [if_neg (fun e => w2 (by rw [← hk, e, i8_2])), gb_106_17, gb_106_23]
    by_cases w3 : kd = -3
    · rw [if_pos (z_inj (by rw [hk, w3, i8_3])), gb_106_26, gb_106_34]
      exact st _ (by rw [if_pos (by rw [← hG]; exact decide_eq_true (Or.inr w3))]; exact h4)
    · rw [if_neg (fun e => w3 (by rw [← hk, e, i8_3])), gb_106_33, gb_106_34]
      exact st _ (by rw [if_neg (by rw [← hG]; exact fun q => by have := of_decide_eq_true q; omega)]; rfl)
/-- from one token to the next -/
theorem m_nextT {tp : Nat → Int} {n s : Nat} {g : Bool} {x1 x2 : Option gV} (hx : kTx I tp n) (ht : kTk I tp n (.inr (s, g))) (K : ∀ (I' : Nat → Nat → Nat → Int32), (∀ k i j, ¬ ((k = 11 ∧ i = 0 ∧ (j = 2 ∨ j = 3 ∨ j = 4 ∨ j = 5))) → I' k i j = I k i j) → kTk I' tp n (.inr (lNx tp n s g)) → Q none (gwd S I' J h)) : (gq (d + 5) 106 0 [some (.inr (.inr (some (11, 0)))), x1, x2] [] (gwd S I J h) Q) :=
  m_next hx (lEn_r ht.2.2.2.2.2.1).2.1 ht.1 ht.2.2.1 ht.2.2.2.1 ht.2.2.2.2.1 K
theorem kTk_bad {I : Nat → Nat → Nat → Int32} {tp : Nat → Int} {n : Nat} {b : Int × Int} (h : kTk I tp n (.inl b)) : I 11 0 6 ≠ 0 := fun e => h.2.2.1 (by rw [← h.2.1, e]; rfl)
theorem m_nextB {tp : Nat → Int} {n : Nat} {b : Int × Int} {x1 x2 : Option gV} (ht : kTk I tp n (.inl b)) (K : Q none (gwd S I J h)) : (gq (d + 5) 106 0 [some (.inr (.inr (some (11, 0)))), x1, x2] [] (gwd S I J h) Q) := by
  rw [gb_106_0, if_neg (kTk_bad ht), gb_106_7]; exact K
theorem m_begin {tp : Nat → Int} {n : Nat} (hx : kTx I tp n) (K : ∀ (I' : Nat → Nat → Nat → Int32), (∀ k i j, ¬ ((k = 11 ∧ i = 0 ∧ (j = 2 ∨ j = 3 ∨ j = 4 ∨ j = 5 ∨ j = 6 ∨ j = 7))) → I' k i j = I k i j) → kTk I' tp n (.inr (lSk tp n 0, false)) → Q none (gwd S I' J h)) : (gq (d + 6) 103 0 [some (.inr (.inr (some (11, 0))))] [] (gwd S I J h) Q) := by
  rw [gb_103_0, gb_103_2, gb_103_17]
  refine m_next (b := 0) (kd := -1) (kTx_congr hx (fun j => by rw [u_k (by decide), u_k (by decide), u_k (by decide), u_k (by decide)]) (by rw [u_j (by decide), u_j (by decide), u_j (by decide), u_j (by decide)]) (fun j => by rw [u_k (by decide), u_k (by decide), u_k (by decide), u_k (by decide)])) (Nat.zero_le _) (by rw [u_j (by decide), u_j (by decide), u_j (by decide), u_eq]; rfl) (by rw [u_j (by decide), u_j (by decide), u_eq]; rfl) (by rw [u_j (by decide), u_eq]) (by rw [u_eq]; rfl) fun I1 hF1 ht => ?_
  rw [Option.toList_none, List.nil_append, gb_103_24]
  exact K I1 (fun k i j hn => by rw [hF1 _ _ _ (by omega), u_ne (by omega), u_ne (by omega), u_ne (by omega), u_ne (by omega)]) (by rw [show (decide ((-1 : Int) = -2 ∨ (-1 : Int) = -3)) = false from rfl, Bool.false_and] at ht; exact ht)
/-- a fault where the token stands, or none if there was one -/
def lFail (f : Int) : lT → lT
  | .inl b => .inl b
  | .inr (s, _) => .inl (f, s)
theorem m_fail {tp : Nat → Int} {n : Nat} {τ : lT} {a1 a2 : Int32} {f p : Int} (ht : kTk I tp n τ) (h1 : a1.toInt = f) (hf : f ≠ 0) (h2 : a2.toInt = p) (K : ∀ (I' : Nat → Nat → Nat → Int32), (∀ k i j, ¬ ((k = 11 ∧ i = 0 ∧ (j = 2 ∨ j = 6 ∨ j = 7))) → I' k i j = I k i j) → kTk I' tp n (match τ with | .inl b => .inl b | .inr _ => .inl (f, p)) → Q none (gwd S I' J h)) : (gq d 104 0 [some (.inr (.inr (some (11, 0)))), some (.inl (a1)), some (.inl (a2))] [] (gwd S I J h) Q) := by
  match τ, ht with
  | .inl b, ht =>
    rw [gb_104_0, if_neg (kTk_bad ht), gb_104_23]
    exact K I (fun _ _ _ _ => rfl) ht
  | .inr (s, g), ht =>
    rw [gb_104_0, if_pos ht.2.2.2.1, gb_104_7, gb_104_20, gb_104_23]
    exact K _ (fun k i j hn => by rw [u_ne (by omega), u_ne (by omega), u_ne (by omega)]) ⟨by rw [u_eq, i8_4], by rw [u_j (by decide), u_j (by decide), u_eq]; exact h1, hf, by rw [u_j (by decide), u_eq]; exact h2⟩
theorem m_failH {tp : Nat → Int} {n : Nat} {τ : lT} {a1 : Int32} {f : Int} (ht : kTk I tp n τ) (h1 : a1.toInt = f) (hf : f ≠ 0) (K : ∀ (I' : Nat → Nat → Nat → Int32), (∀ k i j, ¬ ((k = 11 ∧ i = 0 ∧ (j = 2 ∨ j = 6 ∨ j = 7))) → I' k i j = I k i j) → kTk I' tp n (lFail f τ) → Q none (gwd S I' J h)) : (gq (d + 1) 105 0 [some (.inr (.inr (some (11, 0)))), some (.inl (a1))] [] (gwd S I J h) Q) := by
  rw [gb_105_0]
  match τ, ht with
  | .inl b, ht =>
    refine m_fail (p := (I 11 0 3).toInt) ht h1 hf rfl fun I1 hF1 ht1 => ?_
    rw [Option.toList_none, List.nil_append, gb_105_9]
    exact K I1 hF1 ht1
  | .inr (s, g), ht =>
    refine m_fail (p := s) ht h1 hf ht.2.1 fun I1 hF1 ht1 => ?_
    rw [Option.toList_none, List.nil_append, gb_105_9]
    exact K I1 hF1 ht1
theorem lIs_l {tp : Nat → Int} {n w : Nat} {b : Int × Int} : lIs tp n (.inl b) w = false := rfl
theorem m_isWord {tp : Nat → Int} {n w : Nat} {τ : lT} {a1 : Int32} (h1 : a1.toInt = w) (hx : kTx I tp n) (ht : kTk I tp n τ) : (gq d 107 0 [some (.inr (.inr (some (11, 0)))), some (.inl (a1))] [] (gwd S I J h) Q) ↔ Q (some (.inl (if lIs tp n τ w = true then 1 else 0))) (gwd S I J h) := by
  rw [gb_107_0, gb_107_6]
  have yes : lIs tp n τ w = true → ((gq d 107 17 [some (.inr (.inr (some (11, 0)))), some (.inl (a1))] [] (gwd S I J h) Q) ↔ Q (some (.inl (if lIs tp n τ w = true then 1 else 0))) (gwd S I J h)) := fun hy => by
    rw [gb_107_17, gb_107_22, if_pos hy, g_t1, true_and]
  have no : lIs tp n τ w = false → ((gq d 107 21 [some (.inr (.inr (some (11, 0)))), some (.inl (a1))] [] (gwd S I J h) Q) ↔ Q (some (.inl (if lIs tp n τ w = true then 1 else 0))) (gwd S I J h)) := fun hy => by
    rw [gb_107_21, gb_107_22, hy, if_neg Bool.false_ne_true, g_t0, true_and]
  match τ, ht with
  | .inl b, ht =>
    have h2 : (I 11 0 2).toInt = -4 := ht.1
    rw [if_neg (fun e => by rw [e, i8_2] at h2; omega)]
    exact no rfl
  | .inr (s, g), ht =>
    have hw := lKd_word (s := s) (g := g) hx.2.2.2.1
    by_cases w1 : lKd tp n s g = -2
    · rw [if_pos (z_inj (by rw [ht.1, w1, i8_2])), gb_107_9]
      have hv := ht.2.2.2.2.2.2.1 (hw.mp w1).1
      by_cases w2 : lWd tp s (lEn tp n s) = w
      · rw [if_pos (z_inj (by rw [hv, h1, w2]))]
        exact yes (lIs_iff.mpr ⟨w1, w2⟩)
      · rw [if_neg (fun e => w2 (by rw [← hv, e, h1]))]
        exact no (Bool.eq_false_iff.mpr fun e => w2 (lIs_iff.mp e).2)
    · rw [if_neg (fun e => w1 (by rw [← ht.1, e, i8_2]))]
      exact no (Bool.eq_false_iff.mpr fun e => w1 (lIs_iff.mp e).1)
theorem m_expect {tp : Nat → Int} {n : Nat} {τ : lT} {a1 : Int32} {c : Int} (h1 : a1.toInt = c) (h0 : 0 ≤ c) (hl : lIsL c = false) (hd : lIsD c = false) (hx : kTx I tp n) (ht : kTk I tp n τ) (K : ∀ (I' : Nat → Nat → Nat → Int32), (∀ k i j, ¬ ((k = 11 ∧ i = 0 ∧ (j = 2 ∨ j = 3 ∨ j = 4 ∨ j = 5 ∨ j = 6 ∨ j = 7))) → I' k i j = I k i j) → kTk I' tp n (lAskC tp n τ c) → Q none (gwd S I' J h)) : (gq (d + 6) 108 0 [some (.inr (.inr (some (11, 0)))), some (.inl (a1))] [] (gwd S I J h) Q) := by
  rw [gb_108_0]
  match τ, ht with
  | .inl b, ht =>
    have h2 : (I 11 0 2).toInt = -4 := ht.1
    rw [if_neg (fun e => by rw [e] at h2; omega), gb_108_15]
    refine m_failH ht rfl (by decide) fun I1 hF1 ht1 => ?_
    rw [Option.toList_none, List.nil_append, gb_108_20]
    exact K I1 (fun k i j hn => hF1 _ _ _ (by omega)) ht1
  | .inr (s, g), ht =>
    have hs := lKd_sign (tp := tp) (n := n) (s := s) (g := g) h0 hl hd
    have e : lAskC tp n (.inr (s, g)) c = if lB tp n s = c then .inr (lNx tp n s g) else .inl (1, s) := rfl
    by_cases w : lKd tp n s g = c
    · rw [if_pos (hs.mp w)] at e
      rw [if_pos (z_inj (by rw [ht.1, h1, w])), gb_108_8]
      refine m_nextT hx ht fun I1 hF1 ht1 => ?_
      rw [Option.toList_none, List.nil_append, gb_108_12, gb_108_20]
      exact K I1 (fun k i j hn => hF1 _ _ _ (by omega)) (by rw [e]; exact ht1)
    · rw [if_neg (fun q => w (hs.mpr q))] at e
      rw [if_neg (fun q => w (by rw [← ht.1, q, h1])), gb_108_15]
      refine m_failH ht rfl (by decide) fun I1 hF1 ht1 => ?_
      rw [Option.toList_none, List.nil_append, gb_108_20]
      exact K I1 (fun k i j hn => hF1 _ _ _ (by omega)) (by rw [e]; exact ht1)
theorem m_expectW {tp : Nat → Int} {n w : Nat} {τ : lT} {a1 : Int32} (h1 : a1.toInt = w) (hx : kTx I tp n) (ht : kTk I tp n τ) (K : ∀ (I' : Nat → Nat → Nat → Int32), (∀ k i j, ¬ ((k = 11 ∧ i = 0 ∧ (j = 2 ∨ j = 3 ∨ j = 4 ∨ j = 5 ∨ j = 6 ∨ j = 7))) → I' k i j = I k i j) → kTk I' tp n (lAskW tp n τ w) → Q none (gwd S I' J h)) : (gq (d + 6) 109 0 [some (.inr (.inr (some (11, 0)))), some (.inl (a1))] [] (gwd S I J h) Q) := by
  rw [gb_109_0, m_isWord h1 hx ht, Option.toList_some, List.singleton_append, gb_109_5]
  match τ, ht with
  | .inl b, ht =>
    rw [lIs_l, if_neg Bool.false_ne_true, if_pos rfl, gb_109_15]
    refine m_failH ht rfl (by decide) fun I1 hF1 ht1 => ?_
    rw [Option.toList_none, List.nil_append, gb_109_20]
    exact K I1 (fun k i j hn => hF1 _ _ _ (by omega)) ht1
  | .inr (s, g), ht =>
    by_cases w1 : lIs tp n (.inr (s, g)) w = true
    · have e : lAskW tp n (.inr (s, g)) w = .inr (lNx tp n s g) := if_pos (lIs_iff.mp w1)
      rw [if_pos w1, if_neg (by decide), gb_109_8]
      refine m_nextT hx ht fun I1 hF1 ht1 => ?_
      rw [Option.toList_none, List.nil_append, gb_109_12, gb_109_20]
      exact K I1 (fun k i j hn => hF1 _ _ _ (by omega)) (by rw [e]; exact ht1)
    · have e : lAskW tp n (.inr (s, g)) w = .inl (1, s) := if_neg (fun q => w1 (lIs_iff.mpr q))
      rw [if_neg w1, if_pos rfl, gb_109_15]
      refine m_failH ht rfl (by decide) fun I1 hF1 ht1 => ?_
      rw [Option.toList_none, List.nil_append, gb_109_20]
      exact K I1 (fun k i j hn => hF1 _ _ _ (by omega)) (by rw [e]; exact ht1)
theorem m_expectN {tp : Nat → Int} {n : Nat} {τ : lT} {a1 a2 : Int32} {lo hi : Int} {x3 : Option gV} (h1 : a1.toInt = lo) (h2 : a2.toInt = hi) (hx : kTx I tp n) (ht : kTk I tp n τ) (K : ∀ I' (x : Int32), (∀ k i j, ¬ ((k = 11 ∧ i = 0 ∧ (j = 2 ∨ j = 3 ∨ j = 4 ∨ j = 5 ∨ j = 6 ∨ j = 7))) → I' k i j = I k i j) → kTk I' tp n (lNumT tp n lo hi τ).1 → x.toInt = (lNumT tp n lo hi τ).2 → Q (some (.inl x)) (gwd S I' J h)) : (gq (d + 6) 110 0 [some (.inr (.inr (some (11, 0)))), some (.inl (a1)), some (.inl (a2)), x3] [] (gwd S I J h) Q) := by
  rw [gb_110_0, gb_110_6]
  have e4 : (4 : Int32).toInt = 4 := rfl
  match τ, ht with
  | .inl b, ht =>
    have h2 : (I 11 0 2).toInt = -4 := ht.1
    rw [if_neg (fun e => by rw [e, i8_3] at h2; omega), gb_110_9]
    refine m_failH ht rfl (by decide) fun I1 hF1 ht1 => ?_
    rw [Option.toList_none, List.nil_append, gb_110_14]
    exact K I1 0 (fun k i j hn => hF1 _ _ _ (by omega)) ht1 rfl
  | .inr (s, g), ht =>
    have hN : lNumT tp n lo hi (.inr (s, g)) = if lKd tp n s g ≠ -3 then (.inl (1, (s : Int)), 0) else if 4 < lEn tp n s - s then (.inl (1, (s : Int) + 4), 0) else if lDg tp s (lEn tp n s - s) < lo ∨ hi < lDg tp s (lEn tp n s - s) then (.inl (2, (s : Int)), 0) else (.inr (lNx tp n s g), lDg tp s (lEn tp n s - s)) := rfl
    have hsn := ht.2.2.2.2.2.1
    have her := lEn_r (tp := tp) hsn
    have hn := hx.2.2.1
    by_cases w1 : lKd tp n s g = -3
    case neg =>
      rw [if_pos w1] at hN
      rw [if_neg (fun e => w1 (by rw [← ht.1, e, i8_3])), gb_110_9]
      refine m_failH ht rfl (by decide) fun I1 hF1 ht1 => ?_
      rw [Option.toList_none, List.nil_append, gb_110_14]
      exact K I1 0 (fun k i j hn => hF1 _ _ _ (by omega)) (by rw [hN]; exact ht1) (by rw [hN]; rfl)
    rw [if_neg (fun e => e w1)] at hN
    have q : (I 11 0 4 - I 11 0 3).toInt = ((lEn tp n s - s : Nat) : Int) := by rw [z_sub (by rw [ht.2.2.1, ht.2.1]; omega) (by rw [ht.2.2.1, ht.2.1]; omega), ht.2.2.1, ht.2.1]; omega
    rw [if_pos (z_inj (by rw [ht.1, w1, i8_3])), gb_110_16]
    by_cases w2 : 4 < lEn tp n s - s
    · rw [if_pos w2] at hN
      rw [if_neg (by rw [z_le, q, e4]; omega), gb_110_29]
      refine m_fail (f := 1) (p := s + 4) ht rfl (by decide) (by rw [z_add (by rw [ht.2.1]; omega) (by rw [ht.2.1]; omega), ht.2.1, e4]) fun I1 hF1 ht1 => ?_
      rw [Option.toList_none, List.nil_append, gb_110_40]
      exact K I1 0 (fun k i j hn => hF1 _ _ _ (by omega)) (by rw [hN]; exact ht1) (by rw [hN]; rfl)
    rw [if_neg w2] at hN
    have hdd := ((lKd_num hx.2.2.2.1).mp w1).1
    have hv := ht.2.2.2.2.2.2.2 hdd
    have d4 : lDg tp s (lEn tp n s - s) ≤ 9999 := lDg_4 (by omega) fun j hj => by
      have := lRun_in (tp := tp) (n := n) lD_m1 (k := s) (j := s + j) (by omega) (by rw [← lEn_D hdd]; omega)
      rw [lB_lt (by omega), lIsD_iff] at this; exact this
    rw [show min (lDg tp s (lEn tp n s - s)) 9999 = lDg tp s (lEn tp n s - s) by omega] at hv
    rw [if_pos (by rw [z_le, q, e4]; omega), gb_110_42]
    have bad : lDg tp s (lEn tp n s - s) < lo ∨ hi < lDg tp s (lEn tp n s - s) → (gq (d + 6) 110 57 [some (.inr (.inr (some (11, 0)))), some (.inl (a1)), some (.inl (a2)), some (.inl ((I 11 0 5)))] [] (gwd S I J h) Q) := fun hb => by
      rw [if_pos hb] at hN
      rw [gb_110_57]
      refine m_failH ht rfl (by decide) fun I1 hF1 ht1 => ?_
      rw [Option.toList_none, List.nil_append, gb_110_62]
      exact K I1 0 (fun k i j hn => hF1 _ _ _ (by omega)) (by rw [hN]; exact ht1) (by rw [hN]; rfl)
    by_cases w3 : lDg tp s (lEn tp n s - s) < lo
    · rw [if_pos (by rw [z_lt]; omega)]; exact bad (Or.inl w3)
    rw [if_neg (by rw [z_lt]; omega), gb_110_52]
    by_cases w4 : lDg tp s (lEn tp n s - s) ≤ hi
    · rw [if_neg (by omega)] at hN
      rw [if_pos (by rw [z_le]; omega), gb_110_64]
      refine m_nextT hx ht fun I1 hF1 ht1 => ?_
      rw [Option.toList_none, List.nil_append, gb_110_68]
      exact K I1 _ (fun k i j hn => hF1 _ _ _ (by omega)) (by rw [hN]; exact ht1) (by rw [hN]; exact hv)
    · rw [if_neg (by rw [z_le]; omega)]; exact bad (Or.inr (by omega))
