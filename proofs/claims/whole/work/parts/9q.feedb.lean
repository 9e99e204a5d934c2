/-! Feeding the tape, and its bytes are bytes. -/
variable {d S : Nat} {h : Nat × Option gNm} {I : Nat → Nat → Nat → Int32} {J : Nat → Nat → Nat → Int64} {Q : Option gV → gW → Prop}
theorem gnar5_r (x : Int32) : -128 ≤ (gnar 5 x).toInt ∧ (gnar 5 x).toInt ≤ 127 := by
  have e : gnar 5 x = x.toInt8.toInt32 := rfl
  rw [e, Int8.toInt_toInt32]
  exact ⟨Int8.le_toInt _, Int8.toInt_le _⟩
/-- the tape as the class holds it, with bytes -/
def kTb (I : Nat → Nat → Nat → Int32) (tp : Nat → Int) (ln : Int) : Prop := kTp I tp ln ∧ ∀ j : Nat, (j : Int) < ln → -128 ≤ (I 12 0 j).toInt ∧ (I 12 0 j).toInt ≤ 127
theorem kTb_congr {I I' : Nat → Nat → Nat → Int32} {tp : Nat → Int} {ln : Int} (h : kTb I tp ln) (e1 : I' 11 0 1 = I 11 0 1) (e2 : ∀ j, I' 12 0 j = I 12 0 j) : kTb I' tp ln := ⟨kTp_congr h.1 e1 e2, fun j hj => by rw [e2]; exact h.2 j hj⟩
theorem kTb_tx {I : Nat → Nat → Nat → Int32} {tp : Nat → Int} {n : Nat} (h : kTb I tp n) (ho : tpOk tp n) (hw : gCd (I 3 0) id 0 (gFlat gWL)) : kTx I tp n := ⟨fun j hj => ⟨h.1.2 j (by omega), h.2 j (by omega)⟩, h.1.1, by have := ho.1; omega, fun j hj => ho.2 j (by omega), hw⟩
theorem m_feedB1_loop {a1 : Int32} {f : Nat → Int} {q : Nat} (hf : ∀ r, r < 4 → f (4 * q + r) = gOc a1 r) : ∀ (n r : Nat) (I : Nat → Nat → Nat → Int32) (a2 : Int32) (tp : Nat → Int) (ln : Int), r + n = 4 → a2 = (if r < 4 then Int32.ofNat (24 - 8 * r) else Int32.ofInt (-8)) → kTb I tp ln → 0 ≤ ln → ln + n ≤ 1600 →
    (∀ (I' : Nat → Nat → Nat → Int32), (∀ k i j, ¬ ((k = 11 ∧ i = 0 ∧ j = 1) ∨ (k = 12 ∧ i = 0)) → I' k i j = I k i j) → kTb I' (gLays f n (4 * q + r) tp ln) (ln + n) → Q none (gwd S I' J h)) → (gq d 101 3 [some (.inr (.inr (some (11, 0)))), some (.inl (a1)), some (.inl (a2))] [] (gwd S I J h) Q)
  | 0, r, I, a2, tp, ln, hr, h2, hp, h0, h1, K => by
    rw [if_neg (by omega)] at h2
    rw [gb_101_3, if_pos (by rw [h2]; decide), gb_101_55]
    exact K I (fun _ _ _ _ => rfl) (by rw [show ln + ((0 : Nat) : Int) = ln by omega]; exact hp)
  | n + 1, r, I, a2, tp, ln, hr, h2, hp, h0, h1, K => by
    have e1 : (1 : Int32).toInt = 1 := rfl
    have e1600 : (Int32.ofNat 1600).toInt = 1600 := rfl
    have tb := sh_tbl r (by omega)
    have hl := hp.1.1
    have n0 : (I 11 0 1).toNatClampNeg = ln.toNat := by rw [z_n, hl]
    rw [if_pos (by omega)] at h2
    rw [gb_101_3, if_neg (by rw [h2]; exact tb.2), gb_101_7, if_neg (by rw [z_lt, z_0]; omega), gb_101_14, if_neg (by rw [z_le, e1600]; omega), gb_101_26]
    refine ⟨g_in.mpr (by omega), ?_⟩
    rw [n0, gb_101_39, gb_101_49, gb_101_52]
    have hstep : a2 + Int32.ofInt (-8) = if r + 1 < 4 then Int32.ofNat (24 - 8 * (r + 1)) else Int32.ofInt (-8) := by
      rw [h2, tb.1]
      by_cases e : r < 3
      · rw [if_pos e, if_pos (by omega)]
      · rw [if_neg e, if_neg (by omega)]
    generalize a2 + Int32.ofInt (-8) = a3 at hstep
    refine m_feedB1_loop hf n (r + 1) _ a3 (gLay1 tp ln (f (4 * q + r))) (ln + 1) (by omega) hstep ⟨⟨?_, fun j hj => ?_⟩, fun j hj => ?_⟩ (by omega) (by omega) fun I' hF hp' => K I' (fun k i j hn => by rw [hF _ _ _ hn, u_ne (by omega), u_ne (by omega)]) ?_
    · rw [u_eq, u_k (by decide), z_add (by omega) (by omega), hl, e1]
    · rw [u_k (by decide), u_at]
      unfold gLay1
      by_cases e : j = ln.toNat
      · rw [if_pos e, if_pos e, z_store, h2]; exact (hf r (by omega)).symm
      · rw [if_neg e, if_neg e]; exact hp.1.2 j (by omega)
    · rw [u_k (by decide), u_at]
      by_cases e : j = ln.toNat
      · rw [if_pos e]; exact gnar5_r _
      · rw [if_neg e]; exact hp.2 j (by omega)
    · rw [show 4 * q + (r + 1) = 4 * q + r + 1 by omega] at hp'
      rw [show ln + ((n + 1 : Nat) : Int) = ln + 1 + (n : Int) by omega]
      exact hp'
theorem m_feedB1 {a1 : Int32} {x2 : Option gV} {f : Nat → Int} {q : Nat} {tp : Nat → Int} {ln : Int} (hf : ∀ r, r < 4 → f (4 * q + r) = gOc a1 r) (hp : kTb I tp ln) (h0 : 0 ≤ ln) (h1 : ln + 4 ≤ 1600) (K : ∀ (I' : Nat → Nat → Nat → Int32), (∀ k i j, ¬ ((k = 11 ∧ i = 0 ∧ j = 1) ∨ (k = 12 ∧ i = 0)) → I' k i j = I k i j) → kTb I' (gLays f 4 (4 * q) tp ln) (ln + 4) → Q none (gwd S I' J h)) : (gq d 101 0 [some (.inr (.inr (some (11, 0)))), some (.inl (a1)), x2] [] (gwd S I J h) Q) := by
  rw [gb_101_0]
  exact m_feedB1_loop hf 4 0 I _ tp ln rfl rfl hp h0 h1 K
theorem m_feedB {a1 a2 a3 a4 a5 : Int32} {tp : Nat → Int} {ln : Int} {rf : Nat → Int32} (hp : kTb I tp ln) (ho : tpOk tp ln) (hf : kRf I rf)
    (K0 : 1580 < ln → ∀ (I' : Nat → Nat → Nat → Int32), (∀ k i j, ¬ ((k = 33 ∧ i = 0)) → I' k i j = I k i j) → kRf I' (gRef rf 0) → Q (some (.inl (Int32.ofInt (-1)))) (gwd S I' J h))
    (K1 : ln ≤ 1580 → ∀ (I' : Nat → Nat → Nat → Int32) x, (∀ k i j, ¬ ((k = 11 ∧ i = 0 ∧ j = 1) ∨ (k = 12 ∧ i = 0)) → I' k i j = I k i j) → kTb I' (gLays (gWd a1 a2 a3 a4 a5) 20 0 tp ln) (ln + 20) → x.toInt = ln + 20 → Q (some (.inl x)) (gwd S I' J h)) : (gq (d + 1) 116 0 [some (.inr (.inr (some (10, 0)))), some (.inl (a1)), some (.inl (a2)), some (.inl (a3)), some (.inl (a4)), some (.inl (a5))] [] (gwd S I J h) Q) := by
  have e20 : (20 : Int32).toInt = 20 := rfl
  have e1600 : (1600 : Int32).toInt = 1600 := rfl
  have r1 := ho.1
  have hl := hp.1.1
  have q : (I 11 0 1 + 20).toInt = ln + 20 := by rw [z_add (by omega) (by omega), hl, e20]
  rw [gb_116_0]
  by_cases w : ln ≤ 1580
  case neg =>
    rw [if_neg (by rw [z_le]; omega), gb_116_16]
    refine m_refuse (w := 0) rfl (by decide) hf fun I1 hF1 hf1 => ?_
    rw [Option.toList_some, List.singleton_append, gb_116_21]
    exact K0 (by omega) I1 hF1 hf1
  rw [if_pos (by rw [z_le]; omega), gb_116_22]
  generalize hW : gWd a1 a2 a3 a4 a5 = W at K1
  have wf : ∀ q r, r < 4 → W (4 * q + r) = gOc (if q = 0 then a1 else if q = 1 then a2 else if q = 2 then a3 else if q = 3 then a4 else a5) r := fun q r hr => by
    rw [← hW]
    unfold gWd
    rw [show (4 * q + r) % 4 = r by omega]
    congr 1
    by_cases e0 : q = 0
    · rw [if_pos e0, if_pos (by omega)]
    rw [if_neg e0, if_neg (by omega)]
    by_cases e1 : q = 1
    · rw [if_pos e1, if_pos (by omega)]
    rw [if_neg e1, if_neg (by omega)]
    by_cases e2 : q = 2
    · rw [if_pos e2, if_pos (by omega)]
    rw [if_neg e2, if_neg (by omega)]
    by_cases e3 : q = 3
    · rw [if_pos e3, if_pos (by omega)]
    rw [if_neg e3, if_neg (by omega)]
  refine m_feedB1 (q := 0) (fun r hr => wf 0 r hr) hp (by omega) (by omega) fun I1 hF1 hp1 => ?_
  rw [Option.toList_none, List.nil_append, gb_116_30]
  refine m_feedB1 (q := 1) (fun r hr => wf 1 r hr) hp1 (by omega) (by omega) fun I2 hF2 hp2 => ?_
  rw [Option.toList_none, List.nil_append, gb_116_38]
  refine m_feedB1 (q := 2) (fun r hr => wf 2 r hr) hp2 (by omega) (by omega) fun I3 hF3 hp3 => ?_
  rw [Option.toList_none, List.nil_append, gb_116_46]
  refine m_feedB1 (q := 3) (fun r hr => wf 3 r hr) hp3 (by omega) (by omega) fun I4 hF4 hp4 => ?_
  rw [Option.toList_none, List.nil_append, gb_116_55]
  refine m_feedB1 (q := 4) (fun r hr => wf 4 r hr) hp4 (by omega) (by omega) fun I5 hF5 hp5 => ?_
  rw [Option.toList_none, List.nil_append, gb_116_64]
  have b1 := @gLays_add W 4 4 0 tp ln
  have b2 := @gLays_add W 4 8 0 tp ln
  have b3 := @gLays_add W 4 12 0 tp ln
  have b4 := @gLays_add W 4 16 0 tp ln
  have c1 : gLays W 4 (4 * 1) (gLays W 4 (4 * 0) tp ln) (ln + 4) = gLays W 8 0 tp ln := b1
  have c2 : gLays W 4 (4 * 2) (gLays W 8 0 tp ln) (ln + 8) = gLays W 12 0 tp ln := b2
  have c3 : gLays W 4 (4 * 3) (gLays W 12 0 tp ln) (ln + 12) = gLays W 16 0 tp ln := b3
  have c4 : gLays W 4 (4 * 4) (gLays W 16 0 tp ln) (ln + 16) = gLays W 20 0 tp ln := b4
  rw [show ln + 4 + 4 + 4 + 4 + 4 = ln + 20 by omega, show ln + 4 + 4 + 4 + 4 = ln + 16 by omega, show ln + 4 + 4 + 4 = ln + 12 by omega, show ln + 4 + 4 = ln + 8 by omega, c1, c2, c3, c4] at hp5
  exact K1 w I5 _ (fun k i j hn => by rw [hF5 _ _ _ hn, hF4 _ _ _ hn, hF3 _ _ _ hn, hF2 _ _ _ hn, hF1 _ _ _ hn]) hp5 hp5.1.1
