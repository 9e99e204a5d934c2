/-! A name's letters. -/
variable {d S : Nat} {h : Nat × Option gNm} {I : Nat → Nat → Nat → Int32} {J : Nat → Nat → Nat → Int64} {Q : Option gV → gW → Prop}
def gPk (f : Nat → Int) : Nat → Int
  | 0 => 0
  | n + 1 => 27 * gPk f n + f n
theorem gPk_r {f : Nat → Int} : ∀ {n : Nat}, (∀ k, k < n → 1 ≤ f k ∧ f k ≤ 26) → 0 ≤ gPk f n ∧ (0 < n → 0 < gPk f n)
  | 0, _ => ⟨Int.le_refl _, fun e => absurd e (by decide)⟩
  | n + 1, hf => by
    have a := (@gPk_r f n fun k hk => hf k (by omega)).1
    have b := hf n (by omega)
    unfold gPk
    omega
theorem gPk_s {f : Nat → Int} {n : Nat} (hf : ∀ k, k < n + 1 → 1 ≤ f k ∧ f k ≤ 26) : gPk f (n + 1) / 27 = gPk f n ∧ gPk f (n + 1) % 27 = f n := by
  have b := hf n (by omega)
  rw [show gPk f (n + 1) = 27 * gPk f n + f n from rfl]
  omega
def gLtr (C : gCo) (a b k : Int) : Int := if (0 ≤ k ∧ k ≤ 5) ∧ (a = 0 ∧ 0 ≤ b ∧ b < C.1 2 ∨ a = 1 ∧ 0 ≤ b ∧ b < C.1 3) then C.1 (100 + (6 * (8 * a + b) + k).toNat) else -1
def mNm (J : Nat → Nat → Nat → Int64) (C : gCo) : Prop := ∀ r : Nat, ((r : Int) < C.1 2 ∨ 8 ≤ r ∧ (r : Int) - 8 < C.1 3) → ∃ n, n ≤ 6 ∧ (∀ k, k < n → 1 ≤ C.1 (100 + (6 * r + k)) ∧ C.1 (100 + (6 * r + k)) ≤ 26) ∧ (∀ k, n ≤ k → k < 6 → C.1 (100 + (6 * r + k)) = 0) ∧ (J 55 0 (16 + r)).toInt = gPk (fun k => C.1 (100 + (6 * r + k))) n
theorem n_cnt {f : Nat → Int} {n : Nat} {a1 a2 a3 : Int32} {a4 : Int64} (hn : n ≤ 6) (hf : ∀ k, k < n → 1 ≤ f k ∧ f k ≤ 26) (K : ∀ (a6 : Int32) (a7 : Int64), a6.toInt = n → (gq d 215 89 [some (.inr (.inr (some (50, 0)))), some (.inl (a1)), some (.inl (a2)), some (.inl (a3)), some (.inr (.inl (a4))), none, some (.inl (a6)), some (.inr (.inl (a7))), none] [] (gwd S I J h) Q)) : ∀ (m j : Nat) (a6 : Int32) (a7 : Int64), j + m = n → a6.toInt = j → a7.toInt = gPk f m → (gq d 215 68 [some (.inr (.inr (some (50, 0)))), some (.inl (a1)), some (.inl (a2)), some (.inl (a3)), some (.inr (.inl (a4))), none, some (.inl (a6)), some (.inr (.inl (a7))), none] [] (gwd S I J h) Q)
  | 0, j, a6, a7, hj, h6, h7 => by
    rw [gb_215_68, if_pos ((lg_cmp_le _ _).mpr (y_le.mpr (by rw [h7]; exact Int.le_refl _)))]
    exact K _ _ (by omega)
  | m + 1, j, a6, a7, hj, h6, h7 => by
    have e1 : (1 : Int32).toInt = 1 := rfl
    have e27 : (27 : Int64).toInt = 27 := rfl
    have y0 : (0 : Int64).toInt = 0 := rfl
    have r := @gPk_r f (m + 1) fun k hk => hf k (by omega)
    have s := @gPk_s f m fun k hk => hf k (by omega)
    have rp := r.2 (by omega)
    rw [gb_215_68, if_neg (fun e => by have := y_le.mp ((lg_cmp_le _ _).mp e); omega), gb_215_75]
    exact n_cnt hn hf K m (j + 1) _ _ (by omega) (by rw [z_add (by omega) (by omega), h6, e1]; rfl) (by rw [y_div (by omega) (by omega), h7, e27, s.1])
theorem n_pick {f : Nat → Int} {n k : Nat} {a1 a2 a3 a6 : Int32} {x8 : Option gV} (hn : n ≤ 6) (hf : ∀ k, k < n → 1 ≤ f k ∧ f k ≤ 26) (h3 : a3.toInt = k) (K : ∀ x : Int32, x.toInt = f k → Q (some (.inl x)) (gwd S I J h)) : ∀ (m : Nat) (a4 : Int64) (a7 : Int32), k + m < n → a7.toInt = ((k + m : Nat) : Int) → a4.toInt = gPk f (k + m + 1) → (gq d 215 103 [some (.inr (.inr (some (50, 0)))), some (.inl (a1)), some (.inl (a2)), some (.inl (a3)), some (.inr (.inl (a4))), none, some (.inl (a6)), some (.inl (a7)), x8] [] (gwd S I J h) Q)
  | 0, a4, a7, hm, h7, h4 => by
    have e27 : (27 : Int64).toInt = 27 := rfl
    have r := @gPk_r f (k + 0 + 1) fun k hk => hf k (by omega)
    have s := @gPk_s f (k + 0) fun k hk => hf k (by omega)
    have b := hf k (by omega)
    have q : (a4 - a4 / 27 * 27).toInt = f k := by rw [y_rem (by omega) (by omega), h4, e27, s.2]; rfl
    rw [gb_215_103, if_pos (by rw [z_le]; omega), gb_215_123]
    exact K _ (by rw [y_32 (by omega) (by omega), q])
  | m + 1, a4, a7, hm, h7, h4 => by
    have e27 : (27 : Int64).toInt = 27 := rfl
    have r := @gPk_r f (k + (m + 1) + 1) fun k hk => hf k (by omega)
    have s := @gPk_s f (k + (m + 1)) fun k hk => hf k (by omega)
    rw [gb_215_103, if_neg (by rw [z_le]; omega), gb_215_109, gb_215_117, gb_215_120]
    have hq : (a7 + Int32.ofInt (-1)).toInt = ((k + m : Nat) : Int) := by rw [z_add (by rw [z_m1]; omega) (by rw [z_m1]; omega), z_m1, h7]; omega
    generalize a7 + Int32.ofInt (-1) = b7 at hq
    exact n_pick hn hf h3 K m _ b7 (by omega) hq (by rw [y_div (by omega) (by omega), h4, e27, s.1]; rfl)
theorem n_letter {a1 a2 a3 : Int32} {x4 x5 x6 x7 x8 : Option gV} {C : gCo} (hc : cOk C) (hC : mCo I C) (hm : mNm J C) (K : ∀ x : Int32, x.toInt = gLtr C a1.toInt a2.toInt a3.toInt → Q (some (.inl x)) (gwd S I J h)) : (gq (d + 1) 215 0 [some (.inr (.inr (some (50, 0)))), some (.inl (a1)), some (.inl (a2)), some (.inl (a3)), x4, x5, x6, x7, x8] [] (gwd S I J h) Q) := by
  have e1 : (1 : Int32).toInt = 1 := rfl
  have e6 : (6 : Int32).toInt = 6 := rfl
  have e8 : (8 : Int32).toInt = 8 := rfl
  have e16 : (16 : Int32).toInt = 16 := rfl
  have y1 : (1 : Int64).toInt = 1 := rfl
  have y5 : (5 : Int64).toInt = 5 := rfl
  have c6 := hC.1.2.1
  have c7 := hC.1.2.2.1
  have rB := hc.2.2.1
  have rH := hc.2.2.2.1
  have no : ¬ ((0 ≤ a3.toInt ∧ a3.toInt ≤ 5) ∧ (a1.toInt = 0 ∧ 0 ≤ a2.toInt ∧ a2.toInt < C.1 2 ∨ a1.toInt = 1 ∧ 0 ≤ a2.toInt ∧ a2.toInt < C.1 3)) → (gq (d + 1) 215 43 [some (.inr (.inr (some (50, 0)))), some (.inl (a1)), some (.inl (a2)), some (.inl (a3)), x4, x5, x6, x7, x8] [] (gwd S I J h) Q) := fun w => by
    rw [gb_215_43, gb_215_44]
    exact K _ (by unfold gLtr; rw [if_neg w]; rfl)
  rw [gb_215_0, n_isIn, Option.toList_some, List.singleton_append, gb_215_7, z_64, yi_0, y1]
  by_cases w1 : 0 ≤ a1.toInt ∧ a1.toInt ≤ 1
  case neg => rw [if_pos (zb_neg w1)]; exact no (by omega)
  have q6 : (6 + a1).toInt = 6 + a1.toInt := by rw [z_add (by omega) (by omega), e6]
  have n6 : (6 + a1).toNatClampNeg = 6 + a1.toInt.toNat := by rw [z_n]; omega
  rw [if_neg (by rw [zb_pos w1]; decide), gb_215_10]
  refine ⟨g_in.mpr (by omega), ?_⟩
  have hN : ∃ N : Int, (I 54 0 (6 + a1.toInt.toNat)).toInt = N ∧ 0 ≤ N ∧ N ≤ 8 ∧ (a1.toInt = 0 ∧ N = C.1 2 ∨ a1.toInt = 1 ∧ N = C.1 3) := by
    by_cases e : a1.toInt = 0
    · exact ⟨C.1 2, by rw [e]; exact c6, rB.1, rB.2, Or.inl ⟨e, rfl⟩⟩
    · have e' : a1.toInt = 1 := by omega
      exact ⟨C.1 3, by rw [e']; exact c7, rH.1, rH.2, Or.inr ⟨e', rfl⟩⟩
  obtain ⟨N, hN1, hN2, hN3, hN4⟩ := hN
  rw [n6]
  generalize I 54 0 (6 + a1.toInt.toNat) = X at hN1
  have qs : ((X - 1 : Int32).toInt64).toInt = N - 1 := by rw [z_64, z_sub (by omega) (by omega), hN1, e1]
  rw [gb_215_22, n_isIn, Option.toList_some, List.singleton_append, gb_215_28, z_64, yi_0, qs]
  by_cases w2 : 0 ≤ a2.toInt ∧ a2.toInt ≤ N - 1
  case neg => rw [if_pos (zb_neg w2)]; exact no (by omega)
  rw [if_neg (by rw [zb_pos w2]; decide), gb_215_31, n_isIn, Option.toList_some, List.singleton_append, gb_215_40, z_64, yi_0, y5]
  by_cases w3 : 0 ≤ a3.toInt ∧ a3.toInt ≤ 5
  case neg => rw [if_pos (zb_neg w3)]; exact no (by omega)
  have q0 : (8 * a1).toInt = 8 * a1.toInt := by rw [z_mul (by rw [e8]; omega) (by rw [e8]; omega), e8]
  have q1 : (16 + (8 * a1)).toInt = 16 + 8 * a1.toInt := by rw [z_add (by omega) (by omega), q0, e16]
  have q2 : ((16 + (8 * a1)) + a2).toInt = 16 + 8 * a1.toInt + a2.toInt := by rw [z_add (by omega) (by omega), q1]
  have n2 : ((16 + (8 * a1)) + a2).toNatClampNeg = 16 + (8 * a1.toInt + a2.toInt).toNat := by rw [z_n]; omega
  rw [if_neg (by rw [zb_pos w3]; decide), gb_215_45]
  refine ⟨g_in.mpr (by omega), ?_⟩
  rw [n2]
  obtain ⟨n, hn, hf, hz, hv⟩ := hm (8 * a1.toInt + a2.toInt).toNat (by omega)
  generalize hR : (8 * a1.toInt + a2.toInt).toNat = R at hf hz hv
  have fin : gLtr C a1.toInt a2.toInt a3.toInt = C.1 (100 + (6 * R + a3.toInt.toNat)) := by
    unfold gLtr
    rw [if_pos (by omega), show 100 + (6 * (8 * a1.toInt + a2.toInt) + a3.toInt).toNat = 100 + (6 * R + a3.toInt.toNat) by omega]
  rw [gb_215_59]
  refine n_cnt (f := fun k => C.1 (100 + (6 * R + k))) hn hf (fun a6 a7 h6 => ?_) n 0 _ _ (by omega) rfl hv
  rw [gb_215_89]
  by_cases w4 : a3.toInt < n
  · rw [if_pos (by rw [z_lt]; omega), gb_215_97]
    refine n_pick (f := fun k => C.1 (100 + (6 * R + k))) (k := a3.toInt.toNat) hn hf (by omega) (fun x hx => K x (by rw [fin]; exact hx)) (n - 1 - a3.toInt.toNat) _ _ (by omega) (by rw [z_sub (by omega) (by omega), h6, e1]; omega) ?_
    rw [show a3.toInt.toNat + (n - 1 - a3.toInt.toNat) + 1 = n by omega]
    exact hv
  · rw [if_neg (by rw [z_lt]; omega), gb_215_95]
    exact K _ (by rw [fin, hz _ (by omega) (by omega)]; rfl)
theorem m_nameAt {i1 : Nat} {a1 a2 : Int32} {x3 : Option gV} {C : gCo} (hC : kCo I i1 C) (h1 : 0 ≤ a1.toInt ∧ a1.toInt < 16) (h2 : 0 ≤ a2.toInt ∧ a2.toInt ≤ 5) (K : ∀ x : Int32, x.toInt = C.1 (100 + (6 * a1.toInt + a2.toInt).toNat) → Q (some (.inl x)) (gwd S I J h)) : (gq d 21 0 [some (.inr (.inr (some (34, i1)))), some (.inl (a1)), some (.inl (a2)), x3] [] (gwd S I J h) Q) := by
  have e6 : (6 : Int32).toInt = 6 := rfl
  have e96 : (Int32.ofNat 96).toInt = 96 := rfl
  have q0 : (a1 * 6).toInt = a1.toInt * 6 := by rw [z_mul (by rw [e6]; omega) (by rw [e6]; omega), e6]
  have q1 : ((a1 * 6) + a2).toInt = a1.toInt * 6 + a2.toInt := by rw [z_add (by omega) (by omega), q0]
  have n1 : ((a1 * 6) + a2).toNatClampNeg = (6 * a1.toInt + a2.toInt).toNat := by rw [z_n]; omega
  rw [gb_21_0, if_neg (by rw [z_lt, z_0]; omega), gb_21_11, if_neg (by rw [z_le, e96]; omega), gb_21_20]
  refine ⟨g_in.mpr (by omega), ?_⟩
  rw [n1, gb_21_26, gb_21_30]
  exact K _ (hC.2.2.2.2.2.1 _ (by omega))
theorem m_letterP {a1 a2 a3 : Int32} {C : gCo} (hc : cOk C) (h10 : I 10 0 10 ≠ 0) (hC : kCo I h.1 C) (K : ∀ x : Int32, x.toInt = gLtr C a1.toInt a2.toInt a3.toInt → Q (some (.inl x)) (gwd S I J h)) : (gq (d + 1) 121 0 [some (.inr (.inr (some (10, 0)))), some (.inl (a1)), some (.inl (a2)), some (.inl (a3))] [] (gwd S I J h) Q) := by
  have e6 : (6 : Int32).toInt = 6 := rfl
  have e8 : (8 : Int32).toInt = 8 := rfl
  have c2 := hC.1 2 (by decide)
  have c3 := hC.1 3 (by decide)
  have rB := hc.2.2.1
  have rH := hc.2.2.2.1
  have no : ∀ {z : Prop}, ¬ ((0 ≤ a3.toInt ∧ a3.toInt ≤ 5) ∧ (a1.toInt = 0 ∧ 0 ≤ a2.toInt ∧ a2.toInt < C.1 2 ∨ a1.toInt = 1 ∧ 0 ≤ a2.toInt ∧ a2.toInt < C.1 3)) → Q (some (.inl (Int32.ofInt (-1)))) (gwd S I J h) := fun w => K _ (by unfold gLtr; rw [if_neg w]; rfl)
  rw [gb_121_0, if_neg h10, gb_121_7]
  by_cases w1 : 0 ≤ a3.toInt
  case neg => rw [if_pos (by rw [z_lt, z_0]; omega), gb_121_17, gb_121_18]; exact no (z := True) (by omega)
  rw [if_neg (by rw [z_lt, z_0]; omega), gb_121_11]
  by_cases w2 : a3.toInt ≤ 5
  case neg => rw [if_neg (by rw [z_lt, e6]; omega), gb_121_17, gb_121_18]; exact no (z := True) (by omega)
  rw [if_pos (by rw [z_lt, e6]; omega), gb_121_19]
  have second : a1.toInt ≠ 0 ∨ ¬ (0 ≤ a2.toInt ∧ a2.toInt < C.1 2) → (gq (d + 1) 121 44 [some (.inr (.inr (some (10, 0)))), some (.inl (a1)), some (.inl (a2)), some (.inl (a3))] [] (gwd S I J h) Q) := fun hs => by
    rw [gb_121_44]
    by_cases w3 : a1 = 1
    · have w3' : a1.toInt = 1 := by rw [w3]; rfl
      rw [if_pos w3, gb_121_49, m_hasHouse, Option.toList_some, List.singleton_append, gb_121_57]
      by_cases w4 : 0 ≤ a2.toInt ∧ a2.toInt < C.1 3
      · have q : (8 + a2).toInt = 8 + a2.toInt := by rw [z_add (by omega) (by omega), e8]
        rw [if_neg (by rw [zb_pos (by omega)]; decide), gb_121_60]
        refine m_nameAt hC (by omega) ⟨w1, w2⟩ fun x hx => ?_
        rw [Option.toList_some, List.singleton_append, gb_121_72]
        refine K x ?_
        unfold gLtr
        rw [if_pos ⟨⟨w1, w2⟩, Or.inr ⟨w3', w4⟩⟩, hx, q, w3']
        rfl
      · rw [if_pos (zb_neg (by omega)), gb_121_73, gb_121_74]; exact no (z := True) (by omega)
    · have w3' : a1.toInt ≠ 1 := fun e => w3 (z_inj e)
      rw [if_neg w3, gb_121_73, gb_121_74]; exact no (z := True) (by omega)
  by_cases w3 : a1 = 0
  · have w3' : a1.toInt = 0 := by rw [w3]; rfl
    rw [if_pos w3, gb_121_23, m_hasBearer, Option.toList_some, List.singleton_append, gb_121_31]
    by_cases w4 : 0 ≤ a2.toInt ∧ a2.toInt < C.1 2
    · rw [if_neg (by rw [zb_pos (by omega)]; decide), gb_121_34]
      refine m_nameAt hC (by omega) ⟨w1, w2⟩ fun x hx => ?_
      rw [Option.toList_some, List.singleton_append, gb_121_43]
      refine K x ?_
      unfold gLtr
      rw [if_pos ⟨⟨w1, w2⟩, Or.inl ⟨w3', w4⟩⟩, hx, w3', show 6 * (8 * 0 + a2.toInt) + a3.toInt = 6 * a2.toInt + a3.toInt by omega]
    · rw [if_pos (zb_neg (by omega))]; exact second (Or.inr w4)
  · rw [if_neg w3]; exact second (Or.inl fun e => w3 (z_inj e))
theorem m_letter0 {a1 a2 a3 : Int32} (h10 : I 10 0 10 = 0) (K : ∀ x : Int32, x.toInt = -1 → Q (some (.inl x)) (gwd S I J h)) : (gq (d + 1) 121 0 [some (.inr (.inr (some (10, 0)))), some (.inl (a1)), some (.inl (a2)), some (.inl (a3))] [] (gwd S I J h) Q) := by
  rw [gb_121_0, if_pos h10, gb_121_17, gb_121_18]; exact K _ rfl
