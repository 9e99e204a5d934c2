/-! The model: telling; rows read. -/
variable {d S : Nat} {h : Nat × Option gNm} {I : Nat → Nat → Nat → Int32} {J : Nat → Nat → Nat → Int64} {Q : Option gV → gW → Prop}
theorem n_alike_loop {C : gCo} {t : gSt} {f : Nat → Bool} {a1 a2 : Int32} {r hh : Nat} (hc : cOk C) (hto : tOk C t) (hf : kFitM C t I f) (h1 : a1.toInt = (r + 1 : Nat)) (hr : t 0 + (r + 1 : Nat) ≤ 999) (hr30 : r < 30) (h2 : a2.toInt = hh) (hh8 : hh < 8) (K : ∀ a3 a4 : Int32, a3.toInt = gPsum C t f 100 (r * 8 + hh) → (gq d 235 51 [some (.inr (.inr (some (50, 0)))), some (.inl (a1)), some (.inl (a2)), some (.inl (a3)), some (.inl (a4))] [] (gwd S I J h) Q)) : ∀ (n v : Nat) (a3 a4 : Int32), v + n = 100 → a4.toInt = v → a3.toInt = gPsum C t f v (r * 8 + hh) → (gq d 235 5 [some (.inr (.inr (some (50, 0)))), some (.inl (a1)), some (.inl (a2)), some (.inl (a3)), some (.inl (a4))] [] (gwd S I J h) Q)
  | 0, v, a3, a4, hn, h4, h3 => by
    have e99 : (99 : Int32).toInt = 99 := rfl
    rw [gb_235_5, if_pos (by rw [z_lt]; omega)]
    exact K _ _ (by rw [show v = 100 by omega] at h3; exact h3)
  | n + 1, v, a3, a4, hn, h4, h3 => by
    have e99 : (99 : Int32).toInt = 99 := rfl
    have e31 : (31 : Int32).toInt = 31 := rfl
    have e1 : (1 : Int32).toInt = 1 := rfl
    have n4 : a4.toNatClampNeg = v := by rw [z_n]; omega
    have ea : (a4 + 1).toInt = ((v + 1 : Nat) : Int) := by rw [z_add (by omega) (by omega), h4, e1]; rfl
    have hps := @gPsum_r C t f v (r * 8 + hh)
    have q1 : (31 * a4).toInt = 31 * v := by rw [z_mul (by rw [h4, e31]; omega) (by rw [h4, e31]; omega), h4, e31]
    have q2 : (31 * a4 + a1).toInt = 31 * v + (r + 1 : Nat) := by rw [z_add (by omega) (by omega), q1, h1]
    have n2 : (31 * a4 + a1).toNatClampNeg = 31 * v + (r + 1) := by rw [z_n, q2]; omega
    have hun : gPsum C t f (v + 1) (r * 8 + hh) = gPsum C t f v (r * 8 + hh) + if f v && gBit (gIt C (r + 1) (sUp t 2 v) 5) hh then 1 else 0 := by
      rw [show gPsum C t f (v + 1) (r * 8 + hh) = gPsum C t f v (r * 8 + hh) + if f v && gBit (gIt C ((r * 8 + hh) / 8 + 1) (sUp t 2 v) 5) ((r * 8 + hh) % 8) then 1 else 0 from rfl, show (r * 8 + hh) / 8 = r by omega, show (r * 8 + hh) % 8 = hh by omega]
    have hv := hf.2.1 v (by omega)
    rw [gb_235_5, if_neg (by rw [z_lt]; omega), gb_235_12]
    refine ⟨g_in.mpr (by omega), ?_⟩
    rw [n4, gb_235_19]
    have next : ∀ a3 : Int32, a3.toInt = gPsum C t f (v + 1) (r * 8 + hh) → (gq d 235 45 [some (.inr (.inr (some (50, 0)))), some (.inl (a1)), some (.inl (a2)), some (.inl (a3)), some (.inl (a4))] [] (gwd S I J h) Q) := fun a3 h3 => by
      rw [gb_235_45]
      exact n_alike_loop hc hto hf h1 hr hr30 h2 hh8 K n (v + 1) _ _ (by omega) ea h3
    by_cases hfv : f v = true
    · rw [if_pos hfv] at hv
      rw [if_neg (fun e => by rw [e] at hv; exact absurd hv (by decide)), gb_235_22]
      refine ⟨g_in.mpr (by omega), ?_⟩
      have hw := hf.2.2 v (r + 1) (by omega) (by omega)
      rw [gItM_eq (by rw [sUp_ne (by decide)]; omega)] at hw
      have ho := (tOk_it (n := r + 1) hc (tOk_up2 hto (v : Int) (by omega))).2.2.2.2.2.1
      have hb := z_bit (x := I 66 0 (31 * v + (r + 1))) (a := a2) (b := hh) (by omega) (by omega) h2 hh8
      rw [hw] at hb
      rw [n2, gb_235_34]
      by_cases hg : gBit (gIt C (r + 1) (sUp t 2 v) 5) hh = true
      · rw [if_pos (hb.mpr hg), gb_235_42]
        exact next _ (by rw [hun, hfv, hg, z_add (by omega) (by omega), h3, e1]; rfl)
      · rw [if_neg (fun e => hg (hb.mp e))]
        exact next _ (by rw [hun, hfv, Bool.eq_false_iff.mpr hg, h3]; simp)
    · rw [if_neg hfv] at hv
      rw [if_pos (z_inj hv)]
      exact next _ (by rw [hun, Bool.eq_false_iff.mpr hfv, h3]; simp)
theorem n_alike {C : gCo} {t : gSt} {f : Nat → Bool} {a1 a2 : Int32} {x3 x4 : Option gV} {r hh : Nat} (hc : cOk C) (hto : tOk C t) (hf : kFitM C t I f) (h1 : a1.toInt = (r + 1 : Nat)) (hr : t 0 + (r + 1 : Nat) ≤ 999) (hr30 : r < 30) (h2 : a2.toInt = hh) (hh8 : hh < 8) (K : ∀ x, x.toInt = max (gPsum C t f 100 (r * 8 + hh)) (gLeft f 100 0 0 - gPsum C t f 100 (r * 8 + hh)) → Q (some (.inl x)) (gwd S I J h)) : (gq d 235 0 [some (.inr (.inr (some (50, 0)))), some (.inl (a1)), some (.inl (a2)), x3, x4] [] (gwd S I J h) Q) := by
  have hl := @gLeft_r f 100 0 0
  have hps := @gPsum_r C t f 100 (r * 8 + hh)
  rw [gb_235_0]
  refine n_alike_loop hc hto hf h1 hr hr30 h2 hh8 (fun a3 a4 h3 => ?_) 100 0 0 0 rfl rfl rfl
  have q : (I 50 0 67 - a3).toInt = gLeft f 100 0 0 - gPsum C t f 100 (r * 8 + hh) := by rw [z_sub (by rw [hf.1]; omega) (by rw [hf.1]; omega), hf.1, h3]
  rw [gb_235_51]
  by_cases w : gLeft f 100 0 0 - gPsum C t f 100 (r * 8 + hh) ≤ gPsum C t f 100 (r * 8 + hh)
  · rw [if_pos (by rw [z_le]; omega), gb_235_70, gb_235_71]
    exact K _ (by omega)
  · rw [if_neg (by rw [z_le]; omega), gb_235_61, gb_235_71]
    exact K _ (by omega)
theorem gTelF_add {P : Nat → Int} {left houses : Int} : ∀ {n m i : Nat} {a : Int × Int}, gTelF P left houses (n + m) i a = gTelF P left houses m (i + n) (gTelF P left houses n i a)
  | 0, m, i, a => by rw [Nat.zero_add, Nat.add_zero]; rfl
  | n + 1, m, i, a => by
    rw [show n + 1 + m = (n + m) + 1 by omega]
    rw [show gTelF P left houses (n + m + 1) i a = gTelF P left houses (n + m) (i + 1) (if 0 < left ∧ ((i % 8 : Nat) : Int) < houses ∧ max (P i) (left - P i) < a.1 then (max (P i) (left - P i), (i : Int)) else a) from rfl, gTelF_add]
    rw [show i + 1 + n = i + (n + 1) by omega]; rfl
theorem gTelF_out {P : Nat → Int} {left houses : Int} : ∀ {n i : Nat} {a : Int × Int}, (∀ j, i ≤ j → j < i + n → houses ≤ ((j % 8 : Nat) : Int)) → gTelF P left houses n i a = a
  | 0, _, _, _ => rfl
  | n + 1, i, a, h => by
    unfold gTelF
    rw [if_neg (fun e => by have := h i (by omega) (by omega); have := e.2.1; omega)]
    exact gTelF_out (fun j h1 h2 => h j (by omega) (by omega))
theorem gLeft_succ {f : Nat → Bool} : ∀ {n v : Nat} {a : Int}, gLeft f (n + 1) v a = gLeft f n v a + if f (v + n) then 1 else 0
  | 0, v, a => rfl
  | n + 1, v, a => by
    rw [show gLeft f (n + 1 + 1) v a = gLeft f (n + 1) (v + 1) (a + if f v then 1 else 0) from rfl, gLeft_succ, show v + 1 + n = v + (n + 1) by omega]; rfl
theorem gPsum_le {C : gCo} {t : gSt} {f : Nat → Bool} {i : Nat} : ∀ {v : Nat}, gPsum C t f v i ≤ gLeft f v 0 0
  | 0 => Int.le_refl _
  | v + 1 => by
    have := @gPsum_le C t f i v
    rw [gLeft_succ, show gPsum C t f (v + 1) i = gPsum C t f v i + if f v && gBit (gIt C (i / 8 + 1) (sUp t 2 v) 5) (i % 8) then 1 else 0 from rfl, Nat.zero_add]
    cases hf : f v
    · simp; exact this
    · rw [if_pos rfl]
      split <;> omega
/-- what the model holds of the best so far -/
def mBest (a : Int × Int) (x2 x3 x4 : Int32) : Prop := if a.2 = -1 then x2.toInt = -1 else x2.toInt = a.2 / 8 + 1 ∧ x3.toInt = a.2 % 8 ∧ x4.toInt = a.1
theorem n_tells_in {C : gCo} {t : gSt} {f : Nat → Bool} {a1 a5 : Int32} {r : Nat} (hc : cOk C) (hC : mCo I C) (hto : tOk C t) (hf : kFitM C t I f) (hl0 : 0 < gLeft f 100 0 0) (h5 : a5.toInt = (r + 1 : Nat)) (hr : t 0 + (r + 1 : Nat) ≤ 999) (hr30 : r < 30) : ∀ (n b : Nat) (a : Int × Int) (a2 a3 a4 a6 : Int32) (x7 : Option gV), (b : Int) + n = C.1 3 → a6.toInt = b → mBest a a2 a3 a4 → (a.2 = -1 → a.1 = gLeft f 100 0 0 + 1) → -1 ≤ a.2 → a.2 < 10000 →
    (∀ a2 a3 a4 a6 x7, mBest (gTelF (gPsum C t f 100) (gLeft f 100 0 0) (C.1 3) n (r * 8 + b) a) a2 a3 a4 → (gq (d + 8) 236 107 [some (.inr (.inr (some (50, 0)))), some (.inl (a1)), some (.inl (a2)), some (.inl (a3)), some (.inl (a4)), some (.inl (a5)), some (.inl (a6)), x7] [] (gwd S I J h) Q)) → (gq (d + 8) 236 57 [some (.inr (.inr (some (50, 0)))), some (.inl (a1)), some (.inl (a2)), some (.inl (a3)), some (.inl (a4)), some (.inl (a5)), some (.inl (a6)), x7] [] (gwd S I J h) Q)
  | 0, b, a, a2, a3, a4, a6, x7, hn, h6, hb, h1, hm1, hm2, K => by
    have c3 := hC.1.2.2.1
    rw [gb_236_57, n_houses, Option.toList_some, List.singleton_append, gb_236_63, if_pos (by rw [z_le]; omega)]
    exact K _ _ _ _ _ hb
  | n + 1, b, a, a2, a3, a4, a6, x7, hn, h6, hb, h1, hm1, hm2, K => by
    have e1 : (1 : Int32).toInt = 1 := rfl
    have c3 := hC.1.2.2.1
    have rH := hc.2.2.2.1
    have hl := @gLeft_r f 100 0 0
    have hps := @gPsum_r C t f 100 (r * 8 + b)
    have hple := @gPsum_le C t f (r * 8 + b) 100
    have ea : (a6 + 1).toInt = ((b + 1 : Nat) : Int) := by rw [z_add (by omega) (by omega), h6, e1]; rfl
    have hun : gTelF (gPsum C t f 100) (gLeft f 100 0 0) (C.1 3) (n + 1) (r * 8 + b) a = gTelF (gPsum C t f 100) (gLeft f 100 0 0) (C.1 3) n (r * 8 + (b + 1)) (if max (gPsum C t f 100 (r * 8 + b)) (gLeft f 100 0 0 - gPsum C t f 100 (r * 8 + b)) < a.1 then (max (gPsum C t f 100 (r * 8 + b)) (gLeft f 100 0 0 - gPsum C t f 100 (r * 8 + b)), ((r * 8 + b : Nat) : Int)) else a) := by
      rw [show gTelF (gPsum C t f 100) (gLeft f 100 0 0) (C.1 3) (n + 1) (r * 8 + b) a = gTelF (gPsum C t f 100) (gLeft f 100 0 0) (C.1 3) n (r * 8 + b + 1) (if 0 < gLeft f 100 0 0 ∧ (((r * 8 + b) % 8 : Nat) : Int) < C.1 3 ∧ max (gPsum C t f 100 (r * 8 + b)) (gLeft f 100 0 0 - gPsum C t f 100 (r * 8 + b)) < a.1 then (max (gPsum C t f 100 (r * 8 + b)) (gLeft f 100 0 0 - gPsum C t f 100 (r * 8 + b)), ((r * 8 + b : Nat) : Int)) else a) from rfl]
      rw [Nat.add_assoc]
      by_cases w : max (gPsum C t f 100 (r * 8 + b)) (gLeft f 100 0 0 - gPsum C t f 100 (r * 8 + b)) < a.1
      · rw [if_pos w, if_pos ⟨hl0, by omega, w⟩]
      · rw [if_neg w, if_neg (fun e => w e.2.2)]
    rw [hun] at K
    rw [gb_236_57, n_houses, Option.toList_some, List.singleton_append, gb_236_63, if_neg (by rw [z_le]; omega), gb_236_66]
    refine n_alike (r := r) (hh := b) hc hto hf h5 hr hr30 h6 (by omega) fun x hx => ?_
    rw [Option.toList_some, List.singleton_append, gb_236_74, gb_236_78]
    have take : max (gPsum C t f 100 (r * 8 + b)) (gLeft f 100 0 0 - gPsum C t f 100 (r * 8 + b)) < a.1 → (gq (d + 8) 236 91 [some (.inr (.inr (some (50, 0)))), some (.inl (a1)), some (.inl (a2)), some (.inl (a3)), some (.inl (a4)), some (.inl (a5)), some (.inl (a6)), some (.inl (x))] [] (gwd S I J h) Q) := fun w => by
      rw [gb_236_91, gb_236_101]
      rw [if_pos w] at K
      refine n_tells_in hc hC hto hf hl0 h5 hr hr30 n (b + 1) _ _ _ _ _ _ (by omega) ea ?_ (fun e => ?_) ?_ ?_ K
      · unfold mBest
        rw [if_neg (show ¬ ((r * 8 + b : Nat) : Int) = -1 by omega)]
        exact ⟨by omega, by omega, hx⟩
      · have e' : ((r * 8 + b : Nat) : Int) = -1 := e
        omega
      · show -1 ≤ ((r * 8 + b : Nat) : Int); omega
      · show ((r * 8 + b : Nat) : Int) < 10000; omega
    by_cases hz : a.2 = -1
    · unfold mBest at hb
      rw [if_pos hz] at hb
      rw [if_pos (z_inj (by rw [hb, z_m1]))]
      have := h1 hz
      exact take (by omega)
    · have hb' := hb
      unfold mBest at hb'
      rw [if_neg hz] at hb'
      rw [if_neg (fun e => by have := hb'.1; rw [e, z_m1] at this; omega), gb_236_81]
      by_cases w : max (gPsum C t f 100 (r * 8 + b)) (gLeft f 100 0 0 - gPsum C t f 100 (r * 8 + b)) < a.1
      · rw [if_pos (by rw [z_lt]; omega)]
        exact take w
      · rw [if_neg (by rw [z_lt]; omega), gb_236_88, gb_236_101]
        rw [if_neg w] at K
        exact n_tells_in hc hC hto hf hl0 h5 hr hr30 n (b + 1) a _ _ _ _ _ (by omega) ea hb h1 hm1 hm2 K
theorem gTelF_inv {P : Nat → Int} {left houses : Int} {l : Int} : ∀ {m i : Nat} {a : Int × Int}, (a.2 = -1 → a.1 = l) → ((gTelF P left houses m i a).2 = -1 → (gTelF P left houses m i a).1 = l)
  | 0, _, _, h => h
  | m + 1, i, a, h => by
    unfold gTelF
    refine gTelF_inv fun e => ?_
    split at e
    · have e' : (i : Int) = -1 := e
      omega
    · rename_i w; rw [if_neg w]; exact h e
theorem n_tells_out {C : gCo} {t : gSt} {f : Nat → Bool} {a1 : Int32} (hc : cOk C) (hC : mCo I C) (hto : tOk C t) (h9 : t 0 ≤ 999) (hS : mS I C t) (hf : kFitM C t I f) (hl0 : 0 < gLeft f 100 0 0) : ∀ (n r : Nat) (a : Int × Int) (a2 a3 a4 a5 : Int32) (x6 x7 : Option gV), r + n = (min 30 (999 - t 0)).toNat → a5.toInt = (r + 1 : Nat) → mBest a a2 a3 a4 → (a.2 = -1 → a.1 = gLeft f 100 0 0 + 1) → -1 ≤ a.2 → a.2 < (r * 8 : Nat) →
    (∀ a2 a3 a4 a5 x6 x7, mBest (gTelF (gPsum C t f 100) (gLeft f 100 0 0) (C.1 3) (8 * n) (r * 8) a) a2 a3 a4 → (gq (d + 8) 236 113 [some (.inr (.inr (some (50, 0)))), some (.inl (a1)), some (.inl (a2)), some (.inl (a3)), some (.inl (a4)), some (.inl (a5)), x6, x7] [] (gwd S I J h) Q)) → (gq (d + 8) 236 35 [some (.inr (.inr (some (50, 0)))), some (.inl (a1)), some (.inl (a2)), some (.inl (a3)), some (.inl (a4)), some (.inl (a5)), x6, x7] [] (gwd S I J h) Q)
  | n, r, a, a2, a3, a4, a5, x6, x7, hn, h5, hb, h1, hm1, hm2, K => by
    have e1 : (1 : Int32).toInt = 1 := rfl
    have e30 : (30 : Int32).toInt = 30 := rfl
    have rH := hc.2.2.2.1
    have hm2' : a.2 < 10000 := by omega
    rw [gb_236_35, if_neg (by rw [z_le, hf.1, z_0]; omega), gb_236_42, n_isAhead hC hS hto.1 (by decide) (by decide), Option.toList_some, List.singleton_append, gb_236_51, e1, e30]
    match n, hn, K with
    | 0, hn, K =>
      rw [if_pos (zb_neg (by omega))]
      exact K _ _ _ _ _ _ hb
    | n + 1, hn, K =>
      rw [if_neg (by rw [zb_pos (by omega)]; decide), gb_236_54]
      have hsplit : gTelF (gPsum C t f 100) (gLeft f 100 0 0) (C.1 3) (8 * (n + 1)) (r * 8) a = gTelF (gPsum C t f 100) (gLeft f 100 0 0) (C.1 3) (8 * n) ((r + 1) * 8) (gTelF (gPsum C t f 100) (gLeft f 100 0 0) (C.1 3) (C.1 3).toNat (r * 8) a) := by
        have e8 : gTelF (gPsum C t f 100) (gLeft f 100 0 0) (C.1 3) 8 (r * 8) a = gTelF (gPsum C t f 100) (gLeft f 100 0 0) (C.1 3) (C.1 3).toNat (r * 8) a := by
          have e9 : gTelF (gPsum C t f 100) (gLeft f 100 0 0) (C.1 3) ((C.1 3).toNat + (8 - (C.1 3).toNat)) (r * 8) a = gTelF (gPsum C t f 100) (gLeft f 100 0 0) (C.1 3) (C.1 3).toNat (r * 8) a := by
            rw [gTelF_add, gTelF_out (fun j h1 h2 => by omega)]
          rw [show (C.1 3).toNat + (8 - (C.1 3).toNat) = 8 by omega] at e9
          exact e9
        rw [show 8 * (n + 1) = 8 + 8 * n by omega, gTelF_add, show r * 8 + 8 = (r + 1) * 8 by omega, e8]
      rw [hsplit] at K
      have hr := gTelF_r (P := gPsum C t f 100) (left := gLeft f 100 0 0) (houses := C.1 3) (m := (C.1 3).toNat) (i := r * 8) hm1 hm2
      refine n_tells_in hc hC hto hf hl0 h5 (by omega) (by omega) (C.1 3).toNat 0 a _ _ _ _ _ (by omega) rfl hb h1 hm1 hm2' fun z2 z3 z4 z6 z7 hz => ?_
      rw [gb_236_107]
      exact n_tells_out hc hC hto h9 hS hf hl0 n (r + 1) (gTelF (gPsum C t f 100) (gLeft f 100 0 0) (C.1 3) (C.1 3).toNat (r * 8) a) _ _ _ _ _ _ (by omega) (by rw [z_add (by omega) (by omega), h5, e1]; rfl) hz (gTelF_inv h1) hr.1 (by omega) K
  termination_by n => n
theorem n_tells {a1 : Int32} {x2 x3 x4 x5 x6 x7 : Option gV} {C : gCo} {t : gSt} {sn : Nat → Int} {rm : Int} (hc : cOk C) (hC : mCo I C) (hto : tOk C t) (h9 : t 0 ≤ 999) (hp : tPs C t) (hS : mS I C t) (hn : mSn I sn rm) (hk : snOk C sn rm) (h62 : I 50 0 62 = 0)
    (K : ∀ I' (J' : Nat → Nat → Nat → Int64) x, FAs I I' → FJ J J' → x.toInt = (if 0 ≤ a1.toInt ∧ a1.toInt ≤ 2 then (if (gTell C t (gFits C sn rm t)).2 = -1 then -1 else if a1.toInt = 0 then (gTell C t (gFits C sn rm t)).2 / 8 + 1 else if a1.toInt = 1 then (gTell C t (gFits C sn rm t)).2 % 8 else (gTell C t (gFits C sn rm t)).1) else -1) → Q (some (.inl x)) (gwd S I' J' h)) : (gq (d + 9) 236 0 [some (.inr (.inr (some (50, 0)))), some (.inl (a1)), x2, x3, x4, x5, x6, x7] [] (gwd S I J h) Q) := by
  have y2 : (2 : Int64).toInt = 2 := rfl
  have r0 := hto.1
  rw [gb_236_0, if_neg hC.2.2.2.2, gb_236_7, n_isIn, Option.toList_some, List.singleton_append, gb_236_16, z_64, yi_0, y2]
  by_cases w : 0 ≤ a1.toInt ∧ a1.toInt ≤ 2
  case neg =>
    rw [if_pos (zb_neg w), gb_236_19, gb_236_20]
    exact K I J _ (fun _ _ _ _ => rfl) FJ_refl (by rw [if_neg w]; rfl)
  rw [if_neg (by rw [zb_pos w]; decide), gb_236_21]
  rw [if_pos w] at K
  refine n_lays hc hC hto h9 hp hS hn hk h62 fun I1 J1 hF1 hFJ1 hf => ?_
  have hl := @gLeft_r (gFits C sn rm t) 100 0 0
  rw [Option.toList_none, List.nil_append, gb_236_25, gb_236_26, gb_236_28]
  have fin : ∀ (z2 z3 z4 z5 : Int32) (x6 x7 : Option gV), mBest (gTell C t (gFits C sn rm t)) z2 z3 z4 → -1 ≤ (gTell C t (gFits C sn rm t)).2 → (gq (d + 9) 236 113 [some (.inr (.inr (some (50, 0)))), some (.inl (a1)), some (.inl (z2)), some (.inl (z3)), some (.inl (z4)), some (.inl (z5)), x6, x7] [] (gwd S I1 J1 h) Q) := fun z2 z3 z4 z5 x6 x7 hb hge => by
    unfold mBest at hb
    rw [gb_236_113, gb_236_115]
    by_cases hz : (gTell C t (gFits C sn rm t)).2 = -1
    · rw [if_pos hz] at hb
      rw [if_pos (z_inj (by rw [hb, z_m1])), gb_236_118, gb_236_119, gb_236_141]
      exact K I1 J1 _ hF1 hFJ1 (by rw [if_pos hz]; rfl)
    · rw [if_neg hz] at hb
      rw [if_neg (fun e => by have := hb.1; rw [e, z_m1] at this; omega), gb_236_122]
      by_cases w0 : a1.toInt = 0
      · rw [if_pos (z_inj w0), gb_236_126, gb_236_141]
        exact K I1 J1 _ hF1 hFJ1 (by rw [if_neg hz, if_pos w0]; exact hb.1)
      · rw [if_neg (fun e => w0 (by rw [e]; rfl)), gb_236_130]
        by_cases w1 : a1.toInt = 1
        · rw [if_pos (z_inj w1), gb_236_135, gb_236_141]
          exact K I1 J1 _ hF1 hFJ1 (by rw [if_neg hz, if_neg w0, if_pos w1]; exact hb.2.1)
        · rw [if_neg (fun e => w1 (by rw [e]; rfl)), gb_236_139, gb_236_141]
          exact K I1 J1 _ hF1 hFJ1 (by rw [if_neg hz, if_neg w0, if_neg w1]; exact hb.2.2)
  by_cases hl0 : 0 < gLeft (gFits C sn rm t) 100 0 0
  · have hC1 : mCo I1 C := mCo_congr hC fun k j hk => hF1 _ _ _ (by omega)
    have hr : -1 ≤ (gTell C t (gFits C sn rm t)).2 ∧ (gTell C t (gFits C sn rm t)).2 < ((0 + 8 * (min 30 (999 - t 0)).toNat : Nat) : Int) := gTelF_r (show (-1 : Int) ≤ -1 by decide) (show (-1 : Int) < ((0 : Nat) : Int) by decide)
    refine n_tells_out hc hC1 hto h9 (mS_congr hc hS fun j _ => hF1 _ _ _ (by omega)) hf hl0 (min 30 (999 - t 0)).toNat 0 (gLeft (gFits C sn rm t) 100 0 0 + 1, -1) _ _ _ _ _ _ (by omega) rfl (by unfold mBest; rw [if_pos rfl]; exact z_m1) (fun _ => rfl) (show (-1 : Int) ≤ -1 by decide) (show (-1 : Int) < ((0 * 8 : Nat) : Int) by decide) fun z2 z3 z4 z5 z6 z7 hb => fin z2 z3 z4 z5 z6 z7 hb hr.1
  · have hnone : gTell C t (gFits C sn rm t) = (gLeft (gFits C sn rm t) 100 0 0 + 1, -1) := by
      unfold gTell
      generalize 8 * (min 30 (999 - t 0)).toNat = N
      have : ∀ (n i : Nat) (a : Int × Int), gTelF (gPsum C t (gFits C sn rm t) 100) (gLeft (gFits C sn rm t) 100 0 0) (C.1 3) n i a = a := fun n => by
        induction n with
        | zero => intro i a; rfl
        | succ n ih => intro i a; unfold gTelF; rw [if_neg (fun e => hl0 e.1), ih]
      exact this N 0 _
    rw [gb_236_35, if_pos (by rw [z_le, hf.1, z_0]; omega)]
    exact fin _ _ _ _ _ _ (by rw [hnone]; unfold mBest; rw [if_pos rfl]; exact z_m1) (by rw [hnone]; exact Int.le_refl _)
