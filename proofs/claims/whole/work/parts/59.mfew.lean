/-! The model: few. The giver ASIDE or not, it comes to the same: he is behind. -/
def tSim (C : gCo) (t u : gSt) : Prop := (∀ j, j ≠ 4 → t j = u j) ∧ ∀ b : Nat, (b : Int) < C.1 2 → gBit (t 4) b = gBit (u 4) b ∨ t (10 + b) ≤ t 1
theorem sim_tk {C : gCo} {t u : gSt} (hs : tSim C t u) (b : Nat) : gTkb C t b = gTkb C u b := by
  unfold gTkb
  rw [hs.1 0 (by decide), hs.1 1 (by decide), hs.1 2 (by decide), hs.1 (10 + b) (by omega)]
theorem sim_can {C : gCo} {t u : gSt} (hs : tSim C t u) {m : Int} (hm : t 1 < m) : gCan C t m = gCan C u m := by
  funext b
  unfold gCan
  rw [sim_tk hs, hs.1 3 (by decide), ← hs.1 (10 + b) (by omega)]
  by_cases hb : (b : Int) < C.1 2
  · rcases hs.2 b hb with h | h
    · rw [h]
    · rw [decide_eq_false (show ¬ t (10 + b) = m by omega), Bool.false_and, Bool.false_and]
  · rw [decide_eq_false hb, Bool.false_and, Bool.false_and]
theorem sim_scan {C : gCo} {t u : gSt} (hs : tSim C t u) : ∀ {n : Nat} {m : Int}, t 1 ≤ m → gScan C t n m = gScan C u n m
  | 0, _, _ => rfl
  | n + 1, m, hm => by
    unfold gScan gTaker
    rw [sim_can hs (show t 1 < m + 1 by omega), sim_scan hs (show t 1 ≤ m + 1 by omega)]
theorem sim_goal {C : gCo} {t u : gSt} (hs : tSim C t u) : gGoal C t = gGoal C u := by
  unfold gGoal
  rw [sim_scan hs (Int.le_refl _), hs.1 1 (by decide), hs.1 3 (by decide)]
theorem sim_pass {C : gCo} {t u : gSt} (hs : tSim C t u) {g : Int} : ∀ {n i : Nat} {m : Int}, gPassN C t g n i m = gPassN C u g n i m
  | 0, _, _ => rfl
  | n + 1, i, m => by
    unfold gPassN
    rw [hs.1 1 (by decide), hs.1 2 (by decide)]
    exact sim_pass hs
theorem sim_movb {C : gCo} {t u : gSt} (hs : tSim C t u) : gMovb C t = gMovb C u := by
  unfold gMovb
  rw [hs.1 1 (by decide), hs.1 2 (by decide), hs.1 3 (by decide)]
theorem sim_ran {C : gCo} {t u : gSt} (hs : tSim C t u) (x : Int) (hg : t 1 ≤ (gGoal C t).1) : tSim C (sUp (gRan C t) 0 x) (sUp (gRan C u) 0 x) := by
  have e3 := hs.1 3 (by decide)
  have ej : ∀ j, j ≠ 4 → gRan C t j = gRan C u j := fun j hj => by
    unfold gRan
    rw [← sim_goal hs, ← sim_pass hs, ← hs.1 5 (by decide), ← e3, ← hs.1 0 (by decide), ← hs.1 2 (by decide), ← hs.1 1 (by decide)]
    simp only [sUp]
    (repeat' split) <;> first | rfl | exact hs.1 j hj
  have e4t : gRan C t 4 = t 4 := by unfold gRan; rw [sUp_ne (by decide), sUp_ne (by decide), sUp_ne (by decide), sUp_ne (by omega), sUp_ne (by decide)]
  have e4u : gRan C u 4 = u 4 := by unfold gRan; rw [sUp_ne (by decide), sUp_ne (by decide), sUp_ne (by decide), sUp_ne (by omega), sUp_ne (by decide)]
  have e1 : gRan C t 1 = (gGoal C t).1 := by unfold gRan; rw [sUp_ne (by decide), sUp_ne (by decide), sUp_eq]
  refine ⟨fun j hj => ?_, fun b hb => ?_⟩
  · rw [sUp_at, sUp_at]
    split
    · rfl
    · exact ej j hj
  · rw [sUp_ne (by decide), sUp_ne (by decide), sUp_ne (by omega), sUp_ne (by decide), e4t, e4u, e1]
    rcases hs.2 b hb with h | h
    · exact Or.inl h
    · refine Or.inr ?_
      unfold gRan
      rw [sUp_ne (by omega), sUp_ne (by omega), sUp_ne (by omega), sUp_at]
      split
      · exact Int.le_refl _
      · rw [sUp_ne (by omega)]; omega
theorem sim_hour {C : gCo} {t u : gSt} (hc : cOk C) (ht : tOk C t) (hs : tSim C t u) : tSim C (gHour C t) (gHour C u) := by
  unfold gHour
  rw [← sim_movb hs, ← hs.1 0 (by decide)]
  by_cases hm : gMovb C t = true
  · rw [if_pos hm, if_pos hm]
    have := gGoal_r hc ht hm
    exact sim_ran hs _ (by omega)
  · rw [if_neg hm, if_neg hm]
    refine ⟨fun j hj => ?_, fun b hb => ?_⟩
    · rw [sUp_at, sUp_at]
      split
      · rfl
      · exact hs.1 j hj
    · rw [sUp_ne (by decide), sUp_ne (by decide), sUp_ne (by omega), sUp_ne (by decide)]; exact hs.2 b hb
theorem sim_ht {C : gCo} (hc : cOk C) : ∀ {n : Nat} {t u : gSt} {k : Int}, tOk C t → tSim C t u → (gHT C n t k).1 = (gHT C n u k).1
  | 0, t, u, k, ht, hs => by
    unfold gHT gThru
    rw [hs.1 1 (by decide), hs.1 2 (by decide)]
  | n + 1, t, u, k, ht, hs => by
    have e : gThru C t = gThru C u := by unfold gThru; rw [hs.1 1 (by decide), hs.1 2 (by decide)]
    unfold gHT
    rw [← e]
    split
    · rfl
    · exact sim_ht hc (tOk_hour hc ht) (sim_hour hc ht hs)
theorem sim_thr {C : gCo} {t u : gSt} (hc : cOk C) (ht : tOk C t) (hs : tSim C t u) : (gThrough C t).1 = (gThrough C u).1 := by
  unfold gThrough
  rw [← hs.1 0 (by decide)]
  exact sim_ht hc ht hs
theorem pop_tbl : ∀ n, n < 256 → n ≠ 0 → n &&& (n - 1) < n ∧ gPc n = gPc (n &&& (n - 1)) + 1 ∧ Int32.ofNat n &&& (Int32.ofNat n - 1) = Int32.ofNat (n &&& (n - 1)) := by decide +kernel
theorem oth_bit : ∀ n, n ≤ 8 → ∀ s, s < 2 ^ n → ∀ b, b < 8 → (2 ^ n - 1 - s).testBit b = (decide (b < n) && !s.testBit b) := by decide +kernel
theorem inset_tbl : ∀ n, n < 256 → ∀ b, b < 8 → ((Int32.ofNat n >>> (Int32.ofNat b &&& 31)) &&& 1 = 1 ↔ n.testBit b = true) := bit_tbl
variable {d S : Nat} {h : Nat × Option gNm} {I : Nat → Nat → Nat → Int32} {J : Nat → Nat → Nat → Int64} {Q : Option gV → gW → Prop}
theorem n_bits_loop {a0 : Int32} {N : Nat} (K : ∀ x, x.toInt = (gPc N : Int) → Q (some (.inl x)) (gwd S I J h)) : ∀ (n : Nat) (c : Int) (a1 a2 : Int32), n < 256 → a2 = Int32.ofNat n → a1.toInt = c → 0 ≤ c → c + gPc n = gPc N → gPc N ≤ 8 → (gq d 212 4 [some (.inl (a0)), some (.inl (a1)), some (.inl (a2))] [] (gwd S I J h) Q)
  | n, c, a1, a2, hn, h2, h1, hc, hg, h8 => by
    have e1 : (1 : Int32).toInt = 1 := rfl
    rw [gb_212_4]
    by_cases hz : n = 0
    · subst hz
      rw [if_pos (show a2 = 0 from h2), gb_212_20]
      exact K _ (by rw [h1, ← hg, show gPc 0 = 0 from rfl]; omega)
    · have p := pop_tbl n hn hz
      rw [if_neg (fun e => hz (by have := congrArg Int32.toInt e; rw [h2, zi_i (by omega), z_0] at this; omega)), gb_212_8]
      exact n_bits_loop K (n &&& (n - 1)) (c + 1) _ _ (by omega) (by rw [h2]; exact p.2.2) (by rw [z_add (by omega) (by omega), h1, e1]) (by omega) (by have := p.2.1; omega) h8
  termination_by n => n
  decreasing_by exact (pop_tbl n hn hz).1
theorem n_bits {a0 : Int32} {x1 x2 : Option gV} {N : Nat} (h0 : a0 = Int32.ofNat N) (hN : N < 256) (K : ∀ x, x.toInt = (gPc N : Int) → Q (some (.inl x)) (gwd S I J h)) : (gq d 212 0 [some (.inl (a0)), x1, x2] [] (gwd S I J h) Q) := by
  rw [gb_212_0]
  exact n_bits_loop K N 0 _ _ hN h0 rfl (by omega) (by omega) (zbc_tbl N hN).2
/-- the flags that the model sets for a set -/
def gFl (t : gSt) (s : Nat) (b : Nat) : Int := if s.testBit b then gBi (t 4) b else if t 3 = b then gBi (t 4) b else 1
def gFree (t : gSt) (s : Nat) : Nat → Nat → Bool
  | 0, _ => true
  | n + 1, b => if s.testBit b = true ∧ ¬ (t 3 ≠ b ∧ gBit (t 4) b = false) then false else gFree t s n (b + 1)
theorem n_few_in {I0 : Nat → Nat → Nat → Int32} {C : gCo} {t : gSt} {s : Nat} {a1 a2 : Int32} (hc : cOk C) (hC0 : mCo I0 C) (hS0 : mS I0 C t) (h2 : a2 = Int32.ofNat s) (hs : s < 256) : ∀ (n b : Nat) (I : Nat → Nat → Nat → Int32) (a3 a4 : Int32), (b : Int) + n = C.1 2 → a4.toInt = b → a3 = 1 → mTr I0 I → (∀ u, u < b → (I 61 0 (5 + 2 * u)).toInt = gFl t s u) → (∀ j, (∀ u, u < b → j ≠ 5 + 2 * u) → I 61 0 j = I0 61 0 j) →
    (∀ (I' : Nat → Nat → Nat → Int32) a3 a4, mTr I0 I' → (a3 = 0 ∨ a3 = 1) → (a3 = 1 ↔ gFree t s n b = true) → (a3 = 1 → (∀ u, u < b + n → (I' 61 0 (5 + 2 * u)).toInt = gFl t s u) ∧ (∀ j, (∀ u, u < b + n → j ≠ 5 + 2 * u) → I' 61 0 j = I0 61 0 j)) → (gq (d + 9) 223 133 [some (.inr (.inr (some (50, 0)))), some (.inl (a1)), some (.inl (a2)), some (.inl (a3)), some (.inl (a4))] [] (gwd S I' J h) Q)) → (gq (d + 9) 223 52 [some (.inr (.inr (some (50, 0)))), some (.inl (a1)), some (.inl (a2)), some (.inl (a3)), some (.inl (a4))] [] (gwd S I J h) Q)
  | 0, b, I, a3, a4, hn, h4, h3, ht, hf, ho, K => by
    have c2 := hC0.1.2.1
    have f6 : I 54 0 6 = I0 54 0 6 := ht.1 _ _ _ (by omega)
    rw [gb_223_52, n_bearers, Option.toList_some, List.singleton_append, gb_223_58, if_pos (by rw [z_le, f6]; omega)]
    exact K I _ _ ht (Or.inr h3) ⟨fun _ => rfl, fun _ => h3⟩ (fun _ => ⟨hf, ho⟩)
  | n + 1, b, I, a3, a4, hn, h4, h3, ht, hf, ho, K => by
    have e1 : (1 : Int32).toInt = 1 := rfl
    have e2 : (2 : Int32).toInt = 2 := rfl
    have e5 : (5 : Int32).toInt = 5 := rfl
    have rB := hc.2.2.1
    have c2 := hC0.1.2.1
    have f6 : I 54 0 6 = I0 54 0 6 := ht.1 _ _ _ (by omega)
    have ea : (a4 + 1).toInt = ((b + 1 : Nat) : Int) := by rw [z_add (by omega) (by omega), h4, e1]; rfl
    obtain ⟨s0, s1, s2, s3⟩ := hS0.1
    have r3 : I 61 0 3 = I0 61 0 3 := ho 3 (fun u hu => by omega)
    have rb : I 61 0 (5 + 2 * b) = I0 61 0 (5 + 2 * b) := ho _ (fun u hu => by omega)
    have fb := (hS0.2.1 b (by omega)).2
    have q4 : (2 * a4).toInt = 2 * b := by rw [z_mul (by rw [h4, e2]; omega) (by rw [h4, e2]; omega), h4, e2]
    have p4 : (5 + 2 * a4).toInt = 5 + 2 * b := by rw [z_add (by omega) (by omega), q4, e5]
    have n4 : (5 + 2 * a4).toNatClampNeg = 5 + 2 * b := by rw [z_n, p4]; omega
    have hin := bit_tbl s hs b (by omega)
    have e4 : a4 = Int32.ofNat b := by rw [z_ofn a4 (by omega), h4, Int.toNat_natCast]
    rw [show gFree t s (n + 1) b = if s.testBit b = true ∧ ¬ (t 3 ≠ b ∧ gBit (t 4) b = false) then false else gFree t s n (b + 1) from rfl] at K
    have hnx : b + 1 + n = b + (n + 1) := by omega
    have next : ∀ I1 : Nat → Nat → Nat → Int32, mTr I0 I1 → ¬ (s.testBit b = true ∧ ¬ (t 3 ≠ b ∧ gBit (t 4) b = false)) → (I1 61 0 (5 + 2 * b)).toInt = gFl t s b → (∀ j, j ≠ 5 + 2 * b → I1 61 0 j = I 61 0 j) → (gq (d + 9) 223 127 [some (.inr (.inr (some (50, 0)))), some (.inl (a1)), some (.inl (a2)), some (.inl (1)), some (.inl (a4))] [] (gwd S I1 J h) Q) := fun I1 ht1 hno hfb hoo => by
      rw [gb_223_127]
      rw [if_neg hno] at K
      refine n_few_in hc hC0 hS0 h2 hs n (b + 1) I1 _ _ (by omega) ea rfl ht1 (fun u hu => ?_) (fun j hj => ?_) fun I2 z3 z4 k1 k2 k3 k4 => K I2 z3 z4 k1 k2 k3 (by rw [← hnx]; exact k4)
      · by_cases e : u = b
        · rw [e]; exact hfb
        · rw [hoo _ (by omega)]; exact hf u (by omega)
      · rw [hoo j (hj b (by omega))]; exact ho j (fun u hu => hj u (by omega))
    rw [gb_223_52, n_bearers, Option.toList_some, List.singleton_append, gb_223_58, if_neg (by rw [z_le, f6]; omega), gb_223_61, if_neg (by rw [h3]; decide), gb_223_65, h2, e4]
    by_cases hx : s.testBit b = true
    · rw [if_pos (hin.mpr hx), ← e4, ← h2, gb_223_75]
      refine ⟨rfl, ?_⟩
      rw [show (3 : Int32).toNatClampNeg = 3 from rfl, gb_223_83, r3]
      have bad : ¬ (t 3 ≠ b ∧ gBit (t 4) b = false) → (gq (d + 9) 223 99 [some (.inr (.inr (some (50, 0)))), some (.inl (a1)), some (.inl (a2)), some (.inl (a3)), some (.inl (a4))] [] (gwd S I J h) Q) := fun hno => by
        rw [if_pos ⟨hx, hno⟩] at K
        rw [gb_223_99, gb_223_100, gb_223_127, gb_223_52, n_bearers, Option.toList_some, List.singleton_append, gb_223_58]
        have fin : ∀ a4 : Int32, (gq (d + 9) 223 133 [some (.inr (.inr (some (50, 0)))), some (.inl (a1)), some (.inl (a2)), some (.inl (0)), some (.inl (a4))] [] (gwd S I J h) Q) := fun a4 => K I 0 a4 ht (Or.inl rfl) ⟨fun e => absurd e (by decide), fun e => by cases e⟩ (fun e => absurd e (by decide))
        split
        · exact fin _
        · rw [gb_223_61, if_pos rfl]; exact fin _
      by_cases w1 : t 3 = b
      · rw [if_pos (z_inj (by rw [h4, s3, w1]))]
        exact bad (fun e => e.1 w1)
      · rw [if_neg (fun e => w1 (by rw [← s3, ← e, h4])), gb_223_86, n_aside h4 (by omega), Option.toList_some, List.singleton_append, gb_223_92, rb, fb]
        by_cases w2 : gBit (t 4) b = true
        · rw [if_neg (by rw [zb_0]; exact fun e => e (gBi_iff.mpr w2))]
          exact bad (fun e => by rw [w2] at e; cases e.2)
        · rw [if_pos (by rw [zb_0]; exact fun e => w2 (gBi_iff.mp e)), gb_223_95, gb_223_100]
          exact next I ht (fun e => e.2 ⟨w1, Bool.eq_false_iff.mpr w2⟩) (by rw [rb, fb]; unfold gFl; rw [if_pos hx]) (fun _ _ => rfl)
    · rw [if_neg (fun e => hx (hin.mp e)), ← e4, ← h2, gb_223_104]
      refine ⟨rfl, ?_⟩
      rw [show (3 : Int32).toNatClampNeg = 3 from rfl, gb_223_112, r3]
      by_cases w1 : t 3 = b
      · rw [if_pos (z_inj (by rw [h4, s3, w1])), h3]
        exact next I ht (fun e => hx e.1) (by rw [rb, fb]; unfold gFl; rw [if_neg hx, if_pos w1]) (fun _ _ => rfl)
      · rw [if_neg (fun e => w1 (by rw [← s3, ← e, h4])), gb_223_115]
        refine ⟨g_in.mpr (by omega), ?_⟩
        rw [n4, h3]
        exact next _ (mTr_61 ht fun k i j hn => u_ne (by omega)) (fun e => hx e.1) (by rw [u_eq]; unfold gFl; rw [if_neg hx, if_neg w1]; rfl) (fun j hj => u_j hj)

theorem gFree_at {t : gSt} {s : Nat} : ∀ {n b : Nat}, gFree t s n b = true ↔ ∀ u, b ≤ u → u < b + n → s.testBit u = true → t 3 ≠ u ∧ gBit (t 4) u = false
  | 0, b => ⟨fun _ u h1 h2 => by omega, fun _ => rfl⟩
  | n + 1, b => by
    rw [show gFree t s (n + 1) b = if s.testBit b = true ∧ ¬ (t 3 ≠ b ∧ gBit (t 4) b = false) then false else gFree t s n (b + 1) from rfl]
    by_cases w : s.testBit b = true ∧ ¬ (t 3 ≠ b ∧ gBit (t 4) b = false)
    · rw [if_pos w]
      exact ⟨fun e => (by cases e), fun e => absurd (e b (by omega) (by omega) w.1) w.2⟩
    · rw [if_neg w, gFree_at]
      refine ⟨fun e u h1 h2 h3 => ?_, fun e u h1 h2 h3 => e u (by omega) (by omega) h3⟩
      by_cases e2 : u = b
      · subst e2
        by_cases w2 : t 3 ≠ u ∧ gBit (t 4) u = false
        · exact w2
        · exact absurd ⟨h3, w2⟩ w
      · exact e u (by omega) (by omega) h3
theorem hav_bit {t : gSt} {b : Nat} : (gHav t).testBit b = decide (t 3 = b) := by
  unfold gHav
  split
  · rw [Nat.zero_testBit, decide_eq_false (by omega)]
  · rw [Nat.testBit_two_pow]
    exact decide_eq_decide.mpr (by omega)
theorem free_iff {C : gCo} {t : gSt} {s : Nat} (hc : cOk C) (hs : s < 2 ^ (C.1 2).toNat) : s &&& ((t 4).toNat ||| gHav t) = 0 ↔ gFree t s (C.1 2).toNat 0 = true := by
  rw [gFree_at]
  constructor
  · intro h u _ hu hb
    have e := congrArg (fun x => x.testBit u) h
    simp only [Nat.testBit_and, Nat.testBit_or, hb, Bool.true_and, Nat.zero_testBit, hav_bit, Bool.or_eq_false_iff] at e
    exact ⟨of_decide_eq_false e.2, e.1⟩
  · intro h
    apply Nat.eq_of_testBit_eq
    intro u
    rw [Nat.testBit_and, Nat.testBit_or, hav_bit, Nat.zero_testBit]
    cases hb : s.testBit u
    · rfl
    · have hu : u < (C.1 2).toNat := by
        by_cases hu : u < (C.1 2).toNat
        · exact hu
        · have : s < 2 ^ u := Nat.lt_of_lt_of_le hs (Nat.pow_le_pow_right (n := 2) (by decide) (by omega))
          rw [Nat.testBit_lt_two_pow this] at hb; cases hb
      have := h u (by omega) (by omega) hb
      rw [show (t 4).toNat.testBit u = gBit (t 4) u from rfl, this.2, decide_eq_false this.1]; rfl
/-- who has the dark is where it is -/
def tHd (t : gSt) : Prop := 0 ≤ t 3 → t (10 + (t 3).toNat) = t 1
theorem few_sim {C : gCo} {t : gSt} {s : Nat} (hc : cOk C) (hh : tHd t) (hs : s < 2 ^ (C.1 2).toNat) (hf : gFree t s (C.1 2).toNat 0 = true) : tSim C (sUp t 4 ((2 ^ (C.1 2).toNat - 1 - s : Nat) : Int)) (sUp t 4 (gMsk (gFl t s) (C.1 2).toNat 0 0)) := by
  have rB := hc.2.2.1
  refine ⟨fun j hj => by rw [sUp_ne hj, sUp_ne hj], fun b hb => ?_⟩
  rw [sUp_eq, sUp_eq, sUp_ne (by omega), sUp_ne (by decide), gBit_msk]
  rw [show gBit ((2 ^ (C.1 2).toNat - 1 - s : Nat) : Int) b = (2 ^ (C.1 2).toNat - 1 - s).testBit b by unfold gBit; rw [Int.toNat_natCast]]
  rw [oth_bit _ (by omega) s hs b (by omega), show gBit 0 b = false from Nat.zero_testBit b, Bool.false_or, decide_eq_true (show b < (C.1 2).toNat by omega), Bool.true_and]
  cases hx : s.testBit b
  · by_cases w : t 3 = b
    · refine Or.inr ?_
      have := hh (by omega)
      rw [w, Int.toNat_natCast] at this
      omega
    · refine Or.inl ?_
      rw [decide_eq_true]
      · rfl
      · refine ⟨by omega, by omega, ?_⟩
        unfold gFl; rw [hx, if_neg (by decide), if_neg w]
  · refine Or.inl ?_
    have := (gFree_at.mp hf) b (by omega) (by omega) hx
    rw [decide_eq_false]
    · rfl
    · intro e
      have e2 := e.2.2
      unfold gFl gBi at e2
      rw [if_pos hx, this.2] at e2
      exact absurd e2 (by decide)
theorem n_few_loop {I0 : Nat → Nat → Nat → Int32} {C : gCo} {t : gSt} (hc : cOk C) (hC0 : mCo I0 C) (hto : tOk C t) (h9 : t 0 ≤ 999) (hh : tHd t) (hS0 : mS I0 C t) : ∀ (n b : Nat) (best : Int) (I : Nat → Nat → Nat → Int32) (J : Nat → Nat → Nat → Int64) (a1 a2 : Int32) (x3 x4 : Option gV), b + n = 2 ^ (C.1 2).toNat → a2 = Int32.ofNat b → a1.toInt = best → -1 ≤ best → best < 256 → mTr I0 I → (∀ j, I 61 0 j = I0 61 0 j) →
    (∀ I' (J' : Nat → Nat → Nat → Int64) a1 a2 x3 x4, mTr I0 I' → FJ J J' → a1.toInt = gFewF C t n b best → (gq (d + 9) 223 157 [some (.inr (.inr (some (50, 0)))), some (.inl (a1)), some (.inl (a2)), x3, x4] [] (gwd S I' J' h) Q)) → (gq (d + 9) 223 17 [some (.inr (.inr (some (50, 0)))), some (.inl (a1)), some (.inl (a2)), x3, x4] [] (gwd S I J h) Q)
  | 0, b, best, I, J, a1, a2, x3, x4, hn, h2, h1, hb0, hb1, ht, hr, K => by
    have rB := hc.2.2.1
    have c2 := hC0.1.2.1
    have f6 : I 54 0 6 = I0 54 0 6 := ht.1 _ _ _ (by omega)
    have hp : 2 ^ (C.1 2).toNat ≤ 256 := Nat.pow_le_pow_right (n := 2) (by decide) (show (C.1 2).toNat ≤ 8 by omega)
    have eB : I 54 0 6 = Int32.ofNat (C.1 2).toNat := by rw [f6, z_ofn (I0 54 0 6) (by omega), c2]
    rw [gb_223_17, n_bearers, Option.toList_some, List.singleton_append, gb_223_23, eB]
    have e1 : ((1 : Int32) <<< (Int32.ofNat (C.1 2).toNat &&& 31)) = Int32.ofNat (2 ^ (C.1 2).toNat) := (show ∀ n, n ≤ 8 → ((1 : Int32) <<< (Int32.ofNat n &&& 31)) = Int32.ofNat (2 ^ n) by decide +kernel) _ (by omega)
    rw [if_pos (by rw [e1, h2, z_le, zi_i (by omega), zi_i (by omega)]; omega)]
    exact K I J _ _ _ _ ht FJ_refl h1
  | n + 1, b, best, I, J, a1, a2, x3, x4, hn, h2, h1, hb0, hb1, ht, hr, K => by
    have rB := hc.2.2.1
    have c2 := hC0.1.2.1
    have f6 : I 54 0 6 = I0 54 0 6 := ht.1 _ _ _ (by omega)
    have hp : 2 ^ (C.1 2).toNat ≤ 256 := Nat.pow_le_pow_right (n := 2) (by decide) (show (C.1 2).toNat ≤ 8 by omega)
    have eB : I 54 0 6 = Int32.ofNat (C.1 2).toNat := by rw [f6, z_ofn (I0 54 0 6) (by omega), c2]
    have e1 : ((1 : Int32) <<< (Int32.ofNat (C.1 2).toNat &&& 31)) = Int32.ofNat (2 ^ (C.1 2).toNat) := (show ∀ n, n ≤ 8 → ((1 : Int32) <<< (Int32.ofNat n &&& 31)) = Int32.ofNat (2 ^ n) by decide +kernel) _ (by omega)
    have eo : (1 : Int32).toInt = 1 := rfl
    have ea : a2 + 1 = Int32.ofNat (b + 1) := z_inj (by rw [h2, z_add (by rw [zi_i (by omega)]; omega) (by rw [zi_i (by omega)]; omega), zi_i (by omega), zi_i (by omega)]; rfl)
    have hs : b < 2 ^ (C.1 2).toNat := by omega
    rw [gb_223_17, n_bearers, Option.toList_some, List.singleton_append, gb_223_23, eB]
    rw [if_neg (by rw [e1, h2, z_le, zi_i (by omega), zi_i (by omega)]; omega), gb_223_27]
    rw [show gFewF C t (n + 1) b best = gFewF C t n (b + 1) (if gFewOk C t b best then (b : Int) else best) from rfl] at K
    have next : ∀ (best' : Int) (I1 : Nat → Nat → Nat → Int32) (J1 : Nat → Nat → Nat → Int64) (a1 a3 a4 : Int32), best' = (if gFewOk C t b best then (b : Int) else best) → mTr I0 I1 → FJ J J1 → a1.toInt = best' → -1 ≤ best' → best' < 256 → (gq (d + 9) 223 147 [some (.inr (.inr (some (50, 0)))), some (.inl (a1)), some (.inl (a2)), some (.inl (a3)), some (.inl (a4))] [] (gwd S I1 J1 h) Q) := fun best' I1 J1 a1 a3 a4 hbe ht1 hFJ1 ha1 hb0 hb1 => by
      rw [gb_223_147]
      rw [← hbe] at K
      refine n_triesTr ht1 fun I2 ht2 hr2 => ?_
      rw [Option.toList_none, List.nil_append, gb_223_151]
      exact n_few_loop hc hC0 hto h9 hh hS0 n (b + 1) best' I2 J1 _ _ _ _ (by omega) ea ha1 hb0 hb1 ht2 hr2 fun I3 J3 z1 z2 z3 z4 ht3 hFJ3 g => K I3 J3 z1 z2 z3 z4 ht3 (FJ_trans hFJ1 hFJ3) g
    have go : ∀ (p : Int32), (p = 0 ∨ p = 1) → (p = 1 ↔ (best = -1 ∨ gPc b < gPc best.toNat)) → (gq (d + 9) 223 48 [some (.inr (.inr (some (50, 0)))), some (.inl (a1)), some (.inl (a2)), x3, x4] [.inl (p)] (gwd S I J h) Q) := fun p hp01 hp1 => by
      rw [gb_223_48]
      by_cases hp0 : p = 0
      · have hno : gFewOk C t b best ≠ true := fun e => absurd (hp1.mpr (gFew_fit.mp e).2.1) (by rw [hp0]; decide)
        have fin : ∀ a4 : Int32, (gq (d + 9) 223 133 [some (.inr (.inr (some (50, 0)))), some (.inl (a1)), some (.inl (a2)), some (.inl (p)), some (.inl (a4))] [] (gwd S I J h) Q) := fun a4 => by
          rw [gb_223_133, if_pos hp0]
          exact next best I J a1 _ _ (by rw [if_neg hno]) ht FJ_refl h1 hb0 hb1
        rw [gb_223_52, n_bearers, Option.toList_some, List.singleton_append, gb_223_58]
        split
        · exact fin _
        · rw [gb_223_61, if_pos hp0]; exact fin _
      · have hp1' := hp01.resolve_left hp0
        refine n_few_in (s := b) hc hC0 hS0 h2 (by omega) (C.1 2).toNat 0 I _ _ (by omega) rfl hp1' ht (fun u hu => by omega) (fun j _ => hr j) fun I1 z3 z4 ht1 hz3 hz1 hfl => ?_
        rw [gb_223_133]
        by_cases hz : z3 = 0
        · rw [if_pos hz]
          refine next best I1 J a1 _ _ ?_ ht1 FJ_refl h1 hb0 hb1
          rw [if_neg]
          exact fun e => absurd (hz1.mpr ((free_iff hc hs).mp (gFew_fit.mp e).1)) (by rw [hz]; decide)
        · have hfree := hz1.mp (hz3.resolve_left hz)
          obtain ⟨hf1, hf2⟩ := hfl (hz3.resolve_left hz)
          have hM := @gMsk_r (gFl t b) (C.1 2).toNat 0 0 (by omega) (by omega) (by omega)
          have hS1 : mS I1 C (sUp t 4 (gMsk (gFl t b) (C.1 2).toNat 0 0)) := by
            obtain ⟨⟨s0, s1, s2, s3⟩, p2, p3⟩ := hS0
            refine ⟨⟨?_, ?_, ?_, ?_⟩, fun u hu => ⟨?_, ?_⟩, fun u hu => ?_⟩
            · rw [hf2 0 (fun u hu => by omega), sUp_ne (by decide)]; exact s0
            · rw [hf2 1 (fun u hu => by omega), sUp_ne (by decide)]; exact s1
            · rw [hf2 2 (fun u hu => by omega), sUp_ne (by decide)]; exact s2
            · rw [hf2 3 (fun u hu => by omega), sUp_ne (by decide)]; exact s3
            · rw [hf2 _ (fun v hv => by omega), sUp_ne (by omega)]; exact (p2 u hu).1
            · rw [hf1 u (by omega), sUp_eq]
              have hg : gFl t b u = 0 ∨ gFl t b u = 1 := by
                have := @gBi_r (t 4) u
                unfold gFl
                split
                · omega
                · split <;> omega
              unfold gBi
              rw [gBit_msk, show gBit 0 u = false from Nat.zero_testBit u, Bool.false_or]
              rcases hg with e | e
              · rw [e, if_neg]
                exact fun h => absurd (of_decide_eq_true h).2.2 (by decide)
              · rw [e, if_pos (decide_eq_true ⟨by omega, by omega, rfl⟩)]
            · rw [hf2 _ (fun v hv => by have := hc.2.2.2.1; omega), sUp_ne (by decide)]; exact p3 u hu
          rw [if_neg hz, gb_223_137]
          refine n_hoursThrough hc (mTr_co ht1 hC0) (tOk_up4 hto _ hM) (by rw [sUp_ne (by decide)]; exact h9) hS1 ht1.2.2 fun I2 J2 x hF2 hFJ2 _ hx => ?_
          rw [← sim_thr hc (tOk_up4 hto _ (by omega)) (few_sim hc hh hs hfree)] at hx
          rw [Option.toList_some, List.singleton_append, gb_223_141, gb_223_142]
          have ht2 := mTr_FT ht1 hF2
          by_cases hq : (gThrough C (sUp t 4 ((2 ^ (C.1 2).toNat - 1 - b : Nat) : Int))).1 = -1
          · rw [if_pos ((gThr_str hx).mpr hq)]
            refine next best I2 J2 a1 _ _ ?_ ht2 hFJ2 h1 hb0 hb1
            rw [if_neg]
            exact fun e => (gFew_fit.mp e).2.2 hq
          · rw [if_neg (fun e => hq ((gThr_str hx).mp e)), gb_223_145]
            refine next b I2 J2 a2 _ _ ?_ ht2 hFJ2 (by rw [h2, zi_i (by omega)]) (by omega) (by omega)
            rw [if_pos (gFew_fit.mpr ⟨(free_iff hc hs).mpr hfree, hp1.mp hp1', hq⟩)]
    rw [gb_223_29]
    by_cases hm : best = -1
    · rw [if_pos (z_inj (by rw [h1, hm, z_m1])), gb_223_43]
      exact go 1 (Or.inr rfl) ⟨fun _ => Or.inl hm, fun _ => rfl⟩
    · rw [if_neg (fun e => hm (by rw [← h1, e, z_m1])), gb_223_32]
      refine n_bits h2 (by omega) fun y1 hy1 => ?_
      rw [Option.toList_some, List.singleton_append, gb_223_36]
      refine n_bits (N := best.toNat) (by rw [← h1]; exact z_ofn _ (by omega)) (by omega) fun y2 hy2 => ?_
      rw [Option.toList_some, List.singleton_append, gb_223_40]
      by_cases hl : gPc best.toNat ≤ gPc b
      · rw [if_pos (by rw [z_le]; omega), gb_223_47]
        exact go 0 (Or.inl rfl) ⟨fun e => absurd e (by decide), fun e => by omega⟩
      · rw [if_neg (by rw [z_le]; omega), gb_223_43]
        exact go 1 (Or.inr rfl) ⟨fun _ => Or.inr (by omega), fun _ => rfl⟩
theorem n_few {x1 x2 x3 x4 : Option gV} {C : gCo} {t : gSt} (hc : cOk C) (hC : mCo I C) (hto : tOk C t) (h9 : t 0 ≤ 999) (hh : tHd t) (hS : mS I C t) (h62 : I 50 0 62 = 0)
    (K : ∀ I' (J' : Nat → Nat → Nat → Int64) x, FA I I' → FJ J J' → x.toInt = gFew C t → Q (some (.inl x)) (gwd S I' J' h)) : (gq (d + 9) 223 0 [some (.inr (.inr (some (50, 0)))), x1, x2, x3, x4] [] (gwd S I J h) Q) := by
  rw [gb_223_0, if_neg hC.2.2.2.2, gb_223_9, gb_223_10]
  refine n_putsTr fun I1 ht1 g1 => ?_
  rw [Option.toList_none, List.nil_append, gb_223_15]
  refine n_few_loop hc hC hto h9 hh hS (2 ^ (C.1 2).toNat) 0 (-1) I1 J _ _ _ _ (by omega) rfl z_m1 (by omega) (by omega) ht1 g1 fun I2 J2 z1 z2 z3 z4 ht2 hFJ2 g => ?_
  rw [gb_223_157]
  refine n_backTr ht2 h62 fun I3 hA => ?_
  rw [Option.toList_none, List.nil_append, gb_223_161]
  exact K I3 J2 _ hA hFJ2 g
