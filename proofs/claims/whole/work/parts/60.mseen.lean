/-! The model: what is seen, strengths laid. -/
def mSn (I : Nat → Nat → Nat → Int32) (sn : Nat → Int) (rm : Int) : Prop := (I 50 0 64).toInt = rm ∧ ∀ k : Nat, (k : Int) < 3 * rm → (I 64 0 k).toInt = sn k
theorem mSn_congr {I I' : Nat → Nat → Nat → Int32} {sn : Nat → Int} {rm : Int} (h : mSn I sn rm) (e1 : I' 50 0 64 = I 50 0 64) (e2 : ∀ k, I' 64 0 k = I 64 0 k) : mSn I' sn rm := ⟨by rw [e1]; exact h.1, fun k hk => by rw [e2]; exact h.2 k hk⟩
def gItM (C : gCo) : Nat → gSt → gSt
  | 0, t => t
  | n + 1, t => gItM C n (gHourM C t)
theorem gItM_succ {C : gCo} : ∀ {n : Nat} {t : gSt}, gItM C (n + 1) t = gHourM C (gItM C n t)
  | 0, _ => rfl
  | n + 1, t => by rw [show gItM C (n + 1 + 1) t = gItM C (n + 1) (gHourM C t) from rfl, gItM_succ]; rfl
theorem gItM_eq {C : gCo} : ∀ {n : Nat} {t : gSt}, t 0 + n ≤ 999 → gItM C n t = gIt C n t
  | 0, _, _ => rfl
  | n + 1, t, h => by
    rw [show gItM C (n + 1) t = gItM C n (gHourM C t) from rfl, gHourM_eq (by omega), gItM_eq (by rw [gHour_0]; omega)]; rfl
theorem gItM_0 {C : gCo} : ∀ {n : Nat} {t : gSt}, gItM C n t 0 = t 0 + n
  | 0, _ => by show _ = _ + ((0 : Nat) : Int); unfold gItM; omega
  | n + 1, t => by
    rw [gItM_succ, show gHourM C (gItM C n t) 0 = gItM C n t 0 + 1 from sUp_eq, gItM_0]; omega
theorem tOk_itM {C : gCo} (hc : cOk C) : ∀ {n : Nat} {t : gSt}, tOk C t → t 0 + n ≤ 1999 → tOk C (gItM C n t)
  | 0, _, h, _ => h
  | n + 1, t, h, h9 => tOk_itM hc (n := n) (tOk_hourM hc h (by omega)) (by rw [show gHourM C t 0 = t 0 + 1 from sUp_eq]; omega)
theorem tPs_itM {C : gCo} : ∀ {n : Nat} {t : gSt}, tPs C t → tPs C (gItM C n t)
  | 0, _, h => h
  | n + 1, _, h => tPs_itM (n := n) (tPs_hourM h)
def gAsB (sn : Nat → Int) (t : gSt) (n : Int) : Nat → Nat → Bool
  | 0, _ => true
  | m + 1, i => if sn (3 * i) = n ∧ (999 < t 0 ∨ gBi (t 5) (sn (3 * i + 1)).toNat ≠ sn (3 * i + 2)) then false else gAsB sn t n m (i + 1)
theorem gAsB_iff {sn : Nat → Int} {t : gSt} {n : Int} : ∀ {m i : Nat}, gAsB sn t n m i = true ↔ ∀ k, i ≤ k → k < i + m → sn (3 * k) = n → t 0 ≤ 999 ∧ gBi (t 5) (sn (3 * k + 1)).toNat = sn (3 * k + 2)
  | 0, i => ⟨fun _ k h1 h2 => by omega, fun _ => rfl⟩
  | m + 1, i => by
    rw [show gAsB sn t n (m + 1) i = if sn (3 * i) = n ∧ (999 < t 0 ∨ gBi (t 5) (sn (3 * i + 1)).toNat ≠ sn (3 * i + 2)) then false else gAsB sn t n m (i + 1) from rfl]
    by_cases w : sn (3 * i) = n ∧ (999 < t 0 ∨ gBi (t 5) (sn (3 * i + 1)).toNat ≠ sn (3 * i + 2))
    · rw [if_pos w]
      refine ⟨fun e => (by cases e), fun e => ?_⟩
      have := e i (by omega) (by omega) w.1
      rcases w.2 with h | h
      · omega
      · exact absurd this.2 h
    · rw [if_neg w, gAsB_iff]
      refine ⟨fun e k h1 h2 h3 => ?_, fun e k h1 h2 h3 => e k (by omega) (by omega) h3⟩
      by_cases e2 : k = i
      · subst e2
        by_cases w1 : 999 < t 0
        · exact absurd ⟨h3, Or.inl w1⟩ w
        · by_cases w2 : gBi (t 5) (sn (3 * k + 1)).toNat = sn (3 * k + 2)
          · exact ⟨by omega, w2⟩
          · exact absurd ⟨h3, Or.inr w2⟩ w
      · exact e k (by omega) (by omega) h3
/-- strength v is left by what is seen -/
def gFitP (C : gCo) (sn : Nat → Int) (rm : Int) (t : gSt) (v : Nat) : Prop := ∀ k : Nat, (k : Int) < rm → t 0 + sn (3 * k) ≤ 999 ∧ gBi ((gIt C (sn (3 * k)).toNat (sUp t 2 v)) 5) (sn (3 * k + 1)).toNat = sn (3 * k + 2)
theorem gAgr_iff {C : gCo} {sn : Nat → Int} {t : gSt} {n : Int} {rm : Int} (hk : snOk C sn rm) : ∀ {m i : Nat}, ((i + m : Nat) : Int) ≤ rm → (gAgr sn t n m i = true ↔ ∀ k, i ≤ k → k < i + m → sn (3 * k) = n → gBi (t 5) (sn (3 * k + 1)).toNat = sn (3 * k + 2))
  | 0, i, _ => ⟨fun _ k h1 h2 => by omega, fun _ => rfl⟩
  | m + 1, i, hle => by
    rw [show gAgr sn t n (m + 1) i = if gAgr1 sn t n i then gAgr sn t n m (i + 1) else false from rfl]
    have h01 := (hk.2 i (by omega)).2.2
    have e1 : gAgr1 sn t n i = true ↔ (sn (3 * i) = n → gBi (t 5) (sn (3 * i + 1)).toNat = sn (3 * i + 2)) := by
      unfold gAgr1
      by_cases w : sn (3 * i) = n
      · rw [decide_eq_true w, Bool.true_and]
        unfold gBi
        rcases h01 with h | h <;> rw [h] <;> cases gBit (t 5) (sn (3 * i + 1)).toNat <;> simp [w]
      · rw [decide_eq_false w]; simp [w]
    by_cases w : gAgr1 sn t n i = true
    · rw [if_pos w, gAgr_iff hk (by omega)]
      refine ⟨fun e k h1 h2 h3 => ?_, fun e k h1 h2 h3 => e k (by omega) (by omega) h3⟩
      by_cases e2 : k = i
      · subst e2; exact e1.mp w h3
      · exact e k (by omega) (by omega) h3
    · rw [if_neg w]
      exact ⟨fun e => (by cases e), fun e => absurd (e1.mpr (e i (by omega) (by omega))) w⟩
theorem gFitL_iff {C : gCo} {sn : Nat → Int} {rm : Int} : ∀ {m : Nat} {n : Int} {t : gSt} {f : Bool}, gFitL C sn rm m n t f = true ↔ f = true ∧ ∀ i, i < m → gAgr sn (gIt C (i + 1) t) (n + i) rm.toNat 0 = true
  | 0, n, t, f => ⟨fun e => ⟨e, fun i hi => by omega⟩, fun e => e.1⟩
  | m + 1, n, t, f => by
    rw [show gFitL C sn rm (m + 1) n t f = if f then gFitL C sn rm m (n + 1) (gHour C t) (gAgr sn (gHour C t) n rm.toNat 0) else false from rfl]
    cases f with
    | false => exact ⟨fun e => (by cases e), fun e => (by cases e.1)⟩
    | true =>
      rw [if_pos rfl, gFitL_iff]
      refine ⟨fun e => ⟨rfl, fun i hi => ?_⟩, fun e => ⟨?_, fun i hi => ?_⟩⟩
      · match i, hi with
        | 0, _ => rw [show n + ((0 : Nat) : Int) = n by omega]; exact e.1
        | i + 1, hi => rw [show n + ((i + 1 : Nat) : Int) = n + 1 + i by omega]; exact e.2 i (by omega)
      · have := e.2 0 (by omega); rw [show n + ((0 : Nat) : Int) = n by omega] at this; exact this
      · have := e.2 (i + 1) (by omega); rw [show n + ((i + 1 : Nat) : Int) = n + 1 + i by omega] at this; exact this
theorem gLast_le {sn : Nat → Int} : ∀ {m i : Nat} {a : Int}, a ≤ gLast sn m i a ∧ (∀ k, i ≤ k → k < i + m → sn (3 * k) ≤ gLast sn m i a) ∧ (gLast sn m i a = a ∨ ∃ k, i ≤ k ∧ k < i + m ∧ gLast sn m i a = sn (3 * k))
  | 0, i, a => ⟨Int.le_refl _, fun k h1 h2 => by omega, Or.inl rfl⟩
  | m + 1, i, a => by
    rw [show gLast sn (m + 1) i a = gLast sn m (i + 1) (max a (sn (3 * i))) from rfl]
    have := @gLast_le sn m (i + 1) (max a (sn (3 * i)))
    refine ⟨by omega, fun k h1 h2 => ?_, ?_⟩
    · by_cases e : k = i
      · rw [e]; omega
      · exact this.2.1 k (by omega) (by omega)
    · rcases this.2.2 with h | ⟨k, h1, h2, h3⟩
      · by_cases w : a ≤ sn (3 * i)
        · exact Or.inr ⟨i, by omega, by omega, by omega⟩
        · exact Or.inl (by omega)
      · exact Or.inr ⟨k, by omega, by omega, h3⟩
theorem gFits_iff {C : gCo} {sn : Nat → Int} {rm : Int} {t : gSt} {v : Nat} (hk : snOk C sn rm) (h9 : t 0 ≤ 999) : gFits C sn rm t v = true ↔ gFitP C sn rm t v := by
  have hr := hk.1
  have hl := @gLast_le sn rm.toNat 0 0
  unfold gFits gFitP
  rw [gFitL_iff, Bool.and_eq_true, decide_eq_true_eq, gAgr_iff hk (by omega)]
  constructor
  · rintro ⟨⟨h1, h2⟩, h3⟩ k hkk
    have hs := (hk.2 k hkk).1
    have hle := hl.2.1 k (by omega) (by omega)
    refine ⟨by omega, ?_⟩
    by_cases w : sn (3 * k) = 0
    · have := h2 k (by omega) (by omega) w
      rw [w]; exact this
    · have := (gAgr_iff hk (by omega)).mp (h3 ((sn (3 * k)).toNat - 1) (by omega)) k (by omega) (by omega) (by omega)
      rw [show (sn (3 * k)).toNat - 1 + 1 = (sn (3 * k)).toNat by omega] at this
      exact this
  · intro h
    refine ⟨⟨?_, fun k _ h2 h3 => ?_⟩, fun i hi => (gAgr_iff hk (by omega)).mpr fun k _ h2 h3 => ?_⟩
    · rcases hl.2.2 with e | ⟨k, _, h2, e⟩
      · omega
      · have := (h k (by omega)).1; omega
    · have := (h k (by omega)).2; rw [h3] at this; exact this
    · have := (h k (by omega)).2
      rw [h3, show ((1 : Int) + (i : Int)).toNat = i + 1 by omega] at this
      exact this
variable {d S : Nat} {h : Nat × Option gNm} {I : Nat → Nat → Nat → Int32} {J : Nat → Nat → Nat → Int64} {Q : Option gV → gW → Prop}
theorem n_asSeen_loop {C : gCo} {t : gSt} {sn : Nat → Int} {rm n : Int} {a1 : Int32} (hc : cOk C) (hS : mS I C t) (hn : mSn I sn rm) (hk : snOk C sn rm) (h1 : a1.toInt = n) (K : ∀ x, (x = 0 ∨ x = 1) → (x = 1 ↔ gAsB sn t n rm.toNat 0 = true) → Q (some (.inl x)) (gwd S I J h)) : ∀ (m i : Nat) (a2 : Int32), ((i + m : Nat) : Int) = rm → a2.toInt = i → gAsB sn t n m i = gAsB sn t n rm.toNat 0 → (gq d 232 2 [some (.inr (.inr (some (50, 0)))), some (.inl (a1)), some (.inl (a2))] [] (gwd S I J h) Q)
  | 0, i, a2, hi, h2, he => by
    have hr := hk.1
    rw [gb_232_2, if_pos (by rw [z_le, hn.1]; omega), gb_232_73]
    exact K 1 (Or.inr rfl) ⟨fun _ => by rw [← he]; rfl, fun _ => rfl⟩
  | m + 1, i, a2, hi, h2, he => by
    have hr := hk.1
    have e1 : (1 : Int32).toInt = 1 := rfl
    have e2 : (2 : Int32).toInt = 2 := rfl
    have e3 : (3 : Int32).toInt = 3 := rfl
    have e20 : (20 : Int32).toInt = 20 := rfl
    have e999 : (999 : Int32).toInt = 999 := rfl
    have rH := hc.2.2.2.1
    have hki := hk.2 i (by omega)
    have q0 : (3 * a2).toInt = 3 * i := by rw [z_mul (by rw [h2, e3]; omega) (by rw [h2, e3]; omega), h2, e3]
    have q1 : (3 * a2 + 1).toInt = 3 * i + 1 := by rw [z_add (by omega) (by omega), q0, e1]
    have q2 : (3 * a2 + 2).toInt = 3 * i + 2 := by rw [z_add (by omega) (by omega), q0, e2]
    have n0 : (3 * a2).toNatClampNeg = 3 * i := by rw [z_n, q0]; omega
    have n1 : (3 * a2 + 1).toNatClampNeg = 3 * i + 1 := by rw [z_n, q1]; omega
    have n2 : (3 * a2 + 2).toNatClampNeg = 3 * i + 2 := by rw [z_n, q2]; omega
    have v0 := hn.2 (3 * i) (by omega)
    have v1 := hn.2 (3 * i + 1) (by omega)
    have v2 := hn.2 (3 * i + 2) (by omega)
    rw [show gAsB sn t n (m + 1) i = if sn (3 * i) = n ∧ (999 < t 0 ∨ gBi (t 5) (sn (3 * i + 1)).toNat ≠ sn (3 * i + 2)) then false else gAsB sn t n m (i + 1) from rfl] at he
    have next : ¬ (sn (3 * i) = n ∧ (999 < t 0 ∨ gBi (t 5) (sn (3 * i + 1)).toNat ≠ sn (3 * i + 2))) → (gq d 232 67 [some (.inr (.inr (some (50, 0)))), some (.inl (a1)), some (.inl (a2))] [] (gwd S I J h) Q) := fun hno => by
      rw [if_neg hno] at he
      rw [gb_232_67]
      exact n_asSeen_loop hc hS hn hk h1 K m (i + 1) _ (by omega) (by rw [z_add (by omega) (by omega), h2, e1]; rfl) he
    have bad : (sn (3 * i) = n ∧ (999 < t 0 ∨ gBi (t 5) (sn (3 * i + 1)).toNat ≠ sn (3 * i + 2))) → (gq d 232 65 [some (.inr (.inr (some (50, 0)))), some (.inl (a1)), some (.inl (a2))] [] (gwd S I J h) Q) := fun hy => by
      rw [if_pos hy] at he
      rw [gb_232_65]
      exact K 0 (Or.inl rfl) ⟨fun e => absurd e (by decide), fun e => by rw [← he] at e; cases e⟩
    rw [gb_232_2, if_neg (by rw [z_le, hn.1]; omega), gb_232_10]
    refine ⟨g_in.mpr (by omega), ?_⟩
    rw [n0, gb_232_18]
    by_cases w0 : sn (3 * i) = n
    case neg =>
      rw [if_neg (fun e => w0 (by rw [← v0, e, h1]))]
      exact next (fun e => w0 e.1)
    rw [if_pos (z_inj (by rw [v0, w0, h1])), gb_232_22]
    refine ⟨rfl, ?_⟩
    rw [show (0 : Int32).toNatClampNeg = 0 from rfl, gb_232_28]
    by_cases w1 : 999 < t 0
    · rw [if_pos (by rw [z_lt, hS.1.1]; omega)]
      exact bad ⟨w0, Or.inl w1⟩
    have q3 : (20 + I 64 0 (3 * i + 1)).toInt = ((20 + (sn (3 * i + 1)).toNat : Nat) : Int) := by rw [z_add (by omega) (by omega), v1, e20]; omega
    have n3 : (20 + I 64 0 (3 * i + 1)).toNatClampNeg = 20 + (sn (3 * i + 1)).toNat := by rw [z_n, q3]; omega
    have hf := hS.2.2 (sn (3 * i + 1)).toNat (by omega)
    rw [if_neg (by rw [z_lt, hS.1.1]; omega), gb_232_34]
    refine ⟨g_in.mpr (by omega), ?_⟩
    rw [n1, gb_232_50]
    refine ⟨g_in.mpr (by omega), ?_⟩
    rw [n3, gb_232_52]
    refine ⟨g_in.mpr (by omega), ?_⟩
    rw [n2, gb_232_62]
    by_cases w2 : gBi (t 5) (sn (3 * i + 1)).toNat = sn (3 * i + 2)
    · rw [if_pos (z_inj (by rw [hf, w2, v2]))]
      exact next (fun e => e.2.elim w1 (fun f => f w2))
    · rw [if_neg (fun e => w2 (by rw [← hf, e, v2]))]
      exact bad ⟨w0, Or.inr w2⟩
theorem n_asSeen {C : gCo} {t : gSt} {sn : Nat → Int} {rm n : Int} {a1 : Int32} {x2 : Option gV} (hc : cOk C) (hS : mS I C t) (hn : mSn I sn rm) (hk : snOk C sn rm) (h1 : a1.toInt = n) (K : ∀ x, (x = 0 ∨ x = 1) → (x = 1 ↔ gAsB sn t n rm.toNat 0 = true) → Q (some (.inl x)) (gwd S I J h)) : (gq d 232 0 [some (.inr (.inr (some (50, 0)))), some (.inl (a1)), x2] [] (gwd S I J h) Q) := by
  have hr := hk.1
  rw [gb_232_0]
  exact n_asSeen_loop hc hS hn hk h1 K rm.toNat 0 0 (by omega) rfl rfl
/-- all of hours 0 to n - 1 are as seen -/
def gAsAll (C : gCo) (sn : Nat → Int) (rm : Int) (u : gSt) (n : Nat) : Prop := ∀ i, i < n → gAsB sn (gItM C i u) i rm.toNat 0 = true
theorem gAsAll_fit {C : gCo} {sn : Nat → Int} {rm : Int} {t : gSt} {v : Nat} (hk : snOk C sn rm) (h9 : t 0 ≤ 999) : gAsAll C sn rm (sUp t 2 v) 31 ↔ gFits C sn rm t v = true := by
  have hr := hk.1
  rw [gFits_iff hk h9]
  unfold gAsAll gFitP
  constructor
  · intro h k hkk
    have hs := (hk.2 k hkk).1
    have := (gAsB_iff.mp (h (sn (3 * k)).toNat (by omega))) k (by omega) (by omega) (by omega)
    rw [gItM_0, sUp_ne (by decide)] at this
    have h1 : t 0 + sn (3 * k) ≤ 999 := by omega
    refine ⟨h1, ?_⟩
    rw [gItM_eq (by rw [sUp_ne (by decide)]; omega)] at this
    exact this.2
  · intro h i hi
    refine gAsB_iff.mpr fun k _ h2 h3 => ?_
    have := h k (by omega)
    rw [h3, Int.toNat_natCast] at this
    rw [gItM_eq (by rw [sUp_ne (by decide)]; omega)]
    refine ⟨?_, this.2⟩
    have e := @gItM_0 C i (sUp t 2 v)
    rw [gItM_eq (by rw [sUp_ne (by decide)]; omega), sUp_ne (by decide)] at e
    omega
