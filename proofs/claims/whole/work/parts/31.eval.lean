/-! Formulas as lists of numbers, worked out on a stack (the top first). -/
def gclip (x : Int) : Int := if 1000000 < x then 1000000 else if x < -1000000 then -1000000 else x
def gjoin (w a b : Int) : Int :=
  if w = 15 then (if 0 < a + b then 1 else 0)
  else if w = 16 then a * b
  else if w = 17 then min a b
  else if w = 18 then max a b
  else if w = 60 then (if a < b then 1 else 0)
  else if w = 62 then (if b < a then 1 else 0)
  else if w = 61 then (if a = b then 1 else 0)
  else if w = 43 then gclip (a + b)
  else if w = 45 then gclip (a - b)
  else if w = 42 then gclip (a * b)
  else (if b = 0 then 0 else a.fdiv b)
theorem gj_15 {a b : Int} : gjoin 15 a b = if 0 < a + b then 1 else 0 := by simp [gjoin]
theorem gj_16 {a b : Int} : gjoin 16 a b = a * b := by simp [gjoin]
theorem gj_17 {a b : Int} : gjoin 17 a b = min a b := by simp [gjoin]
theorem gj_18 {a b : Int} : gjoin 18 a b = max a b := by simp [gjoin]
theorem gj_60 {a b : Int} : gjoin 60 a b = if a < b then 1 else 0 := by simp [gjoin]
theorem gj_62 {a b : Int} : gjoin 62 a b = if b < a then 1 else 0 := by simp [gjoin]
theorem gj_61 {a b : Int} : gjoin 61 a b = if a = b then 1 else 0 := by simp [gjoin]
theorem gj_43 {a b : Int} : gjoin 43 a b = gclip (a + b) := by simp [gjoin]
theorem gj_45 {a b : Int} : gjoin 45 a b = gclip (a - b) := by simp [gjoin]
theorem gj_42 {a b : Int} : gjoin 42 a b = gclip (a * b) := by simp [gjoin]
theorem gj_47 {a b : Int} : gjoin 47 a b = if b = 0 then 0 else a.fdiv b := by simp [gjoin]
def gPop2 (f : Int → Int → Int) : List Int → List Int
  | b :: a :: s => f a b :: s
  | s => s
def gPop1 (f : Int → Int) : List Int → List Int
  | a :: s => f a :: s
  | s => s
/-- what one word does: c a number from 0 on, or -1 less a word -/
def gStep (V : Nat → Int) (c : Int) (s : List Int) : List Int :=
  if 0 ≤ c then c :: s
  else if -1 - c < 11 then V (-1 - c).toNat :: s
  else if c = -15 then 1 :: s
  else if c = -14 then gPop1 (fun a => 1 - a) s
  else gPop2 (gjoin (-1 - c)) s
def gAsks (c : Int) : Bool := decide (c = -12 ∨ c = -13)
def gRun1 (V : Nat → Int) : List Int → List Int → List Int × Int × List Int
  | [], s => ([], -1, s)
  | c :: cs, s => if gAsks c then (cs, -1 - c, s) else gRun1 V cs (gStep V c s)
def gRun (V : Nat → Int) (lf : Int → Int → Int) : List Int → List Int → List Int
  | [], s => s
  | c :: cs, s => gRun V lf cs (if gAsks c then gPop1 (lf (-1 - c)) s else gStep V c s)
def gBop (w : Int) : Bool := decide (w = 15 ∨ w = 16)
def gNop (w : Int) : Bool := decide (w = 17 ∨ w = 18 ∨ w = 43 ∨ w = 45 ∨ w = 42 ∨ w = 47)
def gCop (w : Int) : Bool := decide (w = 60 ∨ w = 61 ∨ w = 62)
def gT2 (x y : Bool) : List Bool → Option (List Bool)
  | a :: b :: s => if a = x ∧ b = x then some (y :: s) else none
  | _ => none
def gT1 (x : Bool) : List Bool → Option (List Bool)
  | a :: s => if a = x then some (x :: s) else none
  | _ => none
def gTy1 (al : Nat → Bool) (c : Int) (s : List Bool) : Option (List Bool) :=
  if 0 ≤ c then (if c ≤ 9999 then some (false :: s) else none)
  else if -1 - c < 11 then (if al (-1 - c).toNat then some (false :: s) else none)
  else if gAsks c then (if al (-1 - c).toNat then gT1 false s else none)
  else if c = -15 then some (true :: s)
  else if c = -14 then gT1 true s
  else if gBop (-1 - c) then gT2 true true s
  else if gNop (-1 - c) then gT2 false false s
  else if gCop (-1 - c) then gT2 false true s
  else none
def gTy (al : Nat → Bool) : List Int → List Bool → Option (List Bool)
  | [], s => some s
  | c :: cs, s => match gTy1 al c s with
    | some s' => if s'.length ≤ 60 then gTy al cs s' else none
    | none => none
def eVal (b : Bool) (v : Int) : Prop := if b then v = 0 ∨ v = 1 else -1000000 ≤ v ∧ v ≤ 1000000
def eVs : List Bool → List Int → Prop
  | [], [] => True
  | b :: bs, v :: vs => eVal b v ∧ eVs bs vs
  | _, _ => False
theorem eVs_len : ∀ {T : List Bool} {s : List Int}, eVs T s → s.length = T.length
  | [], [], _ => rfl
  | _ :: _, _ :: _, h => congrArg (· + 1) (eVs_len h.2)
  | [], _ :: _, h => h.elim
  | _ :: _, [], h => h.elim
theorem gclip_r (x : Int) : -1000000 ≤ gclip x ∧ gclip x ≤ 1000000 := by
  unfold gclip; split
  · omega
  · split <;> omega
theorem gfdiv_r {a b : Int} (ha : -1000000 ≤ a ∧ a ≤ 1000000) (hb : b ≠ 0) : -1000000 ≤ a.fdiv b ∧ a.fdiv b ≤ 1000000 := by
  have h1 := Int.mul_fdiv_add_fmod a b
  by_cases h : 0 < b
  · have h2 := Int.fmod_nonneg_of_pos a h
    have h3 := Int.fmod_lt_of_pos a h
    by_cases hq : 0 ≤ a.fdiv b
    · have : a.fdiv b ≤ b * a.fdiv b := by
        have := Int.mul_le_mul_of_nonneg_right (show (1 : Int) ≤ b by omega) hq
        omega
      omega
    · have : b * a.fdiv b ≤ a.fdiv b := by
        have := Int.mul_le_mul_of_nonneg_right (show (1 : Int) ≤ b by omega) (show 0 ≤ -a.fdiv b by omega)
        have e : b * -a.fdiv b = -(b * a.fdiv b) := Int.mul_neg _ _
        omega
      by_cases hq1 : a.fdiv b = -1
      · omega
      · have : b * (a.fdiv b + 1) ≤ a.fdiv b + 1 := by
          have := Int.mul_le_mul_of_nonneg_right (show (1 : Int) ≤ b by omega) (show 0 ≤ -(a.fdiv b + 1) by omega)
          have e : b * -(a.fdiv b + 1) = -(b * (a.fdiv b + 1)) := Int.mul_neg _ _
          omega
        have e2 : b * (a.fdiv b + 1) = b * a.fdiv b + b := by rw [Int.mul_add, Int.mul_one]
        omega
  · have hb' : 0 < -b := by omega
    have e := Int.neg_fdiv_neg a b
    have h1' := Int.mul_fdiv_add_fmod (-a) (-b)
    rw [e] at h1'
    have h2 := Int.fmod_nonneg_of_pos (-a) hb'
    have h3 := Int.fmod_lt_of_pos (-a) hb'
    generalize hq : a.fdiv b = q at *
    generalize hr : (-a).fmod (-b) = r at *
    generalize hB : -b = B at *
    have hm : B * q + r = -a := h1'
    by_cases hq0 : 0 ≤ q
    · have : q ≤ B * q := by
        have := Int.mul_le_mul_of_nonneg_right (show (1 : Int) ≤ B by omega) hq0
        omega
      omega
    · by_cases hq1 : q = -1
      · omega
      · have : B * (q + 1) ≤ q + 1 := by
          have := Int.mul_le_mul_of_nonneg_right (show (1 : Int) ≤ B by omega) (show 0 ≤ -(q + 1) by omega)
          have e : B * -(q + 1) = -(B * (q + 1)) := Int.mul_neg _ _
          omega
        have e2 : B * (q + 1) = B * q + B := by rw [Int.mul_add, Int.mul_one]
        omega
theorem gif_val {p : Prop} [Decidable p] : eVal true (if p then 1 else 0) := by
  by_cases hp : p
  · rw [if_pos hp]; exact Or.inr rfl
  · rw [if_neg hp]; exact Or.inl rfl
theorem gjoin_b {w a b : Int} (hw : gBop w = true) (ha : eVal true a) (hb : eVal true b) : eVal true (gjoin w a b) := by
  have hw' : w = 15 ∨ w = 16 := of_decide_eq_true hw
  rcases hw' with rfl | rfl
  · rw [gj_15]; exact gif_val
  · rw [gj_16]
    simp only [eVal, if_true] at ha hb ⊢
    rcases ha with rfl | rfl <;> rcases hb with rfl | rfl <;> decide
theorem gjoin_c {w a b : Int} (hw : gCop w = true) : eVal true (gjoin w a b) := by
  have hw' : w = 60 ∨ w = 61 ∨ w = 62 := of_decide_eq_true hw
  rcases hw' with rfl | rfl | rfl
  · rw [gj_60]; exact gif_val
  · rw [gj_61]; exact gif_val
  · rw [gj_62]; exact gif_val
theorem gjoin_n {w a b : Int} (hw : gNop w = true) (ha : eVal false a) (hb : eVal false b) : eVal false (gjoin w a b) := by
  have hw' : w = 17 ∨ w = 18 ∨ w = 43 ∨ w = 45 ∨ w = 42 ∨ w = 47 := of_decide_eq_true hw
  have ha' : -1000000 ≤ a ∧ a ≤ 1000000 := ha
  have hb' : -1000000 ≤ b ∧ b ≤ 1000000 := hb
  show -1000000 ≤ gjoin w a b ∧ gjoin w a b ≤ 1000000
  rcases hw' with rfl | rfl | rfl | rfl | rfl | rfl
  · rw [gj_17]; omega
  · rw [gj_18]; omega
  · rw [gj_43]; exact gclip_r _
  · rw [gj_45]; exact gclip_r _
  · rw [gj_42]; exact gclip_r _
  · rw [gj_47]
    split
    · omega
    · exact gfdiv_r ha' ‹_›
theorem gT2_inv {x y : Bool} {T T' : List Bool} (h : gT2 x y T = some T') : ∃ T0, T = x :: x :: T0 ∧ T' = y :: T0 := by
  match T, h with
  | a :: b :: s, h' =>
    simp only [gT2] at h'
    split at h'
    · rename_i e; obtain ⟨e1, e2⟩ := e; rw [e1, e2]; exact ⟨s, rfl, (Option.some.inj h').symm⟩
    · cases h'
theorem gT1_inv {x : Bool} {T T' : List Bool} (h : gT1 x T = some T') : ∃ T0, T = x :: T0 ∧ T' = x :: T0 := by
  match T, h with
  | a :: s, h' =>
    simp only [gT1] at h'
    split at h'
    · rename_i e; rw [e]; exact ⟨s, rfl, (Option.some.inj h').symm⟩
    · cases h'
theorem eVs_cons {b : Bool} {T : List Bool} {s : List Int} (h : eVs (b :: T) s) : ∃ v s', s = v :: s' ∧ eVal b v ∧ eVs T s' := by
  match s, h with
  | v :: s', h => exact ⟨v, s', rfl, h.1, h.2⟩
/-- an ordinary word keeps values right -/
theorem gStep_ok {al : Nat → Bool} {V : Nat → Int} {c : Int} {T T' : List Bool} {s : List Int} (ht : gTy1 al c T = some T') (ha : gAsks c = false) (hV : ∀ w, w < 11 → al w = true → -1000000 ≤ V w ∧ V w ≤ 1000000) (hs : eVs T s) : eVs T' (gStep V c s) := by
  unfold gTy1 at ht
  unfold gStep
  split at ht
  · rename_i h0
    rw [if_pos h0]
    split at ht
    · cases ht; exact ⟨show -1000000 ≤ c ∧ c ≤ 1000000 by omega, hs⟩
    · cases ht
  · rename_i h0
    rw [if_neg h0]
    split at ht
    · rename_i h1
      rw [if_pos h1]
      split at ht
      · rename_i h2; cases ht; exact ⟨hV _ (by omega) h2, hs⟩
      · cases ht
    · rename_i h1
      rw [if_neg h1]
      rw [if_neg (by rw [ha]; exact Bool.false_ne_true)] at ht
      split at ht
      · rename_i h2; rw [if_pos h2]; cases ht; exact ⟨Or.inr rfl, hs⟩
      · rename_i h2
        rw [if_neg h2]
        split at ht
        · rename_i h3
          rw [if_pos h3]
          obtain ⟨T0, rfl, rfl⟩ := gT1_inv ht
          obtain ⟨v, s', rfl, hv, hs'⟩ := eVs_cons hs
          refine ⟨?_, hs'⟩
          simp only [eVal, if_true] at hv ⊢
          omega
        · rename_i h3
          rw [if_neg h3]
          split at ht
          · rename_i h4
            obtain ⟨T0, rfl, rfl⟩ := gT2_inv ht
            obtain ⟨v, s', rfl, hv, hs'⟩ := eVs_cons hs
            obtain ⟨u, s2, rfl, hu, hs2⟩ := eVs_cons hs'
            exact ⟨gjoin_b h4 hu hv, hs2⟩
          · split at ht
            · rename_i h4
              obtain ⟨T0, rfl, rfl⟩ := gT2_inv ht
              obtain ⟨v, s', rfl, hv, hs'⟩ := eVs_cons hs
              obtain ⟨u, s2, rfl, hu, hs2⟩ := eVs_cons hs'
              exact ⟨gjoin_n h4 hu hv, hs2⟩
            · split at ht
              · rename_i h4
                obtain ⟨T0, rfl, rfl⟩ := gT2_inv ht
                obtain ⟨v, s', rfl, hv, hs'⟩ := eVs_cons hs
                obtain ⟨u, s2, rfl, hu, hs2⟩ := eVs_cons hs'
                exact ⟨gjoin_c h4, hs2⟩
              · cases ht
/-- a stack as a row holds it: each value at the place of its depth -/
def gHp (H : Nat → Int32) : List Int → Prop
  | [] => True
  | v :: s => (H s.length).toInt = v ∧ gHp H s
theorem gHp_congr {H H' : Nat → Int32} : ∀ {s : List Int}, (∀ k, k < s.length → H' k = H k) → gHp H s → gHp H' s
  | [], _, _ => trivial
  | v :: s, e, h => ⟨by rw [e _ (Nat.lt_succ_self _)]; exact h.1, gHp_congr (fun k hk => e k (Nat.lt_succ_of_lt hk)) h.2⟩
def gHl (H : Nat → Int64) : List Int → Prop
  | [] => True
  | v :: s => (H s.length).toInt = v ∧ gHl H s
theorem gHl_congr {H H' : Nat → Int64} : ∀ {s : List Int}, (∀ k, k < s.length → H' k = H k) → gHl H s → gHl H' s
  | [], _, _ => trivial
  | v :: s, e, h => ⟨by rw [e _ (Nat.lt_succ_self _)]; exact h.1, gHl_congr (fun k hk => e k (Nat.lt_succ_of_lt hk)) h.2⟩
/-- numbers as a row holds them from a place on -/
def gCd (H : Nat → Int32) (f : Int → Int) : Nat → List Int → Prop
  | _, [] => True
  | a, c :: cs => (H a).toInt = f c ∧ gCd H f (a + 1) cs
theorem gCd_congr {H H' : Nat → Int32} {f : Int → Int} : ∀ {l : List Int} {a : Nat}, (∀ k, a ≤ k → k < a + l.length → H' k = H k) → gCd H f a l → gCd H' f a l
  | [], _, _, _ => trivial
  | c :: cs, a, e, h => ⟨by rw [e a (Nat.le_refl _) (by simp)]; exact h.1, gCd_congr (fun k h1 h2 => e k (by omega) (by rw [List.length_cons]; omega)) h.2⟩
theorem gCd_app {H : Nat → Int32} {f : Int → Int} : ∀ {l l' : List Int} {a : Nat}, gCd H f a (l ++ l') ↔ gCd H f a l ∧ gCd H f (a + l.length) l'
  | [], l', a => by simp [gCd]
  | c :: cs, l', a => by
    simp only [List.cons_append, gCd, List.length_cons]
    rw [gCd_app, show a + 1 + cs.length = a + (cs.length + 1) by omega, and_assoc]
