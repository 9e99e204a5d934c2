/-! The tape as tokens: where one begins, and whether it stands right behind a word or a number. -/
def lB (tp : Nat → Int) (n k : Nat) : Int := if k < n then tp k else -1
def lIsL (x : Int) : Bool := decide (97 ≤ x ∧ x ≤ 122)
def lIsD (x : Int) : Bool := decide (48 ≤ x ∧ x ≤ 57)
def lIsB (x : Int) : Bool := decide (x = 10 ∨ x = 32)
theorem lIsL_iff {x : Int} : lIsL x = true ↔ 97 ≤ x ∧ x ≤ 122 := decide_eq_true_iff
theorem lIsD_iff {x : Int} : lIsD x = true ↔ 48 ≤ x ∧ x ≤ 57 := decide_eq_true_iff
theorem lIsB_iff {x : Int} : lIsB x = true ↔ x = 10 ∨ x = 32 := decide_eq_true_iff
theorem lIsL_f {x : Int} : lIsL x = false ↔ ¬ (97 ≤ x ∧ x ≤ 122) := decide_eq_false_iff_not
theorem lIsD_f {x : Int} : lIsD x = false ↔ ¬ (48 ≤ x ∧ x ≤ 57) := decide_eq_false_iff_not
theorem lIsB_f {x : Int} : lIsB x = false ↔ ¬ (x = 10 ∨ x = 32) := decide_eq_false_iff_not
def lW (p : Int → Bool) (tp : Nat → Int) (n : Nat) : Nat → Nat → Nat
  | 0, k => k
  | f + 1, k => if p (lB tp n k) = true then lW p tp n f (k + 1) else k
/-- the first place from k on that isn't of a sort -/
def lRun (p : Int → Bool) (tp : Nat → Int) (n k : Nat) : Nat := lW p tp n (n - k) k
section LRun
variable {p : Int → Bool} {tp : Nat → Int} {n : Nat}
theorem lB_lt {k : Nat} (h : k < n) : lB tp n k = tp k := if_pos h
theorem lB_ge {k : Nat} (h : n ≤ k) : lB tp n k = -1 := if_neg (by omega)
theorem lRun_t {k : Nat} (h : p (lB tp n k) = true) (hk : k < n) : lRun p tp n k = lRun p tp n (k + 1) := by
  unfold lRun
  rw [show n - k = (n - (k + 1)) + 1 by omega]
  exact if_pos h
theorem lRun_f {k : Nat} (h : p (lB tp n k) = false) : lRun p tp n k = k := by
  unfold lRun
  cases n - k with
  | zero => rfl
  | succ m => exact if_neg (by rw [h]; exact Bool.false_ne_true)
theorem lRun_all (hp : p (-1) = false) : ∀ (m k : Nat), n - k = m → k ≤ lRun p tp n k ∧ (k ≤ n → lRun p tp n k ≤ n) ∧ p (lB tp n (lRun p tp n k)) = false ∧ ∀ j, k ≤ j → j < lRun p tp n k → p (lB tp n j) = true
  | 0, k, hm => by
    have e : lRun p tp n k = k := by unfold lRun; rw [hm]; rfl
    rw [e]
    exact ⟨Nat.le_refl _, id, by rw [lB_ge (by omega)]; exact hp, fun j h1 h2 => absurd h2 (by omega)⟩
  | m + 1, k, hm => by
    cases h : p (lB tp n k) with
    | false =>
      rw [lRun_f h]
      exact ⟨Nat.le_refl _, id, h, fun j h1 h2 => absurd h2 (by omega)⟩
    | true =>
      have ih := lRun_all hp m (k + 1) (by omega)
      rw [lRun_t h (by omega)]
      exact ⟨by omega, fun _ => ih.2.1 (by omega), ih.2.2.1, fun j h1 h2 => by
        by_cases e : j = k
        · rw [e]; exact h
        · exact ih.2.2.2 j (by omega) h2⟩
theorem lRun_ge (hp : p (-1) = false) {k : Nat} : k ≤ lRun p tp n k := (lRun_all hp _ k rfl).1
theorem lRun_le (hp : p (-1) = false) {k : Nat} (h : k ≤ n) : lRun p tp n k ≤ n := (lRun_all hp _ k rfl).2.1 h
theorem lRun_stop (hp : p (-1) = false) {k : Nat} : p (lB tp n (lRun p tp n k)) = false := (lRun_all hp _ k rfl).2.2.1
theorem lRun_in (hp : p (-1) = false) {k j : Nat} (h1 : k ≤ j) (h2 : j < lRun p tp n k) : p (lB tp n j) = true := (lRun_all hp _ k rfl).2.2.2 j h1 h2
theorem lRun_idem (hp : p (-1) = false) {k : Nat} : lRun p tp n (lRun p tp n k) = lRun p tp n k := lRun_f (lRun_stop hp)
theorem lRun_mid (hp : p (-1) = false) {k j : Nat} (h1 : k ≤ j) (h2 : j ≤ lRun p tp n k) : lRun p tp n j = lRun p tp n k := by
  have hall := lRun_all (tp := tp) (n := n) hp _ j rfl
  by_cases e : lRun p tp n j < lRun p tp n k
  · have := lRun_in hp (by omega) e
    rw [hall.2.2.1] at this; cases this
  · by_cases e2 : lRun p tp n k < lRun p tp n j
    · have h3 := hall.2.2.2 _ h2 e2
      rw [lRun_stop hp] at h3; cases h3
    · omega
end LRun
theorem lL_m1 : lIsL (-1) = false := rfl
theorem lD_m1 : lIsD (-1) = false := rfl
theorem lBl_m1 : lIsB (-1) = false := rfl
abbrev lSk (tp : Nat → Int) (n k : Nat) : Nat := lRun lIsB tp n k
def lEn (tp : Nat → Int) (n s : Nat) : Nat := if lIsL (lB tp n s) = true then lRun lIsL tp n s else if lIsD (lB tp n s) = true then lRun lIsD tp n s else if s < n then s + 1 else s
def lKd (tp : Nat → Int) (n s : Nat) (g : Bool) : Int := if lIsL (lB tp n s) = true then (if g = true then -4 else -2) else if lIsD (lB tp n s) = true then (if g = true then -4 else -3) else lB tp n s
/-- the tape's words: those of formulas, statements and questions -/
def gWL : List (List Int) := [[104,111,117,114], [109,105,108,101], [115,116,114,101,110,103,116,104], [108,105,103,104,116], [112,97,99,101], [104,97,110,100,101,100], [114,117,110], [102,97,114], [110,117,109,98,101,114], [99,97,114,101], [112,97,115,115,101,100], [108,105,116], [102,114,111,109], [110,111,116], [97,108,108], [111,114], [97,110,100], [109,105,110], [109,97,120], [99,111,117,114,115,101], [98,101,97,114,101,114], [97,116], [104,111,117,115,101], [100,97,114,107], [119,97,110,101,115], [116,97,107,101,115], [116,114,105,112], [102,105,114,115,116], [108,97,115,116], [111,102,116,101,110], [116,111,116,97,108], [109,111,115,116], [108,101,97,115,116]]
def gIx (x : List Int) : List (List Int) → Int → Int
  | [], _ => -1
  | w :: ws, i => if x = w then i else gIx x ws (i + 1)
def lSl (tp : Nat → Int) : Nat → Nat → List Int
  | 0, _ => []
  | m + 1, s => tp s :: lSl tp m (s + 1)
def lWd (tp : Nat → Int) (s e : Nat) : Int := gIx (lSl tp (e - s) s) gWL 0
theorem gIx_r {x : List Int} : ∀ {ws : List (List Int)} {i : Int}, 0 ≤ i → gIx x ws i = -1 ∨ i ≤ gIx x ws i ∧ gIx x ws i < i + ws.length
  | [], i, _ => Or.inl rfl
  | w :: ws, i, h => by
    unfold gIx
    split
    · right; simp only [List.length_cons]; omega
    · rcases @gIx_r x ws (i + 1) (by omega) with h1 | h1
      · exact Or.inl h1
      · right; simp only [List.length_cons]; omega
theorem gIx_at {x : List Int} : ∀ {ws : List (List Int)} {i : Int}, 0 ≤ i → gIx x ws i ≠ -1 → ws.getD (gIx x ws i - i).toNat [] = x
  | [], i, _, h => absurd rfl h
  | w :: ws, i, h0, h => by
    unfold gIx at h ⊢
    split
    · rename_i e; rw [show (i - i).toNat = 0 by omega, e]; rfl
    · rename_i e
      rw [if_neg e] at h
      rcases @gIx_r x ws (i + 1) (by omega) with h1 | h1
      · exact absurd h1 h
      · have := @gIx_at x ws (i + 1) (by omega) h
        rw [show (gIx x ws (i + 1) - i).toNat = (gIx x ws (i + 1) - (i + 1)).toNat + 1 by omega]
        exact this
theorem gWL_ix : ∀ i, i < 33 → gIx (gWL.getD i []) gWL 0 = i := by decide +kernel
theorem gWL_at {x : List Int} {i : Nat} (hi : i < 33) : gIx x gWL 0 = i ↔ x = gWL.getD i [] := by
  constructor
  · intro h
    have := gIx_at (x := x) (ws := gWL) (i := 0) (by omega) (by omega)
    rw [h] at this
    rw [← this]; congr 1
  · intro h; rw [h]; exact gWL_ix i hi
theorem lWd_r {tp : Nat → Int} {s e : Nat} : -1 ≤ lWd tp s e ∧ lWd tp s e < 33 := by
  rcases @gIx_r (lSl tp (e - s) s) gWL 0 (by omega) with h | h
  · unfold lWd; omega
  · have : (gWL.length : Int) = 33 := rfl
    unfold lWd; omega
theorem lWd_at {tp : Nat → Int} {s e i : Nat} (hi : i < 33) : lWd tp s e = i ↔ lSl tp (e - s) s = gWL.getD i [] := gWL_at hi
theorem lSl_len {tp : Nat → Int} : ∀ {m s : Nat}, (lSl tp m s).length = m
  | 0, _ => rfl
  | m + 1, s => congrArg (· + 1) lSl_len
theorem lSl_get {tp : Nat → Int} : ∀ {m s k : Nat}, k < m → (lSl tp m s).getD k 0 = tp (s + k)
  | m + 1, s, 0, _ => rfl
  | m + 1, s, k + 1, h => by
    have := @lSl_get tp m (s + 1) k (by omega)
    rw [show s + (k + 1) = s + 1 + k by omega, ← this]; rfl
theorem lSl_eq {tp : Nat → Int} : ∀ {m s : Nat} {w : List Int}, w.length = m → (∀ k, k < m → tp (s + k) = w.getD k 0) → lSl tp m s = w
  | 0, s, w, hw, _ => (List.eq_nil_of_length_eq_zero hw).symm
  | m + 1, s, [], hw, _ => by simp at hw
  | m + 1, s, c :: w, hw, h => by
    have h1 := h 0 (by omega)
    have h2 := @lSl_eq tp m (s + 1) w (by simpa using hw) (fun k hk => by have := h (k + 1) (by omega); rw [show s + 1 + k = s + (k + 1) by omega, this]; rfl)
    show tp s :: lSl tp m (s + 1) = c :: w
    rw [h2, show tp s = c from h1]
/-- digits as a number -/
def lDg (tp : Nat → Int) (s : Nat) : Nat → Int
  | 0 => 0
  | k + 1 => 10 * lDg tp s k + tp (s + k) - 48
theorem lDg_r {tp : Nat → Int} {s : Nat} : ∀ {k : Nat}, (∀ j, j < k → 48 ≤ tp (s + j) ∧ tp (s + j) ≤ 57) → 0 ≤ lDg tp s k
  | 0, _ => Int.le_refl _
  | k + 1, h => by
    have := @lDg_r tp s k (fun j hj => h j (by omega))
    have := h k (by omega)
    show 0 ≤ 10 * lDg tp s k + tp (s + k) - 48
    omega
theorem lDg_4 {tp : Nat → Int} {s k : Nat} (hk : k ≤ 4) (h : ∀ j, j < k → 48 ≤ tp (s + j) ∧ tp (s + j) ≤ 57) : lDg tp s k ≤ 9999 := by
  have e : k = 0 ∨ k = 1 ∨ k = 2 ∨ k = 3 ∨ k = 4 := by omega
  rcases e with rfl | rfl | rfl | rfl | rfl
  · simp [lDg]
  · have := h 0 (by omega); simp only [lDg]; omega
  · have := h 0 (by omega); have := h 1 (by omega); simp only [lDg]; omega
  · have := h 0 (by omega); have := h 1 (by omega); have := h 2 (by omega); simp only [lDg]; omega
  · have := h 0 (by omega); have := h 1 (by omega); have := h 2 (by omega); have := h 3 (by omega); simp only [lDg]; omega
/-- a fault's sort and place, or a place to read on from -/
abbrev lT : Type := (Int × Int) ⊕ (Nat × Bool)
def lNx (tp : Nat → Int) (n s : Nat) (g : Bool) : Nat × Bool := (lSk tp n (lEn tp n s), decide (lKd tp n s g = -2 ∨ lKd tp n s g = -3) && decide (lSk tp n (lEn tp n s) = lEn tp n s))
section LTok
variable {tp : Nat → Int} {n s : Nat} {g : Bool}
theorem lEn_L (h : lIsL (lB tp n s) = true) : lEn tp n s = lRun lIsL tp n s := if_pos h
theorem lNotD_L (h : lIsL (lB tp n s) = true) : lIsD (lB tp n s) = false := by
  rw [lIsL_iff] at h; rw [lIsD_f]; omega
theorem lNotL_D (h : lIsD (lB tp n s) = true) : lIsL (lB tp n s) = false := by
  rw [lIsD_iff] at h; rw [lIsL_f]; omega
theorem lEn_D (h : lIsD (lB tp n s) = true) : lEn tp n s = lRun lIsD tp n s := by unfold lEn; rw [lNotL_D h, if_neg Bool.false_ne_true, if_pos h]
theorem lEn_o (h1 : lIsL (lB tp n s) = false) (h2 : lIsD (lB tp n s) = false) : lEn tp n s = if s < n then s + 1 else s := by unfold lEn; rw [h1, h2, if_neg Bool.false_ne_true, if_neg Bool.false_ne_true]
theorem lKd_L (h : lIsL (lB tp n s) = true) : lKd tp n s g = if g = true then -4 else -2 := if_pos h
theorem lKd_D (h : lIsD (lB tp n s) = true) : lKd tp n s g = if g = true then -4 else -3 := by unfold lKd; rw [lNotL_D h, if_neg Bool.false_ne_true, if_pos h]
theorem lKd_o (h1 : lIsL (lB tp n s) = false) (h2 : lIsD (lB tp n s) = false) : lKd tp n s g = lB tp n s := by unfold lKd; rw [h1, h2, if_neg Bool.false_ne_true, if_neg Bool.false_ne_true]
theorem lB_le {k : Nat} (h : lB tp n k ≠ -1) : k < n := by
  by_cases e : k < n
  · exact e
  · exact absurd (lB_ge (by omega)) h
theorem lEn_r (hs : s ≤ n) : s ≤ lEn tp n s ∧ lEn tp n s ≤ n ∧ (s < n → s < lEn tp n s) := by
  cases h1 : lIsL (lB tp n s) with
  | true =>
    have hk : s < n := lB_le (tp := tp) (by rw [lIsL_iff] at h1; omega)
    rw [lEn_L h1]
    have := lRun_t h1 hk
    have := lRun_ge (tp := tp) (n := n) lL_m1 (k := s + 1)
    exact ⟨lRun_ge lL_m1, lRun_le lL_m1 hs, fun _ => by omega⟩
  | false =>
    cases h2 : lIsD (lB tp n s) with
    | true =>
      have hk : s < n := lB_le (tp := tp) (by rw [lIsD_iff] at h2; omega)
      rw [lEn_D h2]
      have := lRun_t h2 hk
      have := lRun_ge (tp := tp) (n := n) lD_m1 (k := s + 1)
      exact ⟨lRun_ge lD_m1, lRun_le lD_m1 hs, fun _ => by omega⟩
    | false => rw [lEn_o h1 h2]; split <;> omega
theorem lSk_r {k : Nat} (hk : k ≤ n) : k ≤ lSk tp n k ∧ lSk tp n k ≤ n := ⟨lRun_ge lBl_m1, lRun_le lBl_m1 hk⟩
theorem lNx_r (hs : s ≤ n) : s ≤ (lNx tp n s g).1 ∧ (lNx tp n s g).1 ≤ n ∧ (s < n → s < (lNx tp n s g).1) ∧ lEn tp n s ≤ (lNx tp n s g).1 := by
  have h1 := lEn_r (tp := tp) hs
  have h2 := lSk_r (tp := tp) h1.2.1
  exact ⟨by show s ≤ lSk tp n _; omega, h2.2, fun h => by show s < lSk tp n _; have := h1.2.2 h; omega, h2.1⟩
theorem lNx_sk : lSk tp n (lNx tp n s g).1 = (lNx tp n s g).1 := lRun_idem lBl_m1
/-- a sign that is neither letter nor digit nor missing -/
theorem lKd_sign {c : Int} (hc : 0 ≤ c) (hl : lIsL c = false) (hd : lIsD c = false) : lKd tp n s g = c ↔ lB tp n s = c := by
  cases h1 : lIsL (lB tp n s) with
  | true =>
    rw [lKd_L h1]
    constructor
    · intro h; split at h <;> omega
    · intro h; rw [h, hl] at h1; cases h1
  | false =>
    cases h2 : lIsD (lB tp n s) with
    | true =>
      rw [lKd_D h2]
      constructor
      · intro h; split at h <;> omega
      · intro h; rw [h, hd] at h2; cases h2
    | false => rw [lKd_o h1 h2]
theorem lB_r (ho : ∀ j, j < n → 0 ≤ tp j ∧ tp j ≤ 255) : -1 ≤ lB tp n s ∧ lB tp n s ≤ 255 ∧ (s < n → 0 ≤ lB tp n s) := by
  by_cases h : s < n
  · rw [lB_lt h]; have := ho s h; exact ⟨by omega, by omega, fun _ => by omega⟩
  · rw [lB_ge (by omega)]; exact ⟨by omega, by omega, fun e => absurd e h⟩
theorem lKd_word (ho : ∀ j, j < n → 0 ≤ tp j ∧ tp j ≤ 255) : lKd tp n s g = -2 ↔ lIsL (lB tp n s) = true ∧ g = false := by
  cases h1 : lIsL (lB tp n s) with
  | true => rw [lKd_L h1]; cases g <;> simp
  | false =>
    cases h2 : lIsD (lB tp n s) with
    | true => rw [lKd_D h2]; cases g <;> simp
    | false =>
      rw [lKd_o h1 h2]
      have := lB_r (s := s) ho
      constructor
      · intro h; omega
      · intro h; cases h.1
theorem lKd_num (ho : ∀ j, j < n → 0 ≤ tp j ∧ tp j ≤ 255) : lKd tp n s g = -3 ↔ lIsD (lB tp n s) = true ∧ g = false := by
  cases h1 : lIsL (lB tp n s) with
  | true => rw [lKd_L h1, lNotD_L h1]; cases g <;> simp
  | false =>
    cases h2 : lIsD (lB tp n s) with
    | true => rw [lKd_D h2]; cases g <;> simp
    | false =>
      rw [lKd_o h1 h2]
      have := lB_r (s := s) ho
      constructor
      · intro h; omega
      · intro h; cases h.1
theorem lKd_end (ho : ∀ j, j < n → 0 ≤ tp j ∧ tp j ≤ 255) : lKd tp n s g = -1 ↔ ¬ s < n := by
  have hr := lB_r (s := s) ho
  cases h1 : lIsL (lB tp n s) with
  | true =>
    have := lB_le (tp := tp) (n := n) (k := s) (by rw [lIsL_iff] at h1; omega)
    rw [lKd_L h1]; cases g <;> simp <;> omega
  | false =>
    cases h2 : lIsD (lB tp n s) with
    | true =>
      have := lB_le (tp := tp) (n := n) (k := s) (by rw [lIsD_iff] at h2; omega)
      rw [lKd_D h2]; cases g <;> simp <;> omega
    | false =>
      rw [lKd_o h1 h2]
      constructor
      · intro h e; have := hr.2.2 e; omega
      · intro h; exact lB_ge (by omega)
end LTok
