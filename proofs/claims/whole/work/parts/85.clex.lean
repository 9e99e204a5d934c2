/-! The class reads tokens: a word's code, the next token, what is expected. -/
def gFlat : List (List Int) → List Int
  | [] => []
  | w :: ws => w ++ (32 :: gFlat ws)
/-- the tape as the class holds it, and its words -/
def kTx (I : Nat → Nat → Nat → Int32) (tp : Nat → Int) (n : Nat) : Prop := (∀ j, j < n → (I 12 0 j &&& 255).toInt = tp j ∧ -128 ≤ (I 12 0 j).toInt ∧ (I 12 0 j).toInt ≤ 127) ∧ (I 11 0 1).toInt = n ∧ n ≤ 1600 ∧ (∀ j, j < n → 0 ≤ tp j ∧ tp j ≤ 255) ∧ gCd (I 3 0) id 0 (gFlat gWL)
theorem kTx_congr {I I' : Nat → Nat → Nat → Int32} {tp : Nat → Int} {n : Nat} (h : kTx I tp n) (e1 : ∀ j, I' 12 0 j = I 12 0 j) (e2 : I' 11 0 1 = I 11 0 1) (e3 : ∀ j, I' 3 0 j = I 3 0 j) : kTx I' tp n := ⟨fun j hj => by rw [e1]; exact h.1 j hj, by rw [e2]; exact h.2.1, h.2.2.1, h.2.2.2.1, gCd_congr (fun k _ _ => e3 k) h.2.2.2.2⟩
/-- where the class stands -/
def kTk (I : Nat → Nat → Nat → Int32) (tp : Nat → Int) (n : Nat) : lT → Prop
  | .inl (f, p) => (I 11 0 2).toInt = -4 ∧ (I 11 0 6).toInt = f ∧ f ≠ 0 ∧ (I 11 0 7).toInt = p
  | .inr (s, g) => (I 11 0 2).toInt = lKd tp n s g ∧ (I 11 0 3).toInt = s ∧ (I 11 0 4).toInt = lEn tp n s ∧ I 11 0 6 = 0 ∧ (I 11 0 7).toInt = -1 ∧ s ≤ n ∧ (lIsL (lB tp n s) = true → (I 11 0 5).toInt = lWd tp s (lEn tp n s)) ∧ (lIsD (lB tp n s) = true → (I 11 0 5).toInt = min (lDg tp s (lEn tp n s - s)) 9999)
theorem kTk_congr {I I' : Nat → Nat → Nat → Int32} {tp : Nat → Int} {n : Nat} {τ : lT} (h : kTk I tp n τ) (e : ∀ j, 2 ≤ j → j ≤ 7 → I' 11 0 j = I 11 0 j) : kTk I' tp n τ := by
  match τ, h with
  | .inl (f, p), h => exact ⟨by rw [e 2 (by omega) (by omega)]; exact h.1, by rw [e 6 (by omega) (by omega)]; exact h.2.1, h.2.2.1, by rw [e 7 (by omega) (by omega)]; exact h.2.2.2⟩
  | .inr (s, g), h => exact ⟨by rw [e 2 (by omega) (by omega)]; exact h.1, by rw [e 3 (by omega) (by omega)]; exact h.2.1, by rw [e 4 (by omega) (by omega)]; exact h.2.2.1, by rw [e 6 (by omega) (by omega)]; exact h.2.2.2.1, by rw [e 7 (by omega) (by omega)]; exact h.2.2.2.2.1, h.2.2.2.2.2.1, by rw [e 5 (by omega) (by omega)]; exact h.2.2.2.2.2.2.1, by rw [e 5 (by omega) (by omega)]; exact h.2.2.2.2.2.2.2⟩
variable {d S : Nat} {h : Nat × Option gNm} {I : Nat → Nat → Nat → Int32} {J : Nat → Nat → Nat → Int64} {Q : Option gV → gW → Prop}
theorem byte_tbl : ∀ k : Nat, k < 256 → (Int32.ofInt ((k : Int) - 128) &&& 255).toInt = if 128 ≤ k then (k : Int) - 128 else (k : Int) + 128 := by decide +kernel
theorem z_byv {x : Int32} (h0 : -128 ≤ x.toInt) (h1 : x.toInt ≤ 127) : (x &&& 255).toInt = if 0 ≤ x.toInt then x.toInt else x.toInt + 256 := by
  have hx : x = Int32.ofInt (((x.toInt + 128).toNat : Nat) - 128 : Int) := z_inj (by rw [z_of (by omega) (by omega)]; omega)
  have := byte_tbl (x.toInt + 128).toNat (by omega)
  rw [← hx] at this
  rw [this]
  split <;> split <;> omega
theorem char_tbl : ∀ k : Nat, k < 128 → ((Int32.ofNat k &&& 255 : Int32).toUInt32 % 65536).toInt32 = Int32.ofNat k ∧ gretok .char (Int32.ofNat k) = true := by decide +kernel
theorem m_strlen : (gq (d + 1) 292 0 [some (.inr (.inr (some (2, 0))))] [] (gwd S I J h) Q) ↔ Q (some (.inl 175)) (gwd S I J h) := by
  rw [gb_292_0, gb_294_0, if_neg (by decide), gb_294_6, gb_294_14, Option.toList_some, List.singleton_append, gb_292_9]
  have e1 : (gretok .byte 0 = true) = True := eq_true rfl
  have e2 : Int32.ofNat 175 >>> ((0 : Int32) &&& 31) = 175 := by decide
  rw [e1, true_and, e2]
theorem m_char {a1 : Int32} {i : Nat} {c : Int} (h1 : a1.toInt = i) (hi : i < 175) (hc : (I 3 0 i).toInt = c) (h0 : 0 ≤ c) (h2 : c < 128) (K : ∀ x : Int32, x.toInt = c → Q (some (.inl x)) (gwd S I J h)) : (gq (d + 3) 293 0 [some (.inr (.inr (some (2, 0)))), some (.inl (a1))] [] (gwd S I J h) Q) := by
  have e175 : (Int32.ofNat 175).toInt = 175 := rfl
  have hx : I 3 0 i = Int32.ofNat c.toNat := z_inj (by rw [show Int32.ofNat c.toNat = Int32.ofInt (c.toNat : Int) from rfl, z_of (by omega) (by omega)]; omega)
  have tb := char_tbl c.toNat (by omega)
  rw [gb_293_0, gb_295_0, if_neg (by decide), gb_295_6, if_pos rfl, gb_295_13, gb_295_18]
  refine ⟨rfl, ?_⟩
  rw [Option.toList_some, List.singleton_append, gb_293_4, if_neg (by decide), gb_293_7, gb_297_0, gb_296_0, gb_302_0, if_neg (by rw [z_lt, z_0]; omega), gb_302_4, if_pos (by rw [z_lt, e175]; omega), gb_302_16, Option.toList_some, List.singleton_append, gb_296_8, Option.toList_none, List.nil_append, gb_297_6]
  refine ⟨g_in.mpr (by omega), ?_⟩
  rw [z_n, h1, Int.toNat_natCast, gb_297_9, hx, tb.1]
  refine ⟨tb.2, ?_⟩
  rw [Option.toList_some, List.singleton_append, gb_293_15]
  exact ⟨tb.2, K _ (by rw [← hx]; exact hc)⟩
/-- the rest of a word against the tape -/
def mB (tp : Nat → Int) (e : Nat) : List Int → Nat → Bool
  | [], a => decide (a = e)
  | c :: u, a => decide (a < e ∧ tp a = c) && mB tp e u (a + 1)
theorem mB_iff {tp : Nat → Int} {e : Nat} : ∀ {w : List Int} {s : Nat}, s ≤ e → (mB tp e w s = true ↔ lSl tp (e - s) s = w)
  | [], s, hs => by
    show decide (s = e) = true ↔ _
    rw [decide_eq_true_iff]
    constructor
    · intro h; rw [h, Nat.sub_self]; rfl
    · intro h
      have := congrArg List.length h
      rw [lSl_len] at this
      have : e - s = 0 := this
      omega
  | c :: u, s, hs => by
    show (decide (s < e ∧ tp s = c) && mB tp e u (s + 1)) = true ↔ _
    rw [Bool.and_eq_true, decide_eq_true_iff]
    by_cases w : s < e
    · rw [mB_iff (by omega), show e - s = (e - (s + 1)) + 1 by omega]
      show _ ↔ tp s :: lSl tp (e - (s + 1)) (s + 1) = c :: u
      rw [List.cons.injEq]
      exact ⟨fun h => ⟨h.1.2, h.2⟩, fun h => ⟨⟨w, h.1⟩, h.2⟩⟩
    · rw [show e - s = 0 by omega]
      exact ⟨fun h => absurd h.1.1 w, fun h => by cases h⟩
theorem m_code_in {tp : Nat → Int} {n e : Nat} {a1 a2 a3 : Int32} (hx : kTx I tp n) (he : e ≤ n) (h2 : a2.toInt = e) {rest : List Int} :
    ∀ (u : List Int) (P : Bool) (a i : Nat) (a4 a5 a6 : Int32) (x7 : Option gV), gCd (I 3 0) id i (u ++ 32 :: rest) → (∀ c ∈ u, 97 ≤ c ∧ c ≤ 122) → i + u.length < 175 → a + u.length ≤ 2000 → a4.toInt = a → a5 = (if P = true then 1 else 0) → a6.toInt = i →
    ((P && mB tp e u a) = true → Q (some (.inl a3)) (gwd S I J h)) → ((P && mB tp e u a) = false → ∀ (a6 : Int32) (x7 : Option gV), a6.toInt = ((i + u.length + 1 : Nat) : Int) → (gq (d + 4) 114 11 [some (.inr (.inr (some (12, 0)))), some (.inl (a1)), some (.inl (a2)), some (.inl ((a3 + 1))), some (.inl (a1)), some (.inl (1)), some (.inl (a6)), x7] [] (gwd S I J h) Q)) → (gq (d + 4) 114 11 [some (.inr (.inr (some (12, 0)))), some (.inl (a1)), some (.inl (a2)), some (.inl (a3)), some (.inl (a4)), some (.inl (a5)), some (.inl (a6)), x7] [] (gwd S I J h) Q)
  | [], P, a, i, a4, a5, a6, x7, hc, hu, hi, ha, h4, h5, h6, K1, K0 => by
    have e175 : (175 : Int32).toInt = 175 := rfl
    have e1 : (1 : Int32).toInt = 1 := rfl
    have hlen : i < 175 := by simpa using hi
    have hn := hx.2.2.1
    have next : (P && mB tp e [] a) = false → ∀ a7 : Int32, (gq (d + 4) 114 95 [some (.inr (.inr (some (12, 0)))), some (.inl (a1)), some (.inl (a2)), some (.inl (a3)), some (.inl (a4)), some (.inl (a5)), some (.inl (a6)), some (.inl (a7))] [] (gwd S I J h) Q) := fun hf a7 => by
      rw [gb_114_95, gb_114_104]
      exact K0 hf _ _ (by rw [z_add (by omega) (by omega), h6, e1]; simp)
    rw [gb_114_11, m_strlen, Option.toList_some, List.singleton_append, gb_114_18, if_neg (by rw [z_le, e175]; omega), gb_114_21]
    refine m_char (c := 32) h6 hlen hc.1 (by omega) (by omega) fun x hv => ?_
    rw [Option.toList_some, List.singleton_append, gb_114_28, if_pos (z_inj hv), gb_114_82]
    cases P with
    | false =>
      have h50 : a5 = 0 := h5
      rw [if_pos h50]
      exact next (Bool.false_and _) x
    | true =>
      have h5' : a5 = 1 := h5
      rw [if_neg (by rw [h5']; decide), gb_114_87]
      by_cases w : a = e
      · rw [if_pos (z_inj (by rw [h4, h2, w])), gb_114_93]
        exact K1 (by rw [Bool.true_and]; exact decide_eq_true w)
      · rw [if_neg (fun q => w (by have := congrArg Int32.toInt q; omega))]
        exact next (by rw [Bool.true_and]; exact decide_eq_false w) x
  | c :: u, P, a, i, a4, a5, a6, x7, hc, hu, hi, ha, h4, h5, h6, K1, K0 => by
    have e175 : (175 : Int32).toInt = 175 := rfl
    have e32 : (32 : Int32).toInt = 32 := rfl
    have e1 : (1 : Int32).toInt = 1 := rfl
    have e1600 : (Int32.ofNat 1600).toInt = 1600 := rfl
    have hlen : i + u.length + 1 < 175 := by simp only [List.length_cons] at hi; omega
    have hn := hx.2.2.1
    have cr := hu c List.mem_cons_self
    have go : ∀ (x : Int32) (P' : Bool), x.toInt = c → (P' = (P && decide (a < e ∧ tp a = c))) → (gq (d + 4) 114 74 [some (.inr (.inr (some (12, 0)))), some (.inl (a1)), some (.inl (a2)), some (.inl (a3)), some (.inl (a4)), some (.inl (a5)), some (.inl (a6)), some (.inl (x))] [.inl (((if P' = true then 1 else 0)))] (gwd S I J h) Q) := fun x P' hv hP => by
      have hm : (P && mB tp e (c :: u) a) = (P' && mB tp e u (a + 1)) := by
        rw [hP, Bool.and_assoc]; rfl
      rw [gb_114_74, gb_114_104]
      simp only [List.length_cons] at ha
      exact m_code_in hx he h2 u P' (a + 1) (i + 1) _ _ _ _ hc.2 (fun c' hc' => hu c' (List.mem_cons_of_mem _ hc')) (by omega) (by omega) (by rw [z_add (by omega) (by omega), h4, e1]; rfl) rfl (by rw [z_add (by omega) (by omega), h6, e1]; rfl) (fun hp => K1 (by rw [hm]; exact hp)) (fun hp a6' x7' h6' => K0 (by rw [hm]; exact hp) a6' x7' (by rw [h6']; simp only [List.length_cons]; omega))
    rw [gb_114_11, m_strlen, Option.toList_some, List.singleton_append, gb_114_18, if_neg (by rw [z_le, e175]; omega), gb_114_21]
    refine m_char (c := c) h6 (by omega) hc.1 (by omega) (by omega) fun x hv => ?_
    rw [Option.toList_some, List.singleton_append, gb_114_28, if_neg (fun q => by rw [q, e32] at hv; omega), gb_114_37]
    have no : (P && decide (a < e ∧ tp a = c)) = false → (gq (d + 4) 114 73 [some (.inr (.inr (some (12, 0)))), some (.inl (a1)), some (.inl (a2)), some (.inl (a3)), some (.inl (a4)), some (.inl (a5)), some (.inl (a6)), some (.inl (x))] [] (gwd S I J h) Q) := fun hf => by
      rw [gb_114_73]
      exact go x false hv hf.symm
    rcases Bool.eq_false_or_eq_true P with hP | hP
    case inr =>
      rw [hP] at h5
      have h50 : a5 = 0 := h5
      rw [if_pos h50]
      exact no (by rw [hP]; rfl)
    case inl =>
      rw [hP] at h5
      have h5' : a5 = 1 := h5
      rw [if_neg (by rw [h5']; decide), gb_114_42, if_neg (by rw [z_lt, z_0]; omega), gb_114_47]
      by_cases w : a < e
      · rw [if_neg (by rw [z_le]; omega), gb_114_53, if_neg (by rw [z_le, e1600]; omega), gb_114_60]
        refine ⟨g_in.mpr (by omega), ?_⟩
        have hb := hx.1 a (by omega)
        have hv2 := z_byv hb.2.1 hb.2.2
        rw [hb.1] at hv2
        rw [z_n, h4, Int.toNat_natCast, gb_114_64]
        by_cases w2 : tp a = c
        · rw [if_pos (z_inj (by rw [hv]; split at hv2 <;> omega)), gb_114_69]
          exact go x true hv (by rw [hP, Bool.true_and]; exact (decide_eq_true ⟨w, w2⟩).symm)
        · rw [if_neg (fun q => w2 (by have := congrArg Int32.toInt q; rw [hv] at this; split at hv2 <;> omega))]
          exact no (by rw [hP, Bool.true_and]; exact decide_eq_false (fun q => w2 q.2))
      · rw [if_pos (by rw [z_le]; omega)]
        exact no (by rw [hP, Bool.true_and]; exact decide_eq_false (fun q => w q.1))
theorem m_code_out {tp : Nat → Int} {n s e : Nat} {a1 a2 : Int32} (hx : kTx I tp n) (hs : s ≤ e) (he : e ≤ n) (h1 : a1.toInt = s) (h2 : a2.toInt = e) : ∀ (ws : List (List Int)) (c i : Nat) (a3 a6 : Int32) (x7 : Option gV), gCd (I 3 0) id i (gFlat ws) → (∀ w ∈ ws, w.length ≤ 10 ∧ ∀ c ∈ w, 97 ≤ c ∧ c ≤ 122) → i + (gFlat ws).length = 175 → c + ws.length = 33 → a3.toInt = c → a6.toInt = i →
    (∀ x : Int32, x.toInt = gIx (lSl tp (e - s) s) ws c → Q (some (.inl x)) (gwd S I J h)) → (gq (d + 4) 114 11 [some (.inr (.inr (some (12, 0)))), some (.inl (a1)), some (.inl (a2)), some (.inl (a3)), some (.inl (a1)), some (.inl (1)), some (.inl (a6)), x7] [] (gwd S I J h) Q)
  | [], c, i, a3, a6, x7, hc, hw, hi, hcw, h3, h6, K => by
    have e175 : (175 : Int32).toInt = 175 := rfl
    have hi' : i = 175 := by simpa [gFlat] using hi
    rw [gb_114_11, m_strlen, Option.toList_some, List.singleton_append, gb_114_18, if_pos (by rw [z_le, e175]; omega), gb_114_110, gb_114_111]
    exact K _ rfl
  | w :: ws, c, i, a3, a6, x7, hc, hw, hi, hcw, h3, h6, K => by
    have e1 : (1 : Int32).toInt = 1 := rfl
    have hw0 := hw w List.mem_cons_self
    have hn := hx.2.2.1
    have hf : (gFlat (w :: ws)).length = w.length + 1 + (gFlat ws).length := by
      show (w ++ (32 :: gFlat ws)).length = _
      rw [List.length_append, List.length_cons]; omega
    have hc2 : gCd (I 3 0) id i w ∧ gCd (I 3 0) id (i + w.length) (32 :: gFlat ws) := gCd_app.mp hc
    simp only [List.length_cons] at hcw
    refine m_code_in hx he h2 w true s i _ _ _ _ hc hw0.2 (by omega) (by omega) h1 rfl h6 (fun hp => ?_) (fun hp a6' x7' h6' => ?_)
    · refine K _ ?_
      rw [Bool.true_and, mB_iff hs] at hp
      show _ = if lSl tp (e - s) s = w then (c : Int) else gIx (lSl tp (e - s) s) ws (c + 1)
      rw [if_pos hp]; exact h3
    · have hp' : ¬ lSl tp (e - s) s = w := fun q => by
        rw [Bool.true_and, (mB_iff hs).mpr q] at hp; cases hp
      refine m_code_out hx hs he h1 h2 ws (c + 1) (i + w.length + 1) _ _ _ hc2.2.2 (fun w' hw' => hw w' (List.mem_cons_of_mem _ hw')) (by omega) (by omega) (by rw [z_add (by omega) (by omega), h3, e1]; rfl) h6' fun x hv => K x ?_
      rw [hv]
      show _ = if lSl tp (e - s) s = w then (c : Int) else gIx (lSl tp (e - s) s) ws (c + 1)
      rw [if_neg hp']; rfl
theorem wl_tbl : (∀ w ∈ gWL, w.length ≤ 10 ∧ ∀ c ∈ w, 97 ≤ c ∧ c ≤ 122) ∧ (gFlat gWL).length = 175 := by decide +kernel
theorem m_code {tp : Nat → Int} {n s e : Nat} {a1 a2 : Int32} {x3 x4 x5 x6 x7 : Option gV} (hx : kTx I tp n) (hs : s ≤ e) (he : e ≤ n) (h1 : a1.toInt = s) (h2 : a2.toInt = e) (K : ∀ x : Int32, x.toInt = lWd tp s e → Q (some (.inl x)) (gwd S I J h)) : (gq (d + 4) 114 0 [some (.inr (.inr (some (12, 0)))), some (.inl (a1)), some (.inl (a2)), x3, x4, x5, x6, x7] [] (gwd S I J h) Q) := by
  rw [gb_114_0]
  exact m_code_out hx hs he h1 h2 gWL 0 0 _ _ _ hx.2.2.2.2 wl_tbl.1 (by rw [wl_tbl.2]) rfl rfl rfl K
theorem m_byteN {tp : Nat → Int} {n k : Nat} {a1 : Int32} (hx : kTx I tp n) (h1 : a1.toInt = k) (K : ∀ x : Int32, x.toInt = lB tp n k → Q (some (.inl x)) (gwd S I J h)) : (gq d 102 0 [some (.inr (.inr (some (11, 0)))), some (.inl (a1))] [] (gwd S I J h) Q) := by
  refine m_byte (tp := tp) (ln := n) ⟨hx.2.1, fun j hj => (hx.1 j (by omega)).1⟩ ⟨by have := hx.2.2.1; omega, fun j hj => hx.2.2.2.1 j (by omega)⟩ fun x hv => K x ?_
  rw [hv, h1]
  unfold gByt lB
  by_cases w : k < n
  · rw [if_pos w, if_pos (by omega), Int.toNat_natCast]
  · rw [if_neg w, if_neg (by omega)]
theorem i8_2 : (Int8.ofInt (-2)).toInt32.toInt = -2 := rfl
theorem i8_3 : (Int8.ofInt (-3)).toInt32.toInt = -3 := rfl
theorem i8_4 : (Int8.ofInt (-4)).toInt32.toInt = -4 := rfl
theorem m_next_sk {tp : Nat → Int} {n : Nat} {a1 : Int32} {x2 : Option gV} : ∀ (m k : Nat) (I : Nat → Nat → Nat → Int32), n - k = m → k ≤ n → kTx I tp n → (I 11 0 3).toInt = k →
    (∀ (I' : Nat → Nat → Nat → Int32), (∀ k i j, ¬ ((k = 11 ∧ i = 0 ∧ j = 3)) → I' k i j = I k i j) → (I' 11 0 3).toInt = lSk tp n k → (gq (d + 1) 106 81 [some (.inr (.inr (some (11, 0)))), some (.inl (a1)), x2] [] (gwd S I' J h) Q)) → (gq (d + 1) 106 43 [some (.inr (.inr (some (11, 0)))), some (.inl (a1)), x2] [] (gwd S I J h) Q)
  | m, k, I, hm, hk, hx, h3, K => by
    have e1 : (1 : Int32).toInt = 1 := rfl
    have hn := hx.2.2.1
    have hl := hx.2.1
    rw [gb_106_43]
    by_cases w : k < n
    case neg =>
      rw [if_pos (by rw [z_le]; omega)]
      exact K I (fun _ _ _ _ => rfl) (by rw [h3]; exact congrArg Int.ofNat (lRun_f (by rw [lB_ge (by omega)]; rfl)).symm)
    rw [if_neg (by rw [z_le]; omega), gb_106_54]
    refine m_byteN hx h3 fun x hv => ?_
    rw [Option.toList_some, List.singleton_append, gb_106_62, m_isBlank, Option.toList_some, List.singleton_append, gb_106_65]
    cases hb : lIsB (lB tp n k) with
    | false =>
      rw [if_pos (by rw [zb_0, hv]; exact lIsB_f.mp hb)]
      exact K I (fun _ _ _ _ => rfl) (by rw [h3]; exact congrArg Int.ofNat (lRun_f hb).symm)
    | true =>
      rw [if_neg (by rw [zb_0, hv]; exact fun e => e (lIsB_iff.mp hb)), gb_106_68]
      match m, hm with
      | 0, hm => omega
      | m + 1, hm =>
        refine m_next_sk m (k + 1) _ (by omega) (by omega) (kTx_congr hx (fun j => by rw [u_k (by decide)]) (by rw [u_j (by decide)]) (fun j => by rw [u_k (by decide)])) (by rw [u_eq, z_add (by omega) (by omega), h3, e1]; rfl) fun I' hF h3' => K I' (fun k i j hn => by rw [hF _ _ _ hn, u_ne (by omega)]) (by rw [h3']; exact congrArg Int.ofNat (lRun_t hb w).symm)
theorem m_next_L {tp : Nat → Int} {n : Nat} {a1 a2 : Int32} : ∀ (m k : Nat) (I : Nat → Nat → Nat → Int32), n - k = m → k ≤ n → kTx I tp n → (I 11 0 4).toInt = k →
    (∀ (I' : Nat → Nat → Nat → Int32), (∀ k i j, ¬ ((k = 11 ∧ i = 0 ∧ j = 4)) → I' k i j = I k i j) → (I' 11 0 4).toInt = lRun lIsL tp n k → (gq (d + 1) 106 171 [some (.inr (.inr (some (11, 0)))), some (.inl (a1)), some (.inl (a2))] [] (gwd S I' J h) Q)) → (gq (d + 1) 106 133 [some (.inr (.inr (some (11, 0)))), some (.inl (a1)), some (.inl (a2))] [] (gwd S I J h) Q)
  | m, k, I, hm, hk, hx, h3, K => by
    have e1 : (1 : Int32).toInt = 1 := rfl
    have hn := hx.2.2.1
    have hl := hx.2.1
    rw [gb_106_133]
    by_cases w : k < n
    case neg =>
      rw [if_pos (by rw [z_le]; omega)]
      exact K I (fun _ _ _ _ => rfl) (by rw [h3]; exact congrArg Int.ofNat (lRun_f (by rw [lB_ge (by omega)]; rfl)).symm)
    rw [if_neg (by rw [z_le]; omega), gb_106_144]
    refine m_byteN hx h3 fun x hv => ?_
    rw [Option.toList_some, List.singleton_append, gb_106_152, m_isLetter, Option.toList_some, List.singleton_append, gb_106_155]
    cases hb : lIsL (lB tp n k) with
    | false =>
      rw [if_pos (by rw [zb_0, hv]; exact lIsL_f.mp hb)]
      exact K I (fun _ _ _ _ => rfl) (by rw [h3]; exact congrArg Int.ofNat (lRun_f hb).symm)
    | true =>
      rw [if_neg (by rw [zb_0, hv]; exact fun e => e (lIsL_iff.mp hb)), gb_106_158]
      match m, hm with
      | 0, hm => omega
      | m + 1, hm =>
        refine m_next_L m (k + 1) _ (by omega) (by omega) (kTx_congr hx (fun j => by rw [u_k (by decide)]) (by rw [u_j (by decide)]) (fun j => by rw [u_k (by decide)])) (by rw [u_eq, z_add (by omega) (by omega), h3, e1]; rfl) fun I' hF h3' => K I' (fun k i j hn => by rw [hF _ _ _ hn, u_ne (by omega)]) (by rw [h3']; exact congrArg Int.ofNat (lRun_t hb w).symm)
theorem m_next_D {tp : Nat → Int} {n s : Nat} {a1 a2 : Int32} (hsn : s ≤ n) : ∀ (m k : Nat) (I : Nat → Nat → Nat → Int32), n - k = m → k ≤ n → s ≤ k → kTx I tp n → (∀ j, s ≤ j → j < k → lIsD (lB tp n j) = true) → (I 11 0 4).toInt = k → (I 11 0 5).toInt = min (lDg tp s (k - s)) 9999 →
    (∀ (I' : Nat → Nat → Nat → Int32), (∀ k i j, ¬ ((k = 11 ∧ i = 0 ∧ (j = 4 ∨ j = 5))) → I' k i j = I k i j) → (I' 11 0 4).toInt = lRun lIsD tp n k → (I' 11 0 5).toInt = min (lDg tp s (lRun lIsD tp n k - s)) 9999 → (gq (d + 1) 106 281 [some (.inr (.inr (some (11, 0)))), some (.inl (a1)), some (.inl (a2))] [] (gwd S I' J h) Q)) → (gq (d + 1) 106 214 [some (.inr (.inr (some (11, 0)))), some (.inl (a1)), some (.inl (a2))] [] (gwd S I J h) Q)
  | m, k, I, hm, hk, hsk, hx, hdig, h3, h5, K => by
    have e1 : (1 : Int32).toInt = 1 := rfl
    have e10 : (10 : Int32).toInt = 10 := rfl
    have e48 : (48 : Int32).toInt = 48 := rfl
    have e9 : (9999 : Int32).toInt = 9999 := rfl
    have hn := hx.2.2.1
    have hl := hx.2.1
    have dig : ∀ j, j < k - s → 48 ≤ tp (s + j) ∧ tp (s + j) ≤ 57 := fun j hj => by
      have := hdig (s + j) (by omega) (by omega)
      rw [lB_lt (by omega), lIsD_iff] at this; exact this
    have dr := lDg_r dig
    rw [gb_106_214]
    by_cases w : k < n
    case neg =>
      have e : lRun lIsD tp n k = k := lRun_f (by rw [lB_ge (by omega)]; rfl)
      rw [if_pos (by rw [z_le]; omega)]
      exact K I (fun _ _ _ _ => rfl) (by rw [h3, e]) (by rw [h5, e])
    rw [if_neg (by rw [z_le]; omega), gb_106_225]
    refine m_byteN hx h3 fun x hv => ?_
    rw [Option.toList_some, List.singleton_append, gb_106_233, m_isDigit, Option.toList_some, List.singleton_append, gb_106_236]
    cases hb : lIsD (lB tp n k) with
    | false =>
      have e : lRun lIsD tp n k = k := lRun_f hb
      rw [if_pos (by rw [zb_0, hv]; exact lIsD_f.mp hb)]
      exact K I (fun _ _ _ _ => rfl) (by rw [h3, e]) (by rw [h5, e])
    | true =>
      have hd := lIsD_iff.mp hb
      rw [if_neg (by rw [zb_0, hv]; exact fun e => e hd), gb_106_239]
      refine m_byteN hx h3 fun y hy => ?_
      have q1 : (10 * I 11 0 5).toInt = 10 * min (lDg tp s (k - s)) 9999 := by rw [z_mul (by rw [h5, e10]; omega) (by rw [h5, e10]; omega), h5, e10]
      have q2 : (10 * I 11 0 5 + y).toInt = 10 * min (lDg tp s (k - s)) 9999 + lB tp n k := by rw [z_add (by omega) (by omega), q1, hy]
      have q3 : (10 * I 11 0 5 + y - 48).toInt = 10 * min (lDg tp s (k - s)) 9999 + lB tp n k - 48 := by rw [z_sub (by omega) (by omega), q2, e48]
      have hD : lDg tp s (k + 1 - s) = 10 * lDg tp s (k - s) + lB tp n k - 48 := by
        rw [show k + 1 - s = (k - s) + 1 by omega, lB_lt w]
        show 10 * lDg tp s (k - s) + tp (s + (k - s)) - 48 = _
        rw [show s + (k - s) = k by omega]
      have q4 : (zmin (10 * I 11 0 5 + y - 48) 9999).toInt = min (lDg tp s (k + 1 - s)) 9999 := by rw [zmin_i, q3, e9, hD]; omega
      rw [Option.toList_some, List.singleton_append, gb_106_255, m_min, Option.toList_some, List.singleton_append, gb_106_265]
      match m, hm with
      | 0, hm => omega
      | m + 1, hm =>
        refine m_next_D hsn m (k + 1) _ (by omega) (by omega) (by omega) (kTx_congr hx (fun j => by rw [u_k (by decide), u_k (by decide)]) (by rw [u_j (by decide), u_j (by decide)]) (fun j => by rw [u_k (by decide), u_k (by decide)])) (fun j h1 h2 => by
          by_cases ej : j = k
          · rw [ej]; exact hb
          · exact hdig j h1 (by omega)) (by rw [u_eq, z_add (by omega) (by omega), h3, e1]; rfl) (by rw [u_j (by decide), u_eq]; exact q4) fun I' hF h4' h5' => K I' (fun k i j hn => by rw [hF _ _ _ hn, u_ne (by omega), u_ne (by omega)]) (by rw [h4']; exact congrArg Int.ofNat (lRun_t hb w).symm) (by rw [h5', lRun_t hb w])
