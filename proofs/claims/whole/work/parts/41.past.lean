/-! The class: what is kept, acts undone. -/
theorem r_at {α : Type} {f : Nat → Nat → Nat → α} {a b c : Nat} {r : Nat → α} : gupR f a b r a b c = r c := by simp only [gupR, if_pos]
theorem r_ne {α : Type} {f : Nat → Nat → Nat → α} {a b k i j : Nat} {r : Nat → α} (h : ¬ (k = a ∧ i = b)) : gupR f a b r k i j = f k i j := by
  unfold gupR
  by_cases h1 : k = a
  · rw [if_pos h1, if_neg (fun e => h ⟨h1, e⟩)]
  · rw [if_neg h1]
theorem v_in {α : Type} {f g : Nat → α} {sp dp n k : Nat} (h : dp ≤ k ∧ k < dp + n) : va_cpy f g sp dp n k = f (sp + (k - dp)) := if_pos h
theorem v_out {α : Type} {f g : Nat → α} {sp dp n k : Nat} (h : ¬ (dp ≤ k ∧ k < dp + n)) : va_cpy f g sp dp n k = g k := if_neg h
def kRow (B : Nat → Int32) (s : Nat) (t : gSt) (l : Int) : Prop := (∀ j, j < 6 → (B (15 * s + j)).toInt = t j) ∧ (∀ b, b < 8 → (B (15 * s + 6 + b)).toInt = t (10 + b)) ∧ (B (15 * s + 14)).toInt = l
def kAc (B : Nat → Int32) : Nat → List (gSt × Int) → Prop
  | _, [] => True
  | s, a :: r => kRow B s a.1 a.2 ∧ kAc B ((s + 19) % 20) r
theorem kRow_congr {B B' : Nat → Int32} {s : Nat} {t : gSt} {l : Int} (h : kRow B s t l) (e : ∀ j, j < 15 → B' (15 * s + j) = B (15 * s + j)) : kRow B' s t l := ⟨fun j hj => by rw [e j (by omega)]; exact h.1 j hj, fun b hb => by
  have := e (6 + b) (by omega)
  rw [show 15 * s + (6 + b) = 15 * s + 6 + b by omega] at this
  rw [this]; exact h.2.1 b hb, by rw [e 14 (by omega)]; exact h.2.2⟩
theorem kAc_congr {B B' : Nat → Int32} {nw : Nat} : ∀ {r : List (gSt × Int)} {s : Nat}, s < 20 → r.length ≤ 19 → (∀ k, k < r.length → (s + 19 * k) % 20 ≠ nw) → (∀ s, s < 20 → s ≠ nw → ∀ j, j < 15 → B' (15 * s + j) = B (15 * s + j)) → kAc B s r → kAc B' s r
  | [], _, _, _, _, _, _ => trivial
  | a :: r, s, hs, hl, hd, e, h => by
    refine ⟨kRow_congr h.1 (e s hs (by have := hd 0 (by simp); simp at this; omega)), kAc_congr (nw := nw) (by omega) (by simp at hl; omega) (fun k hk => ?_) e h.2⟩
    have := hd (k + 1) (by simp; omega)
    omega
theorem kAc_take {B : Nat → Int32} : ∀ {r : List (gSt × Int)} {s n : Nat}, kAc B s r → kAc B s (r.take n)
  | [], _, _, _ => by simp [kAc]
  | a :: r, _, 0, _ => trivial
  | a :: r, _, n + 1, h => ⟨h.1, kAc_take h.2⟩
def kPa (I : Nat → Nat → Nat → Int32) (lg : Nat → Int) (nl : Int) (ac : List (gSt × Int)) : Prop := (I 28 0 1).toInt = nl ∧ (∀ j : Nat, (j : Int) < 4 * nl → (I 29 0 j).toInt = lg j) ∧ (I 28 0 4).toInt = ac.length ∧ ac.length ≤ 20 ∧ ∃ nw : Nat, nw < 20 ∧ (I 28 0 3).toInt = nw ∧ kAc (I 30 0) nw ac
theorem kPa_congr {I I' : Nat → Nat → Nat → Int32} {lg : Nat → Int} {nl : Int} {ac : List (gSt × Int)} (h : kPa I lg nl ac) (e : ∀ k j, (k = 28 ∨ k = 29 ∨ k = 30) → I' k 0 j = I k 0 j) : kPa I' lg nl ac := by
  obtain ⟨h1, h2, h3, h4, nw, h5, h6, h7⟩ := h
  have e30 : I' 30 0 = I 30 0 := by funext z; exact e _ _ (by omega)
  exact ⟨by rw [e _ _ (by omega)]; exact h1, fun j hj => by rw [e _ _ (by omega)]; exact h2 j hj, by rw [e _ _ (by omega)]; exact h3, h4, nw, h5, by rw [e _ _ (by omega)]; exact h6, by rw [e30]; exact h7⟩
def gLog (lg : Nat → Int) (nl a b c e : Int) : Nat → Int := fun j => if j = 4 * nl.toNat then a else if j = 4 * nl.toNat + 1 then b else if j = 4 * nl.toNat + 2 then c else if j = 4 * nl.toNat + 3 then e else lg j
def gKept (lg : Nat → Int) (nl k w : Int) : Int := if 0 ≤ k ∧ k < min nl 40 ∧ 0 ≤ w ∧ w ≤ 3 then lg (4 * (nl - min nl 40 + k) + w).toNat else -1
variable {d S : Nat} {h : Nat × Option gNm} {I : Nat → Nat → Nat → Int32} {J : Nat → Nat → Nat → Int64} {Q : Option gV → gW → Prop}
theorem m_told {nl : Int} (h1 : (I 28 0 1).toInt = nl) (K : ∀ x, x.toInt = min nl 40 → Q (some (.inl x)) (gwd S I J h)) : (gq (d + 1) 51 0 [some (.inr (.inr (some (28, 0))))] [] (gwd S I J h) Q) := by
  rw [gb_51_0, m_min, Option.toList_some, List.singleton_append, gb_51_9]
  exact K _ (by rw [zmin_i, h1]; rfl)
theorem m_keptAt {a1 a2 : Int32} {x3 : Option gV} {lg : Nat → Int} {nl : Int} {ac : List (gSt × Int)} (hp : kPa I lg nl ac) (hn : 0 ≤ nl ∧ nl ≤ 99) (K : ∀ x, x.toInt = gKept lg nl a1.toInt a2.toInt → Q (some (.inl x)) (gwd S I J h)) : (gq (d + 2) 53 0 [some (.inr (.inr (some (28, 0)))), some (.inl (a1)), some (.inl (a2)), x3] [] (gwd S I J h) Q) := by
  have e3 : (3 : Int32).toInt = 3 := rfl
  have e4 : (4 : Int32).toInt = 4 := rfl
  have e396 : (Int32.ofNat 396).toInt = 396 := rfl
  have no : ¬ (0 ≤ a1.toInt ∧ a1.toInt < min nl 40 ∧ 0 ≤ a2.toInt ∧ a2.toInt ≤ 3) → (gq (d + 2) 53 21 [some (.inr (.inr (some (28, 0)))), some (.inl (a1)), some (.inl (a2)), x3] [] (gwd S I J h) Q) := fun hno => by
    rw [gb_53_21, gb_53_22]
    exact K _ (by unfold gKept; rw [if_neg hno]; rfl)
  rw [gb_53_0]
  by_cases w1 : 0 ≤ a1.toInt
  case neg => rw [if_pos (by rw [z_lt, z_0]; omega)]; exact no (fun e => w1 e.1)
  rw [if_neg (by rw [z_lt, z_0]; omega), gb_53_4]
  refine m_told hp.1 fun x hx => ?_
  rw [Option.toList_some, List.singleton_append, gb_53_9]
  by_cases w2 : a1.toInt < min nl 40
  case neg => rw [if_pos (by rw [z_le]; omega)]; exact no (fun e => w2 e.2.1)
  rw [if_neg (by rw [z_le]; omega), gb_53_12]
  by_cases w3 : 0 ≤ a2.toInt
  case neg => rw [if_pos (by rw [z_lt, z_0]; omega)]; exact no (fun e => w3 e.2.2.1)
  rw [if_neg (by rw [z_lt, z_0]; omega), gb_53_16]
  by_cases w4 : a2.toInt ≤ 3
  case neg => rw [if_neg (by rw [z_le]; omega)]; exact no (fun e => w4 e.2.2.2)
  rw [if_pos (by rw [z_le]; omega), gb_53_23]
  refine m_told hp.1 fun y hy => ?_
  rw [Option.toList_some, List.singleton_append, gb_53_32]
  have g1 := hp.1
  have q1 : (I 28 0 1 - y).toInt = nl - min nl 40 := by rw [z_sub (by omega) (by omega), g1, hy]
  have q2 : (I 28 0 1 - y + a1).toInt = nl - min nl 40 + a1.toInt := by rw [z_add (by omega) (by omega), q1]
  have q3 : (4 * (I 28 0 1 - y + a1)).toInt = 4 * (nl - min nl 40 + a1.toInt) := by rw [z_mul (by rw [q2, e4]; omega) (by rw [q2, e4]; omega), q2, e4]
  have q4 : (4 * (I 28 0 1 - y + a1) + a2).toInt = 4 * (nl - min nl 40 + a1.toInt) + a2.toInt := by rw [z_add (by omega) (by omega), q3]
  have en : (4 * (I 28 0 1 - y + a1) + a2).toNatClampNeg = (4 * (nl - min nl 40 + a1.toInt) + a2.toInt).toNat := by rw [z_n, q4]
  rw [if_neg (by rw [z_lt, z_0]; omega), gb_53_43, if_neg (by rw [z_le]; omega), gb_53_52]
  refine ⟨g_in.mpr (by omega), ?_⟩
  rw [en, gb_53_58, gb_53_62]
  exact K _ (by unfold gKept; rw [if_pos ⟨w1, w2, w3, w4⟩]; exact hp.2.1 _ (by omega))
theorem m_keep {a1 a2 a3 a4 : Int32} {x5 : Option gV} {lg : Nat → Int} {nl : Int} {ac : List (gSt × Int)} (hp : kPa I lg nl ac) (hn : 0 ≤ nl ∧ nl ≤ 98) (K : ∀ (I' : Nat → Nat → Nat → Int32), (∀ k i j, ¬ ((k = 28 ∧ i = 0) ∨ (k = 29 ∧ i = 0)) → I' k i j = I k i j) → kPa I' (gLog lg nl a1.toInt a2.toInt a3.toInt a4.toInt) (nl + 1) ac → Q none (gwd S I' J h)) : (gq d 52 0 [some (.inr (.inr (some (28, 0)))), some (.inl (a1)), some (.inl (a2)), some (.inl (a3)), some (.inl (a4)), x5] [] (gwd S I J h) Q) := by
  have e1 : (1 : Int32).toInt = 1 := rfl
  have e2 : (2 : Int32).toInt = 2 := rfl
  have e3 : (3 : Int32).toInt = 3 := rfl
  have e4 : (4 : Int32).toInt = 4 := rfl
  have e392 : ((Int32.ofNat 396) - 4).toInt = 392 := rfl
  have g1 := hp.1
  have q0 : (4 * I 28 0 1).toInt = 4 * nl := by rw [z_mul (by rw [g1, e4]; omega) (by rw [g1, e4]; omega), g1, e4]
  generalize hA : (4 * I 28 0 1 : Int32) = A at q0
  have q1 : (A + 1).toInt = 4 * nl + 1 := by rw [z_add (by omega) (by omega), q0, e1]
  have q2 : (A + 2).toInt = 4 * nl + 2 := by rw [z_add (by omega) (by omega), q0, e2]
  have q3 : (A + 3).toInt = 4 * nl + 3 := by rw [z_add (by omega) (by omega), q0, e3]
  have n0 : A.toNatClampNeg = 4 * nl.toNat := by rw [z_n, q0]; omega
  have n1 : (A + 1).toNatClampNeg = 4 * nl.toNat + 1 := by rw [z_n, q1]; omega
  have n2 : (A + 2).toNatClampNeg = 4 * nl.toNat + 2 := by rw [z_n, q2]; omega
  have n3 : (A + 3).toNatClampNeg = 4 * nl.toNat + 3 := by rw [z_n, q3]; omega
  rw [gb_52_0, hA, if_neg (by rw [z_lt, z_0]; omega), gb_52_13, if_neg (by rw [z_lt]; omega), gb_52_25]
  refine ⟨g_in.mpr (by omega), ?_⟩
  rw [gb_52_33]
  refine ⟨g_in.mpr (by omega), ?_⟩
  rw [gb_52_43]
  refine ⟨g_in.mpr (by omega), ?_⟩
  rw [gb_52_53]
  refine ⟨g_in.mpr (by omega), ?_⟩
  rw [gb_52_64, gb_52_74, n0, n1, n2, n3]
  obtain ⟨h1, h2, h3, h4, nw, h5, h6, h7⟩ := hp
  refine K _ (fun k i j hn => by repeat rw [u_ne (by omega)]) ⟨?_, fun j hj => ?_, ?_, h4, nw, h5, ?_, ?_⟩
  · rw [u_eq, u_k (by decide), u_k (by decide), u_k (by decide), u_k (by decide), z_add (by omega) (by omega), h1, e1]
  · rw [u_k (by decide), u_at, u_at, u_at, u_at]
    unfold gLog
    by_cases w0 : j = 4 * nl.toNat
    · rw [if_neg (by omega), if_neg (by omega), if_neg (by omega), if_pos w0, if_pos w0]
    · rw [if_neg w0]
      by_cases w1 : j = 4 * nl.toNat + 1
      · rw [if_neg (by omega), if_neg (by omega), if_pos w1, if_neg (by omega), if_pos w1]
      · rw [if_neg w1]
        by_cases w2 : j = 4 * nl.toNat + 2
        · rw [if_neg (by omega), if_pos w2, if_neg (by omega), if_neg (by omega), if_pos w2]
        · rw [if_neg w2]
          by_cases w3 : j = 4 * nl.toNat + 3
          · rw [if_pos w3, if_neg (by omega), if_neg (by omega), if_neg (by omega), if_pos w3]
          · rw [if_neg w3, if_neg w3, if_neg w2, if_neg w1, if_neg w0]; exact h2 j (by omega)
  · rw [u_j (by decide), u_k (by decide), u_k (by decide), u_k (by decide), u_k (by decide)]; exact h3
  · rw [u_j (by decide), u_k (by decide), u_k (by decide), u_k (by decide), u_k (by decide)]; exact h6
  · have e30 : ∀ z, (gup (gup (gup (gup (gup I 29 0 (4 * nl.toNat) a1) 29 0 (4 * nl.toNat + 1) a2) 29 0 (4 * nl.toNat + 2) a3) 29 0 (4 * nl.toNat + 3) a4) 28 0 1 (gup (gup (gup (gup I 29 0 (4 * nl.toNat) a1) 29 0 (4 * nl.toNat + 1) a2) 29 0 (4 * nl.toNat + 2) a3) 29 0 (4 * nl.toNat + 3) a4 28 0 1 + 1)) 30 0 z = I 30 0 z := fun z => by repeat rw [u_ne (by omega)]
    rw [show (gup (gup (gup (gup (gup I 29 0 (4 * nl.toNat) a1) 29 0 (4 * nl.toNat + 1) a2) 29 0 (4 * nl.toNat + 2) a3) 29 0 (4 * nl.toNat + 3) a4) 28 0 1 (gup (gup (gup (gup I 29 0 (4 * nl.toNat) a1) 29 0 (4 * nl.toNat + 1) a2) 29 0 (4 * nl.toNat + 2) a3) 29 0 (4 * nl.toNat + 3) a4 28 0 1 + 1)) 30 0 = I 30 0 from funext e30]
    exact h7
theorem m_store {i1 s : Nat} {a2 : Int32} {t : gSt} (h2 : a2.toInt = 15 * s) (hs : s < 20) (hS : kS I i1 t) (K : ∀ (I' : Nat → Nat → Nat → Int32), (∀ k i j, ¬ (k = 30 ∧ i = 0 ∧ 15 * s ≤ j ∧ j < 15 * s + 14) → I' k i j = I k i j) → (∀ j, j < 6 → (I' 30 0 (15 * s + j)).toInt = t j) → (∀ b, b < 8 → (I' 30 0 (15 * s + 6 + b)).toInt = t (10 + b)) → Q none (gwd S I' J h)) : (gq d 90 0 [some (.inr (.inr (some (21, i1)))), some (.inr (.inr (some (30, 0)))), some (.inl (a2))] [] (gwd S I J h) Q) := by
  have e1 : (1 : Int32).toInt = 1 := rfl
  have e2 : (2 : Int32).toInt = 2 := rfl
  have e3 : (3 : Int32).toInt = 3 := rfl
  have e4 : (4 : Int32).toInt = 4 := rfl
  have e5 : (5 : Int32).toInt = 5 := rfl
  have e6 : (6 : Int32).toInt = 6 := rfl
  have e286 : ((Int32.ofNat 300) - 14).toInt = 286 := rfl
  have q1 : (a2 + 1).toInt = 15 * s + 1 := by rw [z_add (by omega) (by omega), h2, e1]
  have q2 : (a2 + 2).toInt = 15 * s + 2 := by rw [z_add (by omega) (by omega), h2, e2]
  have q3 : (a2 + 3).toInt = 15 * s + 3 := by rw [z_add (by omega) (by omega), h2, e3]
  have q4 : (a2 + 4).toInt = 15 * s + 4 := by rw [z_add (by omega) (by omega), h2, e4]
  have q5 : (a2 + 5).toInt = 15 * s + 5 := by rw [z_add (by omega) (by omega), h2, e5]
  have q6 : (a2 + 6).toInt = 15 * s + 6 := by rw [z_add (by omega) (by omega), h2, e6]
  have n0 : a2.toNatClampNeg = 15 * s := by rw [z_n, h2]; omega
  have n1 : (a2 + 1).toNatClampNeg = 15 * s + 1 := by rw [z_n, q1]; omega
  have n2 : (a2 + 2).toNatClampNeg = 15 * s + 2 := by rw [z_n, q2]; omega
  have n3 : (a2 + 3).toNatClampNeg = 15 * s + 3 := by rw [z_n, q3]; omega
  have n4 : (a2 + 4).toNatClampNeg = 15 * s + 4 := by rw [z_n, q4]; omega
  have n5 : (a2 + 5).toNatClampNeg = 15 * s + 5 := by rw [z_n, q5]; omega
  have n6 : (a2 + 6).toNatClampNeg = 15 * s + 6 := by rw [z_n, q6]; omega
  have n8 : (Int32.ofNat 8).toNatClampNeg = 8 := rfl
  have n00 : (0 : Int32).toNatClampNeg = 0 := rfl
  rw [gb_90_0, if_neg (by rw [z_lt, z_0]; omega), gb_90_4, if_pos (by rw [z_le]; omega), gb_90_14]
  refine ⟨g_in.mpr (by omega), ?_⟩
  rw [gb_90_21]
  refine ⟨g_in.mpr (by omega), ?_⟩
  rw [gb_90_30]
  refine ⟨g_in.mpr (by omega), ?_⟩
  rw [gb_90_39]
  refine ⟨g_in.mpr (by omega), ?_⟩
  rw [gb_90_48]
  refine ⟨g_in.mpr (by omega), ?_⟩
  rw [gb_90_57]
  refine ⟨g_in.mpr (by omega), ?_⟩
  rw [gb_90_66, gb_90_81]
  refine ⟨⟨by decide, by rw [z_lt, z_0]; omega, by decide, by rw [n00, n8]; omega, by rw [n6, n8]; omega, by omega⟩, ?_⟩
  rw [gb_90_84, n0, n1, n2, n3, n4, n5, n6, n8, n00]
  simp only [u_k (show (21 : Nat) ≠ 30 by decide)]
  refine K _ (fun k i j hn => ?_) (fun j hj => ?_) (fun b hb => ?_)
  · by_cases e : k = 30 ∧ i = 0
    · obtain ⟨rfl, rfl⟩ := e
      rw [r_at, v_out (by omega)]
      repeat rw [u_ne (by omega)]
    · rw [r_ne e]
      repeat rw [u_ne (by omega)]
  · rw [r_at, v_out (by omega), ← hS.1 j hj]
    have e : j = 0 ∨ j = 1 ∨ j = 2 ∨ j = 3 ∨ j = 4 ∨ j = 5 := by omega
    rcases e with rfl | rfl | rfl | rfl | rfl | rfl
    · rw [u_j (by omega), u_j (by omega), u_j (by omega), u_j (by omega), u_j (by omega), Nat.add_zero, u_eq]
    · rw [u_j (by omega), u_j (by omega), u_j (by omega), u_j (by omega), u_eq]
    · rw [u_j (by omega), u_j (by omega), u_j (by omega), u_eq]
    · rw [u_j (by omega), u_j (by omega), u_eq]
    · rw [u_j (by omega), u_eq]
    · rw [u_eq]
  · rw [r_at, v_in (by omega), ← hS.2 b hb, show 0 + (15 * s + 6 + b - (15 * s + 6)) = b by omega]
    simp only [u_k (show (22 : Nat) ≠ 30 by decide)]
theorem m_remember {i1 : Nat} {x2 : Option gV} {t : gSt} {lg : Nat → Int} {nl : Int} {ac : List (gSt × Int)} (hS : kS I i1 t) (hp : kPa I lg nl ac) (K : ∀ (I' : Nat → Nat → Nat → Int32), (∀ k i j, ¬ ((k = 28 ∧ i = 0) ∨ (k = 30 ∧ i = 0)) → I' k i j = I k i j) → kPa I' lg nl ((t, nl) :: ac.take 19) → Q none (gwd S I' J h)) : (gq (d + 1) 54 0 [some (.inr (.inr (some (28, 0)))), some (.inr (.inr (some (21, i1)))), x2] [] (gwd S I J h) Q) := by
  obtain ⟨h1, h2, h3, h4, nw, h5, h6, h7⟩ := hp
  have e1 : (1 : Int32).toInt = 1 := rfl
  have e14 : (14 : Int32).toInt = 14 := rfl
  have e15 : (15 : Int32).toInt = 15 := rfl
  have e20 : (20 : Int32).toInt = 20 := rfl
  have e285 : ((Int32.ofNat 300) - 15).toInt = 285 := rfl
  have q1 : (I 28 0 3 + 1).toInt = nw + 1 := by rw [z_add (by omega) (by omega), h6, e1]
  have q2 : (I 28 0 3 + 1 - (I 28 0 3 + 1) / 20 * 20).toInt = (((nw + 1) % 20 : Nat) : Int) := by rw [z_rem (by omega) (by omega), q1, e20]; omega
  generalize hN : I 28 0 3 + 1 - (I 28 0 3 + 1) / 20 * 20 = N at q2
  have q3 : (N * 15).toInt = 15 * (((nw + 1) % 20 : Nat) : Int) := by rw [z_mul (by rw [q2, e15]; omega) (by rw [q2, e15]; omega), q2, e15]; omega
  generalize hs : (nw + 1) % 20 = s at *
  have hs20 : s < 20 := by omega
  have q4 : (N * 15 + 14).toInt = 15 * s + 14 := by rw [z_add (by omega) (by omega), q3, e14]
  have n4 : (N * 15 + 14).toNatClampNeg = 15 * s + 14 := by rw [z_n, q4]; omega
  rw [gb_54_0, hN, if_neg (by rw [z_lt, z_0]; omega), gb_54_25, if_neg (by rw [z_lt]; omega), gb_54_37]
  refine m_store q3 hs20 (kS_congr hS (fun j => u_ne (by omega)) (fun j => u_ne (by omega))) fun I1 hF1 p1 p2 => ?_
  rw [Option.toList_none, List.nil_append, gb_54_46]
  refine ⟨g_in.mpr (by omega), ?_⟩
  rw [n4, gb_54_59, m_min, Option.toList_some, List.singleton_append, gb_54_71, gb_54_74]
  have f1 : I1 28 0 1 = I 28 0 1 := by rw [hF1 _ _ _ (by omega), u_j (by decide)]
  have f4 : I1 28 0 4 = I 28 0 4 := by rw [hF1 _ _ _ (by omega), u_j (by decide)]
  simp only [u_k (show (28 : Nat) ≠ 30 by decide)]
  rw [f1, f4]
  refine K _ (fun k i j hn => by rw [u_ne (by omega), u_ne (by omega), hF1 _ _ _ (by omega), u_ne (by omega)]) ⟨?_, fun j hj => ?_, ?_, ?_, s, hs20, ?_, ?_⟩
  · rw [u_j (by decide), u_k (by decide), f1]; exact h1
  · rw [u_k (by decide), u_k (by decide), hF1 _ _ _ (by omega), u_k (by decide)]; exact h2 j hj
  · rw [u_eq, zmin_i, z_add (by omega) (by omega), h3, e1, e20, List.length_cons, List.length_take]; omega
  · rw [List.length_cons, List.length_take]; omega
  · rw [u_j (by decide), u_k (by decide), hF1 _ _ _ (by omega), u_eq]; exact q2
  · refine ⟨⟨fun j hj => ?_, fun b hb => ?_, ?_⟩, ?_⟩
    · rw [u_k (by decide), u_j (by omega)]; exact p1 j hj
    · rw [u_k (by decide), u_j (by omega)]; exact p2 b hb
    · rw [u_k (by decide), u_eq]; exact h1
    · have es : (s + 19) % 20 = nw := by omega
      rw [es]
      refine kAc_congr (nw := s) (B := I 30 0) h5 (by rw [List.length_take]; omega) (fun k hk => ?_) (fun u hu hne j hj => ?_) (kAc_take h7)
      · rw [List.length_take] at hk; omega
      · rw [u_k (by decide), u_j (by omega), hF1 _ _ _ (by omega), u_k (by decide)]
theorem m_load {i1 s : Nat} {a2 : Int32} {t : gSt} {l : Int} (h2 : a2.toInt = 15 * s) (hs : s < 20) (hB : kRow (I 30 0) s t l) (K : ∀ (I' : Nat → Nat → Nat → Int32), (∀ k i j, ¬ ((k = 21 ∧ i = i1) ∨ (k = 22 ∧ i = i1)) → I' k i j = I k i j) → kS I' i1 t → Q none (gwd S I' J h)) : (gq d 91 0 [some (.inr (.inr (some (21, i1)))), some (.inr (.inr (some (30, 0)))), some (.inl (a2))] [] (gwd S I J h) Q) := by
  have e1 : (1 : Int32).toInt = 1 := rfl
  have e2 : (2 : Int32).toInt = 2 := rfl
  have e3 : (3 : Int32).toInt = 3 := rfl
  have e4 : (4 : Int32).toInt = 4 := rfl
  have e5 : (5 : Int32).toInt = 5 := rfl
  have e6 : (6 : Int32).toInt = 6 := rfl
  have e286 : ((Int32.ofNat 300) - 14).toInt = 286 := rfl
  have q1 : (a2 + 1).toInt = 15 * s + 1 := by rw [z_add (by omega) (by omega), h2, e1]
  have q2 : (a2 + 2).toInt = 15 * s + 2 := by rw [z_add (by omega) (by omega), h2, e2]
  have q3 : (a2 + 3).toInt = 15 * s + 3 := by rw [z_add (by omega) (by omega), h2, e3]
  have q4 : (a2 + 4).toInt = 15 * s + 4 := by rw [z_add (by omega) (by omega), h2, e4]
  have q5 : (a2 + 5).toInt = 15 * s + 5 := by rw [z_add (by omega) (by omega), h2, e5]
  have q6 : (a2 + 6).toInt = 15 * s + 6 := by rw [z_add (by omega) (by omega), h2, e6]
  have n0 : a2.toNatClampNeg = 15 * s := by rw [z_n, h2]; omega
  have n1 : (a2 + 1).toNatClampNeg = 15 * s + 1 := by rw [z_n, q1]; omega
  have n2 : (a2 + 2).toNatClampNeg = 15 * s + 2 := by rw [z_n, q2]; omega
  have n3 : (a2 + 3).toNatClampNeg = 15 * s + 3 := by rw [z_n, q3]; omega
  have n4 : (a2 + 4).toNatClampNeg = 15 * s + 4 := by rw [z_n, q4]; omega
  have n5 : (a2 + 5).toNatClampNeg = 15 * s + 5 := by rw [z_n, q5]; omega
  have n6 : (a2 + 6).toNatClampNeg = 15 * s + 6 := by rw [z_n, q6]; omega
  have n8 : (Int32.ofNat 8).toNatClampNeg = 8 := rfl
  have n00 : (0 : Int32).toNatClampNeg = 0 := rfl
  rw [gb_91_0, if_neg (by rw [z_lt, z_0]; omega), gb_91_4, if_pos (by rw [z_le]; omega), gb_91_14]
  refine ⟨g_in.mpr (by omega), ?_⟩
  rw [gb_91_18]
  refine ⟨g_in.mpr (by omega), ?_⟩
  rw [gb_91_27]
  refine ⟨g_in.mpr (by omega), ?_⟩
  rw [gb_91_36]
  refine ⟨g_in.mpr (by omega), ?_⟩
  rw [gb_91_45]
  refine ⟨g_in.mpr (by omega), ?_⟩
  rw [gb_91_54]
  refine ⟨g_in.mpr (by omega), ?_⟩
  rw [gb_91_63, gb_91_81]
  refine ⟨⟨by rw [z_lt, z_0]; omega, by decide, by decide, by rw [n6, n8]; omega, by rw [n00, n8]; omega, by omega⟩, ?_⟩
  rw [gb_91_84, n0, n1, n2, n3, n4, n5, n6, n8, n00]
  simp only [u_k (show (30 : Nat) ≠ 21 by decide)]
  refine K _ (fun k i j hn => ?_) ⟨fun j hj => ?_, fun b hb => ?_⟩
  · rw [r_ne (by omega)]; repeat rw [u_ne (by omega)]
  · rw [r_ne (by omega), ← hB.1 j hj]
    have e : j = 0 ∨ j = 1 ∨ j = 2 ∨ j = 3 ∨ j = 4 ∨ j = 5 := by omega
    rcases e with rfl | rfl | rfl | rfl | rfl | rfl
    · rw [u_j (by omega), u_j (by omega), u_j (by omega), u_j (by omega), u_j (by omega), u_eq]; rfl
    · rw [u_j (by omega), u_j (by omega), u_j (by omega), u_j (by omega), u_eq]
    · rw [u_j (by omega), u_j (by omega), u_j (by omega), u_eq]
    · rw [u_j (by omega), u_j (by omega), u_eq]
    · rw [u_j (by omega), u_eq]
    · rw [u_eq]
  · rw [r_at, v_in (by omega), ← hB.2.1 b hb, show 15 * s + 6 + (b - 0) = 15 * s + 6 + b by omega]
    simp only [u_k (show (30 : Nat) ≠ 21 by decide)]
theorem m_goBack {i1 : Nat} {x2 : Option gV} {lg : Nat → Int} {nl : Int} {ac : List (gSt × Int)} (hp : kPa I lg nl ac) (hle : ∀ a ∈ ac, a.2 ≤ nl) (K0 : ac = [] → Q (some (.inl 0)) (gwd S I J h)) (K : ∀ (I' : Nat → Nat → Nat → Int32) t l r, ac = (t, l) :: r → (∀ k i j, ¬ ((k = 28 ∧ i = 0) ∨ (k = 21 ∧ i = i1) ∨ (k = 22 ∧ i = i1)) → I' k i j = I k i j) → kS I' i1 t → kPa I' lg l r → Q (some (.inl 1)) (gwd S I' J h)) : (gq (d + 1) 55 0 [some (.inr (.inr (some (28, 0)))), some (.inr (.inr (some (21, i1)))), x2] [] (gwd S I J h) Q) := by
  obtain ⟨h1, h2, h3, h4, nw, h5, h6, h7⟩ := hp
  have e1 : (1 : Int32).toInt = 1 := rfl
  have e14 : (14 : Int32).toInt = 14 := rfl
  have e15 : (15 : Int32).toInt = 15 := rfl
  have e20 : (20 : Int32).toInt = 20 := rfl
  have e285 : ((Int32.ofNat 300) - 15).toInt = 285 := rfl
  have q3 : (I 28 0 3 * 15).toInt = 15 * (nw : Int) := by rw [z_mul (by rw [h6, e15]; omega) (by rw [h6, e15]; omega), h6, e15]; omega
  rw [gb_55_0]
  match ac, h3, h4, h7, K0, K, hle with
  | [], h3, h4, h7, K0, K, hle =>
    rw [if_pos (by rw [z_le, z_0, h3]; decide), gb_55_31]
    exact K0 rfl
  | (t, l) :: r, h3, h4, h7, K0, K, hle =>
    simp only [List.length_cons] at h3 h4
    have q4 : (I 28 0 3 * 15 + 14).toInt = 15 * nw + 14 := by rw [z_add (by omega) (by omega), q3, e14]
    have n4 : (I 28 0 3 * 15 + 14).toNatClampNeg = 15 * nw + 14 := by rw [z_n, q4]; omega
    rw [if_neg (by rw [z_le, z_0, h3]; omega), gb_55_15, if_neg (by rw [z_lt, z_0]; omega), gb_55_19, if_pos (by rw [z_le]; omega), gb_55_33]
    refine m_load q3 h5 h7.1 fun I1 hF1 hS1 => ?_
    rw [Option.toList_none, List.nil_append, gb_55_42]
    refine ⟨g_in.mpr (by omega), ?_⟩
    rw [n4, gb_55_52]
    have f3 : I1 28 0 3 = I 28 0 3 := hF1 _ _ _ (by omega)
    have f4 : I1 28 0 4 = I 28 0 4 := hF1 _ _ _ (by omega)
    have hl := hle (t, l) (by simp)
    have a1 : (I 28 0 3 + 20).toInt = nw + 20 := by rw [z_add (by omega) (by omega), h6, e20]
    have a2 : (I 28 0 3 + 20 - 1).toInt = nw + 19 := by rw [z_sub (by omega) (by omega), a1, e1]; omega
    have a3 : (I 28 0 3 + 20 - 1 - (I 28 0 3 + 20 - 1) / 20 * 20).toInt = (((nw + 19) % 20 : Nat) : Int) := by rw [z_rem (by omega) (by omega), a2, e20]; omega
    rw [f3, f4]
    refine K _ t l r rfl (fun k i j hn => by rw [u_ne (by omega), u_ne (by omega), u_ne (by omega), hF1 _ _ _ (by omega)]) (kS_congr hS1 (fun j => by repeat rw [u_ne (by omega)]) (fun j => by repeat rw [u_ne (by omega)])) ⟨?_, fun j hj => ?_, ?_, by omega, (nw + 19) % 20, by omega, ?_, ?_⟩
    · rw [u_j (by decide), u_j (by decide), u_eq, hF1 _ _ _ (by omega)]; exact h7.1.2.2
    · rw [u_k (by decide), u_k (by decide), u_k (by decide), hF1 _ _ _ (by omega)]; exact h2 j (by show (j : Int) < 4 * nl; have : l ≤ nl := hl; omega)
    · rw [u_eq, z_sub (by omega) (by omega), h3, e1]; omega
    · rw [u_j (by decide), u_eq]; exact a3
    · have e30 : ∀ f : Nat → Nat → Nat → Int32, (∀ z, f 30 0 z = I 30 0 z) → kAc (f 30 0) ((nw + 19) % 20) r := fun f hf => by
        rw [show f 30 0 = I 30 0 from funext hf]; exact h7.2
      exact e30 _ (fun z => by rw [u_k (by decide), u_k (by decide), u_k (by decide), hF1 _ _ _ (by omega)])
theorem m_pclear {lg : Nat → Int} {nl : Int} {ac : List (gSt × Int)} (hp : kPa I lg nl ac) (K : ∀ (I' : Nat → Nat → Nat → Int32), (∀ k i j, ¬ ((k = 28 ∧ i = 0 ∧ (j = 1 ∨ j = 4))) → I' k i j = I k i j) → kPa I' lg 0 [] → Q none (gwd S I' J h)) : (gq d 50 0 [some (.inr (.inr (some (28, 0))))] [] (gwd S I J h) Q) := by
  obtain ⟨h1, h2, h3, h4, nw, h5, h6, h7⟩ := hp
  rw [gb_50_0]
  exact K _ (fun k i j hn => by repeat rw [u_ne (by omega)]) ⟨by rw [u_j (by decide), u_eq]; rfl, fun j hj => by omega, by rw [u_eq]; rfl, by simp, nw, h5, by rw [u_j (by decide), u_j (by decide)]; exact h6, trivial⟩
