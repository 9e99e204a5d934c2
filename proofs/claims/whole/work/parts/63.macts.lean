/-! The model: acts kept and undone. -/
def mSr (R : Nat → Int32) (C : gCo) (t : gSt) : Prop := ((R 0).toInt = t 0 ∧ (R 1).toInt = t 1 ∧ (R 2).toInt = t 2 ∧ (R 3).toInt = t 3) ∧ (∀ b : Nat, (b : Int) < C.1 2 → (R (4 + 2 * b)).toInt = t (10 + b) ∧ (R (5 + 2 * b)).toInt = gBi (t 4) b) ∧ (∀ b : Nat, (b : Int) < C.1 3 → (R (20 + b)).toInt = gBi (t 5) b)
def mKr (R : Nat → Int32) (lg : Nat → Int) (nl : Int) : Prop := (R 28).toInt = min nl 40 ∧ ∀ k w : Nat, (k : Int) < min nl 40 → w < 4 → (R (29 + 4 * k + w)).toInt = lg (4 * (nl - min nl 40).toNat + 4 * k + w)
theorem mSr_congr {R R' : Nat → Int32} {C : gCo} {t : gSt} (hc : cOk C) (h : mSr R C t) (e : ∀ j, j < 28 → R' j = R j) : mSr R' C t := by
  have rB := hc.2.2.1
  have rH := hc.2.2.2.1
  obtain ⟨h1, h2, h3⟩ := h
  refine ⟨?_, fun b hb => ?_, fun b hb => ?_⟩
  · rw [e _ (by omega), e _ (by omega), e _ (by omega), e _ (by omega)]; exact h1
  · rw [e _ (by omega), e _ (by omega)]; exact h2 b hb
  · rw [e _ (by omega)]; exact h3 b hb
theorem mKr_congr {R R' : Nat → Int32} {lg : Nat → Int} {nl : Int} (h : mKr R lg nl) (e : ∀ j, j < 189 → R' j = R j) : mKr R' lg nl := ⟨by rw [e _ (by omega)]; exact h.1, fun k w hk hw => by rw [e _ (by omega)]; exact h.2 k w hk hw⟩
theorem mKr_log {R : Nat → Int32} {lg : Nat → Int} {nl nl' a b c e : Int} (h : mKr R lg nl') (h0 : 0 ≤ nl') (hle : nl' ≤ nl) : mKr R (gLog lg nl a b c e) nl' := ⟨h.1, fun k w hk hw => by
  rw [h.2 k w hk hw]
  unfold gLog
  rw [if_neg (by omega), if_neg (by omega), if_neg (by omega), if_neg (by omega)]⟩
def mAc (B : Nat → Int32) (C : gCo) (lg : Nat → Int) : Nat → List (gSt × Int) → Prop
  | _, [] => True
  | s, a :: r => (mSr (fun j => B (189 * s + j)) C a.1 ∧ mKr (fun j => B (189 * s + j)) lg a.2) ∧ mAc B C lg ((s + 19) % 20) r
theorem mAc_congr {B B' : Nat → Int32} {C : gCo} {lg : Nat → Int} {nw : Nat} (hc : cOk C) : ∀ {r : List (gSt × Int)} {s : Nat}, s < 20 → r.length ≤ 19 → (∀ k, k < r.length → (s + 19 * k) % 20 ≠ nw) → (∀ s, s < 20 → s ≠ nw → ∀ j, j < 189 → B' (189 * s + j) = B (189 * s + j)) → mAc B C lg s r → mAc B' C lg s r
  | [], _, _, _, _, _, _ => trivial
  | a :: r, s, hs, hl, hd, e, h => by
    have hne : s ≠ nw := by have := hd 0 (by simp); simp at this; omega
    refine ⟨⟨mSr_congr hc h.1.1 fun j hj => e s hs hne j (by omega), mKr_congr h.1.2 fun j hj => e s hs hne j hj⟩, mAc_congr hc (nw := nw) (by omega) (by simp at hl; omega) (fun k hk => ?_) e h.2⟩
    have := hd (k + 1) (by simp; omega)
    omega
theorem mAc_take {B : Nat → Int32} {C : gCo} {lg : Nat → Int} : ∀ {r : List (gSt × Int)} {s n : Nat}, mAc B C lg s r → mAc B C lg s (r.take n)
  | [], _, _, _ => by simp [mAc]
  | a :: r, _, 0, _ => trivial
  | a :: r, _, n + 1, h => ⟨h.1, mAc_take h.2⟩
theorem mAc_log {B : Nat → Int32} {C : gCo} {lg : Nat → Int} {nl a b c e : Int} : ∀ {r : List (gSt × Int)} {s : Nat}, (∀ x ∈ r, 0 ≤ x.2 ∧ x.2 ≤ nl) → mAc B C lg s r → mAc B C (gLog lg nl a b c e) s r
  | [], _, _, _ => trivial
  | x :: r, s, hx, h => ⟨⟨h.1.1, mKr_log h.1.2 (hx x (by simp)).1 (hx x (by simp)).2⟩, mAc_log (fun y hy => hx y (by simp [hy])) h.2⟩
def mPa (I : Nat → Nat → Nat → Int32) (C : gCo) (lg : Nat → Int) (ac : List (gSt × Int)) : Prop := (I 50 0 70).toInt = ac.length ∧ ac.length ≤ 20 ∧ ∃ nw : Nat, nw < 20 ∧ (I 50 0 71).toInt = nw ∧ mAc (I 67 0) C lg nw ac
theorem mPa_congr {I I' : Nat → Nat → Nat → Int32} {C : gCo} {lg : Nat → Int} {ac : List (gSt × Int)} (h : mPa I C lg ac) (e : ∀ k j, (k = 67 ∨ k = 50 ∧ (j = 70 ∨ j = 71)) → I' k 0 j = I k 0 j) : mPa I' C lg ac := by
  obtain ⟨h1, h2, nw, h3, h4, h5⟩ := h
  exact ⟨by rw [e _ _ (by omega)]; exact h1, h2, nw, h3, by rw [e _ _ (by omega)]; exact h4, by rw [show I' 67 0 = I 67 0 from funext fun z => e _ _ (by omega)]; exact h5⟩
variable {d S : Nat} {h : Nat × Option gNm} {I : Nat → Nat → Nat → Int32} {J : Nat → Nat → Nat → Int64} {Q : Option gV → gW → Prop}
theorem n_keeps_loop {s : Nat} (hs : s < 20) : ∀ (n b : Nat) (I : Nat → Nat → Nat → Int32) (a1 : Int32), b + n = 189 → a1.toInt = b → (I 50 0 71).toInt = s → (∀ j, j < b → I 67 0 (189 * s + j) = I 61 0 j) →
    (∀ (I' : Nat → Nat → Nat → Int32) a1, (∀ k i j, ¬ (k = 67 ∧ i = 0 ∧ 189 * s ≤ j ∧ j < 189 * s + 189) → I' k i j = I k i j) → (∀ j, j < 189 → I' 67 0 (189 * s + j) = I 61 0 j) → (gq d 237 49 [some (.inr (.inr (some (50, 0)))), some (.inl (a1))] [] (gwd S I' J h) Q)) → (gq d 237 15 [some (.inr (.inr (some (50, 0)))), some (.inl (a1))] [] (gwd S I J h) Q)
  | 0, b, I, a1, hn, h1, h71, hl, K => by
    have e189 : (Int32.ofNat 189).toInt = 189 := rfl
    have e189' : (189 : Int32).toInt = 189 := rfl
    rw [gb_237_15, if_pos (by rw [z_le]; omega)]
    exact K I _ (fun _ _ _ _ => rfl) (fun j hj => hl j (by omega))
  | n + 1, b, I, a1, hn, h1, h71, hl, K => by
    have e189 : (Int32.ofNat 189).toInt = 189 := rfl
    have e189' : (189 : Int32).toInt = 189 := rfl
    have e1 : (1 : Int32).toInt = 1 := rfl
    have n1 : a1.toNatClampNeg = b := by rw [z_n]; omega
    have q1 : (189 * I 50 0 71).toInt = 189 * s := by rw [z_mul (by rw [h71, e189']; omega) (by rw [h71, e189']; omega), h71, e189']
    have q2 : (189 * I 50 0 71 + a1).toInt = 189 * s + b := by rw [z_add (by omega) (by omega), q1, h1]
    have n2 : (189 * I 50 0 71 + a1).toNatClampNeg = 189 * s + b := by rw [z_n, q2]; omega
    rw [gb_237_15, if_neg (by rw [z_le]; omega), gb_237_22]
    refine ⟨g_in.mpr (by omega), ?_⟩
    rw [gb_237_42]
    refine ⟨g_in.mpr (by omega), ?_⟩
    rw [n1, n2, gb_237_43]
    refine n_keeps_loop hs n (b + 1) _ _ (by omega) (by rw [z_add (by omega) (by omega), h1, e1]; rfl) (by rw [u_k (by decide)]; exact h71) (fun j hj => ?_) fun I' a1 hF g => K I' a1 (fun k i j hn => by rw [hF _ _ _ hn, u_ne (by omega)]) (fun j hj => by rw [g j hj, u_k (by decide)])
    rw [u_at, u_k (by decide)]
    by_cases e : j = b
    · rw [if_pos (by omega), e]
    · rw [if_neg (by omega)]; exact hl j (by omega)
theorem n_keeps {x1 : Option gV} {C : gCo} {t : gSt} {lg : Nat → Int} {nl : Int} {ac : List (gSt × Int)} (hc : cOk C) (hS : mS I C t) (hk : mKp I lg nl) (hp : mPa I C lg ac) (K : ∀ (I' : Nat → Nat → Nat → Int32), (∀ k i j, ¬ ((k = 50 ∧ i = 0 ∧ (j = 70 ∨ j = 71)) ∨ (k = 67 ∧ i = 0)) → I' k i j = I k i j) → mPa I' C lg ((t, nl) :: ac.take 19) → Q none (gwd S I' J h)) : (gq d 237 0 [some (.inr (.inr (some (50, 0)))), x1] [] (gwd S I J h) Q) := by
  obtain ⟨h1, h2, nw, h3, h4, h5⟩ := hp
  have e1 : (1 : Int32).toInt = 1 := rfl
  have e20 : (20 : Int32).toInt = 20 := rfl
  have q1 : (I 50 0 71 + 1).toInt = nw + 1 := by rw [z_add (by omega) (by omega), h4, e1]
  have q2 : (I 50 0 71 + 1 - (I 50 0 71 + 1) / 20 * 20).toInt = (((nw + 1) % 20 : Nat) : Int) := by rw [z_rem (by omega) (by omega), q1, e20]; omega
  rw [gb_237_0]
  generalize hN : I 50 0 71 + 1 - (I 50 0 71 + 1) / 20 * 20 = N at q2
  refine n_keeps_loop (s := (nw + 1) % 20) (by omega) 189 0 _ _ rfl rfl (by rw [u_eq]; exact q2) (fun j hj => by omega) fun I1 a1 hF1 g1 => ?_
  have f70 : I1 50 0 70 = I 50 0 70 := by rw [hF1 _ _ _ (by omega), u_j (by decide)]
  have f71 : I1 50 0 71 = N := by rw [hF1 _ _ _ (by omega), u_eq]
  have row : ∀ j, j < 189 → I1 67 0 (189 * ((nw + 1) % 20) + j) = I 61 0 j := fun j hj => by rw [g1 j hj, u_k (by decide)]
  have acts : ∀ I2 : Nat → Nat → Nat → Int32, (∀ z, I2 67 0 z = I1 67 0 z) → mAc (I2 67 0) C lg ((nw + 1) % 20) ((t, nl) :: ac.take 19) := fun I2 h2' => by
    rw [show I2 67 0 = I1 67 0 from funext h2']
    refine ⟨⟨mSr_congr hc hS fun j hj => row j (by omega), mKr_congr hk fun j hj => row j hj⟩, ?_⟩
    rw [show ((nw + 1) % 20 + 19) % 20 = nw by omega]
    refine mAc_congr (nw := (nw + 1) % 20) (B := I 67 0) hc h3 (by rw [List.length_take]; omega) (fun k hk => ?_) (fun u hu hne j hj => ?_) (mAc_take h5)
    · rw [List.length_take] at hk; omega
    · rw [hF1 _ _ _ (by omega), u_k (by decide)]
  rw [gb_237_49, f70]
  by_cases w : ac.length = 20
  · rw [if_pos (by rw [z_le]; omega), gb_237_68]
    refine K I1 (fun k i j hn => by rw [hF1 _ _ _ (by omega), u_ne (by omega)]) ⟨?_, ?_, (nw + 1) % 20, by omega, by rw [f71]; exact q2, acts I1 fun _ => rfl⟩
    · rw [f70, h1, List.length_cons, List.length_take]; omega
    · rw [List.length_cons, List.length_take]; omega
  · rw [if_neg (by rw [z_le]; omega), gb_237_58, f70, gb_237_68]
    refine K _ (fun k i j hn => by rw [u_ne (by omega), hF1 _ _ _ (by omega), u_ne (by omega)]) ⟨?_, ?_, (nw + 1) % 20, by omega, by rw [u_j (by decide), f71]; exact q2, acts _ fun z => u_k (by decide)⟩
    · rw [u_eq, z_add (by omega) (by omega), h1, e1, List.length_cons, List.length_take]; omega
    · rw [List.length_cons, List.length_take]; omega
theorem n_undo_loop {s : Nat} (hs : s < 20) : ∀ (n b : Nat) (I : Nat → Nat → Nat → Int32) (a1 : Int32), b + n = 189 → a1.toInt = b → (I 50 0 71).toInt = s → (∀ j, j < b → I 61 0 j = I 67 0 (189 * s + j)) →
    (∀ (I' : Nat → Nat → Nat → Int32), (∀ k i j, ¬ ((k = 61 ∧ i = 0)) → I' k i j = I k i j) → (∀ j, j < 189 → I' 61 0 j = I 67 0 (189 * s + j)) → Q (some (.inl 1)) (gwd S (gup (gup I' 50 0 71 (I 50 0 71 + 20 - 1 - (I 50 0 71 + 20 - 1) / 20 * 20)) 50 0 70 (I 50 0 70 - 1)) J h)) → (gq d 238 21 [some (.inr (.inr (some (50, 0)))), some (.inl (a1))] [] (gwd S I J h) Q)
  | 0, b, I, a1, hn, h1, h71, hl, K => by
    have e189 : (Int32.ofNat 189).toInt = 189 := rfl
    have e189' : (189 : Int32).toInt = 189 := rfl
    rw [gb_238_21, if_pos (by rw [z_le]; omega), gb_238_55]
    exact K I (fun _ _ _ _ => rfl) (fun j hj => hl j (by omega))
  | n + 1, b, I, a1, hn, h1, h71, hl, K => by
    have e189 : (Int32.ofNat 189).toInt = 189 := rfl
    have e189' : (189 : Int32).toInt = 189 := rfl
    have e1 : (1 : Int32).toInt = 1 := rfl
    have n1 : a1.toNatClampNeg = b := by rw [z_n]; omega
    have q1 : (189 * I 50 0 71).toInt = 189 * s := by rw [z_mul (by rw [h71, e189']; omega) (by rw [h71, e189']; omega), h71, e189']
    have q2 : (189 * I 50 0 71 + a1).toInt = 189 * s + b := by rw [z_add (by omega) (by omega), q1, h1]
    have n2 : (189 * I 50 0 71 + a1).toNatClampNeg = 189 * s + b := by rw [z_n, q2]; omega
    rw [gb_238_21, if_neg (by rw [z_le]; omega), gb_238_28]
    refine ⟨g_in.mpr (by omega), ?_⟩
    rw [gb_238_48]
    refine ⟨g_in.mpr (by omega), ?_⟩
    rw [n1, n2, gb_238_49]
    refine n_undo_loop hs n (b + 1) _ _ (by omega) (by rw [z_add (by omega) (by omega), h1, e1]; rfl) (by rw [u_k (by decide)]; exact h71) (fun j hj => ?_) fun I' hF g => ?_
    · rw [u_at, u_k (by decide)]
      by_cases e : j = b
      · rw [if_pos e, e]
      · rw [if_neg e]; exact hl j (by omega)
    · rw [u_k (show (50 : Nat) ≠ 61 by decide), u_k (show (50 : Nat) ≠ 61 by decide)]
      exact K I' (fun k i j hn => by rw [hF _ _ _ hn, u_ne (by omega)]) (fun j hj => by rw [g j hj, u_k (by decide)])
def gRef (rf : Nat → Int32) (w : Nat) : Nat → Int32 := fun k => if k = w then rf k + 1 else rf k
def mRf (I : Nat → Nat → Nat → Int32) (rf : Nat → Int32) : Prop := ∀ k, k < 6 → I 52 0 k = rf k
theorem n_undo {x1 : Option gV} {C : gCo} {lg : Nat → Int} {rf : Nat → Int32} {ac : List (gSt × Int)} (hc : cOk C) (hp : mPa I C lg ac) (hf : mRf I rf)
    (K0 : ∀ (I' : Nat → Nat → Nat → Int32), ac = [] → (∀ k i j, ¬ ((k = 52 ∧ i = 0)) → I' k i j = I k i j) → mRf I' (gRef rf 4) → Q (some (.inl 0)) (gwd S I' J h)) (K : ∀ (I' : Nat → Nat → Nat → Int32) t l r, ac = (t, l) :: r → (∀ k i j, ¬ ((k = 50 ∧ i = 0 ∧ (j = 70 ∨ j = 71)) ∨ (k = 61 ∧ i = 0)) → I' k i j = I k i j) → mS I' C t → mKp I' lg l → mPa I' C lg r → Q (some (.inl 1)) (gwd S I' J h)) : (gq d 238 0 [some (.inr (.inr (some (50, 0)))), x1] [] (gwd S I J h) Q) := by
  obtain ⟨h1, h2, nw, h3, h4, h5⟩ := hp
  have e1 : (1 : Int32).toInt = 1 := rfl
  have e20 : (20 : Int32).toInt = 20 := rfl
  rw [gb_238_0]
  match ac, h1, h2, h5, K0, K with
  | [], h1, h2, h5, K0, K =>
    rw [if_pos (z_inj h1), gb_238_7]
    refine ⟨rfl, ?_⟩
    rw [gb_238_14]
    refine ⟨rfl, ?_⟩
    rw [show (4 : Int32).toNatClampNeg = 4 from rfl, gb_238_17]
    refine K0 _ rfl (fun k i j hn => u_ne (by omega)) fun k hk => ?_
    rw [u_at]
    unfold gRef
    split
    · rename_i e; rw [e, hf 4 (by decide)]
    · exact hf k hk
  | (t, l) :: r, h1, h2, h5, K0, K =>
    simp only [List.length_cons] at h1 h2
    rw [if_neg (fun e => by rw [e, z_0] at h1; omega), gb_238_19]
    refine n_undo_loop h3 189 0 I _ rfl rfl h4 (fun j hj => by omega) fun I1 hF1 g1 => ?_
    have a1 : (I 50 0 71 + 20).toInt = nw + 20 := by rw [z_add (by omega) (by omega), h4, e20]
    have a2 : (I 50 0 71 + 20 - 1).toInt = nw + 19 := by rw [z_sub (by omega) (by omega), a1, e1]; omega
    have a3 : (I 50 0 71 + 20 - 1 - (I 50 0 71 + 20 - 1) / 20 * 20).toInt = (((nw + 19) % 20 : Nat) : Int) := by rw [z_rem (by omega) (by omega), a2, e20]; omega
    generalize I 50 0 71 + 20 - 1 - (I 50 0 71 + 20 - 1) / 20 * 20 = N at a3 ⊢
    refine K _ t l r rfl (fun k i j hn => by rw [u_ne (by omega), u_ne (by omega), hF1 _ _ _ (by omega)]) ?_ ?_ ⟨?_, by omega, (nw + 19) % 20, by omega, ?_, ?_⟩
    · exact mSr_congr (R := fun j => I 67 0 (189 * nw + j)) hc h5.1.1 fun j hj => by rw [u_k (by decide), u_k (by decide)]; exact g1 j (by omega)
    · exact mKr_congr (R := fun j => I 67 0 (189 * nw + j)) h5.1.2 fun j hj => by rw [u_k (by decide), u_k (by decide)]; exact g1 j hj
    · rw [u_eq, z_sub (by omega) (by omega), h1, e1]; omega
    · rw [u_j (by decide), u_eq]; exact a3
    · have e67 : ∀ f : Nat → Nat → Nat → Int32, (∀ z, f 67 0 z = I 67 0 z) → mAc (f 67 0) C lg ((nw + 19) % 20) r := fun f hf => by
        rw [show f 67 0 = I 67 0 from funext hf]; exact h5.2
      exact e67 _ fun z => by rw [u_k (by decide), u_k (by decide), hF1 _ _ _ (by omega)]
