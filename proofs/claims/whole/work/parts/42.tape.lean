/-! The class: the tape, rows seen, images. -/
def kTp (I : Nat → Nat → Nat → Int32) (tp : Nat → Int) (ln : Int) : Prop := (I 11 0 1).toInt = ln ∧ ∀ j : Nat, (j : Int) < ln → (I 12 0 j &&& 255).toInt = tp j
def tpOk (tp : Nat → Int) (ln : Int) : Prop := (0 ≤ ln ∧ ln ≤ 1600) ∧ ∀ j : Nat, (j : Int) < ln → 0 ≤ tp j ∧ tp j ≤ 255
theorem kTp_congr {I I' : Nat → Nat → Nat → Int32} {tp : Nat → Int} {ln : Int} (h : kTp I tp ln) (e1 : I' 11 0 1 = I 11 0 1) (e2 : ∀ j, I' 12 0 j = I 12 0 j) : kTp I' tp ln := ⟨by rw [e1]; exact h.1, fun j hj => by rw [e2]; exact h.2 j hj⟩
/-- byte k of the tape, -1 without -/
def gByt (tp : Nat → Int) (ln k : Int) : Int := if 0 ≤ k ∧ k < ln then tp k.toNat else -1
theorem gByt_r {tp : Nat → Int} {ln k : Int} (h : tpOk tp ln) : -1 ≤ gByt tp ln k ∧ gByt tp ln k ≤ 255 ∧ (0 ≤ k → k < ln → 0 ≤ gByt tp ln k) := by
  unfold gByt
  split
  · have := h.2 k.toNat (by omega)
    exact ⟨by omega, this.2, fun _ _ => this.1⟩
  · exact ⟨by omega, by omega, fun _ _ => by omega⟩
variable {d S : Nat} {h : Nat × Option gNm} {I : Nat → Nat → Nat → Int32} {J : Nat → Nat → Nat → Int64} {Q : Option gV → gW → Prop}
theorem m_byte {a1 : Int32} {tp : Nat → Int} {ln : Int} (hp : kTp I tp ln) (ho : tpOk tp ln) (K : ∀ x, x.toInt = gByt tp ln a1.toInt → Q (some (.inl x)) (gwd S I J h)) : (gq d 102 0 [some (.inr (.inr (some (11, 0)))), some (.inl (a1))] [] (gwd S I J h) Q) := by
  have h1 := hp.1
  have hl := ho.1
  rw [m_byteAt]
  refine K _ ?_
  unfold gByt
  by_cases w : 0 ≤ a1.toInt ∧ a1.toInt < ln
  · rw [if_pos (by omega), if_pos w]; exact hp.2 _ (by omega)
  · rw [if_neg (by omega), if_neg w]; rfl
def gSeeOk (C : gCo) (tp : Nat → Int) (ln : Int) : Nat → Nat → Bool
  | 0, _ => true
  | n + 1, i => if gByt tp ln (3 * i) ≤ 30 ∧ (0 ≤ gByt tp ln (3 * i + 1) ∧ gByt tp ln (3 * i + 1) < C.1 3) ∧ gByt tp ln (3 * i + 2) ≤ 1 then gSeeOk C tp ln n (i + 1) else false
def gSee (C : gCo) (tp : Nat → Int) (ln : Int) : Bool := decide (ln % 3 = 0 ∧ 1 ≤ ln / 3 ∧ ln / 3 ≤ 16) && gSeeOk C tp ln (ln / 3).toNat 0
theorem gSeeOk_at {C : gCo} {tp : Nat → Int} {ln : Int} : ∀ {n i : Nat}, gSeeOk C tp ln n i = true → ∀ k, i ≤ k → k < i + n → gByt tp ln (3 * k) ≤ 30 ∧ (0 ≤ gByt tp ln (3 * k + 1) ∧ gByt tp ln (3 * k + 1) < C.1 3) ∧ gByt tp ln (3 * k + 2) ≤ 1
  | 0, i, _, k, h1, h2 => by omega
  | n + 1, i, h, k, h1, h2 => by
    unfold gSeeOk at h
    split at h
    · rename_i w
      by_cases e : k = i
      · rw [e]; exact w
      · exact gSeeOk_at h k (by omega) (by omega)
    · cases h
theorem m_see_test {i1 : Nat} {C : gCo} {tp : Nat → Int} {ln : Int} {a3 : Int32} (hc : cOk C) (hC : kCo I i1 C) (hp : kTp I tp ln) (ho : tpOk tp ln) {r : Bool} (K0 : r = false → Q (some (.inl 0)) (gwd S I J h)) (K1 : r = true → ∀ a4 x5, (gq (d + 1) 11 102 [some (.inr (.inr (some (20, 0)))), some (.inr (.inr (some (11, 0)))), some (.inr (.inr (some (34, i1)))), some (.inl (a3)), some (.inl (a4)), x5] [] (gwd S I J h) Q)) : ∀ (n i : Nat) (a4 : Int32) (x5 : Option gV), a3.toInt = ((i + n : Nat) : Int) → i + n ≤ 16 → a4.toInt = i → gSeeOk C tp ln n i = r → (gq (d + 1) 11 32 [some (.inr (.inr (some (20, 0)))), some (.inr (.inr (some (11, 0)))), some (.inr (.inr (some (34, i1)))), some (.inl (a3)), some (.inl (a4)), x5] [] (gwd S I J h) Q)
  | 0, i, a4, x5, h3, h16, h4, he => by
    rw [gb_11_32, if_pos (by rw [z_le]; omega)]
    exact K1 (by rw [← he]; rfl) _ _
  | n + 1, i, a4, x5, h3, h16, h4, he => by
    have e1 : (1 : Int32).toInt = 1 := rfl
    have e2 : (2 : Int32).toInt = 2 := rfl
    have e3 : (3 : Int32).toInt = 3 := rfl
    have e30 : (30 : Int32).toInt = 30 := rfl
    have c3 := hC.1 3 (by decide)
    have r3 := hc.2.2.2.1
    have q0 : (3 * a4).toInt = 3 * i := by rw [z_mul (by rw [h4, e3]; omega) (by rw [h4, e3]; omega), h4, e3]
    have q1 : (3 * a4 + 1).toInt = 3 * i + 1 := by rw [z_add (by omega) (by omega), q0, e1]
    have q2 : (3 * a4 + 2).toInt = 3 * i + 2 := by rw [z_add (by omega) (by omega), q0, e2]
    rw [show gSeeOk C tp ln (n + 1) i = if gByt tp ln (3 * i) ≤ 30 ∧ (0 ≤ gByt tp ln (3 * i + 1) ∧ gByt tp ln (3 * i + 1) < C.1 3) ∧ gByt tp ln (3 * i + 2) ≤ 1 then gSeeOk C tp ln n (i + 1) else false from rfl] at he
    have no : ¬ (gByt tp ln (3 * i) ≤ 30 ∧ (0 ≤ gByt tp ln (3 * i + 1) ∧ gByt tp ln (3 * i + 1) < C.1 3) ∧ gByt tp ln (3 * i + 2) ≤ 1) → (gq (d + 1) 11 86 [some (.inr (.inr (some (20, 0)))), some (.inr (.inr (some (11, 0)))), some (.inr (.inr (some (34, i1)))), some (.inl (a3)), some (.inl (a4)), x5] [] (gwd S I J h) Q) := fun hno => by
      rw [if_neg hno] at he
      rw [gb_11_86, gb_11_87, if_pos rfl, gb_11_94]
      exact K0 he.symm
    rw [gb_11_32, if_neg (by rw [z_le]; omega), gb_11_38]
    refine m_byte hp ho fun x hx => ?_
    rw [q0] at hx
    rw [Option.toList_some, List.singleton_append, gb_11_46]
    by_cases w1 : gByt tp ln (3 * i) ≤ 30
    case neg => rw [if_pos (by rw [z_lt]; omega)]; exact no (fun e => w1 e.1)
    rw [if_neg (by rw [z_lt]; omega), gb_11_51]
    refine m_byte hp ho fun y hy => ?_
    rw [q1] at hy
    rw [Option.toList_some, List.singleton_append, gb_11_62, m_hasHouse, Option.toList_some, List.singleton_append, gb_11_65]
    by_cases w2 : 0 ≤ gByt tp ln (3 * i + 1) ∧ gByt tp ln (3 * i + 1) < C.1 3
    case neg => rw [if_pos (by rw [zb_0, hy, c3]; omega)]; exact no (fun e => w2 e.2.1)
    rw [if_neg (by rw [zb_0, hy, c3]; exact fun e => e (by omega)), gb_11_68]
    refine m_byte hp ho fun z hz => ?_
    rw [q2] at hz
    rw [Option.toList_some, List.singleton_append, gb_11_78]
    by_cases w3 : gByt tp ln (3 * i + 2) ≤ 1
    case neg => rw [if_pos (by rw [z_lt]; omega)]; exact no (fun e => w3 e.2.2)
    rw [if_neg (by rw [z_lt]; omega), gb_11_82, gb_11_87, if_neg (by decide), gb_11_96]
    rw [if_pos ⟨w1, w2, w3⟩] at he
    exact m_see_test hc hC hp ho K0 K1 n (i + 1) _ _ (by omega) (by omega) (by rw [z_add (by omega) (by omega), h4, e1]; rfl) he
theorem m_see_lay {i1 : Nat} {tp : Nat → Int} {ln : Int} {a3 : Int32} {x5 : Option gV} (ho : tpOk tp ln) : ∀ (n i : Nat) (I : Nat → Nat → Nat → Int32) (a4 : Int32), a3.toInt = ((i + n : Nat) : Int) → i + n ≤ 16 → 3 * (((i + n : Nat) : Int)) ≤ ln → a4.toInt = i → kTp I tp ln →
    (∀ k, k < i → (I 23 0 k).toInt = tp (3 * k) ∧ (I 24 0 k).toInt = tp (3 * k + 1) ∧ (I 25 0 k).toInt = tp (3 * k + 2)) →
    (∀ (I' : Nat → Nat → Nat → Int32) a4, (∀ k i j, ¬ ((k = 23 ∧ i = 0) ∨ (k = 24 ∧ i = 0) ∨ (k = 25 ∧ i = 0)) → I' k i j = I k i j) → (∀ k, k < i + n → (I' 23 0 k).toInt = tp (3 * k) ∧ (I' 24 0 k).toInt = tp (3 * k + 1) ∧ (I' 25 0 k).toInt = tp (3 * k + 2)) → (gq (d + 1) 11 166 [some (.inr (.inr (some (20, 0)))), some (.inr (.inr (some (11, 0)))), some (.inr (.inr (some (34, i1)))), some (.inl (a3)), some (.inl (a4)), x5] [] (gwd S I' J h) Q)) → (gq (d + 1) 11 105 [some (.inr (.inr (some (20, 0)))), some (.inr (.inr (some (11, 0)))), some (.inr (.inr (some (34, i1)))), some (.inl (a3)), some (.inl (a4)), x5] [] (gwd S I J h) Q)
  | 0, i, I, a4, h3, h16, hln, h4, hp, hk, K => by
    rw [gb_11_105, if_pos (by rw [z_le]; omega)]
    exact K I _ (fun _ _ _ _ => rfl) (fun k hkk => hk k (by omega))
  | n + 1, i, I, a4, h3, h16, hln, h4, hp, hk, K => by
    have e1 : (1 : Int32).toInt = 1 := rfl
    have e2 : (2 : Int32).toInt = 2 := rfl
    have e3 : (3 : Int32).toInt = 3 := rfl
    have q0 : (3 * a4).toInt = 3 * i := by rw [z_mul (by rw [h4, e3]; omega) (by rw [h4, e3]; omega), h4, e3]
    have q1 : (3 * a4 + 1).toInt = 3 * i + 1 := by rw [z_add (by omega) (by omega), q0, e1]
    have q2 : (3 * a4 + 2).toInt = 3 * i + 2 := by rw [z_add (by omega) (by omega), q0, e2]
    have en : a4.toNatClampNeg = i := by rw [z_n]; omega
    have b0 : gByt tp ln (3 * i) = tp (3 * i) := by unfold gByt; rw [if_pos (by omega)]; congr 1
    have b1 : gByt tp ln (3 * i + 1) = tp (3 * i + 1) := by unfold gByt; rw [if_pos (by omega)]; congr 1
    have b2 : gByt tp ln (3 * i + 2) = tp (3 * i + 2) := by unfold gByt; rw [if_pos (by omega)]; congr 1
    rw [gb_11_105, if_neg (by rw [z_le]; omega), gb_11_111]
    refine m_byte hp ho fun x hx => ?_
    rw [q0, b0] at hx
    rw [Option.toList_some, List.singleton_append, gb_11_125]
    refine ⟨g_in.mpr (by omega), ?_⟩
    rw [en, gb_11_126]
    refine m_byte (kTp_congr hp (u_ne (by omega)) (fun j => u_ne (by omega))) ho fun y hy => ?_
    rw [q1, b1] at hy
    rw [Option.toList_some, List.singleton_append, gb_11_142]
    refine ⟨g_in.mpr (by omega), ?_⟩
    rw [en, gb_11_143]
    refine m_byte (kTp_congr hp (by rw [u_ne (by omega), u_ne (by omega)]) (fun j => by rw [u_ne (by omega), u_ne (by omega)])) ho fun z hz => ?_
    rw [q2, b2] at hz
    rw [Option.toList_some, List.singleton_append, gb_11_159]
    refine ⟨g_in.mpr (by omega), ?_⟩
    rw [en, gb_11_160]
    refine m_see_lay ho n (i + 1) _ _ (by omega) (by omega) (by omega) (by rw [z_add (by omega) (by omega), h4, e1]; rfl) (kTp_congr hp (by repeat rw [u_ne (by omega)]) (fun j => by repeat rw [u_ne (by omega)])) (fun k hkk => ?_) fun I' a4 hF g => K I' a4 (fun k i j hn => by rw [hF _ _ _ hn]; repeat rw [u_ne (by omega)]) (fun k hkk => g k (by omega))
    rw [u_k (show (23 : Nat) ≠ 25 by decide), u_k (show (23 : Nat) ≠ 24 by decide), u_at, u_k (show (24 : Nat) ≠ 25 by decide), u_at, u_k (show (24 : Nat) ≠ 23 by decide), u_at, u_k (show (25 : Nat) ≠ 24 by decide), u_k (show (25 : Nat) ≠ 23 by decide)]
    by_cases e : k = i
    · rw [if_pos e, if_pos e, if_pos e, e]; exact ⟨hx, hy, hz⟩
    · rw [if_neg e, if_neg e, if_neg e]; exact hk k (by omega)
theorem m_readSeen {i1 : Nat} {x3 x4 x5 : Option gV} {C : gCo} {tp : Nat → Int} {ln : Int} (hc : cOk C) (hC : kCo I i1 C) (hp : kTp I tp ln) (ho : tpOk tp ln)
    (K0 : gSee C tp ln = false → Q (some (.inl 0)) (gwd S I J h)) (K1 : ∀ (I' : Nat → Nat → Nat → Int32), gSee C tp ln = true → (∀ k i j, ¬ ((k = 20 ∧ i = 0 ∧ j = 3) ∨ (k = 23 ∧ i = 0) ∨ (k = 24 ∧ i = 0) ∨ (k = 25 ∧ i = 0)) → I' k i j = I k i j) → kSn I' tp (ln / 3) → Q (some (.inl 1)) (gwd S I' J h)) : (gq (d + 1) 11 0 [some (.inr (.inr (some (20, 0)))), some (.inr (.inr (some (11, 0)))), some (.inr (.inr (some (34, i1)))), x3, x4, x5] [] (gwd S I J h) Q) := by
  have e1 : (1 : Int32).toInt = 1 := rfl
  have e3 : (3 : Int32).toInt = 3 := rfl
  have e16 : (16 : Int32).toInt = 16 := rfl
  have hl := hp.1
  have r1 := ho.1
  have q1 : (I 11 0 1 / 3).toInt = ln / 3 := by rw [z_div (by omega) (by omega), hl, e3]
  have q2 : (I 11 0 1 - I 11 0 1 / 3 * 3).toInt = ln % 3 := by rw [z_rem (by omega) (by omega), hl, e3]
  have no : ¬ (ln % 3 = 0 ∧ 1 ≤ ln / 3 ∧ ln / 3 ≤ 16) → gSee C tp ln = false := fun hno => by unfold gSee; rw [decide_eq_false hno]; rfl
  rw [gb_11_0]
  by_cases w1 : ln % 3 = 0
  case neg =>
    rw [if_neg (by rw [z_eq, z_0]; omega), gb_11_27]
    exact K0 (no (fun e => w1 e.1))
  rw [if_pos (z_inj (by rw [q2, w1]; rfl)), gb_11_16]
  by_cases w2 : 1 ≤ ln / 3
  case neg =>
    rw [if_pos (by rw [z_lt]; omega), gb_11_27]
    exact K0 (no (fun e => w2 e.2.1))
  rw [if_neg (by rw [z_lt]; omega), gb_11_21]
  by_cases w3 : ln / 3 ≤ 16
  case neg =>
    rw [if_neg (by rw [z_le]; omega), gb_11_27]
    exact K0 (no (fun e => w3 e.2.2))
  rw [if_pos (by rw [z_le]; omega), gb_11_29]
  have yes : gSee C tp ln = gSeeOk C tp ln (ln / 3).toNat 0 := by unfold gSee; rw [decide_eq_true ⟨w1, w2, w3⟩]; rfl
  refine m_see_test hc hC hp ho (r := gSee C tp ln) K0 (fun hr a4 x5 => ?_) (ln / 3).toNat 0 _ _ (by omega) (by omega) rfl yes.symm
  rw [gb_11_102]
  refine m_see_lay ho (ln / 3).toNat 0 I _ (by omega) (by omega) (by omega) rfl hp (fun k hk => by omega) fun I1 a4 hF1 g => ?_
  rw [gb_11_166]
  refine K1 _ hr (fun k i j hn => by rw [u_ne (by omega), hF1 _ _ _ (by omega)]) ⟨?_, fun k hk => ?_, fun k hk => ?_, fun k hk => ?_⟩
  · rw [u_eq]; exact q1
  · rw [u_k (by decide)]; exact (g k (by omega)).1
  · rw [u_k (by decide)]; exact (g k (by omega)).2.1
  · rw [u_k (by decide)]; exact (g k (by omega)).2.2
/-! images -/
def gSum (f : Nat → Int) : Nat → Nat → Int → Int
  | 0, _, c => c
  | n + 1, i, c => gSum f n (i + 1) ((3 * c + f i) % 251)
theorem gSum_r {f : Nat → Int} : ∀ {n i : Nat} {c : Int}, 0 ≤ c → c ≤ 250 → 0 ≤ gSum f n i c ∧ gSum f n i c ≤ 250
  | 0, _, _, h0, h1 => ⟨h0, h1⟩
  | n + 1, i, c, h0, h1 => by unfold gSum; exact gSum_r (by omega) (by omega)
theorem m_checkT {tp : Nat → Int} {ln : Int} {a1 : Int32} {N : Nat} (hp : kTp I tp ln) (ho : tpOk tp ln) (h1 : a1.toInt = N) (hN : (N : Int) ≤ ln) (K : ∀ x, x.toInt = gSum tp N 0 199 → Q (some (.inl x)) (gwd S I J h)) : ∀ (n i : Nat) (c : Int) (a2 a3 : Int32), i + n = N → a3.toInt = i → a2.toInt = c → 0 ≤ c → c ≤ 250 → gSum tp n i c = gSum tp N 0 199 → (gq (d + 1) 67 6 [some (.inr (.inr (some (11, 0)))), some (.inl (a1)), some (.inl (a2)), some (.inl (a3))] [] (gwd S I J h) Q)
  | 0, i, c, a2, a3, hn, h3, h2, hc0, hc1, he => by
    rw [gb_67_6, if_pos (by rw [z_le]; omega), gb_67_31]
    exact K _ (by rw [h2, ← he]; rfl)
  | n + 1, i, c, a2, a3, hn, h3, h2, hc0, hc1, he => by
    have e1 : (1 : Int32).toInt = 1 := rfl
    have e3 : (3 : Int32).toInt = 3 := rfl
    have e251 : (251 : Int32).toInt = 251 := rfl
    have r1 := ho.1
    have hb := @gByt_r tp ln i ho
    have eb : gByt tp ln i = tp i := by unfold gByt; rw [if_pos (by omega)]; congr 1
    rw [gb_67_6, if_neg (by rw [z_le]; omega), gb_67_11]
    refine m_byte hp ho fun x hx => ?_
    rw [h3] at hx
    have hx0 : 0 ≤ x.toInt := by rw [hx]; exact hb.2.2 (by omega) (by omega)
    have q0 : (3 * a2).toInt = 3 * c := by rw [z_mul (by rw [h2, e3]; omega) (by rw [h2, e3]; omega), h2, e3]
    have q1 : (3 * a2 + x).toInt = 3 * c + tp i := by rw [z_add (by omega) (by omega), q0, hx, eb]
    rw [Option.toList_some, List.singleton_append, gb_67_19]
    refine m_checkT hp ho h1 hN K n (i + 1) ((3 * c + tp i) % 251) _ _ (by omega) (by rw [z_add (by omega) (by omega), h3, e1]; rfl) ?_ (by omega) (by omega) he
    rw [z_rem (by omega) (by omega), q1, e251]
theorem m_check {tp : Nat → Int} {ln : Int} {a1 : Int32} {x2 x3 : Option gV} {N : Nat} (hp : kTp I tp ln) (ho : tpOk tp ln) (h1 : a1.toInt = N) (hN : (N : Int) ≤ ln) (K : ∀ x, x.toInt = gSum tp N 0 199 → Q (some (.inl x)) (gwd S I J h)) : (gq (d + 1) 67 0 [some (.inr (.inr (some (11, 0)))), some (.inl (a1)), x2, x3] [] (gwd S I J h) Q) := by
  rw [gb_67_0]
  exact m_checkT hp ho h1 hN K N 0 199 _ _ (by omega) rfl rfl (by omega) (by omega) rfl
theorem m_hourOf {tp : Nat → Int} {ln : Int} (hp : kTp I tp ln) (ho : tpOk tp ln) (h2 : 2 ≤ ln) (K : ∀ x, x.toInt = 256 * tp 0 + tp 1 → Q (some (.inl x)) (gwd S I J h)) : (gq (d + 1) 62 0 [some (.inr (.inr (some (11, 0))))] [] (gwd S I J h) Q) := by
  have e1 : (1 : Int32).toInt = 1 := rfl
  have e256 : (256 : Int32).toInt = 256 := rfl
  have t0 := ho.2 0 (by omega)
  have t1 := ho.2 1 (by omega)
  have b0 : gByt tp ln 0 = tp 0 := by unfold gByt; rw [if_pos (by omega)]; rfl
  have b1 : gByt tp ln 1 = tp 1 := by unfold gByt; rw [if_pos (by omega)]; rfl
  rw [gb_62_0]
  refine m_byte hp ho fun x hx => ?_
  rw [z_0, b0] at hx
  rw [Option.toList_some, List.singleton_append, gb_62_8]
  refine m_byte hp ho fun y hy => ?_
  rw [e1, b1] at hy
  rw [Option.toList_some, List.singleton_append, gb_62_14]
  have q : (256 * x).toInt = 256 * tp 0 := by rw [z_mul (by rw [hx, e256]; omega) (by rw [hx, e256]; omega), hx, e256]
  exact K _ (by rw [z_add (by omega) (by omega), q, hy])
