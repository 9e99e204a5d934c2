/-! The class reads a course; a state begins. -/
variable {d S : Nat} {h : Nat × Option gNm} {I : Nat → Nat → Nat → Int32} {J : Nat → Nat → Nat → Int64} {Q : Option gV → gW → Prop}
variable {tp : Nat → Int} {n s c : Nat} {g : Bool} {D : gCo} {τ : lT}
theorem lAskW_inr {w : Nat} {q : Nat × Bool} (h : lAskW tp n (.inr (s, g)) w = .inr q) : (lKd tp n s g = -2 ∧ wHere tp n s = w) ∧ q = lNx tp n s g := by
  have h' : (if lKd tp n s g = -2 ∧ lWd tp s (lEn tp n s) = w then (.inr (lNx tp n s g) : lT) else .inl (1, (s : Int))) = .inr q := h
  split at h'
  · rename_i e; injection h' with h'; exact ⟨e, h'.symm⟩
  · cases h'
/-- the head of a course's text -/
def nHd (tp : Nat → Int) (n : Nat) : lT := lAskC tp n (lNumT tp n 5 99 (lAskW tp n (.inr (lSk tp n 0, false)) 19)).1 59
def nHm (tp : Nat → Int) (n : Nat) : Int := (lNumT tp n 5 99 (lAskW tp n (.inr (lSk tp n 0, false)) 19)).2
theorem nHd_r (ho : ∀ j, j < n → 0 ≤ tp j ∧ tp j ≤ 255) {q : Nat × Bool} (e : nHd tp n = .inr q) : 8 ≤ q.1 ∧ q.1 ≤ n ∧ 5 ≤ nHm tp n ∧ nHm tp n ≤ 99 := by
  unfold nHd at e
  unfold nHm
  have hs0 := lSk_r (tp := tp) (n := n) (k := 0) (Nat.zero_le _)
  match h1 : lAskW tp n (.inr (lSk tp n 0, false)) 19 with
  | .inl b => rw [h1] at e; cases e
  | .inr (s1, g1) =>
    have a1 := lAskW_inr h1
    rw [h1] at e
    have hs1n := (lNx_r (tp := tp) (g := false) hs0.2).2
    have e1 : s1 = (lNx tp n (lSk tp n 0) false).1 := congrArg Prod.fst a1.2
    have hl : (lSl tp (lEn tp n (lSk tp n 0) - lSk tp n 0) (lSk tp n 0)).length = 6 := by
      have := (lWd_at (tp := tp) (s := lSk tp n 0) (e := lEn tp n (lSk tp n 0)) (i := 19) (by decide)).mp a1.1.2
      rw [this]; rfl
    rw [lSl_len] at hl
    have hs1 : 6 ≤ s1 := by omega
    match h2 : (lNumT tp n 5 99 (.inr (s1, g1))).1 with
    | .inl b => rw [h2] at e; cases e
    | .inr (s2, g2) =>
      have a2 := lNumT_inr h2
      rw [h2] at e
      have a3 := lAskC_inr e
      have hlt1 : s1 < n := lKd_lt ho (Or.inr a2.1)
      have hx1 := lNx_r (tp := tp) (g := g1) (show s1 ≤ n by omega)
      have e2 : s2 = (lNx tp n s1 g1).1 := congrArg Prod.fst a2.2.1
      have hy1 := hx1.2.2.1 hlt1
      have hlt2 : s2 < n := lB_le (tp := tp) (by omega)
      have hx2 := lNx_r (tp := tp) (g := g2) (show s2 ≤ n by omega)
      have hy2 := hx2.2.2.1 hlt2
      rw [a3.2]
      exact ⟨by omega, hx2.2.1, a2.2.2.2.1, a2.2.2.2.2⟩
/-- a course that has been read -/
def kEnd (I : Nat → Nat → Nat → Int32) (c : Nat) (D : gCo) : Prop := kNs I c D ∧ ((I 34 c 0).toInt = D.1 0 ∧ (I 34 c 1).toInt = D.1 1 ∧ (I 34 c 4).toInt = D.1 4 ∧ (I 34 c 5).toInt = D.1 5) ∧ (∀ b : Nat, (b : Int) < D.1 2 → (I 35 c b).toInt = D.1 (10 + b) ∧ (I 36 c b).toInt = D.1 (20 + b)) ∧ (∀ b : Nat, (b : Int) < D.1 3 → (I 37 c b).toInt = D.1 (30 + b) ∧ (I 38 c b).toInt = D.1 (40 + b)) ∧ ∀ f, f < 3 → kSl I c f (dDef D f)
theorem m_read {x1 x2 x3 : Option gV} (hx : kTx I tp n) (hw : kWd I) (K : ∀ (I' : Nat → Nat → Nat → Int32), FC c I I' → kTk I' tp n (nCrs tp n).1 → (∀ q, (nCrs tp n).1 = .inr q → kEnd I' c (nCrs tp n).2) → Q none (gwd S I' J h)) : (gq (d + 80) 24 0 [some (.inr (.inr (some (34, c)))), x1, x2, x3] [] (gwd S I J h) Q) := by
  have e3 : (3 : Int32).toInt = 3 := rfl
  have e1 : (1 : Int32).toInt = 1 := rfl
  have clr : ∀ (m k : Nat) (I2 : Nat → Nat → Nat → Int32) (a1 : Int32) (Q : Option gV → gW → Prop), k + m = 3 → a1.toInt = k → (∀ j, j < k → I2 41 c j = 0) → (∀ (I' : Nat → Nat → Nat → Int32), (∀ k i j, ¬ ((k = 41 ∧ i = c)) → I' k i j = I2 k i j) → (∀ j, j < 3 → I' 41 c j = 0) → Q none (gwd S I' J h)) → (gq (d + 79) 28 31 [some (.inr (.inr (some (34, c)))), some (.inl (a1))] [] (gwd S I2 J h) Q) := by
    intro m
    induction m with
    | zero =>
      intro k I2 a1 Q hk h1 hz K
      rw [gb_28_31, if_pos (by rw [z_le]; omega), gb_28_49]
      exact K I2 (fun _ _ _ _ => rfl) (fun j hj => hz j (by omega))
    | succ m ih =>
      intro k I2 a1 Q hk h1 hz K
      rw [gb_28_31, if_neg (by rw [z_le]; omega), gb_28_36]
      refine ⟨g_in.mpr (by omega), ?_⟩
      rw [z_n, h1, Int.toNat_natCast, gb_28_43]
      refine ih (k + 1) _ _ Q (by omega) (by rw [z_add (by omega) (by omega), h1, e1]; rfl) (fun j hj => ?_) fun I' hF hz' => K I' (fun k i j hn => by rw [hF _ _ _ hn, u_ne (by omega)]) hz'
      by_cases ej : j = k
      · rw [ej, u_eq]
      · rw [u_j ej]; exact hz j (by omega)
  rw [gb_24_0, gb_28_0]
  generalize hI0 : gup (gup (gup (gup (gup I 34 c 2 0) 34 c 3 0) 34 c 4 50) 34 c 5 0) 14 c 2 0 = I0
  have hF0 : (∀ k i j, ¬ ((k = 34 ∧ i = c ∧ (j = 2 ∨ j = 3 ∨ j = 4 ∨ j = 5)) ∨ (k = 14 ∧ i = c ∧ j = 2)) → I0 k i j = I k i j) := fun k i j hn => by rw [← hI0]; repeat rw [u_ne (by omega)]
  have z2 : I0 34 c 2 = 0 := by rw [← hI0]; simp [gup]
  have z3 : I0 34 c 3 = 0 := by rw [← hI0]; simp [gup]
  have z4 : I0 34 c 4 = 50 := by rw [← hI0]; simp [gup]
  have z5 : I0 34 c 5 = 0 := by rw [← hI0]; simp [gup]
  have z14 : I0 14 c 2 = 0 := by rw [← hI0]; simp [gup]
  refine clr 3 0 I0 _ _ rfl rfl (fun j hj => absurd hj (Nat.not_lt_zero _)) fun I1 hF1 hz1 => ?_
  have hFC1 : FC c I I1 := fun k i j hn => by rw [hF1 _ _ _ (by omega), hF0 _ _ _ (by omega)]
  rw [Option.toList_none, List.nil_append, gb_24_4]
  refine m_begin (kTx_FC hx hFC1) fun I2 hF2 ht2 => ?_
  have hFC2 : FC c I I2 := FC_trans hFC1 (fun k i j hn => hF2 _ _ _ (by omega))
  rw [Option.toList_none, List.nil_append, gb_24_11]
  refine m_expectW (w := 19) rfl (kTx_FC hx hFC2) ht2 fun I3 hF3 ht3 => ?_
  have hFC3 : FC c I I3 := FC_trans hFC2 (fun k i j hn => hF3 _ _ _ (by omega))
  rw [Option.toList_none, List.nil_append, gb_24_20]
  refine m_expectN (lo := 5) (hi := 99) rfl rfl (kTx_FC hx hFC3) ht3 fun I4 x hF4 ht4 hv4 => ?_
  have hFC4 : FC c I I4 := FC_trans hFC3 (fun k i j hn => hF4 _ _ _ (by omega))
  rw [Option.toList_some, List.singleton_append, gb_24_31]
  have hFC5 : FC c I (gup I4 34 c 1 x) := FC_trans hFC4 (fun k i j hn => u_ne (by omega))
  refine m_expect (c := 59) rfl (by decide) rfl rfl (kTx_FC hx hFC5) (kTk_congr ht4 (fun j _ _ => u_k (by decide))) fun I6 hF6 ht6 => ?_
  rw [Option.toList_none, List.nil_append, gb_24_43]
  generalize hI7 : gup I6 34 c 0 1 = I7
  have hFC7 : FC c I I7 := FC_trans hFC5 (fun k i j hn => by rw [← hI7, u_ne (by omega), hF6 _ _ _ (by omega)])
  have ht7 : kTk I7 tp n (nHd tp n) := kTk_congr ht6 (fun j _ _ => by rw [← hI7, u_k (by decide)])
  have hC : nCrs tp n = nLp tp n 59 (nHd tp n) (nD0 (nHm tp n)) := rfl
  rw [hC] at K
  have oth : ∀ k i j, ¬ (k = 11 ∧ i = 0 ∨ k = 34 ∧ i = c ∧ (j = 0 ∨ j = 1)) → I7 k i j = I1 k i j := fun k i j hn => by rw [← hI7, u_ne (by omega), hF6 _ _ _ (by omega), u_ne (by omega), hF4 _ _ _ (by omega), hF3 _ _ _ (by omega), hF2 _ _ _ (by omega)]
  have o34 : ∀ j, 2 ≤ j → I7 34 c j = I0 34 c j := fun j hj => by rw [oth _ _ _ (by omega), hF1 _ _ _ (by omega)]
  refine m_stats 59 (nHd tp n) (nD0 (nHm tp n)) I7 _ _ _ (kTx_FC hx hFC7) (kWd_FC hw hFC7) ht7 (Nat.le_refl _) (fun q eq => ?_) fun I8 y1 y2 y3 hF8 ht8 hP8 => ?_
  · have hr := nHd_r hx.2.2.2.1 eq
    refine ⟨⟨⟨by rw [o34 2 (by decide), z2]; rfl, by rw [o34 3 (by decide), z3]; rfl, by show (0 : Int) ≤ 0 ∧ (0 : Int) ≤ 8; omega, by show (0 : Int) ≤ 0 ∧ (0 : Int) ≤ 8; omega, fun i hi => absurd (show (i : Int) < 0 from hi) (by omega), fun i hi => absurd (show (i : Int) < 0 from hi) (by omega)⟩, ⟨by rw [← hI7, u_eq]; rfl, ?_, by rw [o34 4 (by decide), z4]; rfl, by rw [o34 5 (by decide), z5]; rfl⟩, fun b hb => absurd (show (b : Int) < 0 from hb) (by omega), fun b hb => absurd (show (b : Int) < 0 from hb) (by omega), 0, by omega, by rw [oth _ _ _ (by omega), hF1 _ _ _ (by omega), z14]; rfl, fun f hf => Or.inr ⟨?_, by rw [oth _ _ _ (by omega), hz1 f hf]; rfl⟩⟩, rfl⟩
    · rw [← hI7, u_j (by decide), hF6 _ _ _ (by omega), u_eq]; exact hv4
    · show (if 50 + f = 0 then (1 : Int) else if 50 + f = 1 then nHm tp n else if 50 + f = 4 then 50 else 0) = 0
      rw [if_neg (by omega), if_neg (by omega), if_neg (by omega)]
  · have hFC8 : FC c I I8 := FC_trans hFC7 hF8
    rw [gb_24_322, gb_36_0]
    generalize nLp tp n 59 (nHd tp n) (nD0 (nHm tp n)) = R at *
    match hR : R.1, ht8 with
    | .inl b, ht8 =>
      refine m_defB 3 0 I8 _ rfl rfl fun I9 hF9 => ?_
      rw [Option.toList_none, List.nil_append, gb_24_326]
      exact K I9 (FC_trans hFC8 (fun k i j hn => hF9 _ _ _ (by omega))) (by rw [hR]; exact kTk_congr (tp := tp) (n := n) (τ := .inl b) ht8 (fun j _ _ => hF9 _ _ _ (by omega))) (fun q e => by rw [hR] at e; cases e)
    | .inr q, ht8 =>
      obtain ⟨hN, hc, hB, hH, z, hz, pz, pF⟩ := hP8 q hR
      have hqn : q.1 ≤ n := ht8.2.2.2.2.2.1
      have hn := hx.2.2.1
      refine m_defs (D := R.2) (z0 := z) (by omega) 3 0 z I8 _ rfl rfl pz (Nat.le_refl _) (by simp) (fun j hj => absurd hj (Nat.not_lt_zero _)) (fun j _ hj => pF j hj) fun I9 hF9 hS9 => ?_
      rw [Option.toList_none, List.nil_append, gb_24_326]
      refine K I9 (FC_trans hFC8 (fun k i j hn => hF9 _ _ _ (by omega))) (by rw [hR]; exact kTk_congr (tp := tp) (n := n) (τ := .inr q) ht8 (fun j _ _ => hF9 _ _ _ (by omega))) (fun q' e => ⟨⟨by rw [hF9 _ _ _ (by omega)]; exact hN.1, by rw [hF9 _ _ _ (by omega)]; exact hN.2.1, hN.2.2.1, hN.2.2.2.1, fun i hi k hk => by rw [hF9 _ _ _ (by omega)]; exact hN.2.2.2.2.1 i hi k hk, fun i hi k hk => by rw [hF9 _ _ _ (by omega)]; exact hN.2.2.2.2.2 i hi k hk⟩, ⟨by rw [hF9 _ _ _ (by omega)]; exact hc.1, by rw [hF9 _ _ _ (by omega)]; exact hc.2.1, by rw [hF9 _ _ _ (by omega)]; exact hc.2.2.1, by rw [hF9 _ _ _ (by omega)]; exact hc.2.2.2⟩, fun b hb => by rw [hF9 _ _ _ (by omega), hF9 _ _ _ (by omega)]; exact hB b hb, fun b hb => by rw [hF9 _ _ _ (by omega), hF9 _ _ _ (by omega)]; exact hH b hb, hS9⟩)
/-- who has it first, and where -/
def gBgN (C : gCo) : Nat → Nat → Int → Int → Int × Int
  | 0, _, w, m => (w, m)
  | k + 1, b, w, m => if (b : Int) < C.1 2 ∧ (w = -1 ∨ C.1 (10 + b) < m) then gBgN C k (b + 1) b (C.1 (10 + b)) else gBgN C k (b + 1) w m
def gBeg (C : gCo) : gSt := fun j => if j = 1 then (gBgN C 8 0 (-1) 0).2 else if j = 2 then C.1 4 else if j = 3 then (gBgN C 8 0 (-1) 0).1 else if 10 ≤ j ∧ j < 18 then C.1 j else 0
theorem m_sbegin {i1 : Nat} {x2 : Option gV} {C : gCo} (hC : kCo I c C) (K : ∀ (I' : Nat → Nat → Nat → Int32), (∀ k i j, ¬ ((k = 21 ∧ i = i1) ∨ (k = 22 ∧ i = i1)) → I' k i j = I k i j) → kS I' i1 (gBeg C) → Q none (gwd S I' J h)) : (gq (d + 1) 88 0 [some (.inr (.inr (some (21, i1)))), some (.inr (.inr (some (34, c)))), x2] [] (gwd S I J h) Q) := by
  have e8 : (Int32.ofNat 8).toInt = 8 := rfl
  have e1 : (1 : Int32).toInt = 1 := rfl
  have em1 : (Int32.ofInt (-1)).toInt = -1 := rfl
  have loop : ∀ (m b : Nat) (w ml : Int) (I2 : Nat → Nat → Nat → Int32) (a2 : Int32), b + m = 8 → a2.toInt = b → (∀ k i j, ¬ ((k = 21 ∧ i = i1) ∨ (k = 22 ∧ i = i1)) → I2 k i j = I k i j) → (I2 21 i1 0).toInt = 0 → (I2 21 i1 2).toInt = C.1 4 → (I2 21 i1 4).toInt = 0 → (I2 21 i1 5).toInt = 0 → (I2 21 i1 3).toInt = w → (I2 21 i1 1).toInt = ml → (∀ j, j < b → (I2 22 i1 j).toInt = C.1 (10 + j)) → gBgN C m b w ml = gBgN C 8 0 (-1) 0 → (gq (d + 1) 88 35 [some (.inr (.inr (some (21, i1)))), some (.inr (.inr (some (34, c)))), some (.inl (a2))] [] (gwd S I2 J h) Q) := by
    intro m
    induction m with
    | zero =>
      intro b w ml I2 a2 hb h2 hF s0 s2 s4 s5 s3 s1 hm hg
      rw [gb_88_35, if_pos (by rw [z_le]; omega), gb_88_106]
      have hg' : (w, ml) = gBgN C 8 0 (-1) 0 := hg
      refine K I2 hF ⟨fun j hj => ?_, fun j hj => ?_⟩
      · have ej : j = 0 ∨ j = 1 ∨ j = 2 ∨ j = 3 ∨ j = 4 ∨ j = 5 := by omega
        rcases ej with rfl | rfl | rfl | rfl | rfl | rfl
        · exact s0
        · show _ = (gBgN C 8 0 (-1) 0).2; rw [← hg']; exact s1
        · exact s2
        · show _ = (gBgN C 8 0 (-1) 0).1; rw [← hg']; exact s3
        · exact s4
        · exact s5
      · show _ = (if 10 + j = 1 then (gBgN C 8 0 (-1) 0).2 else if 10 + j = 2 then C.1 4 else if 10 + j = 3 then (gBgN C 8 0 (-1) 0).1 else if 10 ≤ 10 + j ∧ 10 + j < 18 then C.1 (10 + j) else 0)
        rw [if_neg (by omega), if_neg (by omega), if_neg (by omega), if_pos (by omega)]
        exact hm j (by omega)
    | succ m ih =>
      intro b w ml I2 a2 hb h2 hF s0 s2 s4 s5 s3 s1 hm hg
      have n2 : a2.toNatClampNeg = b := by rw [z_n, h2]; rfl
      have hst : (I2 35 c b).toInt = C.1 (10 + b) := by rw [hF _ _ _ (by omega)]; exact hC.2.1 b (by omega)
      have hB : (I2 34 c 2).toInt = C.1 2 := by rw [hF _ _ _ (by omega)]; exact hC.1 2 (by omega)
      have hg' : (if (b : Int) < C.1 2 ∧ (w = -1 ∨ C.1 (10 + b) < ml) then gBgN C m (b + 1) b (C.1 (10 + b)) else gBgN C m (b + 1) w ml) = gBgN C 8 0 (-1) 0 := hg
      rw [gb_88_35, if_neg (by rw [z_le]; omega), gb_88_44]
      refine ⟨g_in.mpr (by omega), ?_⟩
      rw [n2, gb_88_55]
      refine ⟨g_in.mpr (by omega), ?_⟩
      rw [n2, gb_88_56]
      generalize hI3 : gup I2 22 i1 b (I2 35 c b) = I3
      have hF3 : (∀ k i j, ¬ ((k = 22 ∧ i = i1 ∧ j = b)) → I3 k i j = I2 k i j) := fun k i j hn => by rw [← hI3, u_ne (by omega)]
      have h3b : (I3 22 i1 b).toInt = C.1 (10 + b) := by rw [← hI3, u_eq]; exact hst
      have hm3 : ∀ j, j < b + 1 → (I3 22 i1 j).toInt = C.1 (10 + j) := fun j hj => by
        by_cases ej : j = b
        · rw [ej]; exact h3b
        · rw [hF3 _ _ _ (by omega)]; exact hm j (by omega)
      have hFF3 : (∀ k i j, ¬ ((k = 21 ∧ i = i1) ∨ (k = 22 ∧ i = i1)) → I3 k i j = I k i j) := fun k i j hn => by rw [hF3 _ _ _ (by omega), hF _ _ _ hn]
      have nx : ∀ (w' ml' : Int) (I4 : Nat → Nat → Nat → Int32), (∀ k i j, ¬ ((k = 21 ∧ i = i1 ∧ (j = 1 ∨ j = 3))) → I4 k i j = I3 k i j) → (I4 21 i1 3).toInt = w' → (I4 21 i1 1).toInt = ml' → gBgN C m (b + 1) w' ml' = gBgN C 8 0 (-1) 0 → (gq (d + 1) 88 100 [some (.inr (.inr (some (21, i1)))), some (.inr (.inr (some (34, c)))), some (.inl (a2))] [] (gwd S I4 J h) Q) := fun w' ml' I4 hF4 t3 t1 hgg => by
        rw [gb_88_100]
        exact ih (b + 1) w' ml' I4 _ (by omega) (by rw [z_add (by omega) (by omega), h2, e1]; rfl) (fun k i j hn => by rw [hF4 _ _ _ (by omega), hFF3 _ _ _ hn]) (by rw [hF4 _ _ _ (by omega), hF3 _ _ _ (by omega)]; exact s0) (by rw [hF4 _ _ _ (by omega), hF3 _ _ _ (by omega)]; exact s2) (by rw [hF4 _ _ _ (by omega), hF3 _ _ _ (by omega)]; exact s4) (by rw [hF4 _ _ _ (by omega), hF3 _ _ _ (by omega)]; exact s5) t3 t1 (fun j hj => by rw [hF4 _ _ _ (by omega)]; exact hm3 j hj) hgg
      have take : ((b : Int) < C.1 2 ∧ (w = -1 ∨ C.1 (10 + b) < ml)) → (gq (d + 1) 88 85 [some (.inr (.inr (some (21, i1)))), some (.inr (.inr (some (34, c)))), some (.inl (a2))] [] (gwd S I3 J h) Q) := fun hy => by
        rw [if_pos hy] at hg'
        rw [gb_88_85]
        refine ⟨g_in.mpr (by omega), ?_⟩
        rw [n2, gb_88_97]
        exact nx b (C.1 (10 + b)) _ (fun k i j hn => by rw [u_ne (by omega), u_ne (by omega)]) (by rw [u_j (by decide), u_eq]; exact h2) (by rw [u_eq]; exact h3b) hg'
      have no : ¬ ((b : Int) < C.1 2 ∧ (w = -1 ∨ C.1 (10 + b) < ml)) → (gq (d + 1) 88 100 [some (.inr (.inr (some (21, i1)))), some (.inr (.inr (some (34, c)))), some (.inl (a2))] [] (gwd S I3 J h) Q) := fun hy => by
        rw [if_neg hy] at hg'
        exact nx w ml I3 (fun _ _ _ _ => rfl) (by rw [hF3 _ _ _ (by omega)]; exact s3) (by rw [hF3 _ _ _ (by omega)]; exact s1) hg'
      rw [m_hasBearer, Option.toList_some, List.singleton_append, gb_88_61]
      have hB3 : (I3 34 c 2).toInt = C.1 2 := by rw [hF3 _ _ _ (by omega)]; exact hB
      by_cases w1 : (b : Int) < C.1 2
      case neg => rw [if_pos (by rw [zb_0, hB3, h2]; omega)]; exact no (fun q => w1 q.1)
      have h33 : (I3 21 i1 3).toInt = w := by rw [hF3 _ _ _ (by omega)]; exact s3
      have h31 : (I3 21 i1 1).toInt = ml := by rw [hF3 _ _ _ (by omega)]; exact s1
      rw [if_neg (by rw [zb_0, hB3, h2]; exact fun e => e (by omega)), gb_88_64, gb_88_69]
      by_cases w2 : w = -1
      · rw [if_pos (z_inj (by rw [h33, w2]; rfl))]; exact take ⟨w1, Or.inl w2⟩
      rw [if_neg (fun e => w2 (by rw [← h33, e]; rfl)), gb_88_72]
      refine ⟨g_in.mpr (by omega), ?_⟩
      rw [n2, gb_88_78]
      by_cases w3 : C.1 (10 + b) < ml
      · rw [if_neg (by rw [z_le]; omega)]; exact take ⟨w1, Or.inr w3⟩
      · rw [if_pos (by rw [z_le]; omega)]; exact no (fun q => by rcases q.2 with q | q; exact w2 q; exact w3 q)
  rw [gb_88_0, gb_88_20]
  generalize hI0 : gup (gup (gup (gup (gup (gup I 21 i1 0 0) 21 i1 1 0) 21 i1 2 (I 34 c 4)) 21 i1 3 (Int32.ofInt (-1))) 21 i1 4 0) 21 i1 5 0 = I0
  have hF0 : (∀ k i j, ¬ ((k = 21 ∧ i = i1)) → I0 k i j = I k i j) := fun k i j hn => by rw [← hI0]; repeat rw [u_ne (by omega)]
  have h4 := hC.1 4 (by omega)
  exact loop 8 0 (-1) 0 I0 0 rfl rfl (fun k i j hn => hF0 _ _ _ (by omega)) (by rw [← hI0]; simp [gup]) (by rw [← hI0]; simp [gup]; exact h4) (by rw [← hI0]; simp [gup]) (by rw [← hI0]; simp [gup]) (by rw [← hI0]; simp [gup]) (by rw [← hI0]; simp [gup]) (fun j hj => absurd hj (Nat.not_lt_zero _)) rfl
