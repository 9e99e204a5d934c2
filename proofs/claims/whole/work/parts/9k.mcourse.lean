/-! The model reads all statements of a course. -/
variable {d S : Nat} {h : Nat × Option gNm} {I : Nat → Nat → Nat → Int32} {J : Nat → Nat → Nat → Int64} {Q : Option gV → gW → Prop}
variable {tp : Nat → Int} {n s : Nat} {g : Bool} {D : gCo} {τ : lT}
theorem FDJ_refl {J : Nat → Nat → Nat → Int64} : FDJ J J := fun _ _ _ _ => rfl
theorem FDJ_trans {J J' J'' : Nat → Nat → Nat → Int64} (h1 : FDJ J J') (h2 : FDJ J' J'') : FDJ J J'' := fun k i j hn => by rw [h2 k i j hn, h1 k i j hn]
theorem mPc_congr {I I' : Nat → Nat → Nat → Int32} {J : Nat → Nat → Nat → Int64} (h : mPc I J D s) (e1 : ∀ j, (j = 46 ∨ j = 47) → I' 50 0 j = I 50 0 j) (e2 : ∀ k j, 54 ≤ k → k ≤ 60 → I' k 0 j = I k 0 j) : mPc I' J D s := by
  obtain ⟨⟨p1, p2, p3, p4, p5, p0⟩, hr, pB, pH, pN, z, hz, pz, pF⟩ := h
  refine ⟨⟨by rw [e2 _ _ (by decide) (by decide)]; exact p1, by rw [e2 _ _ (by decide) (by decide)]; exact p2, by rw [e2 _ _ (by decide) (by decide)]; exact p3, by rw [e2 _ _ (by decide) (by decide)]; exact p4, by rw [e2 _ _ (by decide) (by decide)]; exact p5, by rw [e1 _ (by omega)]; exact p0⟩, hr, fun b hb => ?_, fun b hb => ?_, pN, z, hz, by rw [e1 _ (by omega)]; exact pz, fun f hf => ?_⟩
  · rw [e2 _ _ (by decide) (by decide), e2 _ _ (by decide) (by decide)]; exact pB b hb
  · rw [e2 _ _ (by decide) (by decide), e2 _ _ (by decide) (by decide)]; exact pH b hb
  · exact mFz_congr (pF f hf) (e2 _ _ (by decide) (by decide)) (e2 _ _ (by decide) (by decide)) (fun j _ => e2 _ _ (by decide) (by decide)) (Nat.le_refl _) rfl rfl
theorem n_stats : ∀ (m : Nat) (τ : lT) (D : gCo) (I : Nat → Nat → Nat → Int32) (J : Nat → Nat → Nat → Int64) (a1 : Int32), mTx I tp n → mTk I tp n τ → m ≤ 59 → (∀ q, τ = .inr q → mPc I J D q.1 ∧ D.1 0 = 60 - m) → (∀ (I' : Nat → Nat → Nat → Int32) (J' : Nat → Nat → Nat → Int64) (a1 : Int32), FD I I' → FDJ J J' → mTk I' tp n (nLp tp n m τ D).1 → (∀ q, (nLp tp n m τ D).1 = .inr q → mPc I' J' (nLp tp n m τ D).2 q.1) → (gq (d + 12) 181 119 [some (.inr (.inr (some (50, 0)))), some (.inl (a1))] [] (gwd S I' J' h) Q)) → (gq (d + 12) 181 97 [some (.inr (.inr (some (50, 0)))), some (.inl (a1))] [] (gwd S I J h) Q)
  | m, .inl b, D, I, J, a1, hx, ht, hm, hP, K => by
    have e : nLp tp n m (.inl b) D = (.inl b, D) := by cases m <;> rfl
    rw [e] at K
    rw [gb_181_97, if_neg (mTk_bad ht)]
    exact K I J _ FD_refl FDJ_refl ht (fun q e => by cases e)
  | 0, .inr (s, g), D, I, J, a1, hx, ht, hm, hP, K => by
    obtain ⟨p, h60⟩ := hP _ rfl
    have e60 : (60 : Int32).toInt = 60 := rfl
    have e : nLp tp n 0 (.inr (s, g)) D = (if s < n then .inl (5, (s : Int)) else .inr (s, g), D) := rfl
    rw [e] at K
    rw [gb_181_97, if_pos ht.1, gb_181_104]
    refine n_look hx ht fun I1 x hF1 ht1 hA1 hv => ?_
    have hFD1 : FD I I1 := fun k i j hn => hF1 _ _ _ (by omega)
    have p1 := mPc_congr p (I' := I1) (fun j hj => hF1 _ _ _ (by omega)) (fun k j h1 h2 => hF1 _ _ _ (by omega))
    rw [Option.toList_some, List.singleton_append, gb_181_108, gb_181_109]
    have em1 : (Int32.ofInt (-1)).toInt = -1 := rfl
    have hb := lB_r (s := s) hx.2.2.2.1
    by_cases w : s < n
    · rw [if_pos w] at K
      rw [if_neg (fun q => by have := congrArg Int32.toInt q; have := hb.2.2 w; omega), gb_181_112, gb_180_0, if_pos (z_inj (by rw [p1.1.2.2.2.2.2, h60, e60]; rfl)), gb_180_14]
      refine n_failAt ht1 (f := 5) (p := s) rfl hA1 (by decide) fun I2 hF2 ht2 => ?_
      rw [Option.toList_none, List.nil_append, gb_180_20, Option.toList_none, List.nil_append, gb_181_116, gb_181_97, if_neg (mTk_bad ht2)]
      exact K I2 J _ (FD_trans hFD1 (fun k i j hn => hF2 _ _ _ (by omega))) FDJ_refl ht2 (fun q e => by cases e)
    · rw [if_neg w] at K
      rw [if_pos (z_inj (by rw [hv, lB_ge (by omega)]; rfl))]
      exact K I1 J _ hFD1 FDJ_refl ht1 (fun q e => by injection e with e; rw [← e]; exact p1)
  | m + 1, .inr (s, g), D, I, J, a1, hx, ht, hm, hP, K => by
    obtain ⟨p, h60⟩ := hP _ rfl
    have e : nLp tp n (m + 1) (.inr (s, g)) D = if s < n then nLp tp n m (nSt tp n D s g).1 (dUp (nSt tp n D s g).2 0 (D.1 0 + 1)) else (.inr (s, g), D) := rfl
    rw [e] at K
    rw [gb_181_97, if_pos ht.1, gb_181_104]
    refine n_look hx ht fun I1 x hF1 ht1 hA1 hv => ?_
    have hFD1 : FD I I1 := fun k i j hn => hF1 _ _ _ (by omega)
    have p1 := mPc_congr p (I' := I1) (fun j hj => hF1 _ _ _ (by omega)) (fun k j h1 h2 => hF1 _ _ _ (by omega))
    rw [Option.toList_some, List.singleton_append, gb_181_108, gb_181_109]
    have em1 : (Int32.ofInt (-1)).toInt = -1 := rfl
    have hb := lB_r (s := s) hx.2.2.2.1
    by_cases w : s < n
    · rw [if_pos w] at K
      rw [if_neg (fun q => by have := congrArg Int32.toInt q; have := hb.2.2 w; omega), gb_181_112]
      refine n_stat (mTx_FD hx hFD1) ht1 hA1 w p1 (by omega) fun I2 J2 hF2 hJ2 ht2 hP2 => ?_
      rw [Option.toList_none, List.nil_append, gb_181_116]
      refine n_stats m _ _ I2 J2 _ (mTx_FD (mTx_FD hx hFD1) hF2) ht2 (by omega) (fun q eq => ⟨hP2 q eq, ?_⟩) fun I3 J3 a3 hF3 hJ3 ht3 hP3 => K I3 J3 a3 (FD_trans hFD1 (FD_trans hF2 hF3)) (FDJ_trans hJ2 hJ3) ht3 hP3
      show D.1 0 + 1 = 60 - (m : Int)
      omega
    · rw [if_neg w] at K
      rw [if_pos (z_inj (by rw [hv, lB_ge (by omega)]; rfl))]
      exact K I1 J _ hFD1 FDJ_refl ht1 (fun q e => by injection e with e; rw [← e]; exact p1)
/-- the head of a course's text -/
theorem n_head (hx : mTx I tp n) (ht : mTk I tp n (.inr (lSk tp n 0, false))) (K : ∀ (I' : Nat → Nat → Nat → Int32), (∀ k i j, ¬ ((k = 50 ∧ i = 0 ∧ (j = 2 ∨ j = 4 ∨ j = 5 ∨ j = 6 ∨ j = 10)) ∨ (k = 54 ∧ i = 0 ∧ j = 0)) → I' k i j = I k i j) → mTk I' tp n (nHd tp n) → (∀ q, nHd tp n = .inr q → (I' 54 0 0).toInt = nHm tp n) → Q none (gwd S I' J h)) : (gq (d + 11) 175 0 [some (.inr (.inr (some (50, 0))))] [] (gwd S I J h) Q) := by
  rw [gb_175_0]
  refine n_asks (i1 := 0) (by decide) hx ht fun I1 hF1 ht1 => ?_
  rw [show mWx.getD 0 0 = 19 from rfl] at ht1
  have hx1 : mTx I1 tp n := mTx_congr hx (fun j => hF1 _ _ _ (by omega)) (hF1 _ _ _ (by omega)) (fun i j => hF1 _ _ _ (by omega))
  rw [Option.toList_none, List.nil_append, gb_175_8]
  refine n_number (lo := 5) (hi := 99) rfl rfl hx1 ht1 fun I2 x hF2 ht2 hv2 => ?_
  have hx2 : mTx I2 tp n := mTx_congr hx1 (fun j => hF2 _ _ _ (by omega)) (hF2 _ _ _ (by omega)) (fun i j => hF2 _ _ _ (by omega))
  rw [Option.toList_some, List.singleton_append, gb_175_20]
  refine ⟨g_in.mpr (by decide), ?_⟩
  rw [show (0 : Int32).toNatClampNeg = 0 from rfl, gb_175_21]
  have hx3 : mTx (gup I2 54 0 0 x) tp n := mTx_congr hx2 (fun j => u_k (by decide)) (u_k (by decide)) (fun i j => u_k (by decide))
  refine n_asign (c := 59) rfl (by decide) rfl rfl hx3 (mTk_congr ht2 (fun j _ => u_k (by decide))) fun I4 hF4 ht4 => ?_
  rw [Option.toList_none, List.nil_append, gb_175_27]
  refine K I4 (fun k i j hn => by rw [hF4 _ _ _ (by omega), u_ne (by omega), hF2 _ _ _ (by omega), hF1 _ _ _ (by omega)]) ht4 fun q e => ?_
  rw [hF4 _ _ _ (by omega), u_eq]
  unfold nHd at e
  match hN : (lNumT tp n 5 99 (lAskW tp n (.inr (lSk tp n 0, false)) 19)).1 with
  | .inl b => rw [hN] at e; cases e
  | .inr q' => exact hv2 q' hN
/-- the model reads a course's text -/
theorem n_courseR {x1 : Option gV} (hT : ∀ j, j < n → (I 51 0 j).toInt = tp j) (hL : (I 50 0 1).toInt = n) (hn : n ≤ 1600) (hB : ∀ j, j < n → 0 ≤ tp j ∧ tp j ≤ 255) (hW : mWs I)
    (K : ∀ (I' : Nat → Nat → Nat → Int32) (J' : Nat → Nat → Nat → Int64) (a1 : Int32), FD I (fun k i j => if k = 50 ∧ i = 0 ∧ (j = 1 ∨ j = 3) then I k i j else I' k i j) → I' 50 0 1 = 0 → FDJ J J' → mTk I' tp n (nCrs tp n).1 → (∀ q, (nCrs tp n).1 = .inr q → mPc I' J' (nCrs tp n).2 q.1) → (gq (d + 12) 181 119 [some (.inr (.inr (some (50, 0)))), some (.inl (a1))] [] (gwd S I' J' h) Q)) : (gq (d + 12) 181 0 [some (.inr (.inr (some (50, 0)))), x1] [] (gwd S I J h) Q) := by
  have e1 : (1 : Int32).toInt = 1 := rfl
  have e3 : (3 : Int32).toInt = 3 := rfl
  have e5 : (5 : Int32).toInt = 5 := rfl
  have many : ∀ (m k : Nat) (I2 : Nat → Nat → Nat → Int32) (a1 : Int32), k + m = 5 → a1.toInt = k → (∀ j, j < k → (I2 54 0 j).toInt = if j = 3 then 50 else 0) → (∀ (I' : Nat → Nat → Nat → Int32) (a1 : Int32), (∀ k i j, ¬ ((k = 54 ∧ i = 0 ∧ (j = 0 ∨ j = 1 ∨ j = 2 ∨ j = 3 ∨ j = 4))) → I' k i j = I2 k i j) → (∀ j, j < 5 → (I' 54 0 j).toInt = if j = 3 then 50 else 0) → (gq (d + 12) 181 68 [some (.inr (.inr (some (50, 0)))), some (.inl (a1))] [] (gwd S I' J h) Q)) → (gq (d + 12) 181 40 [some (.inr (.inr (some (50, 0)))), some (.inl (a1))] [] (gwd S I2 J h) Q) := by
    intro m
    induction m with
    | zero =>
      intro k I2 a1 hk h1 hz K
      rw [gb_181_40, if_pos (by rw [z_le]; omega)]
      exact K I2 _ (fun _ _ _ _ => rfl) (fun j hj => hz j (by omega))
    | succ m ih =>
      intro k I2 a1 hk h1 hz K
      have n1 : a1.toNatClampNeg = k := by rw [z_n, h1]; rfl
      have st : ∀ v : Int32, v.toInt = (if k = 3 then 50 else 0) → (gq (d + 12) 181 61 [some (.inr (.inr (some (50, 0)))), some (.inl (a1))] [.inl (v), .inl (a1), .inr (.inr (some (54, 0)))] (gwd S I2 J h) Q) := fun v hv => by
        rw [gb_181_61]
        refine ⟨g_in.mpr (by omega), ?_⟩
        rw [n1, gb_181_62]
        refine ih (k + 1) _ _ (by omega) (by rw [z_add (by omega) (by omega), h1, e1]; rfl) (fun j hj => ?_) fun I' a hF hz' => K I' a (fun k i j hn => by rw [hF _ _ _ hn, u_ne (by omega)]) hz'
        by_cases ej : j = k
        · rw [ej, u_eq]; exact hv
        · rw [u_j ej]; exact hz j (by omega)
      rw [gb_181_40, if_neg (by rw [z_le]; omega), gb_181_45]
      by_cases k3 : k = 3
      · rw [if_pos (z_inj (by rw [h1, k3]; rfl)), gb_181_55]
        exact st 50 (by rw [if_pos k3]; rfl)
      · rw [if_neg (fun e => k3 (by have := congrArg Int32.toInt e; omega)), gb_181_60]
        exact st 0 (by rw [if_neg k3]; rfl)
  have from_ : ∀ (m k : Nat) (I2 : Nat → Nat → Nat → Int32) (a1 : Int32), k + m = 3 → a1.toInt = k → (∀ j, j < k → (I2 58 0 j).toInt = -1) → (∀ (I' : Nat → Nat → Nat → Int32) (a1 : Int32), (∀ k i j, ¬ ((k = 58 ∧ i = 0 ∧ (j = 0 ∨ j = 1 ∨ j = 2))) → I' k i j = I2 k i j) → (∀ j, j < 3 → (I' 58 0 j).toInt = -1) → (gq (d + 12) 181 88 [some (.inr (.inr (some (50, 0)))), some (.inl (a1))] [] (gwd S I' J h) Q)) → (gq (d + 12) 181 70 [some (.inr (.inr (some (50, 0)))), some (.inl (a1))] [] (gwd S I2 J h) Q) := by
    intro m
    induction m with
    | zero =>
      intro k I2 a1 hk h1 hz K
      rw [gb_181_70, if_pos (by rw [z_le]; omega)]
      exact K I2 _ (fun _ _ _ _ => rfl) (fun j hj => hz j (by omega))
    | succ m ih =>
      intro k I2 a1 hk h1 hz K
      have n1 : a1.toNatClampNeg = k := by rw [z_n, h1]; rfl
      rw [gb_181_70, if_neg (by rw [z_le]; omega), gb_181_75, gb_181_81]
      refine ⟨g_in.mpr (by omega), ?_⟩
      rw [n1, gb_181_82]
      refine ih (k + 1) _ _ (by omega) (by rw [z_add (by omega) (by omega), h1, e1]; rfl) (fun j hj => ?_) fun I' a hF hz' => K I' a (fun k i j hn => by rw [hF _ _ _ hn, u_ne (by omega)]) hz'
      by_cases ej : j = k
      · rw [ej, u_eq]; rfl
      · rw [u_j ej]; exact hz j (by omega)
  rw [gb_181_0, gb_181_20, gb_181_30]
  generalize hI0 : gup (gup (gup (gup (gup (gup (gup I 50 0 3 (I 50 0 1)) 50 0 1 0) 50 0 2 0) 50 0 4 (Int32.ofInt (-1))) 50 0 5 0) 50 0 6 (Int32.ofInt (-1))) 50 0 46 0 = I0
  have hF0 : (∀ k i j, ¬ ((k = 50 ∧ i = 0 ∧ (j = 1 ∨ j = 2 ∨ j = 3 ∨ j = 4 ∨ j = 5 ∨ j = 6 ∨ j = 46))) → I0 k i j = I k i j) := fun k i j hn => by rw [← hI0]; repeat rw [u_ne (by omega)]
  have q1 : I0 50 0 1 = 0 := by rw [← hI0]; simp [gup]
  have q2 : I0 50 0 2 = 0 := by rw [← hI0]; simp [gup]
  have q3 : I0 50 0 3 = I 50 0 1 := by rw [← hI0]; simp [gup]
  have q4 : I0 50 0 4 = Int32.ofInt (-1) := by rw [← hI0]; simp [gup]
  have q5 : I0 50 0 5 = 0 := by rw [← hI0]; simp [gup]
  have q6 : I0 50 0 6 = Int32.ofInt (-1) := by rw [← hI0]; simp [gup]
  have q46 : I0 50 0 46 = 0 := by rw [← hI0]; simp [gup]
  refine many 5 0 I0 _ rfl rfl (fun j hj => absurd hj (Nat.not_lt_zero _)) fun I1 a hF1 hz1 => ?_
  rw [gb_181_68]
  refine from_ 3 0 I1 _ rfl rfl (fun j hj => absurd hj (Nat.not_lt_zero _)) fun I2 a hF2 hz2 => ?_
  have o50 : ∀ j, I2 50 0 j = I0 50 0 j := fun j => by rw [hF2 _ _ _ (by omega), hF1 _ _ _ (by omega)]
  have oth : ∀ k i j, ¬ (i = 0 ∧ (k = 50 ∧ (j = 1 ∨ j = 2 ∨ j = 3 ∨ j = 4 ∨ j = 5 ∨ j = 6 ∨ j = 46) ∨ k = 54 ∧ j < 5 ∨ k = 58 ∧ j < 3)) → I2 k i j = I k i j := fun k i j hn => by rw [hF2 _ _ _ (by omega), hF1 _ _ _ (by omega), hF0 _ _ _ (by omega)]
  have hx2 : mTx I2 tp n := ⟨fun j hj => by rw [oth _ _ _ (by omega)]; exact hT j hj, by rw [o50, q3]; exact hL, hn, hB, fun i hi j hj => by rw [oth _ _ _ (by omega)]; exact hW i hi j hj⟩
  have hs0 := lSk_r (tp := tp) (n := n) (k := 0) (Nat.zero_le _)
  have ht2 : mTk I2 tp n (.inr (lSk tp n 0, false)) := by
    have em : (Int32.ofInt (-1)).toInt = -1 := rfl
    refine ⟨by rw [o50]; exact q5, by rw [o50, q6]; rfl, 0, by rw [o50, q2]; rfl, Nat.zero_le _, hs0.2, rfl, ?_, by rw [o50, q4, em]; omega⟩
    rw [o50, q4, em]
    exact ⟨fun e => by omega, fun e => by cases e⟩
  rw [gb_181_88]
  refine n_head hx2 ht2 fun I3 hF3 ht3 hv3 => ?_
  rw [Option.toList_none, List.nil_append, gb_181_92]
  generalize hI4 : gup I3 50 0 47 1 = I4
  have hF4 : (∀ k i j, ¬ ((k = 50 ∧ i = 0 ∧ j = 47)) → I4 k i j = I3 k i j) := fun k i j hn => by rw [← hI4, u_ne (by omega)]
  have r47 : I4 50 0 47 = 1 := by rw [← hI4, u_eq]
  have ht4 : mTk I4 tp n (nHd tp n) := mTk_congr ht3 (fun j _ => hF4 _ _ _ (by omega))
  have hx4 : mTx I4 tp n := mTx_congr hx2 (fun j => by rw [hF4 _ _ _ (by omega), hF3 _ _ _ (by omega)]) (by rw [hF4 _ _ _ (by omega), hF3 _ _ _ (by omega)]) (fun i j => by rw [hF4 _ _ _ (by omega), hF3 _ _ _ (by omega)])
  have hC : nCrs tp n = nLp tp n 59 (nHd tp n) (nD0 (nHm tp n)) := rfl
  rw [hC] at K
  have m54 : ∀ j, j < 5 → j ≠ 0 → (I4 54 0 j).toInt = if j = 3 then 50 else 0 := fun j hj h0 => by rw [hF4 _ _ _ (by omega), hF3 _ _ _ (by omega), hF2 _ _ _ (by omega)]; exact hz1 j hj
  refine n_stats 59 (nHd tp n) (nD0 (nHm tp n)) I4 J _ hx4 ht4 (Nat.le_refl _) (fun q eq => ⟨?_, rfl⟩) fun I5 J5 a hF5 hJ5 ht5 hP5 => ?_
  · refine ⟨⟨by rw [hF4 _ _ _ (by omega)]; exact hv3 q eq, m54 1 (by decide) (by decide), m54 2 (by decide) (by decide), m54 3 (by decide) (by decide), m54 4 (by decide) (by decide), by rw [r47]; rfl⟩, ⟨by show (0 : Int) ≤ 0 ∧ (0 : Int) ≤ 8; omega, by show (0 : Int) ≤ 0 ∧ (0 : Int) ≤ 8; omega⟩, fun b hb => absurd (show (b : Int) < 0 from hb) (by omega), fun b hb => absurd (show (b : Int) < 0 from hb) (by omega), fun r hr => absurd (show (r : Int) < 0 ∨ 8 ≤ r ∧ (r : Int) - 8 < 0 from hr) (by omega), 0, Nat.zero_le _, by rw [hF4 _ _ _ (by omega), hF3 _ _ _ (by omega), o50, q46]; rfl, fun f hf => Or.inr ⟨?_, by rw [hF4 _ _ _ (by omega), hF3 _ _ _ (by omega)]; exact hz2 f hf⟩⟩
    show (if 50 + f = 0 then (1 : Int) else if 50 + f = 1 then nHm tp n else if 50 + f = 4 then 50 else 0) = 0
    rw [if_neg (by omega), if_neg (by omega), if_neg (by omega)]
  · refine K I5 J5 a (fun k i j hn => ?_) (by rw [hF5 _ _ _ (by omega), hF4 _ _ _ (by omega), hF3 _ _ _ (by omega), o50]; exact q1) hJ5 ht5 hP5
    show (if _ then I k i j else I5 k i j) = I k i j
    split
    · rfl
    · rw [hF5 _ _ _ hn, hF4 _ _ _ (by omega), hF3 _ _ _ (by omega), oth _ _ _ (by omega)]
