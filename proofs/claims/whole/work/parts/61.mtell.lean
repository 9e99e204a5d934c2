/-! The model: strengths laid, told; telling; rows seen read. -/
def FLs (I I' : Nat → Nat → Nat → Int32) : Prop := ∀ k i j, ¬ (k = 50 ∧ i = 0 ∧ (49 ≤ j ∧ j ≤ 63 ∨ j = 67 ∨ j = 105) ∨ k = 62 ∧ i = 0 ∨ k = 61 ∧ i = 0 ∧ j < 28 ∨ k = 65 ∧ i = 0 ∨ k = 66 ∧ i = 0) → I' k i j = I k i j
def FAs (I I' : Nat → Nat → Nat → Int32) : Prop := ∀ k i j, ¬ (k = 50 ∧ i = 0 ∧ (49 ≤ j ∧ j ≤ 61 ∨ j = 63 ∨ j = 67 ∨ j = 105) ∨ k = 62 ∧ i = 0 ∨ k = 65 ∧ i = 0 ∨ k = 66 ∧ i = 0) → I' k i j = I k i j
def mTs (I0 I : Nat → Nat → Nat → Int32) : Prop := FLs I0 I ∧ (∀ j, j < 28 → I 62 0 j = I0 61 0 j) ∧ I 50 0 62 ≠ 0
theorem mTs_to {I0 I I' : Nat → Nat → Nat → Int32} (h : mTs I0 I) (hF : ∀ k i j, ¬ (k = 50 ∧ i = 0 ∧ (49 ≤ j ∧ j ≤ 63 ∧ j ≠ 62 ∨ j = 67 ∨ j = 105) ∨ k = 61 ∧ i = 0 ∧ j < 28 ∨ k = 65 ∧ i = 0 ∨ k = 66 ∧ i = 0) → I' k i j = I k i j) : mTs I0 I' := ⟨fun k i j hn => by rw [hF _ _ _ (by omega), h.1 _ _ _ hn], fun j hj => by rw [hF _ _ _ (by omega)]; exact h.2.1 j hj, by rw [hF _ _ _ (by omega)]; exact h.2.2⟩
theorem mTs_co {I0 I : Nat → Nat → Nat → Int32} {C : gCo} (h : mTs I0 I) (hC : mCo I0 C) : mCo I C := mCo_congr hC fun k j hk => h.1 _ _ _ (by omega)
def kFitM (C : gCo) (t : gSt) (I : Nat → Nat → Nat → Int32) (f : Nat → Bool) : Prop := (I 50 0 67).toInt = gLeft f 100 0 0 ∧ (∀ u, u < 100 → (I 65 0 u).toInt = if f u then 1 else 0) ∧ (∀ u r, u < 100 → r < 31 → (I 66 0 (31 * u + r)).toInt = (gItM C r (sUp t 2 u)) 5)
variable {d S : Nat} {h : Nat × Option gNm} {I : Nat → Nat → Nat → Int32} {J : Nat → Nat → Nat → Int64} {Q : Option gV → gW → Prop}
theorem n_lay_in {I0 : Nat → Nat → Nat → Int32} {C : gCo} {t : gSt} {sn : Nat → Int} {rm : Int} {v : Nat} {a1 : Int32} (hc : cOk C) (hC0 : mCo I0 C) (hto : tOk C t) (h9 : t 0 ≤ 999) (hp : tPs C t) (hn0 : mSn I0 sn rm) (hk : snOk C sn rm) (hv : v < 100) (h1 : a1.toInt = v) : ∀ (m r : Nat) (I : Nat → Nat → Nat → Int32) (J : Nat → Nat → Nat → Int64) (a2 : Int32), r + m = 31 → a2.toInt = r → mTs I0 I → mS I C (gItM C r (sUp t 2 v)) → (I 65 0 v = 0 ∨ I 65 0 v = 1) → (I 65 0 v = 1 ↔ gAsAll C sn rm (sUp t 2 v) r) → (∀ q, q < r → (I 66 0 (31 * v + q)).toInt = (gItM C q (sUp t 2 v)) 5) →
    (∀ I' (J' : Nat → Nat → Nat → Int64) a2, mTs I0 I' → FJ J J' → (I' 65 0 v = 0 ∨ I' 65 0 v = 1) → (I' 65 0 v = 1 ↔ gAsAll C sn rm (sUp t 2 v) 31) → (∀ q, q < 31 → (I' 66 0 (31 * v + q)).toInt = (gItM C q (sUp t 2 v)) 5) → (∀ u, u ≠ v → I' 65 0 u = I 65 0 u) → (∀ j, ¬ (31 * v ≤ j ∧ j < 31 * v + 31) → I' 66 0 j = I 66 0 j) → I' 50 0 67 = I 50 0 67 → (gq (d + 8) 233 92 [some (.inr (.inr (some (50, 0)))), some (.inl (a1)), some (.inl (a2))] [] (gwd S I' J' h) Q)) → (gq (d + 8) 233 33 [some (.inr (.inr (some (50, 0)))), some (.inl (a1)), some (.inl (a2))] [] (gwd S I J h) Q)
  | 0, r, I, J, a2, hm, h2, ht, hS, hf, hf1, hw, K => by
    have e30 : (30 : Int32).toInt = 30 := rfl
    have er : r = 31 := by omega
    subst er
    rw [gb_233_33, if_pos (by rw [z_lt]; omega)]
    exact K I J _ ht FJ_refl hf hf1 hw (fun _ _ => rfl) (fun _ _ => rfl) rfl
  | m + 1, r, I, J, a2, hm, h2, ht, hS, hf, hf1, hw, K => by
    have e30 : (30 : Int32).toInt = 30 := rfl
    have e31 : (31 : Int32).toInt = 31 := rfl
    have e1 : (1 : Int32).toInt = 1 := rfl
    have n1 : a1.toNatClampNeg = v := by rw [z_n]; omega
    have u0 : sUp t 2 v 0 = t 0 := sUp_ne (by decide)
    have hut : tOk C (sUp t 2 (v : Int)) := tOk_up2 hto v (by omega)
    have hit : tOk C (gItM C r (sUp t 2 v)) := tOk_itM hc hut (by rw [u0]; omega)
    have hpt : tPs C (gItM C r (sUp t 2 v)) := tPs_itM (tPs_up (by decide) hp)
    have q1 : (31 * a1).toInt = 31 * v := by rw [z_mul (by rw [h1, e31]; omega) (by rw [h1, e31]; omega), h1, e31]
    have q2 : (31 * a1 + a2).toInt = 31 * v + r := by rw [z_add (by omega) (by omega), q1, h2]
    have n2 : (31 * a1 + a2).toNatClampNeg = 31 * v + r := by rw [z_n, q2]; omega
    have hall : gAsAll C sn rm (sUp t 2 v) (r + 1) ↔ gAsAll C sn rm (sUp t 2 v) r ∧ gAsB sn (gItM C r (sUp t 2 v)) r rm.toNat 0 = true := by
      unfold gAsAll
      refine ⟨fun h => ⟨fun i hi => h i (by omega), h r (by omega)⟩, fun h i hi => ?_⟩
      by_cases e : i = r
      · rw [e]; exact h.2
      · exact h.1 i (by omega)
    rw [gb_233_33, if_neg (by rw [z_lt]; omega), gb_233_39]
    refine ⟨g_in.mpr (by omega), ?_⟩
    rw [n1, gb_233_50]
    have go : ∀ y : Int32, (y = 0 ∨ y = 1) → (y = 1 ↔ gAsAll C sn rm (sUp t 2 v) (r + 1)) → (gq (d + 8) 233 66 [some (.inr (.inr (some (50, 0)))), some (.inl (a1)), some (.inl (a2))] [.inl (y), .inl (a1), .inr (.inr (some (65, 0)))] (gwd S I J h) Q) := fun y hy hy1 => by
      have eg : gnar 3 y = y := by rcases hy with rfl | rfl <;> rfl
      rw [gb_233_66]
      refine ⟨g_in.mpr (by omega), ?_⟩
      rw [n1, eg, gb_233_67]
      have ht1 : mTs I0 (gup I 65 0 v y) := mTs_to ht fun k i j hn => u_ne (by omega)
      have hS1 : mS (gup I 65 0 v y) C (gItM C r (sUp t 2 v)) := mS_congr hc hS fun j _ => u_k (by decide)
      refine n_passedSet hc (mTs_co ht1 hC0) hit hpt hS1 fun z hz => ?_
      rw [Option.toList_some, List.singleton_append, gb_233_81]
      refine ⟨g_in.mpr (by omega), ?_⟩
      rw [n2, gb_233_82]
      have ht2 : mTs I0 (gup (gup I 65 0 v y) 66 0 (31 * v + r) z) := mTs_to ht1 fun k i j hn => u_ne (by omega)
      refine n_hourT hc (mTs_co ht2 hC0) hit (by rw [gItM_0, u0]; omega) (mS_congr hc hS1 fun j _ => u_k (by decide)) ht2.2.2 fun I3 J3 hF3 hFJ3 hS3 => ?_
      rw [← gItM_succ] at hS3
      have ht3 : mTs I0 I3 := mTs_to ht2 fun k i j hn => hF3 _ _ _ (by omega)
      have v65 : ∀ u, I3 65 0 u = if u = v then y else I 65 0 u := fun u => by rw [hF3 _ _ _ (by omega), u_k (by decide), u_at]
      have v66 : ∀ u, I3 66 0 u = if u = 31 * v + r then z else I 66 0 u := fun u => by rw [hF3 _ _ _ (by omega), u_at, u_k (by decide)]
      rw [Option.toList_none, List.nil_append, gb_233_86]
      refine n_lay_in hc hC0 hto h9 hp hn0 hk hv h1 m (r + 1) I3 J3 _ (by omega) (by rw [z_add (by omega) (by omega), h2, e1]; rfl) ht3 hS3 (by rw [v65, if_pos rfl]; exact hy) (by rw [v65, if_pos rfl]; exact hy1) (fun q hq => ?_) fun I4 J4 z2 ht4 hFJ4 p1 p2 p3 p4 p5 p6 => K I4 J4 z2 ht4 (FJ_trans hFJ3 hFJ4) p1 p2 p3 (fun u hu => by rw [p4 u hu, v65, if_neg hu]) (fun j hj => by rw [p5 j hj, v66, if_neg (by omega)]) (by rw [p6, hF3 _ _ _ (by omega), u_k (by decide), u_k (by decide)])
      rw [v66]
      by_cases e : q = r
      · rw [if_pos (by omega), e]; exact hz
      · rw [if_neg (by omega)]; exact hw q (by omega)
    by_cases hz : I 65 0 v = 0
    · rw [if_pos hz, gb_233_65]
      exact go 0 (Or.inl rfl) ⟨fun e => absurd e (by decide), fun e => by have := hf1.mpr (hall.mp e).1; rw [hz] at this; exact absurd this (by decide)⟩
    · have hall1 := hf1.mp (hf.resolve_left hz)
      rw [if_neg hz, gb_233_53]
      refine n_asSeen (n := (r : Int)) hc hS (mSn_congr hn0 (ht.1 _ _ _ (by omega)) (fun k => ht.1 _ _ _ (by omega))) hk h2 fun y hy hy1 => ?_
      rw [Option.toList_some, List.singleton_append, gb_233_58]
      by_cases hyz : y = 0
      · rw [if_pos hyz, gb_233_65]
        exact go 0 (Or.inl rfl) ⟨fun e => absurd e (by decide), fun e => by have := hy1.mpr (hall.mp e).2; rw [hyz] at this; exact absurd this (by decide)⟩
      · rw [if_neg hyz, gb_233_61]
        exact go 1 (Or.inr rfl) ⟨fun _ => hall.mpr ⟨hall1, hy1.mp (hy.resolve_left hyz)⟩, fun _ => rfl⟩
theorem n_lay_out {I0 : Nat → Nat → Nat → Int32} {C : gCo} {t : gSt} {sn : Nat → Int} {rm : Int} (hc : cOk C) (hC0 : mCo I0 C) (hto : tOk C t) (h9 : t 0 ≤ 999) (hp : tPs C t) (hS0 : mS I0 C t) (hn0 : mSn I0 sn rm) (hk : snOk C sn rm) : ∀ (n v : Nat) (a : Int) (I : Nat → Nat → Nat → Int32) (J : Nat → Nat → Nat → Int64) (a1 : Int32) (x2 : Option gV), v + n = 100 → a1.toInt = v → mTs I0 I → (∀ j, j < 28 → I 61 0 j = I0 61 0 j) → (I 50 0 67).toInt = a → 0 ≤ a → a ≤ v → (∀ u, u < v → (I 65 0 u).toInt = if gFits C sn rm t u then 1 else 0) → (∀ u r, u < v → r < 31 → (I 66 0 (31 * u + r)).toInt = (gItM C r (sUp t 2 u)) 5) →
    (∀ I' (J' : Nat → Nat → Nat → Int64) a1 x2, mTs I0 I' → FJ J J' → (I' 50 0 67).toInt = gLeft (gFits C sn rm t) n v a → (∀ u, u < 100 → (I' 65 0 u).toInt = if gFits C sn rm t u then 1 else 0) → (∀ u r, u < 100 → r < 31 → (I' 66 0 (31 * u + r)).toInt = (gItM C r (sUp t 2 u)) 5) → (gq (d + 8) 233 121 [some (.inr (.inr (some (50, 0)))), some (.inl (a1)), x2] [] (gwd S I' J' h) Q)) → (gq (d + 8) 233 11 [some (.inr (.inr (some (50, 0)))), some (.inl (a1)), x2] [] (gwd S I J h) Q)
  | 0, v, a, I, J, a1, x2, hn, h1, ht, hr, h67, ha, hav, hf, hw, K => by
    have e99 : (99 : Int32).toInt = 99 := rfl
    rw [gb_233_11, if_pos (by rw [z_lt]; omega)]
    exact K I J _ _ ht FJ_refl h67 (fun u hu => hf u (by omega)) (fun u r hu => hw u r (by omega))
  | n + 1, v, a, I, J, a1, x2, hn, h1, ht, hr, h67, ha, hav, hf, hw, K => by
    have e99 : (99 : Int32).toInt = 99 := rfl
    have e1 : (1 : Int32).toInt = 1 := rfl
    have n1 : a1.toNatClampNeg = v := by rw [z_n]; omega
    rw [gb_233_11, if_neg (by rw [z_lt]; omega), gb_233_17]
    refine ⟨rfl, ?_⟩
    rw [show (2 : Int32).toNatClampNeg = 2 from rfl, gb_233_24]
    refine ⟨g_in.mpr (by omega), ?_⟩
    rw [n1, show gnar 3 (1 : Int32) = 1 from rfl, gb_233_31]
    have ht1 : mTs I0 (gup (gup I 61 0 2 a1) 65 0 v 1) := mTs_to ht fun k i j hn => by rw [u_ne (by omega), u_ne (by omega)]
    refine n_lay_in hc hC0 hto h9 hp hn0 hk (by omega) h1 31 0 _ J _ rfl rfl ht1 (mS_congr hc (mS_up2 (mS_congr hc hS0 fun j hj => hr j hj) h1) fun j _ => u_k (by decide)) (by rw [u_eq]; exact Or.inr rfl) (by rw [u_eq]; exact ⟨fun _ i hi => by omega, fun _ => rfl⟩) (fun q hq => by omega) fun I2 J2 z2 ht2 hFJ2 p1 p2 p3 p4 p5 p6 => ?_
    have f65 : ∀ u, u ≠ v → I2 65 0 u = I 65 0 u := fun u hu => by rw [p4 u hu, u_j hu, u_k (by decide)]
    have f66 : ∀ j, ¬ (31 * v ≤ j ∧ j < 31 * v + 31) → I2 66 0 j = I 66 0 j := fun j hj => by rw [p5 j hj, u_k (by decide), u_k (by decide)]
    have f67 : I2 50 0 67 = I 50 0 67 := by rw [p6, u_k (by decide), u_k (by decide)]
    rw [gAsAll_fit hk h9] at p2
    rw [gb_233_92]
    refine n_triesAnew fun I3 hF3 g3 => ?_
    have ht3 : mTs I0 I3 := mTs_to ht2 fun k i j hn => hF3 _ _ _ (by omega)
    rw [Option.toList_none, List.nil_append, gb_233_96]
    refine ⟨g_in.mpr (by omega), ?_⟩
    rw [n1, gb_233_102, hF3 65 0 v (by omega)]
    rw [show gLeft (gFits C sn rm t) (n + 1) v a = gLeft (gFits C sn rm t) n (v + 1) (a + if gFits C sn rm t v then 1 else 0) from rfl] at K
    have fin : ∀ I4 : Nat → Nat → Nat → Int32, (∀ k i j, ¬ (k = 50 ∧ i = 0 ∧ j = 67) → I4 k i j = I3 k i j) → (I4 50 0 67).toInt = a + (if gFits C sn rm t v then 1 else 0) → (gq (d + 8) 233 115 [some (.inr (.inr (some (50, 0)))), some (.inl (a1)), some (.inl (z2))] [] (gwd S I4 J2 h) Q) := fun I4 hF4 h4 => by
      rw [gb_233_115]
      have hb : 0 ≤ (if gFits C sn rm t v then (1 : Int) else 0) ∧ (if gFits C sn rm t v then (1 : Int) else 0) ≤ 1 := by split <;> omega
      refine n_lay_out hc hC0 hto h9 hp hS0 hn0 hk n (v + 1) (a + if gFits C sn rm t v then 1 else 0) I4 J2 _ _ (by omega) (by rw [z_add (by omega) (by omega), h1, e1]; rfl) (mTs_to ht3 fun k i j hn => hF4 _ _ _ (by omega)) (fun j hj => by rw [hF4 _ _ _ (by omega), g3 j hj, ht2.2.1 j hj]) h4 (by omega) (by omega) (fun u hu => ?_) (fun u r hu hr' => ?_) fun I5 J5 y1 y2 ht5 hFJ5 q1 q2 q3 => K I5 J5 y1 y2 ht5 (FJ_trans hFJ2 hFJ5) q1 q2 q3
      · rw [hF4 _ _ _ (by omega), hF3 _ _ _ (by omega)]
        by_cases e : u = v
        · rw [e]
          rcases p1 with h | h
          · have : gFits C sn rm t v = false := by
              cases hx : gFits C sn rm t v
              · rfl
              · rw [p2.mpr hx] at h; exact absurd h (by decide)
            rw [h, this]; rfl
          · rw [h, p2.mp h]; rfl
        · rw [f65 u e]; exact hf u (by omega)
      · rw [hF4 _ _ _ (by omega), hF3 _ _ _ (by omega)]
        by_cases e : u = v
        · rw [e]; exact p3 r hr'
        · rw [f66 _ (by omega)]; exact hw u r (by omega) hr'
    have f67' : (I3 50 0 67).toInt = a := by rw [hF3 _ _ _ (by omega), f67]; exact h67
    by_cases hz : I2 65 0 v = 0
    · have hx : gFits C sn rm t v = false := by
        cases hx : gFits C sn rm t v
        · rfl
        · rw [p2.mpr hx] at hz; exact absurd hz (by decide)
      rw [if_pos hz]
      exact fin I3 (fun _ _ _ _ => rfl) (by rw [hx, f67']; simp)
    · have hx := p2.mp (p1.resolve_left hz)
      rw [if_neg hz, gb_233_105]
      exact fin _ (fun k i j hn => u_ne hn) (by rw [u_eq, z_add (by omega) (by omega), f67', e1, hx]; rfl)
theorem n_lays {x1 x2 : Option gV} {C : gCo} {t : gSt} {sn : Nat → Int} {rm : Int} (hc : cOk C) (hC : mCo I C) (hto : tOk C t) (h9 : t 0 ≤ 999) (hp : tPs C t) (hS : mS I C t) (hn : mSn I sn rm) (hk : snOk C sn rm) (h62 : I 50 0 62 = 0)
    (K : ∀ I' (J' : Nat → Nat → Nat → Int64), FAs I I' → FJ J J' → kFitM C t I' (gFits C sn rm t) → Q none (gwd S I' J' h)) : (gq (d + 8) 233 0 [some (.inr (.inr (some (50, 0)))), x1, x2] [] (gwd S I J h) Q) := by
  rw [gb_233_0]
  refine n_putsAside fun I1 hF1 h621 g1 => ?_
  have ht1 : mTs I I1 := ⟨fun k i j hn => by rw [hF1 _ _ _ (by omega), u_ne (by omega)], fun j hj => by rw [g1 j hj, u_k (by decide)], h621⟩
  rw [Option.toList_none, List.nil_append, gb_233_9]
  refine n_lay_out hc hC hto h9 hp hS hn hk 100 0 0 I1 J _ _ rfl rfl ht1 (fun j _ => by rw [hF1 _ _ _ (by omega), u_k (by decide)]) (by rw [hF1 _ _ _ (by omega), u_eq]; rfl) (by omega) (by omega) (fun u hu => by omega) (fun u r hu => by omega) fun I2 J2 z1 z2 ht2 hFJ2 p1 p2 p3 => ?_
  rw [gb_233_121]
  refine n_takesBack fun I3 hF3 h623 g3 => ?_
  rw [Option.toList_none, List.nil_append, gb_233_125]
  refine K I3 J2 (fun k i j hn => ?_) hFJ2 ⟨by rw [hF3 _ _ _ (by omega)]; exact p1, fun u hu => by rw [hF3 _ _ _ (by omega)]; exact p2 u hu, fun u r hu hr => by rw [hF3 _ _ _ (by omega)]; exact p3 u r hu hr⟩
  by_cases e : k = 61 ∧ i = 0 ∧ j < 28
  · obtain ⟨rfl, rfl, hj⟩ := e
    rw [g3 j hj, ht2.2.1 j hj]
  · by_cases e2 : k = 50 ∧ i = 0 ∧ j = 62
    · obtain ⟨rfl, rfl, rfl⟩ := e2; rw [h623, h62]
    · rw [hF3 _ _ _ (by omega), ht2.1 _ _ _ (by omega)]
theorem gKth_low {f : Nat → Bool} {k left : Int} (hk : k < 0) : ∀ {n v : Nat} {b : Int}, 0 ≤ b → gKth f k left n v b = if k = -1 then left else -1
  | 0, _, _, _ => rfl
  | n + 1, v, b, hb => by
    unfold gKth
    rw [if_neg (fun e => by have := e.2; omega), gKth_low hk (by split <;> omega)]
theorem n_kth_loop {C : gCo} {t : gSt} {f : Nat → Bool} {a1 : Int32} (hf : kFitM C t I f) (hk : 0 ≤ a1.toInt) (K : ∀ x, x.toInt = gKth f a1.toInt (gLeft f 100 0 0) 100 0 0 → Q (some (.inl x)) (gwd S I J h)) : ∀ (n v : Nat) (b : Int) (a2 a3 : Int32), v + n = 100 → a3.toInt = v → a2.toInt = b → 0 ≤ b → b ≤ v → gKth f a1.toInt (gLeft f 100 0 0) n v b = gKth f a1.toInt (gLeft f 100 0 0) 100 0 0 → (gq d 234 32 [some (.inr (.inr (some (50, 0)))), some (.inl (a1)), some (.inl (a2)), some (.inl (a3))] [] (gwd S I J h) Q)
  | 0, v, b, a2, a3, hn, h3, h2, hb, hbv, he => by
    have e99 : (99 : Int32).toInt = 99 := rfl
    rw [gb_234_32, if_pos (by rw [z_lt]; omega), gb_234_66, gb_234_67]
    exact K _ (by rw [← he, show gKth f a1.toInt (gLeft f 100 0 0) 0 v b = if a1.toInt = -1 then gLeft f 100 0 0 else -1 from rfl, if_neg (by omega)]; rfl)
  | n + 1, v, b, a2, a3, hn, h3, h2, hb, hbv, he => by
    have e99 : (99 : Int32).toInt = 99 := rfl
    have e1 : (1 : Int32).toInt = 1 := rfl
    have n3 : a3.toNatClampNeg = v := by rw [z_n]; omega
    have hv := hf.2.1 v (by omega)
    have ea : (a3 + 1).toInt = ((v + 1 : Nat) : Int) := by rw [z_add (by omega) (by omega), h3, e1]; rfl
    rw [show gKth f a1.toInt (gLeft f 100 0 0) (n + 1) v b = if f v = true ∧ b = a1.toInt then (v : Int) else gKth f a1.toInt (gLeft f 100 0 0) n (v + 1) (b + if f v then 1 else 0) from rfl] at he
    rw [gb_234_32, if_neg (by rw [z_lt]; omega), gb_234_38]
    refine ⟨g_in.mpr (by omega), ?_⟩
    rw [n3, gb_234_44]
    by_cases hfv : f v = true
    · rw [if_pos hfv] at hv
      rw [if_neg (fun e => by rw [e] at hv; exact absurd hv (by decide)), gb_234_50]
      by_cases hb2 : b = a1.toInt
      · rw [if_pos (z_inj (by rw [h2, hb2])), gb_234_55]
        rw [if_pos ⟨hfv, hb2⟩] at he
        exact K _ (by rw [← he]; exact h3)
      · rw [if_neg (fun e => hb2 (by rw [← h2, e])), gb_234_57, gb_234_60]
        rw [if_neg (fun e => hb2 e.2), if_pos hfv] at he
        exact n_kth_loop hf hk K n (v + 1) (b + 1) _ _ (by omega) ea (by rw [z_add (by omega) (by omega), h2, e1]) (by omega) (by omega) he
    · rw [if_neg hfv] at hv
      rw [if_pos (z_inj hv), gb_234_47, gb_234_60]
      rw [if_neg (fun e => hfv e.1), if_neg hfv] at he
      exact n_kth_loop hf hk K n (v + 1) (b + 0) _ _ (by omega) ea (by omega) (by omega) (by omega) he
theorem n_strengths {a1 : Int32} {x2 x3 : Option gV} {C : gCo} {t : gSt} {sn : Nat → Int} {rm : Int} (hc : cOk C) (hC : mCo I C) (hto : tOk C t) (h9 : t 0 ≤ 999) (hp : tPs C t) (hS : mS I C t) (hn : mSn I sn rm) (hk : snOk C sn rm) (h62 : I 50 0 62 = 0)
    (K : ∀ I' (J' : Nat → Nat → Nat → Int64) x, FAs I I' → FJ J J' → x.toInt = gKth (gFits C sn rm t) a1.toInt (gLeft (gFits C sn rm t) 100 0 0) 100 0 0 → Q (some (.inl x)) (gwd S I' J' h)) : (gq (d + 9) 234 0 [some (.inr (.inr (some (50, 0)))), some (.inl (a1)), x2, x3] [] (gwd S I J h) Q) := by
  rw [gb_234_0, if_neg hC.2.2.2.2, gb_234_7, gb_234_9]
  by_cases w : -1 ≤ a1.toInt
  case neg =>
    rw [if_neg (by rw [z_le, z_m1]; omega), gb_234_12, gb_234_13]
    exact K I J _ (fun _ _ _ _ => rfl) FJ_refl (by rw [gKth_low (by omega) (by omega), if_neg (by omega)]; rfl)
  rw [if_pos (by rw [z_le, z_m1]; omega), gb_234_14]
  refine n_lays hc hC hto h9 hp hS hn hk h62 fun I1 J1 hF1 hFJ1 hf => ?_
  rw [Option.toList_none, List.nil_append, gb_234_18, gb_234_20]
  by_cases w1 : a1.toInt = -1
  · rw [if_pos (z_inj (by rw [w1, z_m1])), gb_234_23]
    exact K I1 J1 _ hF1 hFJ1 (by rw [gKth_low (by omega) (by omega), if_pos w1]; exact hf.1)
  · rw [if_neg (fun e => w1 (by rw [e, z_m1])), gb_234_28]
    exact n_kth_loop hf (by omega) (fun x hx => K I1 J1 x hF1 hFJ1 hx) 100 0 0 _ _ rfl rfl rfl (by omega) (by omega) rfl
