/-! The class works a question out for a house, from stop to stop. -/
theorem gRun1_cd {H : Nat → Int32} {V : Nat → Int} : ∀ {l s : List Int} {a a1 : Nat}, gCd H id a l → a1 + (gRun1 V l s).1.length = a + l.length → gCd H id a1 (gRun1 V l s).1
  | [], s, a, a1, h, e => trivial
  | c :: cs, s, a, a1, h, e => by
    have e0 : gRun1 V (c :: cs) s = (if gAsks c then (cs, -1 - c, s) else gRun1 V cs (gStep V c s)) := rfl
    have hl : (c :: cs).length = cs.length + 1 := rfl
    by_cases hq : gAsks c = true
    · rw [e0, if_pos hq] at e ⊢
      have e' : a1 + cs.length = a + (c :: cs).length := e
      show gCd H id a1 cs
      rw [show a1 = a + 1 by omega]; exact h.2
    · rw [e0, if_neg hq] at e ⊢
      exact gRun1_cd (a := a + 1) h.2 (by omega)
theorem qLf_r {C : gCo} {t : gSt} {mile w x : Int} (hc : cOk C) (ht : tOk C t) (hm : 0 ≤ mile ∧ mile ≤ 99) : -1000000 ≤ qLf C t mile w x ∧ qLf C t mile w x ≤ 1000000 := by
  have r1 := hc.2.1
  unfold qLf
  split
  · split
    · have := gLight_r (C.2 0) mile x; omega
    · omega
  · split
    · rename_i y
      have rm := ht.2.2.2.2.2.2 x.toNat (by omega)
      unfold gabs; split <;> omega
    · omega
theorem qVl_r {C : gCo} {t : gSt} {u : Nat} (hc : cOk C) (ht : tOk C t) (hu : (u : Int) < C.1 3) (w : Nat) : -1000000 ≤ qVl C t u w ∧ qVl C t u w ≤ 1000000 := by
  have r1 := hc.2.1
  have r3 := hc.2.2.2.1
  have rh := hc.2.2.2.2.2.2.2.1 u hu
  have t0 := ht.1
  have t1 := ht.2.1
  have t2 := ht.2.2.1
  unfold qVl
  split
  · omega
  split
  · omega
  split
  · omega
  split
  · unfold gabs; split <;> omega
  split
  · omega
  split
  · omega
  · unfold gBi; split <;> omega
variable {d S : Nat} {h : Nat × Option gNm} {I : Nat → Nat → Nat → Int32} {J : Nat → Nat → Nat → Int64} {Q : Option gV → gW → Prop}
theorem m_qLoop {c i2 u b : Nat} {C : gCo} {t : gSt} {tt : Bool} {a3 a4 : Int32} (hc : cOk C) (ht : tOk C t) (hu : (u : Int) < C.1 3) (hb2 : b ≤ 1600) (hc2 : c < 2) (h4 : a4.toInt = C.1 (30 + u)) : ∀ (m : Nat) (l s' : List Int) (w : Int) (I : Nat → Nat → Nat → Int32) (a5 a6 : Int32) (x7 : Option gV) (k : Nat), (w = -1 ∨ l.length + 1 ≤ m) → a6.toInt = k → k + m ≤ 1600 → kCo I c C → kS I i2 t → (∀ v, v < 11 → alT 3 v = true → (I 18 2 v).toInt = qVl C t u v) → (I 14 2 3).toInt + l.length = b → 0 ≤ (I 14 2 3).toInt → (I 14 2 4).toInt = b → (I 14 2 6).toInt = w → (I 14 2 5).toInt = s'.length → gHp (I 16 2) s' → gCd (I 15 2) id (I 14 2 3).toInt.toNat l → (w = -1 ∨ ((w = 11 ∨ w = 12) ∧ ∃ T0, eVs (false :: T0) (a5.toInt :: s') ∧ T0.length + 1 ≤ 60 ∧ gTy (alT 3) l (false :: T0) = some [tt])) → (∀ (I' : Nat → Nat → Nat → Int32) (x : Int32), (∀ k i j, ¬ (k = 14 ∧ (i = 2 ∨ i = c) ∧ 3 ≤ j ∧ j ≤ 6 ∨ k = 16 ∧ (i = 2 ∨ i = c) ∨ k = 18 ∧ i = c) → I' k i j = I k i j) → x.toInt = (if w = -1 then a5.toInt else gTop (gRun (qVl C t u) (qLf C t (C.1 (30 + u))) l (qLf C t (C.1 (30 + u)) w a5.toInt :: s'))) → Q (some (.inl x)) (gwd S I' J h)) → (gq (d + 5) 71 125 [some (.inr (.inr (some (13, 0)))), some (.inr (.inr (some (34, c)))), some (.inr (.inr (some (21, i2)))), some (.inl (a3)), some (.inl (a4)), some (.inl (a5)), some (.inl (a6)), x7] [] (gwd S I J h) Q)
  | m, l, s', w, I, a5, a6, x7, k, hm, h6, hk, hC, hS, hV, g3, g30, g4, gw, g5, gh, gc, hst, K => by
    have ec : (Int32.ofNat 1600).toInt = 1600 := rfl
    have e1 : (1 : Int32).toInt = 1 := rfl
    have em : (Int32.ofInt (-1)).toInt = -1 := rfl
    rw [gb_71_125]
    by_cases w1 : w = -1
    · have out : (gq (d + 5) 71 214 [some (.inr (.inr (some (13, 0)))), some (.inr (.inr (some (34, c)))), some (.inr (.inr (some (21, i2)))), some (.inl (a3)), some (.inl (a4)), some (.inl (a5)), some (.inl (a6)), x7] [] (gwd S I J h) Q) := by
        rw [gb_71_214]
        exact K I a5 (fun _ _ _ _ => rfl) (by rw [if_pos w1])
      by_cases hk2 : 1600 ≤ k
      · rw [if_pos (by rw [z_le, h6]; show (1600 : Int) ≤ _; omega)]; exact out
      · rw [if_neg (by rw [z_le, h6]; show ¬ (1600 : Int) ≤ _; omega), gb_71_133, gb_71_141, if_pos (z_inj (by rw [gw, w1]; rfl))]; exact out
    rcases hst with e | ⟨hw, T0, hv, hT0, hty⟩
    · exact absurd e w1
    have hm' : l.length + 1 ≤ m := by rcases hm with q | q; exact absurd q w1; exact q
    match m, hm', hk with
    | m + 1, hm', hk =>
    have rh := hc.2.2.2.2.2.2.2.1 u hu
    have r1 := hc.2.1
    have hmile : 0 ≤ C.1 (30 + u) ∧ C.1 (30 + u) ≤ 99 := by omega
    have hlT := eVs_len hv.2
    rw [if_neg (by rw [z_le, h6]; show ¬ (1600 : Int) ≤ _; omega), gb_71_133, gb_71_141, if_neg (fun e => w1 (by rw [← gw, e]; rfl)), gb_71_144]
    have push : ∀ (I1 : Nat → Nat → Nat → Int32) (y a7 : Int32), (∀ k i j, ¬ ((k = 14 ∧ i = c ∧ (j = 3 ∨ j = 4 ∨ j = 5 ∨ j = 6)) ∨ (k = 16 ∧ i = c) ∨ (k = 18 ∧ i = c)) → I1 k i j = I k i j) → y.toInt = qLf C t (C.1 (30 + u)) w a5.toInt → (gq (d + 5) 71 192 [some (.inr (.inr (some (13, 0)))), some (.inr (.inr (some (34, c)))), some (.inr (.inr (some (21, i2)))), some (.inl (a3)), some (.inl (a4)), some (.inl (a5)), some (.inl (a6)), some (.inl (a7))] [.inl (y), .inr (.inr (some (14, 2)))] (gwd S I1 J h) Q) := fun I1 y a7 hF1 hy => by
      have p5 : (I1 14 2 5).toInt = s'.length := by rw [hF1 _ _ _ (by omega)]; exact g5
      rw [gb_71_192, m_push (by omega) (by omega), Option.toList_none, List.nil_append, gb_71_195]
      generalize hI2 : gup (gup I1 16 2 (I1 14 2 5).toInt.toNat y) 14 2 5 (I1 14 2 5 + 1) = I2
      have hF2 : (∀ k i j, ¬ ((k = 14 ∧ i = 2 ∧ j = 5) ∨ (k = 16 ∧ i = 2)) → I2 k i j = I1 k i j) := fun k i j hn => by rw [← hI2, u_ne (by omega), u_ne (by omega)]
      have q5 : (I2 14 2 5).toInt = ((y.toInt :: s').length : Int) := by
        rw [← hI2, u_eq, z_add (by omega) (by omega), p5, e1]; rfl
      have qh : gHp (I2 16 2) (y.toInt :: s') := by
        refine ⟨?_, gHp_congr (fun j hj => ?_) gh⟩
        · rw [← hI2, u_k (by decide), p5, show ((s'.length : Int)).toNat = s'.length from rfl, u_eq]
        · rw [← hI2, u_k (by decide), u_j (by rw [p5]; show ¬ j = s'.length; omega), hF1 _ _ _ (by omega)]
      have q3 : I2 14 2 3 = I 14 2 3 := by rw [hF2 _ _ _ (by omega), hF1 _ _ _ (by omega)]
      have q4 : I2 14 2 4 = I 14 2 4 := by rw [hF2 _ _ _ (by omega), hF1 _ _ _ (by omega)]
      have qc : gCd (I2 15 2) id (I 14 2 3).toInt.toNat l := gCd_congr (fun j _ _ => by rw [hF2 _ _ _ (by omega), hF1 _ _ _ (by omega)]) gc
      have hs : eVs (false :: T0) (y.toInt :: s') := ⟨by
        show -1000000 ≤ y.toInt ∧ y.toInt ≤ 1000000
        rw [hy]; exact qLf_r hc ht hmile, hv.2⟩
      refine m_work1 (al := alT 3) (V := qVl C t u) (a := (I 14 2 3).toInt.toNat) (b := b) (l := l) (s := y.toInt :: s') (T := false :: T0) (T' := [tt]) hb2 (fun v _ _ => qVl_r hc ht hu v) hty hs hT0 (fun e => by cases e) (fun v h1 h2 => by rw [hF2 _ _ _ (by omega), hF1 _ _ _ (by omega)]; exact hV v h1 h2) (by rw [q3]; omega) (by rw [q4]; exact g4) (by omega) q5 qh qc fun I3 x s2 hF3 hr r3 r6 r5 rhp => ?_
      rw [Option.toList_some, List.singleton_append, gb_71_206]
      have hlen := @gRun1_len (qVl C t u) l (y.toInt :: s')
      have hok := gRun1_ok (al := alT 3) (fun v _ _ => qVl_r hc ht hu v) hty hs hT0
      have hrun := @gRun_1 (qVl C t u) (qLf C t (C.1 (30 + u))) l (y.toInt :: s')
      have hcd := fun a1 (ha : a1 + (gRun1 (qVl C t u) l (y.toInt :: s')).1.length = (I 14 2 3).toInt.toNat + l.length) => gRun1_cd (V := qVl C t u) (s := y.toInt :: s') (a1 := a1) qc ha
      have hll : (gRun1 (qVl C t u) l (y.toInt :: s')).1.length ≤ l.length := by
        rcases hlen with ⟨_, q⟩ | q
        · rw [q]; exact Nat.zero_le _
        · omega
      rw [hr] at hok hrun
      generalize hg : gRun1 (qVl C t u) l (y.toInt :: s') = R at hlen hok hrun hcd hll r3 r6
      have hF : ∀ k i j, ¬ (k = 14 ∧ (i = 2 ∨ i = c) ∧ 3 ≤ j ∧ j ≤ 6 ∨ k = 16 ∧ (i = 2 ∨ i = c) ∨ k = 18 ∧ i = c) → I3 k i j = I k i j := fun k i j hn => by rw [hF3 _ _ _ (by omega), hF2 _ _ _ (by omega), hF1 _ _ _ (by omega)]
      refine m_qLoop (tt := tt) hc ht hu hb2 hc2 h4 m R.1 s2 R.2.1 I3 x (a6 + 1) _ (k + 1) ?_ (by rw [z_add (by omega) (by omega), h6, e1]; rfl) (by omega) (kCo_congr hC fun k j hk => ?_) (kS_congr hS (fun j => hF _ _ _ (by omega)) (fun j => hF _ _ _ (by omega))) (fun v h1 h2 => by rw [hF _ _ _ (by omega)]; exact hV v h1 h2) r3 ?_ (by rw [hF3 _ _ _ (by omega), q4]; exact g4) r6 r5 rhp ?_ ?_ fun I' z hF' hz => K I' z (fun k i j hn => by rw [hF' _ _ _ hn, hF _ _ _ hn]) ?_
      · rcases hlen with ⟨q, _⟩ | q
        · exact Or.inl q
        · exact Or.inr (by omega)
      · exact hF _ _ _ (by omega)
      · omega
      · exact gCd_congr (fun j _ _ => by rw [hF3 _ _ _ (by omega)]) (hcd _ (by omega))
      · rcases hok with ⟨q, _⟩ | ⟨q, _, T1, v1, v2, v3⟩
        · exact Or.inl q
        · exact Or.inr ⟨q, T1, v1, v2, v3⟩
      · rw [hz, if_neg w1, ← hy, hrun]
        by_cases q : R.2.1 = -1
        · rw [if_pos q, if_pos q]; rfl
        · rw [if_neg q, if_neg q]; rfl
    by_cases w11 : w = 11
    · rw [if_pos (z_inj (by rw [gw, w11]; rfl)), gb_71_156, gb_71_161, if_neg (by decide), gb_71_172]
      refine m_qLit hc hC (by rw [h4]; omega) fun I1 y hF1 hy => ?_
      rw [Option.toList_some, List.singleton_append, gb_71_180]
      exact push I1 y _ hF1 (by rw [hy, h4]; unfold qLf; rw [if_pos w11])
    · rw [if_neg (fun e => w11 (by rw [← gw, e]; rfl)), gb_71_160, gb_71_161, if_pos rfl, gb_71_183]
      refine m_qFar hc hC hS ht (by rw [h4]; omega) fun y hy => ?_
      rw [Option.toList_some, List.singleton_append]
      exact push I y _ (fun _ _ _ _ => rfl) (by rw [hy, h4]; unfold qLf; rw [if_neg w11])
