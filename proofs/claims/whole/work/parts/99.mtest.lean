/-! The model reads facts and tests. -/
def mTQ (d S : Nat) (h : Nat × Option gNm) (J : Nat → Nat → Nat → Int64) (x2 : Option gV) (Q0 : Option gV → gW → Prop) : Option gV → gW → Prop := fun rv w => gq (d + 9) 265 98 [some (.inr (.inr (some (50, 0)))), some (.inl 1), x2] (rv.toList ++ []) w Q0
/-- behind a fact -/
def mTG (d S : Nat) (h : Nat × Option gNm) (J : Nat → Nat → Nat → Int64) (Q0 : Option gV → gW → Prop) (I : Nat → Nat → Nat → Int32) : Prop := ∀ a2 : Int32, (gq (d + 8) 266 0 [some (.inr (.inr (some (50, 0))))] [] (gwd S I J h) (mTQ d S h J (some (.inl a2)) Q0))
/-- ahead of a fact -/
def mTH (d S : Nat) (h : Nat × Option gNm) (J : Nat → Nat → Nat → Int64) (Q0 : Option gV → gW → Prop) (I : Nat → Nat → Nat → Int32) : Prop := ∀ x2, (gq (d + 9) 265 2 [some (.inr (.inr (some (50, 0)))), some (.inl (1)), x2] [] (gwd S I J h) Q0)
def mTE (S : Nat) (h : Nat × Option gNm) (J : Nat → Nat → Nat → Int64) (Q0 : Option gV → gW → Prop) (I0 : Nat → Nat → Nat → Int32) (tp : Nat → Int) (n : Nat) (f : Int × Int) : Prop := ∀ (I' : Nat → Nat → Nat → Int32), FM I0 I' → mTk I' tp n (.inl f) → Q0 none (gwd S I' J h)
variable {d S : Nat} {h : Nat × Option gNm} {I I0 : Nat → Nat → Nat → Int32} {J : Nat → Nat → Nat → Int64} {Q Q0 : Option gV → gW → Prop}
variable {tp : Nat → Int} {n s b t o : Nat} {g : Bool} {x2 : Option gV}
theorem mTH_bad {f : Int × Int} (hK : mTE S h J Q0 I0 tp n f) (hF : FM I0 I) (ht : mTk I tp n (.inl f)) : mTH d S h J Q0 I := by
  intro x2
  rw [gb_265_2, if_neg (by decide), gb_265_6, if_neg (mTk_bad ht), gb_265_110, if_neg (mTk_bad ht), gb_265_131]
  exact hK I hF ht
theorem mT_out {a2 : Int32} {f : Int × Int} (hK : mTE S h J Q0 I0 tp n f) (hF : FM I0 I) (ht : mTk I tp n (.inl f)) : (gq (d + 9) 265 106 [some (.inr (.inr (some (50, 0)))), some (.inl (1)), some (.inl (a2))] [.inl (0)] (gwd S I J h) Q0) := by
  rw [gb_265_106, gb_265_2, if_pos rfl, gb_265_110, if_neg (mTk_bad ht), gb_265_131]
  exact hK I hF ht
theorem mTQ_1 {a2 : Int32} (hP : mTH d S h J Q0 I) : mTQ d S h J (some (.inl a2)) Q0 (some (.inl 1)) (gwd S I J h) := by
  unfold mTQ
  rw [Option.toList_some, List.singleton_append, gb_265_98, if_neg (by decide), gb_265_101, gb_265_106]
  exact hP _
theorem mTQ_bad {a2 : Int32} {f : Int × Int} (hK : mTE S h J Q0 I0 tp n f) (hF : FM I0 I) (ht : mTk I tp n (.inl f)) : mTQ d S h J (some (.inl a2)) Q0 (some (.inl 0)) (gwd S I J h) := by
  unfold mTQ
  rw [Option.toList_some, List.singleton_append, gb_265_98, if_pos rfl, gb_265_105]
  exact mT_out hK hF ht
def mT5 (tp : Nat → Int) (n t d S : Nat) (h : Nat × Option gNm) (J : Nat → Nat → Nat → Int64) (Q0 : Option gV → gW → Prop) (I0 : Nat → Nat → Nat → Int32) (b f : Nat) : Prop := ∀ (o s : Nat) (g : Bool) (I : Nat → Nat → Nat → Int32) (W L : List Int), o ≤ 6 → FM I0 I → mPs I tp n s g o W L b → tWt W → 10 * (n - s) + 5 < f →
  (∀ q l, rd tp n (alT t) f 5 o s g = (.inl q, l) → mTE S h J Q0 I0 tp n q) →
  (∀ (I' : Nat → Nat → Nat → Int32) s1 g1 l, rd tp n (alT t) f 5 o s g = (.inr (s1, g1), l) → FM I0 I' → mPs I' tp n s1 g1 (nPop W o (L ++ l)).1 (nPop W o (L ++ l)).2.1 (nPop W o (L ++ l)).2.2 b → mTG d S h J Q0 I') → mTH d S h J Q0 I
def mT6 (tp : Nat → Int) (n t d S : Nat) (h : Nat × Option gNm) (J : Nat → Nat → Nat → Int64) (Q0 : Option gV → gW → Prop) (I0 : Nat → Nat → Nat → Int32) (b f : Nat) : Prop := ∀ (o s : Nat) (g : Bool) (I : Nat → Nat → Nat → Int32) (A B W L : List Int), o ≤ 6 → FM I0 I → mPs I tp n s g o ((B ++ A).map gMc ++ W) L b → sqOk W → tWt W → pAnd B → pOr A → 10 * (n - s) + 6 < f →
  (∀ q l, rd tp n (alT t) f 6 o s g = (.inl q, l) → mTE S h J Q0 I0 tp n q) →
  (∀ (I' : Nat → Nat → Nat → Int32) s1 g1 l B' L', rd tp n (alT t) f 6 o s g = (.inr (s1, g1), l) → FM I0 I' → mPs I' tp n s1 g1 o ((B' ++ A).map gMc ++ W) L' b → L' ++ B' = L ++ B ++ l → pAnd B' → ¬ lIs tp n (.inr (s1, g1)) 16 = true → mTG d S h J Q0 I') → mTG d S h J Q0 I
def mT7 (tp : Nat → Int) (n t d S : Nat) (h : Nat × Option gNm) (J : Nat → Nat → Nat → Int64) (Q0 : Option gV → gW → Prop) (I0 : Nat → Nat → Nat → Int32) (b f : Nat) : Prop := ∀ (o s : Nat) (g : Bool) (I : Nat → Nat → Nat → Int32) (A W L : List Int), o ≤ 6 → FM I0 I → mPs I tp n s g o (A.map gMc ++ W) L b → sqOk W → tWt W → pOr A → 10 * (n - s) + 7 < f →
  (∀ q l, rd tp n (alT t) f 7 o s g = (.inl q, l) → mTE S h J Q0 I0 tp n q) →
  (∀ (I' : Nat → Nat → Nat → Int32) s1 g1 l B' L', rd tp n (alT t) f 7 o s g = (.inr (s1, g1), l) → FM I0 I' → mPs I' tp n s1 g1 o ((B' ++ A).map gMc ++ W) L' b → L' ++ B' = L ++ l → pAnd B' → ¬ lIs tp n (.inr (s1, g1)) 16 = true → mTG d S h J Q0 I') → mTH d S h J Q0 I
def mT8 (tp : Nat → Int) (n t d S : Nat) (h : Nat × Option gNm) (J : Nat → Nat → Nat → Int64) (Q0 : Option gV → gW → Prop) (I0 : Nat → Nat → Nat → Int32) (b f : Nat) : Prop := ∀ (o s : Nat) (g : Bool) (I : Nat → Nat → Nat → Int32) (A B W L : List Int), o ≤ 6 → FM I0 I → mPs I tp n s g o ((B ++ A).map gMc ++ W) L b → sqOk W → tWt W → pAnd B → pOr A → ¬ lIs tp n (.inr (s, g)) 16 = true → 10 * (n - s) + 8 < f →
  (∀ q l, rd tp n (alT t) f 8 o s g = (.inl q, l) → mTE S h J Q0 I0 tp n q) →
  (∀ (I' : Nat → Nat → Nat → Int32) s1 g1 l A' B' L', rd tp n (alT t) f 8 o s g = (.inr (s1, g1), l) → FM I0 I' → mPs I' tp n s1 g1 o ((B' ++ A').map gMc ++ W) L' b → L' ++ (B' ++ A') = L ++ (B ++ A) ++ l → pAnd B' → pOr A' → ¬ lIs tp n (.inr (s1, g1)) 16 = true → ¬ lIs tp n (.inr (s1, g1)) 15 = true → mTG d S h J Q0 I') → mTG d S h J Q0 I
def mT9 (tp : Nat → Int) (n t d S : Nat) (h : Nat × Option gNm) (J : Nat → Nat → Nat → Int64) (Q0 : Option gV → gW → Prop) (I0 : Nat → Nat → Nat → Int32) (b f : Nat) : Prop := ∀ (o s : Nat) (g : Bool) (I : Nat → Nat → Nat → Int32) (W L : List Int), o ≤ 6 → FM I0 I → mPs I tp n s g o W L b → sqOk W → tWt W → 10 * (n - s) + 9 < f →
  (∀ q l, rd tp n (alT t) f 9 o s g = (.inl q, l) → mTE S h J Q0 I0 tp n q) →
  (∀ (I' : Nat → Nat → Nat → Int32) s1 g1 l A B L', rd tp n (alT t) f 9 o s g = (.inr (s1, g1), l) → FM I0 I' → mPs I' tp n s1 g1 o ((B ++ A).map gMc ++ W) L' b → L' ++ (B ++ A) = L ++ l → pAnd B → pOr A → ¬ lIs tp n (.inr (s1, g1)) 16 = true → ¬ lIs tp n (.inr (s1, g1)) 15 = true → mTG d S h J Q0 I') → mTH d S h J Q0 I
theorem sq_hd {A W : List Int} (hA : pOr A) (hW : sqOk W) : (A.map gMc ++ W).headD 0 ≠ 10 ∧ (A.map gMc ++ W).headD 0 ≠ 12 := by
  match A, hA with
  | [], _ =>
    rcases hW with e | e
    · rw [e]; exact ⟨by decide, by decide⟩
    · exact ⟨by show W.headD 0 ≠ 10; omega, by show W.headD 0 ≠ 12; omega⟩
  | a :: A', hA =>
    have e : gMc a = 11 := by rw [hA a List.mem_cons_self]; rfl
    exact ⟨by show gMc a ≠ 10; omega, by show gMc a ≠ 12; omega⟩
theorem tWt_or {A W : List Int} (hA : pOr A) (hW : tWt W) : tWt (A.map gMc ++ W) := fun u hu => by
  rcases List.mem_append.mp hu with e | e
  · obtain ⟨c, h1, h2⟩ := List.mem_map.mp e
    rw [hA c h1] at h2
    rw [← h2]; decide
  · exact hW u e
theorem tWt_cons {W : List Int} {v : Int} (hW : tWt W) (hv : 10 ≤ v ∧ v ≤ 25) : tWt (v :: W) := fun u hu => by
  rcases List.mem_cons.mp hu with e | e
  · rw [e]; exact hv
  · exact hW u e
theorem sq_not {A W : List Int} (hA : pOr A) (hW : sqOk W) {B : List Int} (hB : pAnd B) (hc : ¬ (lB tp n s = 93)) : ¬ (lB tp n s = 93 ∧ 25 ∈ (B ++ A).map gMc ++ W) := fun q => hc q.1
theorem n_t6 {f : Nat} (i5 : mT5 tp n t d S h J Q0 I0 b f) (i6 : mT6 tp n t d S h J Q0 I0 b f) (hx0 : mTx I0 tp n) : mT6 tp n t d S h J Q0 I0 b (f + 1) := by
  intro o s g I A B W L h6 hF hp hsq hW hB hA hf Kb K
  have hx := mTx_FM hx0 hF
  have hsn := mTk_sn hp.1
  have hnx := lNx_r (tp := tp) (g := g) hsn
  rw [rd_loop (by decide)] at K Kb
  by_cases hop : lIs tp n (.inr (s, g)) 16 = true
  case neg =>
    have e : lOpc tp n 6 s g = -1 := if_neg hop
    rw [if_pos e] at K
    exact K I s g [] B L rfl hF hp (by rw [List.append_nil]) hB hop
  have e : lOpc tp n 6 s g = 16 := if_pos hop
  rw [e, if_neg (by decide)] at K Kb
  have hwi := lIs_iff.mp hop
  have hlt : s < n := lKd_lt hx0.2.2.2.1 (Or.inl hwi.1)
  have hs1 := hnx.2.2.1 hlt
  have n93 : ¬ lB tp n s = 93 := fun q => by
    have := ((lKd_word hx0.2.2.2.1).mp hwi.1).1
    rw [lIsL_iff] at this; omega
  intro a2
  refine n_T_skip (P := []) hx hp (fun q => n93 q.1) fun I1 hF1 hp1 => ?_
  have hx1 := mTx_FM hx (FM_2 hF1)
  rw [List.map_append, List.append_assoc] at hp1
  refine n_T_and hx1 hp1 (fun c hc => by rw [hB c hc]; rfl) (sq_hd hA hsq).1 hop fun I2 hF2 hp2 => ?_
  have hF02 := FM_trans hF (FM_trans (FM_2 hF1) hF2)
  refine mTQ_1 ?_
  refine i5 o (lNx tp n s g).1 (lNx tp n s g).2 I2 _ _ h6 hF02 hp2 (tWt_cons (tWt_or hA hW) (by omega)) (by omega) (fun q l hr => ?_) (fun I3 s1 g1 l1 hr hF3 hp3 => ?_)
  · have hr' : rd tp n (alT t) f (6 - 1) o (lNx tp n s g).1 (lNx tp n s g).2 = (.inl q, l) := hr
    rw [hr', bR_l] at Kb
    exact Kb q [] rfl
  · have hr' : rd tp n (alT t) f (6 - 1) o (lNx tp n s g).1 (lNx tp n s g).2 = (.inr (s1, g1), l1) := hr
    rw [hr', bR_r] at Kb K
    rw [nPop_id (by show (10 : Int) ≠ 12; decide)] at hp3
    have hlen1 := rd_len hx0.2.2.2.1 f 5 o _ _ _ _ hnx.2.1 (by decide) hr
    have l1s : (lNx tp n s g).1 + l1.length ≤ s1 := hlen1.1
    refine i6 o s1 g1 I3 A [-17] W (L ++ B ++ l1) h6 hF3 hp3 hsq hW (fun c hc => List.mem_singleton.mp hc) hA (by omega) (fun q l hr2 => ?_) (fun I4 s2 g2 l2 B' L' hr2 hF4 hp4 hL hB' hno => ?_)
    · rw [hr2, bR_l] at Kb; exact Kb q [] rfl
    · rw [hr2, bR_r] at K
      refine K I4 s2 g2 _ B' L' rfl hF4 hp4 ?_ hB' hno
      rw [hL]; simp only [List.append_assoc, List.cons_append, List.nil_append]; rfl
theorem n_t7 {f : Nat} (i5 : mT5 tp n t d S h J Q0 I0 b f) (i6 : mT6 tp n t d S h J Q0 I0 b f) (hx0 : mTx I0 tp n) : mT7 tp n t d S h J Q0 I0 b (f + 1) := by
  intro o s g I A W L h6 hF hp hsq hW hA hf Kb K
  have hsn := mTk_sn hp.1
  rw [rd_full (by decide)] at K Kb
  refine i5 o s g I _ L h6 hF hp (tWt_or hA hW) (by omega) (fun q l hr => ?_) (fun I3 s1 g1 l1 hr hF3 hp3 => ?_)
  · have hr' : rd tp n (alT t) f (7 - 2) o s g = (.inl q, l) := hr
    rw [hr', bR_l] at Kb
    exact Kb q [] rfl
  · have hr' : rd tp n (alT t) f (7 - 2) o s g = (.inr (s1, g1), l1) := hr
    rw [hr', bR_r] at Kb K
    have hlen1 := rd_len hx0.2.2.2.1 f 5 o _ _ _ _ hsn (by decide) hr
    have l1s : s + l1.length ≤ s1 := hlen1.1
    rw [nPop_id (sq_hd hA hsq).2] at hp3
    refine i6 o s1 g1 I3 A [] W (L ++ l1) h6 hF3 hp3 hsq hW (fun c hc => by cases hc) hA (by omega) (fun q l hr2 => ?_) (fun I4 s2 g2 l2 B' L' hr2 hF4 hp4 hL hB' hno => ?_)
    · have hr2' : rd tp n (alT t) f (7 - 1) o s1 g1 = (.inl q, l) := hr2
      rw [hr2', bR_l] at Kb; exact Kb q [] rfl
    · have hr2' : rd tp n (alT t) f (7 - 1) o s1 g1 = (.inr (s2, g2), l2) := hr2
      rw [hr2', bR_r] at K
      refine K I4 s2 g2 _ B' L' rfl hF4 hp4 ?_ hB' hno
      rw [hL]; simp only [List.append_assoc, List.nil_append]
theorem n_t8 {f : Nat} (i7 : mT7 tp n t d S h J Q0 I0 b f) (i8 : mT8 tp n t d S h J Q0 I0 b f) (hx0 : mTx I0 tp n) : mT8 tp n t d S h J Q0 I0 b (f + 1) := by
  intro o s g I A B W L h6 hF hp hsq hW hB hA hnm hf Kb K
  have hx := mTx_FM hx0 hF
  have hsn := mTk_sn hp.1
  have hnx := lNx_r (tp := tp) (g := g) hsn
  rw [rd_loop (by decide)] at K Kb
  by_cases hop : lIs tp n (.inr (s, g)) 15 = true
  case neg =>
    have e : lOpc tp n 8 s g = -1 := if_neg hop
    rw [if_pos e] at K
    exact K I s g [] A B L rfl hF hp (by rw [List.append_nil]) hB hA hnm hop
  have e : lOpc tp n 8 s g = 15 := if_pos hop
  rw [e, if_neg (by decide)] at K Kb
  have hwi := lIs_iff.mp hop
  have hlt : s < n := lKd_lt hx0.2.2.2.1 (Or.inl hwi.1)
  have hs1 := hnx.2.2.1 hlt
  have n93 : ¬ lB tp n s = 93 := fun q => by
    have := ((lKd_word hx0.2.2.2.1).mp hwi.1).1
    rw [lIsL_iff] at this; omega
  intro a2
  refine n_T_skip (P := []) hx hp (fun q => n93 q.1) fun I1 hF1 hp1 => ?_
  have hx1 := mTx_FM hx (FM_2 hF1)
  refine n_T_or hx1 hp1 (pAO_g hB hA) (by
    rcases hsq with e | e
    · rw [e]; exact ⟨by decide, by decide⟩
    · omega) hnm hop fun I2 hF2 hp2 => ?_
  have e11 : (11 : Int) :: W = ([-16] : List Int).map gMc ++ W := by rw [List.map_cons, List.map_nil, List.cons_append, List.nil_append, show gMc (-16) = 11 by decide]
  rw [e11] at hp2
  have hF02 := FM_trans hF (FM_trans (FM_2 hF1) hF2)
  refine mTQ_1 ?_
  refine i7 o (lNx tp n s g).1 (lNx tp n s g).2 I2 [-16] W _ h6 hF02 hp2 hsq hW (fun c hc => List.mem_singleton.mp hc) (by omega) (fun q l hr => ?_) (fun I3 s1 g1 l1 B1 L1 hr hF3 hp3 hL1 hB1 hno1 => ?_)
  · have hr' : rd tp n (alT t) f (8 - 1) o (lNx tp n s g).1 (lNx tp n s g).2 = (.inl q, l) := hr
    rw [hr', bR_l] at Kb
    exact Kb q [] rfl
  · have hr' : rd tp n (alT t) f (8 - 1) o (lNx tp n s g).1 (lNx tp n s g).2 = (.inr (s1, g1), l1) := hr
    rw [hr', bR_r] at Kb K
    have hlen1 := rd_len hx0.2.2.2.1 f 7 o _ _ _ _ hnx.2.1 (by decide) hr
    have l1s : (lNx tp n s g).1 + l1.length ≤ s1 := hlen1.1
    refine i8 o s1 g1 I3 [-16] B1 W L1 h6 hF3 hp3 hsq hW hB1 (fun c hc => List.mem_singleton.mp hc) hno1 (by omega) (fun q l hr2 => ?_) (fun I4 s2 g2 l2 A' B' L' hr2 hF4 hp4 hL hB' hA' hno hno' => ?_)
    · rw [hr2, bR_l] at Kb; exact Kb q [] rfl
    · rw [hr2, bR_r] at K
      refine K I4 s2 g2 _ A' B' L' rfl hF4 hp4 ?_ hB' hA' hno hno'
      rw [hL, ← List.append_assoc L1 B1, hL1]; simp only [List.append_assoc, List.cons_append, List.nil_append]; rfl
theorem n_t9 {f : Nat} (i7 : mT7 tp n t d S h J Q0 I0 b f) (i8 : mT8 tp n t d S h J Q0 I0 b f) (hx0 : mTx I0 tp n) : mT9 tp n t d S h J Q0 I0 b (f + 1) := by
  intro o s g I W L h6 hF hp hsq hW hf Kb K
  have hsn := mTk_sn hp.1
  rw [rd_full (by decide)] at K Kb
  refine i7 o s g I [] W L h6 hF hp hsq hW (fun c hc => by cases hc) (by omega) (fun q l hr => ?_) (fun I3 s1 g1 l1 B1 L1 hr hF3 hp3 hL1 hB1 hno1 => ?_)
  · have hr' : rd tp n (alT t) f (9 - 2) o s g = (.inl q, l) := hr
    rw [hr', bR_l] at Kb
    exact Kb q [] rfl
  · have hr' : rd tp n (alT t) f (9 - 2) o s g = (.inr (s1, g1), l1) := hr
    rw [hr', bR_r] at Kb K
    have hlen1 := rd_len hx0.2.2.2.1 f 7 o _ _ _ _ hsn (by decide) hr
    have l1s : s + l1.length ≤ s1 := hlen1.1
    refine i8 o s1 g1 I3 [] B1 W L1 h6 hF3 hp3 hsq hW hB1 (fun c hc => by cases hc) hno1 (by omega) (fun q l hr2 => ?_) (fun I4 s2 g2 l2 A' B' L' hr2 hF4 hp4 hL hB' hA' hno hno' => ?_)
    · have hr2' : rd tp n (alT t) f (9 - 1) o s1 g1 = (.inl q, l) := hr2
      rw [hr2', bR_l] at Kb; exact Kb q [] rfl
    · have hr2' : rd tp n (alT t) f (9 - 1) o s1 g1 = (.inr (s2, g2), l2) := hr2
      rw [hr2', bR_r] at K
      refine K I4 s2 g2 _ A' B' L' rfl hF4 hp4 ?_ hB' hA' hno hno'
      rw [hL, List.append_nil, hL1, List.append_assoc]
