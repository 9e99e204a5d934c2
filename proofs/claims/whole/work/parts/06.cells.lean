/-! The small machine's values as the machine's. -/
def gcv (ad : gNm → Nat) : gV → Value
  | .inl x => .int x
  | .inr (.inl x) => .long x
  | .inr (.inr r) => va_rf (r.map ad)
theorem gcv_cat (ad : gNm → Nat) (v : gV) : (gcv ad v).category = gcat v := by
  rcases v with x | x | r
  · rfl
  · rfl
  · cases r <;> rfl
def gLv (ad : gNm → Nat) (ls : Array Slot) (L : List (Option gV)) : Prop := ls.size = L.length ∧ lv_wf ls ∧ ∀ (i : Nat) (v : gV), L[i]? = some (some v) → ls[i]? = some (.val (gcv ad v))
def gas (ad : gNm → Nat) (L : List (Option gV)) : List (Nat × Value) := (List.range L.length).filterMap (fun i => match L[i]? with | some (some v) => some (i, gcv ad v) | _ => none)
theorem gas_mem {ad : gNm → Nat} {L : List (Option gV)} {i : Nat} {v : gV} (h : L[i]? = some (some v)) : (i, gcv ad v) ∈ gas ad L := by
  refine List.mem_filterMap.mpr ⟨i, List.mem_range.mpr (List.getElem?_eq_some_iff.mp h).1, ?_⟩
  rw [h]
theorem gas_of {ad : gNm → Nat} {L : List (Option gV)} {q : Nat × Value} (h : q ∈ gas ad L) : ∃ v, L[q.1]? = some (some v) ∧ q.2 = gcv ad v := by
  obtain ⟨i, -, hi⟩ := List.mem_filterMap.mp h
  split at hi
  · rename_i v hv
    cases hi
    exact ⟨v, hv, rfl⟩
  · cases hi
theorem gLv.has {ad : gNm → Nat} {ls : Array Slot} {L : List (Option gV)} (h : gLv ad ls L) : lv_has ls L.length (gas ad L) :=
  ⟨h.1, h.2.1, fun q hq => by obtain ⟨v, h1, h2⟩ := gas_of hq; rw [h2]; exact h.2.2 _ _ h1⟩
theorem gset1_spec {L L' : List (Option gV)} {k : Nat} {v : gV} (h : gset1 L k v = some L') : k < L.length ∧ L'.length = L.length ∧ L'[k]? = some (some v) ∧ ∀ i u, i ≠ k → L'[i]? = some (some u) → L[i]? = some (some u) ∧ ¬ (i + 1 = k ∧ gcat u = 2) := by
  unfold gset1 at h
  split at h
  · rename_i hk
    refine ⟨hk, ?_⟩
    split at h
    · cases h
      refine ⟨by simp, by simp [hk], fun i u hi hu => ?_⟩
      rw [List.getElem?_set_ne (Ne.symm hi)] at hu
      exact ⟨hu, by omega⟩
    · rename_i j
      split at h
      · rename_i x hj
        cases h
        refine ⟨by simp, by simp [hk], fun i u hi hu => ?_⟩
        rw [List.getElem?_set_ne (Ne.symm hi)] at hu
        by_cases e : i = j
        · subst e
          rw [List.getElem?_set_self (by omega)] at hu
          cases hu
        · rw [List.getElem?_set_ne (Ne.symm e)] at hu
          exact ⟨hu, by omega⟩
      · rename_i hn
        cases h
        refine ⟨by simp, by simp [hk], fun i u hi hu => ?_⟩
        rw [List.getElem?_set_ne (Ne.symm hi)] at hu
        refine ⟨hu, fun ⟨e1, e2⟩ => ?_⟩
        have e3 : i = j := by omega
        subst e3
        rcases u with x | x | r
        · cases e2
        · exact hn x hu
        · cases e2
  · cases h
theorem gLv.set1 {ad : gNm → Nat} {ls' : Array Slot} {L L' : List (Option gV)} {k : Nat} {v : gV} (h : gset1 L k v = some L') (h2 : lv_has ls' L.length ((k, gcv ad v) :: (gas ad L).filter (fun q => !(q.1 == k) && !(q.1 + 1 == k && q.2.category == 2)))) : gLv ad ls' L' := by
  obtain ⟨h3, h4, h5, h6⟩ := gset1_spec h
  refine ⟨by rw [h4]; exact h2.1, h2.2.1, fun i u hu => ?_⟩
  by_cases e : i = k
  · subst e
    rw [h5] at hu
    cases hu
    exact h2.2.2 (i, gcv ad v) List.mem_cons_self
  · obtain ⟨h7, h8⟩ := h6 i u e hu
    refine h2.2.2 (i, gcv ad u) (List.mem_cons_of_mem _ (List.mem_filter.mpr ⟨gas_mem h7, ?_⟩))
    have h9 := gcv_cat ad u
    simp only [Bool.and_eq_true, Bool.not_eq_true', beq_eq_false_iff_ne, ne_eq, Bool.and_eq_false_iff]
    refine ⟨e, ?_⟩
    by_cases e2 : i + 1 = k
    · exact Or.inr (by rw [h9]; exact fun e3 => h8 ⟨e2, e3⟩)
    · exact Or.inl e2
theorem gset2_spec {L L' : List (Option gV)} {k : Nat} {v : gV} (h : gset2 L k v = some L') : k + 1 < L.length ∧ L'.length = L.length ∧ L'[k]? = some (some v) ∧ ∀ i u, i ≠ k → L'[i]? = some (some u) → i ≠ k + 1 ∧ L[i]? = some (some u) ∧ ¬ (i + 1 = k ∧ gcat u = 2) := by
  unfold gset2 at h
  split at h
  · rename_i hk
    cases h1 : gset1 L k v with
    | none => rw [h1] at h; cases h
    | some L1 =>
      rw [h1] at h
      cases h
      obtain ⟨h3, h4, h5, h6⟩ := gset1_spec h1
      refine ⟨hk, by simp [h4], ?_, fun i u hi hu => ?_⟩
      · rw [List.getElem?_set_ne (by omega)]; exact h5
      · by_cases e : i = k + 1
        · subst e
          rw [List.getElem?_set_self (by omega)] at hu
          cases hu
        · rw [List.getElem?_set_ne (Ne.symm e)] at hu
          exact ⟨e, h6 i u hi hu⟩
  · cases h
theorem gLv.set2 {ad : gNm → Nat} {ls' : Array Slot} {L L' : List (Option gV)} {k : Nat} {v : gV} (h : gset2 L k v = some L') (h2 : lv_has ls' L.length ((k, gcv ad v) :: (gas ad L).filter (fun q => !(q.1 == k) && (!(q.1 == k + 1) && !(q.1 + 1 == k && q.2.category == 2))))) : gLv ad ls' L' := by
  obtain ⟨h3, h4, h5, h6⟩ := gset2_spec h
  refine ⟨by rw [h4]; exact h2.1, h2.2.1, fun i u hu => ?_⟩
  by_cases e : i = k
  · subst e
    rw [h5] at hu
    cases hu
    exact h2.2.2 (i, gcv ad v) List.mem_cons_self
  · obtain ⟨h0, h7, h8⟩ := h6 i u e hu
    refine h2.2.2 (i, gcv ad u) (List.mem_cons_of_mem _ (List.mem_filter.mpr ⟨gas_mem h7, ?_⟩))
    have h9 := gcv_cat ad u
    simp only [Bool.and_eq_true, Bool.not_eq_true', beq_eq_false_iff_ne, ne_eq, Bool.and_eq_false_iff]
    refine ⟨e, h0, ?_⟩
    by_cases e2 : i + 1 = k
    · exact Or.inr (by rw [h9]; exact fun e3 => h8 ⟨e2, e3⟩)
    · exact Or.inl e2
theorem gset1_ex {L : List (Option gV)} {k : Nat} {v : gV} (hk : k < L.length) : (∃ u, L[k]? = some (some u) ∧ gcat u = 1) → ∀ i u, i ≠ k → (L.set k (some v))[i]? = some (some u) → L[i]? = some (some u) := by
  intro _ i u hi hu
  rw [List.getElem?_set_ne (Ne.symm hi)] at hu
  exact hu
/-- addresses that say the same of what is held -/
theorem gcv_same {ad ad' : gNm → Nat} {v : gV} (h : ∀ r, v = .inr (.inr (some r)) → ad' r = ad r) : gcv ad' v = gcv ad v := by
  rcases v with x | x | r
  · rfl
  · rfl
  · cases r with
    | none => rfl
    | some r => show va_rf (some (ad' r)) = va_rf (some (ad r)); rw [h r rfl]
theorem gLv.same {ad ad' : gNm → Nat} {ls : Array Slot} {L : List (Option gV)} (h : gLv ad ls L) (hs : ∀ (i : Nat) (r : gNm), L[i]? = some (some (Sum.inr (Sum.inr (some r)))) → ad' r = ad r) : gLv ad' ls L :=
  ⟨h.1, h.2.1, fun i v hv => by rw [gcv_same (ad' := ad') (ad := ad) (fun r hr => hs i r (by rw [hv, hr]))]; exact h.2.2 i v hv⟩
/-! The small machine's world as cells of the heap. -/
def gty : Nat → FieldType
  | 0 => .int
  | 1 => .long
  | 3 => .boolean
  | 4 => .char
  | _ => .byte
def gtys (dA : Nat → ClassId) : List (ClassId × FieldType) := [(dA 0, .int), (dA 1, .long), (dA 3, .boolean), (dA 4, .char), (dA 5, .byte)]
def gcont (dA : Nat → ClassId) (ad : gNm → Nat) (w : gW) (n : gNm) : va_E := match gkd n.1 with
  | some (.inl (ci, tys)) => .inr (ci, (List.range tys.length).map (fun j => gcv ad (gfv w n (tys.getD j 0) j)))
  | some (.inr (t, len)) => .inl (dA t, (len w.2.1 n.2, match t with | 1 => .inr (.inl (fun j => w.2.2.2.1 n.1 n.2 j)) | _ => .inl (fun j => w.2.2.1 n.1 n.2 j)))
  | none => .inr (0, [])
def gws (dA : Nat → ClassId) (ad : gNm → Nat) (w : gW) : va_W := (gnmL.take w.1).map (fun n => (ad n, gcont dA ad w n))
def gVal (w : gW) (r : gNm) : Prop := r.1 < 10 ∨ ∃ k, k < w.1 ∧ gnmL[k]? = some r
def gVv (w : gW) (v : gV) : Prop := ∀ r : gNm, v = .inr (.inr (some r)) → gVal w r
def gVs (w : gW) (st : List gV) : Prop := ∀ v ∈ st, gVv w v
def gVL (w : gW) (L : List (Option gV)) : Prop := ∀ (i : Nat) (v : gV), L[i]? = some (some v) → gVv w v
def gWF (w : gW) : Prop := ∀ (k : Nat) (n : gNm), k < w.1 → gnmL[k]? = some n → ∀ (j : Nat) (r : gNm), w.2.2.2.2 n.1 n.2 j = some r → gVal w r
theorem gVv.i {w : gW} {x : Int32} : gVv w (.inl x) := fun r h => by cases h
theorem gVv.l {w : gW} {x : Int64} : gVv w (.inr (.inl x)) := fun r h => by cases h
theorem gVs.cons {w : gW} {v : gV} {st : List gV} (h : gVv w v) (hs : gVs w st) : gVs w (v :: st) := fun u hu => by
  rcases List.mem_cons.mp hu with rfl | hu
  · exact h
  · exact hs u hu
theorem gVs.hd {w : gW} {v : gV} {st : List gV} (h : gVs w (v :: st)) : gVv w v := h v List.mem_cons_self
theorem gVs.tl {w : gW} {v : gV} {st : List gV} (h : gVs w (v :: st)) : gVs w st := fun u hu => h u (List.mem_cons_of_mem _ hu)
theorem gnm_nodup : gnmL.Nodup := by decide +kernel
theorem gnm_ge : ∀ n ∈ gnmL, 10 ≤ n.1 := by decide +kernel
theorem gnm_inj {i j : Nat} {n : gNm} (hi : gnmL[i]? = some n) (hj : gnmL[j]? = some n) : i = j := by
  obtain ⟨h1, h2⟩ := List.getElem?_eq_some_iff.mp hi
  obtain ⟨h3, h4⟩ := List.getElem?_eq_some_iff.mp hj
  have hp := List.pairwise_iff_getElem.mp gnm_nodup
  rcases Nat.lt_trichotomy i j with h | h | h
  · exact absurd (h2.trans h4.symm) (hp i j h1 h3 h)
  · exact h
  · exact absurd (h4.trans h2.symm) (hp j i h3 h1 h)
theorem gws_at {dA : Nat → ClassId} {ad : gNm → Nat} {w : gW} {k : Nat} {n : gNm} (hk : k < w.1) (hn : gnmL[k]? = some n) : (gws dA ad w)[k]? = some (ad n, gcont dA ad w n) := by
  unfold gws
  rw [List.getElem?_map, List.getElem?_take, if_pos hk, hn]
  rfl
theorem gws_of {dA : Nat → ClassId} {ad : gNm → Nat} {w : gW} {k : Nat} {q : Nat × va_E} (h : (gws dA ad w)[k]? = some q) : k < w.1 ∧ ∃ n, gnmL[k]? = some n ∧ q = (ad n, gcont dA ad w n) := by
  unfold gws at h
  rw [List.getElem?_map, List.getElem?_take] at h
  split at h
  · rename_i hk
    refine ⟨hk, ?_⟩
    cases hn : gnmL[k]? with
    | none => rw [hn] at h; cases h
    | some n => rw [hn] at h; cases h; exact ⟨n, rfl, rfl⟩
  · cases h
/-- a name of a cell's kind is a cell's -/
theorem gVal.cell {w : gW} {n : gNm} (h : gVal w n) (hk : gkd n.1 ≠ none) : ∃ k, k < w.1 ∧ gnmL[k]? = some n := by
  rcases h with h | h
  · exfalso
    apply hk
    have : ∀ a, a < 10 → gkdL.getD a none = none := by
      intro a ha
      have e : a = 0 ∨ a = 1 ∨ a = 2 ∨ a = 3 ∨ a = 4 ∨ a = 5 ∨ a = 6 ∨ a = 7 ∨ a = 8 ∨ a = 9 := by omega
      rcases e with rfl | rfl | rfl | rfl | rfl | rfl | rfl | rfl | rfl | rfl <;> rfl
    exact this _ h
  · exact h
/-- what is held at all cells but one is as it was: the list of cells with that one set -/
theorem gws_set {dA : Nat → ClassId} {ad : gNm → Nat} {w w' : gW} {k : Nat} {n : gNm} (h1 : w'.1 = w.1) (hn : gnmL[k]? = some n) (ho : ∀ m, m ≠ n → gcont dA ad w' m = gcont dA ad w m) : (gws dA ad w).set k (ad n, gcont dA ad w' n) = gws dA ad w' := by
  apply List.ext_getElem?
  intro i
  by_cases hi : i = k
  · subst hi
    by_cases hk : i < w.1
    · rw [gws_at (by rw [h1]; exact hk) hn, List.getElem?_set_self]
      have := gws_at (dA := dA) (ad := ad) hk hn
      exact (List.getElem?_eq_some_iff.mp this).1
    · have e : ∀ u : gW, u.1 = w.1 → (gws dA ad u)[i]? = none := by
        intro u hu
        cases h : (gws dA ad u)[i]? with
        | none => rfl
        | some q => exact absurd (gws_of h).1 (by rw [hu]; exact hk)
      rw [e w' h1, List.getElem?_eq_none_iff, List.length_set]
      exact List.getElem?_eq_none_iff.mp (e w rfl)
  · rw [List.getElem?_set_ne (Ne.symm hi)]
    cases h : (gws dA ad w)[i]? with
    | none =>
      cases h2 : (gws dA ad w')[i]? with
      | none => rfl
      | some q =>
        obtain ⟨h3, m, h4, -⟩ := gws_of h2
        rw [gws_at (by rw [← h1]; exact h3) h4] at h
        cases h
    | some q =>
      obtain ⟨h3, m, h4, h5⟩ := gws_of h
      rw [gws_at (by rw [h1]; exact h3) h4, h5, ho m]
      intro e
      subst e
      exact hi (gnm_inj h4 hn)
theorem gup_ne {α : Type} {f : Nat → Nat → Nat → α} {a b c : Nat} {x : α} {m : gNm} (h : m ≠ (a, b)) (j : Nat) : gup f a b c x m.1 m.2 j = f m.1 m.2 j := by
  unfold gup
  by_cases h1 : m.1 = a
  · by_cases h2 : m.2 = b
    · exact absurd (Prod.ext h1 h2) h
    · rw [if_pos h1, if_neg h2]
  · rw [if_neg h1]
theorem gupR_ne {α : Type} {f : Nat → Nat → Nat → α} {a b : Nat} {r : Nat → α} {m : gNm} (h : m ≠ (a, b)) (j : Nat) : gupR f a b r m.1 m.2 j = f m.1 m.2 j := by
  unfold gupR
  by_cases h1 : m.1 = a
  · by_cases h2 : m.2 = b
    · exact absurd (Prod.ext h1 h2) h
    · rw [if_pos h1, if_neg h2]
  · rw [if_neg h1]
theorem gup_eq {α : Type} {f : Nat → Nat → Nat → α} {a b c : Nat} {x : α} (j : Nat) : gup f a b c x a b j = if j = c then x else f a b j := by
  unfold gup
  rw [if_pos rfl, if_pos rfl]
theorem gupR_eq {α : Type} {f : Nat → Nat → Nat → α} {a b : Nat} {r : Nat → α} (j : Nat) : gupR f a b r a b j = r j := by
  unfold gupR
  rw [if_pos rfl, if_pos rfl]
/-- a cell's content from what the world holds there -/
theorem gcont_same {dA : Nat → ClassId} {ad ad' : gNm → Nat} {w w' : gW} {m : gNm} (hs : w'.2.1 = w.2.1) (hI : ∀ j, w'.2.2.1 m.1 m.2 j = w.2.2.1 m.1 m.2 j) (hJ : ∀ j, w'.2.2.2.1 m.1 m.2 j = w.2.2.2.1 m.1 m.2 j) (hR : ∀ j, w'.2.2.2.2 m.1 m.2 j = w.2.2.2.2 m.1 m.2 j) (ha : ∀ j r, w.2.2.2.2 m.1 m.2 j = some r → ad' r = ad r) : gcont dA ad' w' m = gcont dA ad w m := by
  unfold gcont
  cases gkd m.1 with
  | none => rfl
  | some z =>
    rcases z with ⟨ci, tys⟩ | ⟨t, len⟩
    · refine congrArg (fun l => Sum.inr (ci, l)) (List.map_congr_left fun j _ => ?_)
      show gcv ad' (gfv w' m (tys.getD j 0) j) = gcv ad (gfv w m (tys.getD j 0) j)
      generalize tys.getD j 0 = t
      have e : gfv w' m t j = gfv w m t j := by
        unfold gfv
        split
        · rw [hJ]
        · rw [hR]
        · rw [hI]
      rw [e]
      refine gcv_same fun r hr => ?_
      unfold gfv at hr
      split at hr
      · cases hr
      · simp only [Sum.inr.injEq] at hr
        exact ha j r hr
      · cases hr
    · show Sum.inl (dA t, (len w'.2.1 m.2, _)) = Sum.inl (dA t, (len w.2.1 m.2, _))
      have e1 : (fun j => w'.2.2.1 m.1 m.2 j) = fun j => w.2.2.1 m.1 m.2 j := funext hI
      have e2 : (fun j => w'.2.2.2.1 m.1 m.2 j) = fun j => w.2.2.2.1 m.1 m.2 j := funext hJ
      rw [hs, e1, e2]
