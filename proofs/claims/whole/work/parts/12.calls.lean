/-! The small machine's calls. -/
theorem gsl_len (ad : gNm → Nat) : ∀ as : List gV, (lg_sl (as.map (gcv ad))).length = (gsl as).length
  | [] => rfl
  | v :: as => by
    have ih := gsl_len ad as
    unfold lg_sl at ih ⊢
    rw [List.map_cons, List.flatMap_cons, List.length_append, ih, gcv_cat]
    rcases v with x | x | r <;> simp [gsl, gcat] <;> omega
theorem gsl_at (ad : gNm → Nat) : ∀ (as : List gV) (i : Nat) (v : gV), (gsl as)[i]? = some (some v) → (lg_sl (as.map (gcv ad)))[i]? = some (.val (gcv ad v))
  | [], i, v, h => by cases h
  | u :: as, i, v, h => by
    have ih := gsl_at ad as
    unfold lg_sl at ih ⊢
    rw [List.map_cons, List.flatMap_cons, gcv_cat]
    rcases u with x | x | r
    · cases i with
      | zero => cases h; rfl
      | succ i => exact ih i v h
    · cases i with
      | zero => cases h; rfl
      | succ i =>
        cases i with
        | zero => cases h
        | succ i => exact ih i v h
    · cases i with
      | zero => cases h; rfl
      | succ i => exact ih i v h
theorem gsl_mem : ∀ (as : List gV) (i : Nat) (v : gV), (gsl as)[i]? = some (some v) → v ∈ as
  | [], i, v, h => by cases h
  | u :: as, i, v, h => by
    have ih := gsl_mem as
    rcases u with x | x | r
    · cases i with
      | zero => cases h; exact List.mem_cons_self
      | succ i => exact List.mem_cons_of_mem _ (ih i v h)
    · cases i with
      | zero => cases h; exact List.mem_cons_self
      | succ i =>
        cases i with
        | zero => cases h
        | succ i => exact List.mem_cons_of_mem _ (ih i v h)
    · cases i with
      | zero => cases h; exact List.mem_cons_self
      | succ i => exact List.mem_cons_of_mem _ (ih i v h)
theorem gent_at {as : List gV} {n i : Nat} {v : gV} (h : (gent as n)[i]? = some (some v)) : (gsl as)[i]? = some (some v) := by
  unfold gent at h
  by_cases hi : i < (gsl as).length
  · rw [List.getElem?_append_left hi] at h
    exact h
  · rw [List.getElem?_append_right (by omega), List.getElem?_replicate] at h
    split at h <;> cases h
theorem gent_len {as : List gV} {n : Nat} (h : (gsl as).length ≤ n) : (gent as n).length = n := by
  unfold gent
  rw [List.length_append, List.length_replicate]
  omega
theorem gLv_entry (ad : gNm → Nat) {as : List gV} {n : Nat} (h : (gsl as).length ≤ n) : gLv ad ((lg_sl (as.map (gcv ad)) ++ List.replicate (n - (lg_sl (as.map (gcv ad))).length) Slot.unset).toArray) (gent as n) := by
  have h0 := gsl_len ad as
  have h1 := lv_entry (as.map (gcv ad)) (n := n) (by omega)
  refine ⟨h1.1.trans (gent_len h).symm, h1.2.1, fun i v hv => ?_⟩
  have h2 := gent_at hv
  have h3 := gsl_at ad as i v h2
  rw [List.getElem?_toArray, List.getElem?_append_left (by rw [h0]; exact (List.getElem?_eq_some_iff.mp h2).1)]
  exact h3
def gRoom (d : Nat) (w w1 : gW) : Room := { frames := d + 1, cells := w1.1 - w.1, slots := gsz w1 - gsz w, locals := 100 + 60 * d }
/-- a world at a state -/
def gAt (D : va_G) (dA : Nat → ClassId) (A : Nat → Prop) (ad : gNm → Nat) (w : gW) (U : State) : Prop := va_K D vwCl (gtys dA) U ∧ va_P D vwCl (gws dA ad w) U.heap ∧ va_D A (gws dA ad w) ∧ gEx A ad w U ∧ gWF w ∧ ∀ q : Nat, U.heap.size ≤ q → A q
def gPo (D : va_G) (dA : Nat → ClassId) (A : Nat → Prop) (ad : gNm → Nat) (w : gW) (rv : Option gV) (w1 : gW) : Array Value → State → Outcome → State → Prop := fun _ st o t => va_F A st t ∧ ∃ ad' : gNm → Nat, o = .returned (rv.map (gcv ad')) ∧ (∀ r, gVal w r → ad' r = ad r) ∧ (∀ v, rv = some v → gVv w1 v) ∧ va_P D vwCl (gws dA ad' w1) t.heap ∧ va_D A (gws dA ad' w1) ∧ gWF w1
theorem gMet {d z n : Nat} {as : List gV} {w w1 : gW} {rv : Option gV} (hF : gFine d z 0 (gent as (gmr z).1) [] w rv w1) (hk : gMk z n) (hfit : (gsl as).length ≤ (gmr z).1) (hva : gVs w as) (l : Launch) (D : va_G) (dA : Nat → ClassId) (A : Nat → Prop) (ad : gNm → Nat) :
    Met l (gme z) (Cond.code (gme z) (gby z) (gmr z).1 (gmr z).2 :: gWS) (gRoom d w w1) (va_Pc (as.map (gcv ad)) (fun U => gAt D dA A ad w U)) (gPo D dA A ad w rv w1) (w1.1 - w.1) (gsz w1 - gsz w) A := by
  obtain ⟨hz0, hcode, hini, hcls, hdesc, hplain, hml30⟩ := hk
  obtain ⟨k1, k2, k0, k4, k3⟩ := hF
  refine va_MetF (cc := gby z) (maxL := (gmr z).1) (ret := (gmr z).2) hplain rfl ?_
  intro p e s m args below meth c s₁ B hml hv
  obtain ⟨rfl, hK, hP, hD, hE, hWF, hA⟩ := hv
  have hts := atoms_spec (ws := Cond.code (gme z) (gby z) (gmr z).1 (gmr z).2 :: gWS) B.pre
  have hown : s.vm.findClass (gme z).cls = some m.cls := findClass_of_methodNamed B.named
  have hlocks := B.notSynchronized
  have hr := B.returns
  have hb := B.bytes
  have hx := B.exec
  have hin : meth.name = (gme z).name := (name_of_methodNamed B.named B.method).1
  rw [lg_entry_eq]
  have hl := gLv_entry ad hfit
  generalize (lg_sl (as.map (gcv ad)) ++ List.replicate ((gmr z).1 - (lg_sl (as.map (gcv ad))).length) Slot.unset).toArray = ls at hl ⊢
  refine k3 ⟨hx, hb, hml, hr, hown, fun w hw => hts w (List.mem_cons_of_mem _ hw), hlocks, fun _ => hin⟩ D dA A ad ls s.heap [] 0 0 _ hl (gent_len hfit) (fun v hv => by cases hv) (fun i v hv => hva v (gsl_mem as i v (gent_at hv))) ⟨hK, hP, hD, hE, hWF, va_S.rf, hA⟩ (Nat.le_refl _) (Nat.le_refl _) (by rw [Nat.zero_add]; exact Nat.le_refl _) (by rw [Nat.zero_add]; exact Nat.le_refl _) ?_
  intro ad' H' locs' pc' ls' ins ha hrv hI' hdd hret
  obtain ⟨hK1, hP1, hD1, hE1, hWF1, hS1, hA1⟩ := hI'
  rw [Nat.zero_add, Nat.zero_add]
  have hq : ∀ t : State, t.heap = H' → gPo D dA A ad w rv w1 (as.map (gcv ad)).toArray s (.returned (rv.map (gcv ad'))) t := fun t ht => ⟨hS1.F ht, ad', rfl, ha, hrv, by rw [ht]; exact hP1, hD1, hWF1⟩
  unfold gRet at hret
  split at hret
  · rename_i v
    obtain ⟨rfl, ty, hty, hok⟩ := hret
    refine W.zret hx hb (hr.trans hty) ?_ (fun t ht _ => hq t ht) hS1.2.2 hdd
    cases ty <;> first | rfl | (cases hok; done) | skip
    all_goals
      unfold gretok at hok
      have h := of_decide_eq_true hok
      first | exact congrArg Value.int h | (rcases h with rfl | rfl <;> rfl)
  · rename_i v
    obtain ⟨rfl, hty⟩ := hret
    exact W.lret hx hb (hr.trans hty) (fun t ht _ => hq t ht) hS1.2.2 hdd
  · cases hret
  · obtain ⟨rfl, hty⟩ := hret
    exact W.vret hx hb (hr.trans hty) (fun t ht _ => hq t ht) hS1.2.2 hdd
/-- from a call's run to what stands behind it -/
theorem gGo {d y pc : Nat} {L : List (Option gV)} {st rest : List gV} {w w1 w' : gW} {rv1 rv : Option gV} {as : List gV} {z : Nat} (hst : gVs w st → gVs w rest ∧ gVs w as)
    (c1 : gFine d z 0 (gent as (gmr z).1) [] w rv1 w1)
    (run : ∀ {p : Program} {l : Launch} {e : Env} {R : Room} {s : State} {m : MethodId} {args : Array Value} {below : List Frame} {meth : Method} {c : Code} (_ : gCx p s m args meth c y) (D : va_G) (dA : Nat → ClassId) (A : Nat → Prop) (ad : gNm → Nat) (ls : Array Slot) (H : Heap) (locs : List Loc) (cells slots : Nat), gLv ad ls L → L.length = (gmr y).1 → gVs w st → gIn s D dA A ad w H locs → (gRoom d w w1).frames + 1 ≤ R.frames → 8 + ((gmr z).1 + 11) + (gRoom d w w1).locals ≤ R.locals → cells + (w1.1 - w.1) ≤ R.cells → slots + (gsz w1 - gsz w) ≤ R.slots →
      va_Run p l e R s m args below meth c H locs cells slots (w1.1 - w.1) (gsz w1 - gsz w) (F0 m pc ls (st.map (gcv ad))) (rest.map (gcv ad)) (gPo D dA A ad w rv1 w1 (as.map (gcv ad)).toArray) A)
    (hml : (gmr z).1 ≤ 30)
    (k : gFine (d + 1) y (pc + 3) L (rv1.toList ++ rest) w1 rv w') : gFine (d + 1) y pc L st w rv w' := by
  obtain ⟨c1a, c1b, c1c, c1d, -⟩ := c1
  obtain ⟨k1, k2, k0, k4, k3⟩ := k
  refine ⟨by omega, by omega, k0.trans c1c, fun a b j ha => ⟨(k4 a b j ha).1.trans (c1d a b j ha).1, (k4 a b j ha).2.trans (c1d a b j ha).2⟩, ?_⟩
  intro p l e R s m args below meth c Cx D dA A ad ls H locs cells slots Q hl hL hs hv hI hf hr hc hz kk
  have hrun := run (l := l) (e := e) (R := R) (below := below) Cx D dA A ad ls H locs cells slots hl hL hs hI (by show d + 1 + 1 ≤ _; omega) (by show 8 + ((gmr z).1 + 11) + (100 + 60 * d) ≤ _; omega) (by omega) (by omega)
  obtain ⟨hK, hP, hD, hE, hW, hS, hA⟩ := hI
  intro T hT X
  obtain ⟨v, st₀, t, T', L1, h0, X', hL1, e1, e2, ⟨hF, ad', ho, ha, hrv, hP1, hD1, hWF1⟩, go⟩ := hrun T hT X
  obtain ⟨hr1, hr2⟩ := hst hs
  have hv' : v = rv1.map (gcv ad') := by
    have := ho
    injection this
  subst hv'
  have hrest : rest.map (gcv ad) = rest.map (gcv ad') := List.map_congr_left fun u hu => (gcv_same fun r hr => ha r (hr1 u hu r hr)).symm
  have hstk : (rv1.map (gcv ad')).toList ++ rest.map (gcv ad) = (rv1.toList ++ rest).map (gcv ad') := by
    rw [hrest, List.map_append]
    cases rv1 <;> rfl
  have hS1 : va_S A s.heap t.heap (locs ++ L1) := by
    refine ⟨Nat.le_trans hS.1 (by have := hF.1; rw [h0] at this; exact this), fun q hq hn => ?_, fun q hq => ?_⟩
    · have h1 := hF.2 q (by rw [h0]; exact Nat.lt_of_lt_of_le hq hS.1) hn
      rw [h1, h0]
      exact hS.2.1 q hq hn
    · rcases List.mem_append.mp hq with h | h
      · exact hS.2.2 q h
      · exact hL1 q h
  have hW1 : W p l e R s m args below meth c t.heap (locs ++ L1) (cells + (w1.1 - w.1)) (slots + (gsz w1 - gsz w)) Q (F0 m (pc + 3) ls ((rv1.toList ++ rest).map (gcv ad'))) := by
    refine k3 Cx D dA A ad' ls t.heap (locs ++ L1) _ _ Q (hl.same fun i r hr => ha r (hv i _ hr r rfl)) hL ?_ (hv.mono c1a) ⟨hK, hP1, hD1, hE.to c1c c1d (fun a b ha1 => ha (a, b) (Or.inl ha1)), hWF1, hS1, hA⟩ hf hr (by omega) (by omega) ?_
    · intro u hu
      rcases List.mem_append.mp hu with h | h
      · cases rv1 with
        | none => cases h
        | some q =>
          have : u = q := by simpa using h
          subst this
          exact hrv _ rfl
      · exact hr1.mono c1a u h
    · intro ad2 H' locs' pc' ls' ins ha2 hrv2 hI2 hdd hret
      have := kk ad2 H' locs' pc' ls' ins (fun r hr => (ha2 r (hr.mono c1a)).trans (ha r hr)) hrv2 hI2 hdd hret
      rw [show cells + (w1.1 - w.1) + (w'.1 - w1.1) = cells + (w'.1 - w.1) by omega, show slots + (gsz w1 - gsz w) + (gsz w' - gsz w1) = slots + (gsz w' - gsz w) by omega]
      exact this
  obtain ⟨t2, a1, b1⟩ := hW1 T' e1 X'
  refine ⟨t2, go t2 ?_, b1⟩
  show Steps p.tables e below (T'.setTop (F0 m (pc + 3) ls ((rv1.map (gcv ad')).toList ++ rest.map (gcv ad)))) t2
  rw [hstk]
  exact a1
theorem gEx.warm {A : Nat → Prop} {ad : gNm → Nat} {w : gW} {s U : State} (h : gEx A ad w s) {H : Heap} {locs : List Loc} (hS : va_S A s.heap H locs) (hU : U.heap = H) (hW : s.WarmedH U.vm) : gEx A ad w U := by
  obtain ⟨h1, h2, h3, h4, ⟨tx, h5⟩, h6, h7, h8⟩ := h
  have hq : ∀ a : Nat, a < s.heap.size → ¬ A a → U.heap[a]? = s.heap[a]? := fun a ha hn => by rw [hU]; exact hS.2.1 a ha hn
  exact ⟨fun k t len hk => ((h1 k t len hk).moved hW.alike).kept hq, fun e v he => ((h2 e v he).moved hW.alike).kept hq, fun e q v he => ((h3 e q v he).moved hW.alike).kept hq, (h4.moved hW.alike).kept hq, ⟨tx, h5.warm hW⟩, fun a i x h hm => (h6 a i x h hm).warmM hW, (h7.moved hW.alike).kept hq, h8⟩
theorem gAt.blind (D : va_G) (dA : Nat → ClassId) (A : Nat → Prop) (ad : gNm → Nat) (w : gW) (vs : List Value) : FrameBlind (va_Pc vs (fun U => gAt D dA A ad w U)) := by
  intro a U g mk ⟨q0, hK, hP, hD, ⟨h1, h2, h3, h4, ⟨tx, h5⟩, h6, h7, h8⟩, hWF, hA⟩
  have hal : U.vm.Alike (U.calling g mk a).vm := Vm.Alike.refl U.vm
  exact ⟨q0, va_K.moved (u := U) (U := U.calling g mk a) hal hK, hP, hD, ⟨fun k t len hk => (h1 k t len hk).moved hal, fun e v he => (h2 e v he).moved hal, fun e q v he => (h3 e q v he).moved hal, h4.moved hal, ⟨tx, h5.same rfl⟩, fun a' i x h hm => (h6 a' i x h hm).same rfl rfl, h7.moved hal, h8⟩, hWF, hA⟩
theorem gIn.at {s : State} {D : va_G} {dA : Nat → ClassId} {A : Nat → Prop} {ad : gNm → Nat} {w : gW} {H : Heap} {locs : List Loc} (h : gIn s D dA A ad w H locs) {U : State} (hU : U.heap = H) (hW : s.WarmedH U.vm) : gAt D dA A ad w U := by
  obtain ⟨hK, hP, hD, hE, hWF, hS, hA⟩ := h
  exact ⟨va_K.moved hW.alike hK, by rw [hU]; exact hP, hD, hE.warm hS hU hW, hWF, fun q hq => hA q (Nat.le_trans hS.1 (by rw [hU] at hq; exact hq))⟩
theorem gsum {ad : gNm → Nat} {rest : List gV} (h : (rest.map gcat).sum ≤ 8) {m : MethodId} {pc : Nat} {ls : Array Slot} {st : List Value} : 2 * (F0 m pc ls st).monitorRoom + ((rest.map (gcv ad)).map fun v => v.category).sum ≤ 8 := by
  refine lv_room ?_
  rw [List.map_map]
  rw [show (rest.map ((fun v : Value => v.category) ∘ gcv ad)) = rest.map gcat from List.map_congr_left fun v _ => gcv_cat ad v]
  exact h
theorem gtake_of : ∀ (k : Nat) (acc st as rest : List gV), gtake k acc st = some (as, rest) → ∃ bs, bs.length = k ∧ as = bs ++ acc ∧ st = bs.reverse ++ rest
  | 0, acc, st, as, rest, h => by cases h; exact ⟨[], rfl, rfl, rfl⟩
  | k + 1, acc, [], as, rest, h => by cases h
  | k + 1, acc, v :: st, as, rest, h => by
    obtain ⟨bs, h1, h2, h3⟩ := gtake_of k (v :: acc) st as rest h
    exact ⟨bs ++ [v], by simp [h1], by rw [h2]; simp, by rw [h3]; simp⟩
theorem gtake_vs {w : gW} {st as rest : List gV} (h : st = as.reverse ++ rest) (hs : gVs w st) : gVs w rest ∧ gVs w as := by
  subst h
  exact ⟨fun v hv => hs v (List.mem_append_right _ hv), fun v hv => hs v (List.mem_append_left _ (List.mem_reverse.mpr hv))⟩
theorem gws_good (z : Nat) (h : Cond.code (gme z) (gby z) (gmr z).1 (gmr z).2 ∈ gWS) : GoodIn gWS (Cond.code (gme z) (gby z) (gmr z).1 (gmr z).2 :: gWS) := gGood fun w hw => (List.mem_cons.mp hw).elim (fun e => e ▸ h) id
