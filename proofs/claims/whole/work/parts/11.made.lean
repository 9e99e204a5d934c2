/-! The small machine makes cells. -/
theorem gws_new {dA : Nat → ClassId} {ad : gNm → Nat} {w w1 : gW} {n : gNm} {q : Nat} (hn : gnmL[w.1]? = some n) (h1 : w1.1 = w.1 + 1) (h2 : w1.2.1 = w.2.1) (hWF : gWF w) (hI : ∀ m : gNm, m ≠ n → ∀ j, w1.2.2.1 m.1 m.2 j = w.2.2.1 m.1 m.2 j) (hJ : ∀ m : gNm, m ≠ n → ∀ j, w1.2.2.2.1 m.1 m.2 j = w.2.2.2.1 m.1 m.2 j) (hR : ∀ m : gNm, m ≠ n → ∀ j, w1.2.2.2.2 m.1 m.2 j = w.2.2.2.2 m.1 m.2 j) : gws dA (fun r => if r = n then q else ad r) w1 = gws dA ad w ++ [(q, gcont dA (fun r => if r = n then q else ad r) w1 n)] := by
  unfold gws
  rw [h1, List.take_succ, hn, List.map_append]
  congr 1
  · refine List.map_congr_left fun m hm => ?_
    obtain ⟨k, hk⟩ := List.getElem?_of_mem hm
    rw [List.getElem?_take] at hk
    split at hk
    · rename_i hkw
      have hne : ∀ r : gNm, gVal w r → r ≠ n := by
        intro r hr e
        subst e
        rcases hr with h | ⟨k', h3, h4⟩
        · exact absurd h (Nat.not_lt.mpr (gnm_ge r (List.mem_of_getElem? hn)))
        · have := gnm_inj h4 hn
          omega
      have hmn : m ≠ n := hne m (Or.inr ⟨k, hkw, hk⟩)
      show ((if m = n then q else ad m), gcont dA _ w1 m) = _
      rw [if_neg hmn]
      refine congrArg (Prod.mk _) (gcont_same h2 (hI m hmn) (hJ m hmn) (hR m hmn) fun j r hr => ?_)
      exact if_neg (hne r (hWF k m hkw hk j r hr))
    · cases hk
  · show [((if n = n then q else ad n), gcont dA _ w1 n)] = _
    rw [if_pos rfl]
theorem gVal.ne {w : gW} {n r : gNm} (hn : gnmL[w.1]? = some n) (hr : gVal w r) : r ≠ n := by
  intro e
  subst e
  rcases hr with h | ⟨k', h3, h4⟩
  · exact absurd h (Nat.not_lt.mpr (gnm_ge r (List.mem_of_getElem? hn)))
  · have := gnm_inj h4 hn
    omega
theorem gsz_new {w w1 : gW} {n : gNm} (hn : gnmL[w.1]? = some n) (h1 : w1.1 = w.1 + 1) (h2 : w1.2.1 = w.2.1) : gsz w1 = gsz w + gcsz w.2.1 n := by
  unfold gsz
  rw [h1, h2, List.take_succ, hn]
  simp
abbrev gnw (w : gW) (n : gNm) : gW := (w.1 + 1, w.2.1, gupR w.2.2.1 n.1 n.2 (fun _ => 0), gupR w.2.2.2.1 n.1 n.2 (fun _ => 0), gupR w.2.2.2.2 n.1 n.2 (fun _ => none))
theorem gAlloc {d y pc pc1 : Nat} {L : List (Option gV)} {st st1 : List gV} {w w' : gW} {rv : Option gV} {n : gNm} (hn : gnmL[w.1]? = some n) (hst : gVs w st → gVs w st1)
    (step : ∀ {p : Program} {l : Launch} {e : Env} {R : Room} {s : State} {m : MethodId} {args : Array Value} {below : List Frame} {meth : Method} {c : Code} (_ : gCx p s m args meth c y) (D : va_G) (dA : Nat → ClassId) (A : Nat → Prop) (ad : gNm → Nat) (ls : Array Slot) (H : Heap) (locs : List Loc) (cells slots : Nat) (Q : State → Prop), gIn s D dA A ad w H locs → cells + 1 ≤ R.cells → slots + gcsz w.2.1 n ≤ R.slots →
      (∀ (q : Nat) (H1 : Heap), va_P D vwCl (gws dA ad w ++ [(q, gcont dA (fun r => if r = n then q else ad r) (gnw w n) n)]) H1 → va_D A (gws dA ad w ++ [(q, gcont dA (fun r => if r = n then q else ad r) (gnw w n) n)]) → va_S A s.heap H1 locs → W p l e R s m args below meth c H1 locs (cells + 1) (slots + gcsz w.2.1 n) Q (F0 m pc1 ls (.ref q :: st1.map (gcv ad)))) →
      W p l e R s m args below meth c H locs cells slots Q (F0 m pc ls (st.map (gcv ad))))
    (k : gFine d y pc1 L (.inr (.inr (some n)) :: st1) (gnw w n) rv w') : gFine d y pc L st w rv w' := by
  obtain ⟨k1, k2, k0, k4, k3⟩ := k
  have hz := gsz_new (w1 := gnw w n) hn rfl rfl
  have k1' : w.1 + 1 ≤ w'.1 := k1
  have hge := gnm_ge n (List.mem_of_getElem? hn)
  refine ⟨by omega, by omega, k0, fun a b j ha => ⟨(k4 a b j ha).1.trans (gupR_ne (f := w.2.2.1) (a := n.1) (b := n.2) (r := fun _ => 0) (m := (a, b)) (fun e => absurd (congrArg Prod.fst e) (by show ¬ a = n.1; omega)) j), (k4 a b j ha).2.trans (gupR_ne (f := w.2.2.2.2) (a := n.1) (b := n.2) (r := fun _ => none) (m := (a, b)) (fun e => absurd (congrArg Prod.fst e) (by show ¬ a = n.1; omega)) j)⟩, fun Cx D dA A ad ls H locs cells slots Q hl hL hs hv hI hf hr hc hz1 kk => ?_⟩
  have hI0 := hI
  obtain ⟨hK, hP, hD, hE, hW, hS, hA⟩ := hI
  refine step Cx D dA A ad ls H locs cells slots Q hI0 (by omega) (by omega) fun q H1 hP1 hD1 hS1 => ?_
  have hadn : ∀ r, gVal w r → (if r = n then q else ad r) = ad r := fun r hr => if_neg (hr.ne hn)
  have hs1 := hst hs
  have e1 : (Value.ref q :: st1.map (gcv ad)) = ((.inr (.inr (some n)) :: st1 : List gV).map (gcv (fun r => if r = n then q else ad r))) := by
    show _ = va_rf (some (if n = n then q else ad n)) :: st1.map _
    rw [if_pos rfl]
    refine congrArg (List.cons (Value.ref q)) (List.map_congr_left fun v hv1 => (gcv_same fun r hr => ?_).symm)
    exact hadn r (hs1 v hv1 r hr)
  rw [e1]
  have hg := gws_new (dA := dA) (ad := ad) (w1 := gnw w n) (q := q) hn rfl rfl hW (fun m hm j => gupR_ne (f := w.2.2.1) (a := n.1) (b := n.2) (r := fun _ => 0) hm j) (fun m hm j => gupR_ne (f := w.2.2.2.1) (a := n.1) (b := n.2) (r := fun _ => 0) hm j) (fun m hm j => gupR_ne (f := w.2.2.2.2) (a := n.1) (b := n.2) (r := fun _ => none) hm j)
  rw [← hg] at hP1 hD1
  have hWF1 : gWF (gnw w n) := by
    intro k' m hk' hm j r hr
    by_cases hmn : m = n
    · subst hmn
      have hr : gupR w.2.2.2.2 m.1 m.2 (fun _ => none) m.1 m.2 j = some r := hr
      rw [gupR_eq] at hr
      cases hr
    · have hr : gupR w.2.2.2.2 n.1 n.2 (fun _ => none) m.1 m.2 j = some r := hr
      rw [gupR_ne hmn] at hr
      have hk1 : k' < w.1 + 1 := hk'
      have hk2 : k' ≠ w.1 := fun e => by subst e; exact hmn (Option.some.inj (hm.symm.trans hn))
      exact (hW k' m (by omega) hm j r hr).mono (Nat.le_succ _)
  refine k3 Cx D dA A (fun r => if r = n then q else ad r) ls H1 locs (cells + 1) (slots + gcsz w.2.1 n) Q (hl.same fun i r hr => hadn r (hv i _ hr r rfl)) hL
    ((hs1.mono (Nat.le_succ _)).cons fun r hr => by cases hr; exact Or.inr ⟨w.1, Nat.lt_succ_self _, hn⟩) (hv.mono (Nat.le_succ _))
    ⟨hK, hP1, hD1, hE.to rfl (fun a b j ha => ⟨gupR_ne (f := w.2.2.1) (a := n.1) (b := n.2) (r := fun _ => 0) (m := (a, b)) (fun e => absurd (congrArg Prod.fst e) (by show ¬ a = n.1; omega)) j, gupR_ne (f := w.2.2.2.2) (a := n.1) (b := n.2) (r := fun _ => none) (m := (a, b)) (fun e => absurd (congrArg Prod.fst e) (by show ¬ a = n.1; omega)) j⟩) (fun a b ha => if_neg fun e => absurd (congrArg Prod.fst e) (by show ¬ a = n.1; omega)), hWF1, hS1, hA⟩ hf hr (by show cells + 1 + (w'.1 - (w.1 + 1)) ≤ _; omega) (by omega) fun ad' H' locs' pc' ls' ins ha hrv hI' hdd hret => ?_
  have := kk ad' H' locs' pc' ls' ins (fun r hr => (ha r (hr.mono (Nat.le_succ _))).trans (hadn r hr)) hrv hI' hdd hret
  rw [show cells + 1 + (w'.1 - (gnw w n).1) = cells + (w'.1 - w.1) from by show cells + 1 + (w'.1 - (w.1 + 1)) = _; omega, show slots + gcsz w.2.1 n + (gsz w' - gsz (gnw w n)) = slots + (gsz w' - gsz w) by omega]
  exact this
theorem gf_new {d y pc i ci : Nat} {L : List (Option gV)} {st : List gV} {w w' : gW} {rv : Option gV} {n : gNm} {tys : List Nat} (hn : gnmL[w.1]? = some n) (hd : decode (gby y) pc = .ok (.new i, 3)) (hk : gkd n.1 = some (.inl (ci, tys)))
    (hlk : ∃ C T N ty, vwCl[ci]? = some (C, T, N) ∧ gCl ci C T N ty ∧ Cond.classLink (gme y).cls i C ∈ gWS ∧ Cond.instantiable C N ∈ gWS ∧ Cond.initialized C ∈ gWS)
    (k : gFine d y (pc + 3) L (.inr (.inr (some n)) :: st) (gnw w n) rv w') : gFine d y pc L st w rv w' := by
  obtain ⟨C, T, N, ty, hc, ⟨hws, hpa, hnm0, htys⟩, hl1, hl2, hl3⟩ := hlk
  refine gAlloc hn (fun h => h) ?_ k
  intro p l e R s m args below meth c Cx D dA A ad ls H locs cells slots Q hI hcl hsl kk
  obtain ⟨hx, hb, hml, hrt, hown, hts, hlk1, hnm⟩ := Cx
  obtain ⟨hK, hP, hD, hE, hW, hS, hA⟩ := hI
  have ht := htys.1 n.1 tys hk
  have hlen : tys.length = N := by rw [ht]; simp
  have hsz : gcsz w.2.1 n = N := by unfold gcsz; rw [hk]; exact hlen
  rw [hsz] at hsl kk
  refine va_new hx hb hts hws ty hpa hown (hts _ hl1) (hts _ hl2) (hts _ hl3) hK hP hD hS hA hc (fs := (List.range tys.length).map (fun j => gcv ad (gfv (gnw w n) n (tys.getD j 0) j))) (fun j hj => ?_) hcl hsl hd fun q H1 a1 a2 a3 => kk q H1 ?_ ?_ a3
  · unfold vp_V
    rw [List.getD_eq_getElem?_getD, List.getElem?_map, List.getElem?_range (by omega)]
    show defaultValue (ty j) = gcv ad (gfv (gnw w n) n (tys.getD j 0) j)
    have htj : tys.getD j 0 = gtf (ty j) := by
      rw [ht, List.getD_eq_getElem?_getD, List.getElem?_map, List.getElem?_range hj]
      rfl
    rw [htj]
    have hI0 : gupR w.2.2.1 n.1 n.2 (fun _ => 0) n.1 n.2 j = 0 := gupR_eq j
    have hJ0 : gupR w.2.2.2.1 n.1 n.2 (fun _ => 0) n.1 n.2 j = 0 := gupR_eq j
    have hR0 : gupR w.2.2.2.2 n.1 n.2 (fun _ => none) n.1 n.2 j = none := gupR_eq j
    have hty : ty j = .int ∨ ty j = .long ∨ ty j = .boolean ∨ (∃ z, ty j = .object z) ∨ ∃ z, ty j = .array z := by
      have h9 := htys.2 j hj
      cases h : ty j <;> rw [h] at h9 <;> first | exact absurd rfl h9 | simp
    rcases hty with h | h | h | ⟨z, h⟩ | ⟨z, h⟩ <;> rw [h]
    · show Value.int 0 = .int (gupR w.2.2.1 n.1 n.2 (fun _ => 0) n.1 n.2 j); rw [hI0]
    · show Value.long 0 = .long (gupR w.2.2.2.1 n.1 n.2 (fun _ => 0) n.1 n.2 j); rw [hJ0]
    · show Value.int 0 = .int (gupR w.2.2.1 n.1 n.2 (fun _ => 0) n.1 n.2 j); rw [hI0]
    · show Value.null = va_rf ((gupR w.2.2.2.2 n.1 n.2 (fun _ => none) n.1 n.2 j).map ad); rw [hR0]; rfl
    · show Value.null = va_rf ((gupR w.2.2.2.2 n.1 n.2 (fun _ => none) n.1 n.2 j).map ad); rw [hR0]; rfl
  all_goals
    have hsame : gcont dA (fun r => if r = n then q else ad r) (gnw w n) n = .inr (ci, (List.range tys.length).map (fun j => gcv ad (gfv (gnw w n) n (tys.getD j 0) j))) := by
      rw [gcont_obj hk]
      refine congrArg (fun l => Sum.inr (ci, l)) (List.map_congr_left fun j _ => gcv_same fun r hr => ?_)
      have hR0 : (gnw w n).2.2.2.2 n.1 n.2 j = none := gupR_eq (f := w.2.2.2.2) (a := n.1) (b := n.2) (r := fun _ => none) j
      unfold gfv at hr
      split at hr
      · cases hr
      · rw [hR0] at hr; cases hr
      · cases hr
    rw [hsame]
    assumption
theorem gra {D : va_G} {dA : Nat → ClassId} {s : State} {cl : List vw_C} {t k : Nat} {cA : ClassId} (hK : va_K D cl (gtys dA) s) (hk : (gtys dA)[k]? = some (dA t, gty t)) (ht : ∀ C, gty t ≠ .object C) (hK2 : va_K D cl (gtys dA ++ [(cA, gty t)]) s) : cA = dA t := by
  have h1 := (hK.2 k _ hk).2
  have h2 := (hK2.2 5 (cA, gty t) rfl).2
  unfold va_RA at h1 h2
  dsimp only at h1 h2
  revert h1 h2
  generalize gty t = ty at ht
  intro h1 h2
  cases ty with
  | object C => exact absurd rfl (ht C)
  | _ => exact Option.some.inj (h2.symm.trans h1)
theorem gf_newarr {d y pc t k2 : Nat} {L : List (Option gV)} {st : List gV} {w w' : gW} {rv : Option gV} {n : gNm} {x : Int32} {len : Nat → Nat → Nat} {at0 : ArrayType} (hn : gnmL[w.1]? = some n) (hd : decode (gby y) pc = .ok (.newarray at0, 2)) (hk : gkd n.1 = some (.inr (t, len)))
    (hty : newarray.typeOf at0 = gty t) (hcb : componentBytes (gty t) ≤ 8) (hobj : ∀ C, gty t ≠ .object C) (hk2 : ∀ dA : Nat → ClassId, (gtys dA)[k2]? = some (dA t, gty t)) (hdef : (t = 1 ∧ defaultValue (gty t) = .long 0) ∨ (t ≠ 1 ∧ defaultValue (gty t) = .int 0))
    (h : ¬ x < 0 ∧ x.toNatClampNeg = len w.2.1 n.2 ∧ x.toNatClampNeg ≤ 100000) (hlk : Cond.arrayClass (newarray.typeOf at0) ∈ gWS)
    (k : gFine d y (pc + 2) L (.inr (.inr (some n)) :: st) (gnw w n) rv w') : gFine d y pc L (.inl x :: st) w rv w' := by
  refine gAlloc hn (fun h => h.tl) ?_ k
  intro p l e R s m args below meth c Cx D dA A ad ls H locs cells slots Q hI hcl hsl kk
  obtain ⟨hx, hb, hml, hrt, hown, hts, hlk1, hnm⟩ := Cx
  obtain ⟨hK, hP, hD, hE, hW, hS, hA⟩ := hI
  have hsz : gcsz w.2.1 n = len w.2.1 n.2 := by unfold gcsz; rw [hk]
  rw [hsz] at hsl kk
  have hbytes : len w.2.1 n.2 * componentBytes (gty t) ≤ 536870912 := by
    rw [← h.2.1]
    exact Nat.le_trans (Nat.mul_le_mul h.2.2 hcb) (by decide)
  have hg1 : (fun j => (gnw w n).2.2.1 n.1 n.2 j) = fun _ => 0 := funext fun j => gupR_eq (f := w.2.2.1) (a := n.1) (b := n.2) (r := fun _ => 0) j
  have hg2 : (fun j => (gnw w n).2.2.2.1 n.1 n.2 j) = fun _ => 0 := funext fun j => gupR_eq (f := w.2.2.2.1) (a := n.1) (b := n.2) (r := fun _ => 0) j
  rcases hdef with ⟨ht, hdv⟩ | ⟨ht, hdv⟩
  · subst ht
    refine va_newa hx hb (hts _ hlk) hty hK hP hD hS hA (N' := len w.2.1 n.2) (a0 := (len w.2.1 n.2, .inr (.inl fun _ => 0))) (fun cA => by rw [hdv]; rfl) h.1 h.2.1 hbytes hcl hsl hd fun q cA H1 a0 a1 a2 a3 => ?_
    have hcA := gra hK (hk2 dA) hobj a0
    subst hcA
    have hc := gcont_long (dA := dA) (ad := fun r => if r = n then q else ad r) (w := gnw w n) hk
    rw [hg2] at hc
    exact kk q H1 (by rw [hc]; exact a1) (by rw [hc]; exact a2) a3
  · refine va_newa hx hb (hts _ hlk) hty hK hP hD hS hA (N' := len w.2.1 n.2) (a0 := (len w.2.1 n.2, .inl fun _ => 0)) (fun cA => by rw [hdv]; rfl) h.1 h.2.1 hbytes hcl hsl hd fun q cA H1 a0 a1 a2 a3 => ?_
    have hcA := gra hK (hk2 dA) hobj a0
    subst hcA
    have hc := gcont_int (dA := dA) (ad := fun r => if r = n then q else ad r) (w := gnw w n) hk ht
    rw [hg1] at hc
    exact kk q H1 (by rw [hc]; exact a1) (by rw [hc]; exact a2) a3
