/-! The small machine's writes. -/
/-- a step that writes at cells that are there -/
def gPut (y pc : Nat) (L : List (Option gV)) (st : List gV) (w : gW) (pc1 : Nat) (st1 : List gV) (w1 : gW) : Prop :=
  w1.1 = w.1 ∧ w1.2.1 = w.2.1 ∧ (∀ k i j, k < 10 → w1.2.2.1 k i j = w.2.2.1 k i j ∧ w1.2.2.2.2 k i j = w.2.2.2.2 k i j) ∧ (gWF w → gVs w st → gVs w st1 ∧ gWF w1) ∧ ∀ {p : Program} {l : Launch} {e : Env} {R : Room} {s : State} {m : MethodId} {args : Array Value} {below : List Frame} {meth : Method} {c : Code} (_ : gCx p s m args meth c y) (D : va_G) (dA : Nat → ClassId) (A : Nat → Prop) (ad : gNm → Nat) (ls : Array Slot) (H : Heap) (locs : List Loc) (cells slots : Nat) (Q : State → Prop),
    gLv ad ls L → gVs w st → gIn s D dA A ad w H locs → 1 ≤ R.frames → 100 ≤ R.locals → L.length = (gmr y).1 →
    (∀ H1 locs1, va_P D vwCl (gws dA ad w1) H1 → va_D A (gws dA ad w1) → va_S A s.heap H1 locs1 → W p l e R s m args below meth c H1 locs1 cells slots Q (F0 m pc1 ls (st1.map (gcv ad)))) →
    W p l e R s m args below meth c H locs cells slots Q (F0 m pc ls (st.map (gcv ad)))
theorem gVal.mono {w w1 : gW} (h : w.1 ≤ w1.1) {r : gNm} (hr : gVal w r) : gVal w1 r := by
  rcases hr with h1 | ⟨k, h1, h2⟩
  · exact Or.inl h1
  · exact Or.inr ⟨k, Nat.lt_of_lt_of_le h1 h, h2⟩
theorem gVs.mono {w w1 : gW} (h : w.1 ≤ w1.1) {st : List gV} (hs : gVs w st) : gVs w1 st := fun v hv r hr => (hs v hv r hr).mono h
theorem gVL.mono {w w1 : gW} (h : w.1 ≤ w1.1) {L : List (Option gV)} (hs : gVL w L) : gVL w1 L := fun i v hv r hr => (hs i v hv r hr).mono h
theorem gEx.to {A : Nat → Prop} {ad ad' : gNm → Nat} {w w1 : gW} {U : State} (h : gEx A ad w U) (hs : w1.2.1 = w.2.1) (hi : ∀ k i j, k < 10 → w1.2.2.1 k i j = w.2.2.1 k i j ∧ w1.2.2.2.2 k i j = w.2.2.2.2 k i j) (ha : ∀ k i, k < 10 → ad' (k, i) = ad (k, i)) : gEx A ad' w1 U := by
  obtain ⟨h1, h2, h3, h4, h5, h6, h7, h8⟩ := h
  have h9 := (hi 4 0 0 (by decide)).2
  refine ⟨fun k t len hk => ?_, fun e v he => ?_, fun e q v he => ?_, ?_, ?_, h6, ?_, by rw [h9]; exact h8⟩
  · have hk10 : k < 10 := by
      unfold gext at hk
      split at hk <;> first | (cases hk; done) | decide
    rw [hs, ha k 0 hk10, show (fun j => Value.int (w1.2.2.1 k 0 j)) = fun j => Value.int (w.2.2.1 k 0 j) from funext fun j => by rw [(hi k 0 j hk10).1]]
    exact h1 k t len hk
  · have e1 : gcv ad' v = gcv ad v := by
      unfold gstat at he
      split at he <;> cases he
      · exact gcv_same fun r hr => by cases hr; exact ha _ _ (by decide)
      · rfl
    rw [e1]
    exact h2 e v he
  · have e1 : gcv ad' v = gcv ad v ∧ q < 10 := by
      unfold gexf at he
      split at he <;> cases he
      · exact ⟨gcv_same fun r hr => by cases hr; exact ha _ _ (by decide), by decide⟩
      · exact ⟨rfl, by decide⟩
    rw [e1.1, ha q 0 e1.2]
    exact h3 e q v he
  · rw [ha 2 0 (by decide)]; exact h4
  · rw [ha 2 0 (by decide)]; exact h5
  · rw [h9, gcv_same (ad' := ad') (ad := ad) fun r hr => ?_]
    · exact h7
    · have h10 := h8 r (by simpa using hr)
      exact ha r.1 r.2 h10
theorem gsz_same {w w1 : gW} (h : w1.1 = w.1) (h2 : w1.2.1 = w.2.1) : gsz w1 = gsz w := by
  unfold gsz
  rw [h, h2]
theorem gPut.fine {d y pc : Nat} {L : List (Option gV)} {st st1 : List gV} {w w1 w' : gW} {pc1 : Nat} {rv : Option gV} (h : gPut y pc L st w pc1 st1 w1) (k : gFine d y pc1 L st1 w1 rv w') : gFine d y pc L st w rv w' := by
  obtain ⟨h1, h2, h3, h4, h5⟩ := h
  obtain ⟨k1, k2, k0, k4, k3⟩ := k
  have hz := gsz_same h1 h2
  refine ⟨by omega, by omega, k0.trans h2, fun a b j ha => ⟨(k4 a b j ha).1.trans (h3 a b j ha).1, (k4 a b j ha).2.trans (h3 a b j ha).2⟩, fun Cx D dA A ad ls H locs cells slots Q hl hL hs hv hI hf hr hc hz1 kk => ?_⟩
  have hI0 := hI
  obtain ⟨hK, hP, hD, hE, hW, hS, hA⟩ := hI
  refine h5 Cx D dA A ad ls H locs cells slots Q hl hs hI0 (by omega) (by omega) hL fun H1 locs1 hP1 hD1 hS1 => ?_
  obtain ⟨hs1, hW1⟩ := h4 hW hs
  refine k3 Cx D dA A ad ls H1 locs1 cells slots Q hl hL (hs1.mono (by omega)) (hv.mono (by omega)) ⟨hK, hP1, hD1, hE.to h2 h3 (fun _ _ _ => rfl), hW1, hS1, hA⟩ hf hr (by omega) (by omega) fun ad' H' locs' pc' ls' ins ha hrv hI' hdd hret => ?_
  have := kk ad' H' locs' pc' ls' ins (fun r hr => ha r (hr.mono (by omega))) hrv hI' hdd hret
  rw [h1, hz]
  exact this
theorem gws_put {dA : Nat → ClassId} {ad : gNm → Nat} {w w1 : gW} {n : gNm} {k0 : Nat} (h1 : w1.1 = w.1) (h2 : w1.2.1 = w.2.1) (hn : gnmL[k0]? = some n) (hI : ∀ m : gNm, m ≠ n → ∀ j, w1.2.2.1 m.1 m.2 j = w.2.2.1 m.1 m.2 j) (hJ : ∀ m : gNm, m ≠ n → ∀ j, w1.2.2.2.1 m.1 m.2 j = w.2.2.2.1 m.1 m.2 j) (hR : ∀ m : gNm, m ≠ n → ∀ j, w1.2.2.2.2 m.1 m.2 j = w.2.2.2.2 m.1 m.2 j) : (gws dA ad w).set k0 (ad n, gcont dA ad w1 n) = gws dA ad w1 :=
  gws_set h1 hn fun m hm => gcont_same h2 (hI m hm) (hJ m hm) (hR m hm) (fun _ _ _ => rfl)
theorem gnm_out {k i : Nat} {n : gNm} {w : gW} (hk : k < 10) (hn : ∃ k0, k0 < w.1 ∧ gnmL[k0]? = some n) : (k, i) ≠ n := by
  obtain ⟨k0, -, h⟩ := hn
  have := gnm_ge n (List.mem_of_getElem? h)
  intro e
  rw [← e] at this
  exact absurd this (Nat.not_le.mpr hk)
theorem gkd_out {k i : Nat} {n : gNm} {z} (hk : k < 10) (h : gkd n.1 = some z) : (k, i) ≠ n := by
  intro e
  subst e
  have : ∀ a, a < 10 → gkdL.getD a none = none := by
    intro a ha
    have e : a = 0 ∨ a = 1 ∨ a = 2 ∨ a = 3 ∨ a = 4 ∨ a = 5 ∨ a = 6 ∨ a = 7 ∨ a = 8 ∨ a = 9 := by omega
    rcases e with rfl | rfl | rfl | rfl | rfl | rfl | rfl | rfl | rfl | rfl <;> rfl
  have h2 : gkdL.getD k none = some z := h
  rw [this k hk] at h2
  cases h2
theorem gfs_set {ad : gNm → Nat} {w w1 : gW} {n : gNm} {tys : List Nat} {k t : Nat} {v : gV} (ht : tys[k]? = some t) (h1 : gfv w1 n t k = v) (h2 : ∀ j t', j ≠ k → gfv w1 n t' j = gfv w n t' j) : (List.range tys.length).map (fun j => gcv ad (gfv w1 n (tys.getD j 0) j)) = ((List.range tys.length).map (fun j => gcv ad (gfv w n (tys.getD j 0) j))).set k (gcv ad v) := by
  apply List.ext_getElem?
  intro j
  have hk : k < tys.length := (List.getElem?_eq_some_iff.mp ht).1
  by_cases hj : j = k
  · subst hj
    rw [gfs_at ht, List.getElem?_set_self (by simp [hk]), h1]
  · rw [List.getElem?_set_ne (Ne.symm hj)]
    by_cases hl : j < tys.length
    · rw [List.getElem?_map, List.getElem?_map, List.getElem?_range hl]
      show some (gcv ad (gfv w1 n _ j)) = some (gcv ad (gfv w n _ j))
      rw [h2 j _ hj]
    · rw [List.getElem?_eq_none (by simp; omega), List.getElem?_eq_none (by simp; omega)]
theorem gtf0 {ty : FieldType} (h : gtf ty = 0) : ty = .int := by cases ty <;> first | rfl | cases h
theorem gtf1 {ty : FieldType} (h : gtf ty = 1) : ty = .long := by cases ty <;> first | rfl | cases h
theorem gtf3 {ty : FieldType} (h : gtf ty = 3) : ty = .boolean := by cases ty <;> first | rfl | cases h
theorem gtf2 {ty : FieldType} (h : gtf ty = 2) : (∃ s, ty = .object s) ∨ ∃ t, ty = .array t := by
  cases ty with
  | object s => exact Or.inl ⟨s, rfl⟩
  | array t => exact Or.inr ⟨t, rfl⟩
  | _ => cases h
/-- a store into a field: what the world is behind it, given that it is the old one but there -/
theorem gp_putf {y pc : Nat} {L : List (Option gV)} {rest : List gV} {w w1 : gW} {i ci k t : Nat} {tys : List Nat} {n : gNm} {v : gV} (hd : decode (gby y) pc = .ok (.putfield i, 3)) (hk : gkd n.1 = some (.inl (ci, tys))) (ht : tys[k]? = some t)
    (hlk : ∃ C T N ty, vwCl[ci]? = some (C, T, N) ∧ gCl ci C T N ty ∧ k < N ∧ Cond.fieldLink (gme y).cls i (T k).1 (T k).2.1 (T k).2.2.1 ∈ gWS ∧ ((T k).2.2.2 = false ∨ ((T k).2.2.2 = true ∧ (gme y).name = "<init>" ∧ (T k).1 = (gme y).cls)))
    (hty : ∀ (ad : gNm → Nat) (ty : FieldType), gtf ty = t → narrow ty (gcv ad v) = gcv ad v ∧ fits ty (gcv ad v) = true)
    (e1 : w1.1 = w.1) (e2 : w1.2.1 = w.2.1) (hI1 : ∀ m : gNm, m ≠ n → ∀ j, w1.2.2.1 m.1 m.2 j = w.2.2.1 m.1 m.2 j) (hJ1 : ∀ m : gNm, m ≠ n → ∀ j, w1.2.2.2.1 m.1 m.2 j = w.2.2.2.1 m.1 m.2 j) (hR1 : ∀ m : gNm, m ≠ n → ∀ j, w1.2.2.2.2 m.1 m.2 j = w.2.2.2.2 m.1 m.2 j)
    (hRv : ∀ j r, w1.2.2.2.2 n.1 n.2 j = some r → w.2.2.2.2 n.1 n.2 j = some r ∨ v = .inr (.inr (some r))) (h1 : gfv w1 n t k = v) (h2 : ∀ j t', j ≠ k → gfv w1 n t' j = gfv w n t' j) : gPut y pc L (v :: .inr (.inr (some n)) :: rest) w (pc + 3) rest w1 := by
  obtain ⟨C, T, N, ty, hc, ⟨hws, hpa, hnm0, htys⟩, hkN, hlink, hfin⟩ := hlk
  have htt : gtf (ty k) = t := by
    have := htys.1 n.1 tys hk
    rw [this, List.getElem?_map, List.getElem?_range hkN] at ht
    exact Option.some.inj ht
  refine ⟨e1, e2, fun a b j ha => ⟨hI1 (a, b) (gkd_out ha hk) j, hR1 (a, b) (gkd_out ha hk) j⟩, fun hwf hs => ⟨hs.tl.tl, fun k' m hk' hm j r hr => ?_⟩, ?_⟩
  · have hle : w.1 ≤ w1.1 := Nat.le_of_eq e1.symm
    by_cases hmn : m = n
    · subst hmn
      rcases hRv j r hr with h6 | h6
      · exact (hwf k' m (by omega) hm j r h6).mono hle
      · exact (hs.hd r h6).mono hle
    · exact (hwf k' m (by omega) hm j r (by rw [← hR1 m hmn j]; exact hr)).mono hle
  · intro p l e R s m args below meth c Cx D dA A ad ls H locs cells slots Q hl hs hI hf hrm hL k1
    obtain ⟨hx, hb, hml, hrt, hown, hts, hlk, hnm⟩ := Cx
    obtain ⟨hK, hP, hD, hE, hW, hS, hA⟩ := hI
    obtain ⟨k0, h0, h9⟩ := gcell hk (hs.tl.hd n rfl)
    have he := gws_at (dA := dA) (ad := ad) h0 h9
    rw [gcont_obj hk] at he
    have hgo : ∀ (H1 : Heap) (locs1 : List Loc), va_P D vwCl ((gws dA ad w).set k0 (ad n, .inr (ci, ((List.range tys.length).map (fun j => gcv ad (gfv w n (tys.getD j 0) j))).set k (gcv ad v)))) H1 → va_D A ((gws dA ad w).set k0 (ad n, .inr (ci, ((List.range tys.length).map (fun j => gcv ad (gfv w n (tys.getD j 0) j))).set k (gcv ad v)))) → va_S A s.heap H1 locs1 → W p l e R s m args below meth c H1 locs1 cells slots Q (F0 m (pc + 3) ls (rest.map (gcv ad))) := by
      intro H1 locs1 a1 a2 a3
      rw [← gfs_set (ad := ad) ht h1 h2, ← gcont_obj (dA := dA) hk, gws_put e1 e2 h9 hI1 hJ1 hR1] at a1 a2
      exact k1 H1 locs1 a1 a2 a3
    have hlen : k < ((List.range tys.length).map (fun j => gcv ad (gfv w n (tys.getD j 0) j))).length := by
      simp only [List.length_map, List.length_range]
      exact (List.getElem?_eq_some_iff.mp ht).1
    rcases hfin with hfin | ⟨hfin, hin, hdc⟩
    · exact va_put hx hb hts hws ty hpa hnm0 hown hK hP hD hS k0 he hc k hkN (hts _ hlink) (fun _ h => h) hfin (hpa k hkN) (hty ad (ty k) htt).1 (hty ad (ty k) htt).2 hlen hd hgo
    · exact va_putF hx hb hts hws ty hpa hnm0 hown hK hP hD hS k0 he hc k hkN (hts _ hlink) (fun _ h => h) hfin ((hnm hin).trans hin) hdc (hpa k hkN) (hty ad (ty k) htt).1 (hty ad (ty k) htt).2 hlen hd hgo
