/-! The small machine's steps on fields, rows, and what is made. -/
theorem gin_iff {i : Int32} {n : Nat} (h : gin i n = true) : vp_in i n := by
  unfold gin at h
  unfold vp_in
  simp only [Bool.not_eq_true', Bool.or_eq_false_iff, decide_eq_false_iff_not] at h
  exact fun e => e.elim h.1 h.2
theorem gcont_obj {dA : Nat → ClassId} {ad : gNm → Nat} {w : gW} {n : gNm} {ci : Nat} {tys : List Nat} (hk : gkd n.1 = some (.inl (ci, tys))) : gcont dA ad w n = .inr (ci, (List.range tys.length).map (fun j => gcv ad (gfv w n (tys.getD j 0) j))) := by
  unfold gcont
  rw [hk]
theorem gcont_int {dA : Nat → ClassId} {ad : gNm → Nat} {w : gW} {n : gNm} {t : Nat} {len : Nat → Nat → Nat} (hk : gkd n.1 = some (.inr (t, len))) (ht : t ≠ 1) : gcont dA ad w n = .inl (dA t, (len w.2.1 n.2, .inl (fun j => w.2.2.1 n.1 n.2 j))) := by
  unfold gcont
  rw [hk]
  show Sum.inl (dA t, (len w.2.1 n.2, _)) = _
  split
  · exact absurd rfl ht
  · rfl
theorem gcont_long {dA : Nat → ClassId} {ad : gNm → Nat} {w : gW} {n : gNm} {len : Nat → Nat → Nat} (hk : gkd n.1 = some (.inr (1, len))) : gcont dA ad w n = .inl (dA 1, (len w.2.1 n.2, .inr (.inl (fun j => w.2.2.2.1 n.1 n.2 j)))) := by
  unfold gcont
  rw [hk]
  rfl
theorem gfs_at {ad : gNm → Nat} {w : gW} {n : gNm} {tys : List Nat} {k t : Nat} (ht : tys[k]? = some t) : ((List.range tys.length).map (fun j => gcv ad (gfv w n (tys.getD j 0) j)))[k]? = some (gcv ad (gfv w n t k)) := by
  have hk : k < tys.length := (List.getElem?_eq_some_iff.mp ht).1
  rw [List.getElem?_map, List.getElem?_range hk]
  show some (gcv ad (gfv w n (tys.getD k 0) k)) = _
  rw [List.getD_eq_getElem?_getD, ht]
  rfl
theorem gcell {w : gW} {n : gNm} {z} (hk : gkd n.1 = some z) (h : gVal w n) : ∃ k, k < w.1 ∧ gnmL[k]? = some n := h.cell (by rw [hk]; exact fun e => by cases e)
theorem gp_getf {y pc : Nat} {L : List (Option gV)} {rest : List gV} {w : gW} {i ci k t : Nat} {tys : List Nat} {n : gNm} (hd : decode (gby y) pc = .ok (.getfield i, 3)) (hk : gkd n.1 = some (.inl (ci, tys))) (ht : tys[k]? = some t) (hlk : ∃ C T N ty, vwCl[ci]? = some (C, T, N) ∧ gCl ci C T N ty ∧ k < N ∧ Cond.fieldLink (gme y).cls i (T k).1 (T k).2.1 (T k).2.2.1 ∈ gWS) : gPure y pc L (.inr (.inr (some n)) :: rest) w (pc + 3) L (gfv w n t k :: rest) := by
  obtain ⟨C, T, N, ty, hc, ⟨hws, -, -, -⟩, hkN, hlink⟩ := hlk
  refine ⟨fun hwf hs hv => ⟨hs.tl.cons (fun r hr => ?_), hv⟩, rfl, fun Cx D dA A ad ls H locs cells slots Q hl hs hv hI hf hr hL k1 => ?_⟩
  · obtain ⟨k0, h0, h1⟩ := gcell hk (hs.hd n rfl)
    unfold gfv at hr
    split at hr
    · cases hr
    · simp only [Sum.inr.injEq] at hr
      exact hwf k0 n h0 h1 k r hr
    · cases hr
  · obtain ⟨hx, hb, hml, hrt, hown, hts, hlk, hnm⟩ := Cx
    obtain ⟨hK, hP, hD, hE, hW, hS, hA⟩ := hI
    obtain ⟨k0, h0, h1⟩ := gcell hk (hs.hd n rfl)
    have he := gws_at (dA := dA) (ad := ad) h0 h1
    rw [gcont_obj hk] at he
    exact va_get hx hb hts hws hown hK hP k0 he hc k hkN (hts _ hlink) (fun _ h => h) (gfs_at ht) hd (k1 ls hl)
theorem gp_getx {y pc : Nat} {L : List (Option gV)} {rest : List gV} {w : gW} {i e q : Nat} {v : gV} (hd : decode (gby y) pc = .ok (.getfield i, 3)) (he : gexf e = some (q, v)) (hlk : Cond.fieldLink (gme y).cls i (gexfN e).1 (gexfN e).2.1 (gexfN e).2.2 ∈ gWS) : gPure y pc L (.inr (.inr (some (q, 0))) :: rest) w (pc + 3) L (v :: rest) := by
  refine ⟨fun hwf hs hv => ⟨hs.tl.cons (fun r hr => ?_), hv⟩, rfl, fun Cx D dA A ad ls H locs cells slots Q hl hs hv hI hf hr hL k1 => ?_⟩
  · subst hr
    unfold gexf at he
    split at he <;> cases he
    exact Or.inl (by decide)
  · obtain ⟨hx, hb, hml, hrt, hown, hts, hlk, hnm⟩ := Cx
    obtain ⟨hK, hP, hD, hE, hW, hS, hA⟩ := hI
    exact vk_getf hx hb (hE.2.2.1 e q v he) hS hown (hts _ (by assumption)) (fun _ h => h) hd (k1 ls hl)
theorem gp_gets {y pc : Nat} {L : List (Option gV)} {rest : List gV} {w : gW} {i e : Nat} {v : gV} (hd : decode (gby y) pc = .ok (.getstatic i, 3)) (he : gstat e = some v) (hlk : Cond.fieldLink (gme y).cls i (gstatN e).1 (gstatN e).2.1 (gstatN e).2.2 ∈ gWS) : gPure y pc L rest w (pc + 3) L (v :: rest) := by
  refine ⟨fun hwf hs hv => ⟨hs.cons (fun r hr => ?_), hv⟩, rfl, fun Cx D dA A ad ls H locs cells slots Q hl hs hv hI hf hr hL k1 => ?_⟩
  · subst hr
    unfold gstat at he
    split at he <;> cases he <;> exact Or.inl (by decide)
  · obtain ⟨hx, hb, hml, hrt, hown, hts, hlk, hnm⟩ := Cx
    obtain ⟨hK, hP, hD, hE, hW, hS, hA⟩ := hI
    exact va_gets hx hb (hE.2.1 e v he) hS hown (hts _ (by assumption)) (fun _ h => h) hd (k1 ls hl)
theorem gp_getq {y pc : Nat} {L : List (Option gV)} {rest : List gV} {w : gW} {i : Nat} (hd : decode (gby y) pc = .ok (.getstatic i, 3)) (hlk : Cond.fieldLink (gme y).cls i "jdk/internal/util/Preconditions" "SIOOBE_FORMATTER" "Ljava/util/function/BiFunction;" ∈ gWS) (hq : ∀ r, w.2.2.2.2 4 0 0 = some r → r.1 < 10) : gPure y pc L rest w (pc + 3) L (.inr (.inr (w.2.2.2.2 4 0 0)) :: rest) := by
  refine ⟨fun hwf hs hv => ⟨hs.cons (fun r hr => Or.inl (hq r (by simpa using hr))), hv⟩, rfl, fun Cx D dA A ad ls H locs cells slots Q hl hs hv hI hf hr hL k1 => ?_⟩
  obtain ⟨hx, hb, hml, hrt, hown, hts, hlk, hnm⟩ := Cx
  obtain ⟨hK, hP, hD, hE, hW, hS, hA⟩ := hI
  exact va_gets hx hb hE.2.2.2.2.2.2.1 hS hown (hts _ (by assumption)) (fun _ h => h) hd (k1 ls hl)
theorem gp_ldcS {y pc : Nat} {L : List (Option gV)} {rest : List gV} {w : gW} (hd : decode (gby y) pc = .ok (.ldc 11, 2)) (hy : (gme y).cls = "PassedDark$Words") : gPure y pc L rest w (pc + 2) L (.inr (.inr (some (2, 0))) :: rest) := by
  refine ⟨fun hwf hs hv => ⟨hs.cons (fun r hr => by cases hr; exact Or.inl (by decide)), hv⟩, rfl, fun Cx D dA A ad ls H locs cells slots Q hl hs hv hI hf hr hL k1 => ?_⟩
  obtain ⟨hx, hb, hml, hrt, hown, hts, hlk, hnm⟩ := Cx
  obtain ⟨hK, hP, hD, hE, hW, hS, hA⟩ := hI
  obtain ⟨tx, hR⟩ := hE.2.2.2.2.1
  rw [← hy] at hR
  exact va_ldcS hx hb hown hR hd (k1 ls hl)
theorem gp_iald {y pc : Nat} {L : List (Option gV)} {rest : List gV} {w : gW} {i : Int32} {n : gNm} {len : Nat → Nat → Nat} (hd : decode (gby y) pc = .ok (.iaload, 1)) (hk : gkd n.1 = some (.inr (0, len))) (hi : gin i (len w.2.1 n.2) = true) : gPure y pc L (.inl i :: .inr (.inr (some n)) :: rest) w (pc + 1) L (.inl (w.2.2.1 n.1 n.2 i.toNatClampNeg) :: rest) := by
  refine ⟨fun hwf hs hv => ⟨hs.tl.tl.cons gVv.i, hv⟩, rfl, fun Cx D dA A ad ls H locs cells slots Q hl hs hv hI hf hr hL k1 => ?_⟩
  obtain ⟨hx, hb, hml, hrt, hown, hts, hlk, hnm⟩ := Cx
  obtain ⟨hK, hP, hD, hE, hW, hS, hA⟩ := hI
  obtain ⟨k0, h0, h1⟩ := gcell hk (hs.tl.hd n rfl)
  have he := gws_at (dA := dA) (ad := ad) h0 h1
  rw [gcont_int hk (by decide)] at he
  exact va_iald hx hb hK hP k0 0 he rfl (gin_iff hi) hd (k1 ls hl)
theorem gp_zald {y pc : Nat} {L : List (Option gV)} {rest : List gV} {w : gW} {i : Int32} {n : gNm} {len : Nat → Nat → Nat} (hd : decode (gby y) pc = .ok (.baload, 1)) (hk : gkd n.1 = some (.inr (3, len))) (hi : gin i (len w.2.1 n.2) = true) : gPure y pc L (.inl i :: .inr (.inr (some n)) :: rest) w (pc + 1) L (.inl (w.2.2.1 n.1 n.2 i.toNatClampNeg) :: rest) := by
  refine ⟨fun hwf hs hv => ⟨hs.tl.tl.cons gVv.i, hv⟩, rfl, fun Cx D dA A ad ls H locs cells slots Q hl hs hv hI hf hr hL k1 => ?_⟩
  obtain ⟨hx, hb, hml, hrt, hown, hts, hlk, hnm⟩ := Cx
  obtain ⟨hK, hP, hD, hE, hW, hS, hA⟩ := hI
  obtain ⟨k0, h0, h1⟩ := gcell hk (hs.tl.hd n rfl)
  have he := gws_at (dA := dA) (ad := ad) h0 h1
  rw [gcont_int hk (by decide)] at he
  exact va_zald hx hb hK hP k0 2 he rfl (gin_iff hi) hd (k1 ls hl)
theorem gp_bald {y pc : Nat} {L : List (Option gV)} {rest : List gV} {w : gW} {i : Int32} {n : gNm} {len : Nat → Nat → Nat} (hd : decode (gby y) pc = .ok (.baload, 1)) (hk : gkd n.1 = some (.inr (5, len))) (hi : gin i (len w.2.1 n.2) = true) : gPure y pc L (.inl i :: .inr (.inr (some n)) :: rest) w (pc + 1) L (.inl (w.2.2.1 n.1 n.2 i.toNatClampNeg) :: rest) := by
  refine ⟨fun hwf hs hv => ⟨hs.tl.tl.cons gVv.i, hv⟩, rfl, fun Cx D dA A ad ls H locs cells slots Q hl hs hv hI hf hr hL k1 => ?_⟩
  obtain ⟨hx, hb, hml, hrt, hown, hts, hlk, hnm⟩ := Cx
  obtain ⟨hK, hP, hD, hE, hW, hS, hA⟩ := hI
  obtain ⟨k0, h0, h1⟩ := gcell hk (hs.tl.hd n rfl)
  have he := gws_at (dA := dA) (ad := ad) h0 h1
  rw [gcont_int hk (by decide)] at he
  exact va_bald hx hb hK hP k0 4 he rfl (gin_iff hi) hd (k1 ls hl)
theorem gp_cald {y pc : Nat} {L : List (Option gV)} {rest : List gV} {w : gW} {i : Int32} {n : gNm} {len : Nat → Nat → Nat} (hd : decode (gby y) pc = .ok (.caload, 1)) (hk : gkd n.1 = some (.inr (4, len))) (hi : gin i (len w.2.1 n.2) = true) : gPure y pc L (.inl i :: .inr (.inr (some n)) :: rest) w (pc + 1) L (.inl (w.2.2.1 n.1 n.2 i.toNatClampNeg) :: rest) := by
  refine ⟨fun hwf hs hv => ⟨hs.tl.tl.cons gVv.i, hv⟩, rfl, fun Cx D dA A ad ls H locs cells slots Q hl hs hv hI hf hr hL k1 => ?_⟩
  obtain ⟨hx, hb, hml, hrt, hown, hts, hlk, hnm⟩ := Cx
  obtain ⟨hK, hP, hD, hE, hW, hS, hA⟩ := hI
  obtain ⟨k0, h0, h1⟩ := gcell hk (hs.tl.hd n rfl)
  have he := gws_at (dA := dA) (ad := ad) h0 h1
  rw [gcont_int hk (by decide)] at he
  exact va_cald hx hb hK hP k0 3 he rfl (gin_iff hi) hd (k1 ls hl)
theorem gp_lald {y pc : Nat} {L : List (Option gV)} {rest : List gV} {w : gW} {i : Int32} {n : gNm} {len : Nat → Nat → Nat} (hd : decode (gby y) pc = .ok (.laload, 1)) (hk : gkd n.1 = some (.inr (1, len))) (hi : gin i (len w.2.1 n.2) = true) : gPure y pc L (.inl i :: .inr (.inr (some n)) :: rest) w (pc + 1) L (.inr (.inl (w.2.2.2.1 n.1 n.2 i.toNatClampNeg)) :: rest) := by
  refine ⟨fun hwf hs hv => ⟨hs.tl.tl.cons gVv.l, hv⟩, rfl, fun Cx D dA A ad ls H locs cells slots Q hl hs hv hI hf hr hL k1 => ?_⟩
  obtain ⟨hx, hb, hml, hrt, hown, hts, hlk, hnm⟩ := Cx
  obtain ⟨hK, hP, hD, hE, hW, hS, hA⟩ := hI
  obtain ⟨k0, h0, h1⟩ := gcell hk (hs.tl.hd n rfl)
  have he := gws_at (dA := dA) (ad := ad) h0 h1
  rw [gcont_long hk] at he
  exact va_lald hx hb hK hP k0 1 he rfl (gin_iff hi) hd (k1 ls hl)
theorem gp_ialx {y pc : Nat} {L : List (Option gV)} {rest : List gV} {w : gW} {i : Int32} {a : Nat} {len : Nat → Nat → Nat} (hd : decode (gby y) pc = .ok (.iaload, 1)) (hk : gext a = some (.inr (0, len))) (hi : gin i (len w.2.1 0) = true) : gPure y pc L (.inl i :: .inr (.inr (some (a, 0))) :: rest) w (pc + 1) L (.inl (w.2.2.1 a 0 i.toNatClampNeg) :: rest) := by
  refine ⟨fun hwf hs hv => ⟨hs.tl.tl.cons gVv.i, hv⟩, rfl, fun Cx D dA A ad ls H locs cells slots Q hl hs hv hI hf hr hL k1 => ?_⟩
  obtain ⟨hx, hb, hml, hrt, hown, hts, hlk, hnm⟩ := Cx
  obtain ⟨hK, hP, hD, hE, hW, hS, hA⟩ := hI
  exact va_ti hx hb (hE.1 a _ _ hk) hS (gin_iff hi) rfl hd (k1 ls hl)
theorem gp_balx {y pc : Nat} {L : List (Option gV)} {rest : List gV} {w : gW} {i : Int32} {a : Nat} {len : Nat → Nat → Nat} (hd : decode (gby y) pc = .ok (.baload, 1)) (hk : gext a = some (.inr (5, len))) (hi : gin i (len w.2.1 0) = true) : gPure y pc L (.inl i :: .inr (.inr (some (a, 0))) :: rest) w (pc + 1) L (.inl (w.2.2.1 a 0 i.toNatClampNeg) :: rest) := by
  refine ⟨fun hwf hs hv => ⟨hs.tl.tl.cons gVv.i, hv⟩, rfl, fun Cx D dA A ad ls H locs cells slots Q hl hs hv hI hf hr hL k1 => ?_⟩
  obtain ⟨hx, hb, hml, hrt, hown, hts, hlk, hnm⟩ := Cx
  obtain ⟨hK, hP, hD, hE, hW, hS, hA⟩ := hI
  exact va_tb hx hb (hE.1 a _ _ hk) hS (gin_iff hi) rfl hd (k1 ls hl)
theorem gp_alen {y pc : Nat} {L : List (Option gV)} {rest : List gV} {w : gW} {n : gNm} {t : Nat} {len : Nat → Nat → Nat} (hd : decode (gby y) pc = .ok (.arraylength, 1)) (hk : gkd n.1 = some (.inr (t, len))) (ht : t = 0 ∨ t = 1 ∨ t = 3 ∨ t = 4 ∨ t = 5) : gPure y pc L (.inr (.inr (some n)) :: rest) w (pc + 1) L (.inl (Int32.ofNat (len w.2.1 n.2)) :: rest) := by
  refine ⟨fun hwf hs hv => ⟨hs.tl.cons gVv.i, hv⟩, rfl, fun Cx D dA A ad ls H locs cells slots Q hl hs hv hI hf hr hL k1 => ?_⟩
  obtain ⟨hx, hb, hml, hrt, hown, hts, hlk, hnm⟩ := Cx
  obtain ⟨hK, hP, hD, hE, hW, hS, hA⟩ := hI
  obtain ⟨k0, h0, h1⟩ := gcell hk (hs.hd n rfl)
  have he := gws_at (dA := dA) (ad := ad) h0 h1
  rcases ht with rfl | rfl | rfl | rfl | rfl
  · rw [gcont_int hk (by decide)] at he
    exact va_alen hx hb hK hP k0 0 he rfl rfl hd (k1 ls hl)
  · rw [gcont_long hk] at he
    exact va_alen hx hb hK hP k0 1 he rfl rfl hd (k1 ls hl)
  · rw [gcont_int hk (by decide)] at he
    exact va_alen hx hb hK hP k0 2 he rfl rfl hd (k1 ls hl)
  · rw [gcont_int hk (by decide)] at he
    exact va_alen hx hb hK hP k0 3 he rfl rfl hd (k1 ls hl)
  · rw [gcont_int hk (by decide)] at he
    exact va_alen hx hb hK hP k0 4 he rfl rfl hd (k1 ls hl)
theorem gp_alex {y pc : Nat} {L : List (Option gV)} {rest : List gV} {w : gW} {a t : Nat} {len : Nat → Nat → Nat} (hd : decode (gby y) pc = .ok (.arraylength, 1)) (hk : gext a = some (.inr (t, len))) : gPure y pc L (.inr (.inr (some (a, 0))) :: rest) w (pc + 1) L (.inl (Int32.ofNat (len w.2.1 0)) :: rest) := by
  refine ⟨fun hwf hs hv => ⟨hs.tl.cons gVv.i, hv⟩, rfl, fun Cx D dA A ad ls H locs cells slots Q hl hs hv hI hf hr hL k1 => ?_⟩
  obtain ⟨hx, hb, hml, hrt, hown, hts, hlk, hnm⟩ := Cx
  obtain ⟨hK, hP, hD, hE, hW, hS, hA⟩ := hI
  exact va_tlen hx hb (hE.1 a _ _ hk) hS rfl hd (k1 ls hl)
theorem gp_objInit {y pc : Nat} {L : List (Option gV)} {rest : List gV} {w : gW} {i : Nat} {n : gNm} (hd : decode (gby y) pc = .ok (.invokespecial i, 3)) (h1 : Cond.methodLink (gme y).cls i objectInit ∈ gWS) (h2 : Cond.instanceMethod objectInit ∈ gWS) (h3 : Cond.code objectInit ⟨#[0xb1]⟩ 1 none ∈ gWS) (hsz : (rest.map gcat).sum ≤ 8) : gPure y pc L (.inr (.inr (some n)) :: rest) w (pc + 3) L rest := by
  refine ⟨fun hwf hs hv => ⟨hs.tl, hv⟩, rfl, fun Cx D dA A ad ls H locs cells slots Q hl hs hv hI hf hr hL k1 => ?_⟩
  obtain ⟨hx, hb, hml, hrt, hown, hts, hlk, hnm⟩ := Cx
  have hm : ((rest.map (gcv ad)).map fun v => v.category).sum ≤ 8 := by
    rw [List.map_map]
    rw [show (rest.map ((fun v : Value => v.category) ∘ gcv ad)) = rest.map gcat from List.map_congr_left fun v _ => gcv_cat ad v]
    exact hsz
  have hm2 := lv_room (m := default) (pc := 0) (ls := #[]) (rest := []) hm
  refine W.objInit hx hb hown (hts _ h1) (hts _ h2) (hts _ h3) rfl (hl.1.trans (hL.trans hml.symm)) rfl hd hf (Nat.le_trans (Nat.add_le_add_right hm2 12) (by omega)) ?_
  exact k1 ls hl

