/-! The small machine's writes, one by one; what is made. -/
theorem gup_at {α : Type} {f : Nat → Nat → Nat → α} {n : gNm} {k : Nat} {x : α} : gup f n.1 n.2 k x n.1 n.2 k = x := by
  rw [gup_eq, if_pos rfl]
theorem gup_off {α : Type} {f : Nat → Nat → Nat → α} {n : gNm} {k j : Nat} {x : α} (h : j ≠ k) : gup f n.1 n.2 k x n.1 n.2 j = f n.1 n.2 j := by
  rw [gup_eq, if_neg h]
/-- the step of a field's store -/
theorem gp_pf {β : Type} {y pc : Nat} {L : List (Option gV)} {rest : List gV} {w : gW} {i ci k t : Nat} {tys : List Nat} {n : gNm} {v : gV} {K : gW → Option β} {r0 : β} (hd : decode (gby y) pc = .ok (.putfield i, 3)) (hk : gkd n.1 = some (.inl (ci, tys))) (ht : tys[k]? = some t)
    (hlk : ∃ C T N ty, vwCl[ci]? = some (C, T, N) ∧ gCl ci C T N ty ∧ k < N ∧ Cond.fieldLink (gme y).cls i (T k).1 (T k).2.1 (T k).2.2.1 ∈ gWS ∧ ((T k).2.2.2 = false ∨ ((T k).2.2.2 = true ∧ (gme y).name = "<init>" ∧ (T k).1 = (gme y).cls)))
    (h : gpf t k n v w K = some r0) : ∃ w1, K w1 = some r0 ∧ gPut y pc L (v :: .inr (.inr (some n)) :: rest) w (pc + 3) rest w1 := by
  unfold gpf at h
  have hI0 : ∀ x : Int32, (∀ (ad : gNm → Nat) (ty : FieldType), gtf ty = t → narrow ty (gcv ad (.inl x)) = gcv ad (.inl x) ∧ fits ty (gcv ad (.inl x)) = true) → t ≠ 1 → t ≠ 2 → gPut y pc L (.inl x :: .inr (.inr (some n)) :: rest) w (pc + 3) rest (w.1, w.2.1, gup w.2.2.1 n.1 n.2 k x, w.2.2.2.1, w.2.2.2.2) := fun x hty h1 h2 =>
    gp_putf (w1 := (w.1, w.2.1, gup w.2.2.1 n.1 n.2 k x, w.2.2.2.1, w.2.2.2.2)) hd hk ht hlk hty rfl rfl (fun m hm j => gup_ne hm j) (fun _ _ _ => rfl) (fun _ _ _ => rfl) (fun j r hr => Or.inl hr) (by
      unfold gfv
      split
      · exact absurd rfl h1
      · exact absurd rfl h2
      · exact congrArg Sum.inl gup_at) (fun j t' hj => by
      unfold gfv
      split
      · rfl
      · rfl
      · exact congrArg Sum.inl (gup_off hj))
  rcases v with x | x | r
  · dsimp only at h
    split at h
    · exact ⟨_, h, hI0 x (fun ad ty e => by rw [gtf0 e]; exact ⟨rfl, rfl⟩) (by decide) (by decide)⟩
    · split at h
      · rename_i hx
        refine ⟨_, h, hI0 x (fun ad ty e => ?_) (by decide) (by decide)⟩
        rw [gtf3 e]
        rcases hx with rfl | rfl <;> exact ⟨rfl, rfl⟩
      · cases h
    · cases h
  · dsimp only at h
    split at h
    · refine ⟨_, h, gp_putf (w1 := (w.1, w.2.1, w.2.2.1, gup w.2.2.2.1 n.1 n.2 k x, w.2.2.2.2)) hd hk ht hlk (fun ad ty e => by rw [gtf1 e]; exact ⟨rfl, rfl⟩) rfl rfl (fun _ _ _ => rfl) (fun m hm j => gup_ne hm j) (fun _ _ _ => rfl) (fun j r hr => Or.inl hr) ?_ (fun j t' hj => ?_)⟩
      · exact congrArg (fun z : Int64 => (Sum.inr (Sum.inl z) : gV)) gup_at
      · unfold gfv
        split
        · exact congrArg (fun z : Int64 => (Sum.inr (Sum.inl z) : gV)) (gup_off hj)
        · rfl
        · rfl
    · cases h
  · dsimp only at h
    split at h
    · refine ⟨_, h, gp_putf (w1 := (w.1, w.2.1, w.2.2.1, w.2.2.2.1, gup w.2.2.2.2 n.1 n.2 k r)) hd hk ht hlk (fun ad ty e => ?_) rfl rfl (fun _ _ _ => rfl) (fun _ _ _ => rfl) (fun m hm j => gup_ne hm j) (fun j r1 hr => ?_) ?_ (fun j t' hj => ?_)⟩
      · rcases gtf2 e with ⟨s, rfl⟩ | ⟨s, rfl⟩ <;> cases r <;> exact ⟨rfl, rfl⟩
      · have hr : gup w.2.2.2.2 n.1 n.2 k r n.1 n.2 j = some r1 := hr
        by_cases hj : j = k
        · subst hj
          rw [gup_at] at hr
          exact Or.inr (by rw [hr])
        · rw [gup_off hj] at hr
          exact Or.inl hr
      · exact congrArg (fun z : Option gNm => (Sum.inr (Sum.inr z) : gV)) gup_at
      · unfold gfv
        split
        · rfl
        · exact congrArg (fun z : Option gNm => (Sum.inr (Sum.inr z) : gV)) (gup_off hj)
        · rfl
    · cases h
theorem gupd_fn {f : Nat → Nat → Nat → Int32} {n : gNm} {k : Nat} {x : Int32} : upd (fun j => f n.1 n.2 j) k x = fun j => gup f n.1 n.2 k x n.1 n.2 j := by
  funext j
  rw [gup_eq]
  rfl
theorem gupdL_fn {f : Nat → Nat → Nat → Int64} {n : gNm} {k : Nat} {x : Int64} : vp_updL (fun j => f n.1 n.2 j) k x = fun j => gup f n.1 n.2 k x n.1 n.2 j := by
  funext j
  rw [gup_eq]
  rfl
theorem gWF.int {w w1 : gW} (h : gWF w) (h1 : w1.1 = w.1) (h2 : w1.2.2.2.2 = w.2.2.2.2) : gWF w1 := fun k n hk hn j r hr => (h k n (by omega) hn j r (by rw [← h2]; exact hr)).mono (Nat.le_of_eq h1.symm)
theorem gp_iast {y pc : Nat} {L : List (Option gV)} {rest : List gV} {w : gW} {i x : Int32} {n : gNm} {len : Nat → Nat → Nat} (hd : decode (gby y) pc = .ok (.iastore, 1)) (hk : gkd n.1 = some (.inr (0, len))) (hi : gin i (len w.2.1 n.2) = true) : gPut y pc L (.inl x :: .inl i :: .inr (.inr (some n)) :: rest) w (pc + 1) rest (w.1, w.2.1, gup w.2.2.1 n.1 n.2 i.toNatClampNeg (gnar 0 x), w.2.2.2.1, w.2.2.2.2) := by
  refine ⟨rfl, rfl, fun a b j ha => ⟨gup_ne (m := (a, b)) (gkd_out ha hk) j, rfl⟩, fun hwf hs => ⟨hs.tl.tl.tl, hwf.int rfl rfl⟩, ?_⟩
  intro p l e R s m args below meth c Cx D dA A ad ls H locs cells slots Q hl hs hI hf hrm hL k1
  obtain ⟨hx, hb, hml, hrt, hown, hts, hlk, hnm⟩ := Cx
  obtain ⟨hK, hP, hD, hE, hW, hS, hA⟩ := hI
  obtain ⟨k0, h0, h9⟩ := gcell hk (hs.tl.tl.hd n rfl)
  have he := gws_at (dA := dA) (ad := ad) h0 h9
  rw [gcont_int hk (by decide)] at he
  refine va_iast hx hb hK hP hD hS k0 0 he rfl (gin_iff hi) hd fun H1 locs1 a1 a2 a3 => ?_
  rw [gupd_fn] at a1 a2
  have hc := gcont_int (dA := dA) (ad := ad) (w := (w.1, w.2.1, gup w.2.2.1 n.1 n.2 i.toNatClampNeg (gnar 0 x), w.2.2.2.1, w.2.2.2.2)) hk (by decide)
  have hg := gws_put (dA := dA) (ad := ad) (w := w) (w1 := (w.1, w.2.1, gup w.2.2.1 n.1 n.2 i.toNatClampNeg (gnar 0 x), w.2.2.2.1, w.2.2.2.2)) rfl rfl h9 (fun m hm j => gup_ne hm j) (fun _ _ _ => rfl) (fun _ _ _ => rfl)
  rw [hc] at hg
  exact k1 H1 locs1 (hg ▸ a1) (hg ▸ a2) a3
theorem gp_zast {y pc : Nat} {L : List (Option gV)} {rest : List gV} {w : gW} {i x : Int32} {n : gNm} {len : Nat → Nat → Nat} (hd : decode (gby y) pc = .ok (.bastore, 1)) (hk : gkd n.1 = some (.inr (3, len))) (hi : gin i (len w.2.1 n.2) = true) : gPut y pc L (.inl x :: .inl i :: .inr (.inr (some n)) :: rest) w (pc + 1) rest (w.1, w.2.1, gup w.2.2.1 n.1 n.2 i.toNatClampNeg (gnar 3 x), w.2.2.2.1, w.2.2.2.2) := by
  refine ⟨rfl, rfl, fun a b j ha => ⟨gup_ne (m := (a, b)) (gkd_out ha hk) j, rfl⟩, fun hwf hs => ⟨hs.tl.tl.tl, hwf.int rfl rfl⟩, ?_⟩
  intro p l e R s m args below meth c Cx D dA A ad ls H locs cells slots Q hl hs hI hf hrm hL k1
  obtain ⟨hx, hb, hml, hrt, hown, hts, hlk, hnm⟩ := Cx
  obtain ⟨hK, hP, hD, hE, hW, hS, hA⟩ := hI
  obtain ⟨k0, h0, h9⟩ := gcell hk (hs.tl.tl.hd n rfl)
  have he := gws_at (dA := dA) (ad := ad) h0 h9
  rw [gcont_int hk (by decide)] at he
  refine va_zast hx hb hK hP hD hS k0 2 he rfl (gin_iff hi) hd fun H1 locs1 a1 a2 a3 => ?_
  rw [gupd_fn] at a1 a2
  have hc := gcont_int (dA := dA) (ad := ad) (w := (w.1, w.2.1, gup w.2.2.1 n.1 n.2 i.toNatClampNeg (gnar 3 x), w.2.2.2.1, w.2.2.2.2)) hk (by decide)
  have hg := gws_put (dA := dA) (ad := ad) (w := w) (w1 := (w.1, w.2.1, gup w.2.2.1 n.1 n.2 i.toNatClampNeg (gnar 3 x), w.2.2.2.1, w.2.2.2.2)) rfl rfl h9 (fun m hm j => gup_ne hm j) (fun _ _ _ => rfl) (fun _ _ _ => rfl)
  rw [hc] at hg
  exact k1 H1 locs1 (hg ▸ a1) (hg ▸ a2) a3
theorem gp_bast {y pc : Nat} {L : List (Option gV)} {rest : List gV} {w : gW} {i x : Int32} {n : gNm} {len : Nat → Nat → Nat} (hd : decode (gby y) pc = .ok (.bastore, 1)) (hk : gkd n.1 = some (.inr (5, len))) (hi : gin i (len w.2.1 n.2) = true) : gPut y pc L (.inl x :: .inl i :: .inr (.inr (some n)) :: rest) w (pc + 1) rest (w.1, w.2.1, gup w.2.2.1 n.1 n.2 i.toNatClampNeg (gnar 5 x), w.2.2.2.1, w.2.2.2.2) := by
  refine ⟨rfl, rfl, fun a b j ha => ⟨gup_ne (m := (a, b)) (gkd_out ha hk) j, rfl⟩, fun hwf hs => ⟨hs.tl.tl.tl, hwf.int rfl rfl⟩, ?_⟩
  intro p l e R s m args below meth c Cx D dA A ad ls H locs cells slots Q hl hs hI hf hrm hL k1
  obtain ⟨hx, hb, hml, hrt, hown, hts, hlk, hnm⟩ := Cx
  obtain ⟨hK, hP, hD, hE, hW, hS, hA⟩ := hI
  obtain ⟨k0, h0, h9⟩ := gcell hk (hs.tl.tl.hd n rfl)
  have he := gws_at (dA := dA) (ad := ad) h0 h9
  rw [gcont_int hk (by decide)] at he
  refine va_bast hx hb hK hP hD hS k0 4 he rfl (gin_iff hi) hd fun H1 locs1 a1 a2 a3 => ?_
  rw [gupd_fn] at a1 a2
  have hc := gcont_int (dA := dA) (ad := ad) (w := (w.1, w.2.1, gup w.2.2.1 n.1 n.2 i.toNatClampNeg (gnar 5 x), w.2.2.2.1, w.2.2.2.2)) hk (by decide)
  have hg := gws_put (dA := dA) (ad := ad) (w := w) (w1 := (w.1, w.2.1, gup w.2.2.1 n.1 n.2 i.toNatClampNeg (gnar 5 x), w.2.2.2.1, w.2.2.2.2)) rfl rfl h9 (fun m hm j => gup_ne hm j) (fun _ _ _ => rfl) (fun _ _ _ => rfl)
  rw [hc] at hg
  exact k1 H1 locs1 (hg ▸ a1) (hg ▸ a2) a3
theorem gp_cast {y pc : Nat} {L : List (Option gV)} {rest : List gV} {w : gW} {i x : Int32} {n : gNm} {len : Nat → Nat → Nat} (hd : decode (gby y) pc = .ok (.castore, 1)) (hk : gkd n.1 = some (.inr (4, len))) (hi : gin i (len w.2.1 n.2) = true) : gPut y pc L (.inl x :: .inl i :: .inr (.inr (some n)) :: rest) w (pc + 1) rest (w.1, w.2.1, gup w.2.2.1 n.1 n.2 i.toNatClampNeg (gnar 4 x), w.2.2.2.1, w.2.2.2.2) := by
  refine ⟨rfl, rfl, fun a b j ha => ⟨gup_ne (m := (a, b)) (gkd_out ha hk) j, rfl⟩, fun hwf hs => ⟨hs.tl.tl.tl, hwf.int rfl rfl⟩, ?_⟩
  intro p l e R s m args below meth c Cx D dA A ad ls H locs cells slots Q hl hs hI hf hrm hL k1
  obtain ⟨hx, hb, hml, hrt, hown, hts, hlk, hnm⟩ := Cx
  obtain ⟨hK, hP, hD, hE, hW, hS, hA⟩ := hI
  obtain ⟨k0, h0, h9⟩ := gcell hk (hs.tl.tl.hd n rfl)
  have he := gws_at (dA := dA) (ad := ad) h0 h9
  rw [gcont_int hk (by decide)] at he
  refine va_cast hx hb hK hP hD hS k0 3 he rfl (gin_iff hi) hd fun H1 locs1 a1 a2 a3 => ?_
  rw [gupd_fn] at a1 a2
  have hc := gcont_int (dA := dA) (ad := ad) (w := (w.1, w.2.1, gup w.2.2.1 n.1 n.2 i.toNatClampNeg (gnar 4 x), w.2.2.2.1, w.2.2.2.2)) hk (by decide)
  have hg := gws_put (dA := dA) (ad := ad) (w := w) (w1 := (w.1, w.2.1, gup w.2.2.1 n.1 n.2 i.toNatClampNeg (gnar 4 x), w.2.2.2.1, w.2.2.2.2)) rfl rfl h9 (fun m hm j => gup_ne hm j) (fun _ _ _ => rfl) (fun _ _ _ => rfl)
  rw [hc] at hg
  exact k1 H1 locs1 (hg ▸ a1) (hg ▸ a2) a3
theorem gp_last {y pc : Nat} {L : List (Option gV)} {rest : List gV} {w : gW} {i : Int32} {x : Int64} {n : gNm} {len : Nat → Nat → Nat} (hd : decode (gby y) pc = .ok (.lastore, 1)) (hk : gkd n.1 = some (.inr (1, len))) (hi : gin i (len w.2.1 n.2) = true) : gPut y pc L (.inr (.inl x) :: .inl i :: .inr (.inr (some n)) :: rest) w (pc + 1) rest (w.1, w.2.1, w.2.2.1, gup w.2.2.2.1 n.1 n.2 i.toNatClampNeg x, w.2.2.2.2) := by
  refine ⟨rfl, rfl, fun a b j ha => ⟨rfl, rfl⟩, fun hwf hs => ⟨hs.tl.tl.tl, hwf.int rfl rfl⟩, ?_⟩
  intro p l e R s m args below meth c Cx D dA A ad ls H locs cells slots Q hl hs hI hf hrm hL k1
  obtain ⟨hx, hb, hml, hrt, hown, hts, hlk, hnm⟩ := Cx
  obtain ⟨hK, hP, hD, hE, hW, hS, hA⟩ := hI
  obtain ⟨k0, h0, h9⟩ := gcell hk (hs.tl.tl.hd n rfl)
  have he := gws_at (dA := dA) (ad := ad) h0 h9
  rw [gcont_long hk] at he
  refine va_last hx hb hK hP hD hS k0 1 he rfl (gin_iff hi) hd fun H1 locs1 a1 a2 a3 => ?_
  rw [gupdL_fn] at a1 a2
  have hc := gcont_long (dA := dA) (ad := ad) (w := (w.1, w.2.1, w.2.2.1, gup w.2.2.2.1 n.1 n.2 i.toNatClampNeg x, w.2.2.2.2)) hk
  have hg := gws_put (dA := dA) (ad := ad) (w := w) (w1 := (w.1, w.2.1, w.2.2.1, gup w.2.2.2.1 n.1 n.2 i.toNatClampNeg x, w.2.2.2.2)) rfl rfl h9 (fun _ _ _ => rfl) (fun m hm j => gup_ne hm j) (fun _ _ _ => rfl)
  rw [hc] at hg
  exact k1 H1 locs1 (hg ▸ a1) (hg ▸ a2) a3
theorem gp_copy {y pc i0 : Nat} {L : List (Option gV)} {rest : List gV} {w : gW} {i j k : Int32} {n b : gNm} {l1 l2 : Nat → Nat → Nat} (hd : decode (gby y) pc = .ok (.invokestatic i0, 3)) (hk1 : gkd n.1 = some (.inr (0, l1))) (hk2 : gkd b.1 = some (.inr (0, l2)))
    (hlk : Cond.methodLink (gme y).cls i0 arraycopyName ∈ gWS ∧ Cond.native arraycopyName ∈ gWS ∧ Cond.static arraycopyName ∈ gWS ∧ Cond.initialized "java/lang/System" ∈ gWS)
    (h : ¬ i < 0 ∧ ¬ j < 0 ∧ ¬ k < 0 ∧ i.toNatClampNeg + k.toNatClampNeg ≤ l1 w.2.1 n.2 ∧ j.toNatClampNeg + k.toNatClampNeg ≤ l2 w.2.1 b.2 ∧ (rest.map gcat).sum ≤ 8) : gPut y pc L (.inl k :: .inl j :: .inr (.inr (some b)) :: .inl i :: .inr (.inr (some n)) :: rest) w (pc + 3) rest (w.1, w.2.1, gupR w.2.2.1 b.1 b.2 (va_cpy (w.2.2.1 n.1 n.2) (w.2.2.1 b.1 b.2) i.toNatClampNeg j.toNatClampNeg k.toNatClampNeg), w.2.2.2.1, w.2.2.2.2) := by
  obtain ⟨g1, g2, g3, g4, g5, g6⟩ := h
  refine ⟨rfl, rfl, fun a c j ha => ⟨gupR_ne (m := (a, c)) (gkd_out ha hk2) j, rfl⟩, fun hwf hs => ⟨hs.tl.tl.tl.tl.tl, hwf.int rfl rfl⟩, ?_⟩
  intro p l e R s m args below meth c Cx D dA A ad ls H locs cells slots Q hl hs hI hf hrm hL k9
  obtain ⟨hx, hb, hml, hrt, hown, hts, hlk1, hnm⟩ := Cx
  obtain ⟨hK, hP, hD, hE, hW, hS, hA⟩ := hI
  obtain ⟨k0, h0, h9⟩ := gcell hk2 (hs.tl.tl.hd b rfl)
  obtain ⟨k1, h1, h8⟩ := gcell hk1 (hs.tl.tl.tl.tl.hd n rfl)
  have he := gws_at (dA := dA) (ad := ad) h0 h9
  have he1 := gws_at (dA := dA) (ad := ad) h1 h8
  rw [gcont_int hk2 (by decide)] at he
  rw [gcont_int hk1 (by decide)] at he1
  have hm : ((rest.map (gcv ad)).map fun v => v.category).sum ≤ 8 := by
    rw [List.map_map]
    rw [show (rest.map ((fun v : Value => v.category) ∘ gcv ad)) = rest.map gcat from List.map_congr_left fun v _ => gcv_cat ad v]
    exact g6
  have hnat : nativeFrameWords "java/lang/System" "arraycopy" 5 + 11 ≤ 90 := by decide +kernel
  refine va_copyi hx hb (hml.trans (hL.symm.trans hl.1.symm)) hown (hts _ hlk.1) (hts _ hlk.2.1) (hts _ hlk.2.2.1) (hts _ hlk.2.2.2) hK hP hD hS k1 k0 0 0 he1 he rfl rfl rfl g1 g2 g3 g4 g5 (fun _ _ => rfl) hf (by omega) hd fun H1 locs1 a1 a2 a3 => ?_
  have hc := gcont_int (dA := dA) (ad := ad) (w := (w.1, w.2.1, gupR w.2.2.1 b.1 b.2 (va_cpy (w.2.2.1 n.1 n.2) (w.2.2.1 b.1 b.2) i.toNatClampNeg j.toNatClampNeg k.toNatClampNeg), w.2.2.2.1, w.2.2.2.2)) hk2 (by decide)
  have hg := gws_put (dA := dA) (ad := ad) (w := w) (w1 := (w.1, w.2.1, gupR w.2.2.1 b.1 b.2 (va_cpy (w.2.2.1 n.1 n.2) (w.2.2.1 b.1 b.2) i.toNatClampNeg j.toNatClampNeg k.toNatClampNeg), w.2.2.2.1, w.2.2.2.2)) rfl rfl h9 (fun m hm j => gupR_ne hm j) (fun _ _ _ => rfl) (fun _ _ _ => rfl)
  rw [hc] at hg
  have hz : (fun j1 => gupR w.2.2.1 b.1 b.2 (va_cpy (w.2.2.1 n.1 n.2) (w.2.2.1 b.1 b.2) i.toNatClampNeg j.toNatClampNeg k.toNatClampNeg) b.1 b.2 j1) = va_cpy (w.2.2.1 n.1 n.2) (w.2.2.1 b.1 b.2) i.toNatClampNeg j.toNatClampNeg k.toNatClampNeg := funext fun j1 => gupR_eq j1
  dsimp only at hg
  rw [hz] at hg
  exact k9 H1 locs1 (hg ▸ a1) (hg ▸ a2) a3
