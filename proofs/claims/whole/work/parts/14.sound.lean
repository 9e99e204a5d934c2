/-! What the small machine comes to, the machine comes to. -/
theorem gsw_list {β : Type} {K : Int → Option β} {dflt : Int} {r : β} : ∀ (ps : List (Int × Int)) (x : Int32), gsw K dflt ps x = some r → (∃ q ∈ ps, x = Int32.ofInt q.1 ∧ K q.2 = some r) ∨ ((∀ q ∈ ps, x ≠ Int32.ofInt q.1) ∧ K dflt = some r)
  | [], x, h => Or.inr ⟨fun q hq => absurd hq List.not_mem_nil, h⟩
  | (v, off) :: ps, x, h => by
    unfold gsw at h
    split at h
    · rename_i hx
      exact Or.inl ⟨(v, off), List.mem_cons_self, hx, h⟩
    · rename_i hx
      rcases gsw_list ps x h with ⟨q, h1, h2, h3⟩ | ⟨h1, h2⟩
      · exact Or.inl ⟨q, List.mem_cons_of_mem _ h1, h2, h3⟩
      · exact Or.inr ⟨fun q hq => by rcases List.mem_cons.mp hq with rfl | hq; exact hx; exact h1 q hq, h2⟩
theorem gsw_off {β : Type} {K : Int → Option β} {dflt : Int} : ∀ (ps : List (Int × Int)) (x : Int32), (∀ q ∈ ps, (Int32.ofInt q.1).toInt = q.1) → gsw K dflt ps x = K (Op.lookupswitch.offset ps dflt x.toInt)
  | [], x, _ => rfl
  | (v, off) :: ps, x, h => by
    rw [gsw, Op.lookupswitch.offset_cons]
    have hv : (Int32.ofInt v).toInt = v := h (v, off) List.mem_cons_self
    by_cases e : x = Int32.ofInt v
    · rw [if_pos e, if_pos (by rw [e, hv])]
    · rw [if_neg e, if_neg (fun e2 => e (by rw [e2]; exact (Int32.ofInt_toInt x).symm)), gsw_off ps x (fun q hq => h q (List.mem_cons_of_mem _ hq))]
theorem gsw_mem {dflt : Int} {P : Int → Prop} (hd : P dflt) : ∀ (ps : List (Int × Int)) (k : Int), (∀ q ∈ ps, P q.2) → P (Op.lookupswitch.offset ps dflt k)
  | [], k, _ => hd
  | (v, off) :: ps, k, h => by
    rw [Op.lookupswitch.offset_cons]
    split
    · exact h (v, off) List.mem_cons_self
    · exact gsw_mem hd ps k fun q hq => h q (List.mem_cons_of_mem _ hq)
theorem gpairs_mem : ∀ (os : List Int) (lo : Int) (q : Int × Int), q ∈ gpairs lo os → ∃ j : Nat, j < os.length ∧ q.1 = lo + j ∧ os[j]? = some q.2
  | [], lo, q, h => by cases h
  | o :: os, lo, q, h => by
    rcases List.mem_cons.mp h with rfl | h
    · exact ⟨0, by simp, by simp, rfl⟩
    · obtain ⟨j, h1, h2, h3⟩ := gpairs_mem os (lo + 1) q h
      exact ⟨j + 1, by simp [h1], by rw [h2]; push_cast; omega, h3⟩
theorem gpairs_at : ∀ (os : List Int) (lo : Int) (j : Nat) (o : Int), os[j]? = some o → (lo + j, o) ∈ gpairs lo os
  | [], lo, j, o, h => by cases h
  | a :: os, lo, 0, o, h => by cases h; simp [gpairs]
  | a :: os, lo, j + 1, o, h => by
    have := gpairs_at os (lo + 1) j o h
    have e : lo + ((j + 1 : Nat) : Int) = lo + 1 + j := by push_cast; omega
    rw [e]
    exact List.mem_cons_of_mem _ this
theorem gofInt {v : Int} (h1 : -100000 ≤ v) (h2 : v ≤ 200000) : (Int32.ofInt v).toInt = v := Int32.toInt_ofInt_of_le (by omega) (by omega)
theorem gp_tsw {y pc : Nat} {L : List (Option gV)} {rest : List gV} {w : gW} {dflt lo hi off : Int} {offs : Array Int} {len : Nat} {x : Int32} (hd : decode (gby y) pc = .ok (.tableswitch dflt lo hi offs, len)) (hl : 0 ≤ (pc : Int) + dflt ∧ (∀ o ∈ offs.toList, 0 ≤ (pc : Int) + o) ∧ -100000 ≤ lo ∧ hi ≤ 100000 ∧ hi + 1 - lo = offs.toList.length)
    (h : (∃ q ∈ gpairs lo offs.toList, x = Int32.ofInt q.1 ∧ q.2 = off) ∨ ((∀ q ∈ gpairs lo offs.toList, x ≠ Int32.ofInt q.1) ∧ off = dflt)) : gPure y pc L (.inl x :: rest) w (gtgt pc off) L rest := by
  refine ⟨fun hwf hs hv => ⟨hs.tl, hv⟩, rfl, fun Cx D dA A ad ls H locs cells slots Q hl1 hs hv hI hf hr hL k => ?_⟩
  obtain ⟨hx, hb, hml, hrt, hown, hts, hlk, hnm⟩ := Cx
  obtain ⟨g1, g2, g3, g4, g5⟩ := hl
  rcases h with ⟨q, h1, h2, h3⟩ | ⟨h1, h2⟩
  · obtain ⟨j, j1, j2, j3⟩ := gpairs_mem _ _ _ h1
    have hxi : x.toInt = lo + j := by rw [h2, j2]; exact gofInt (by omega) (by omega)
    subst h3
    refine lv_tableIn hx hb hd (by omega) (by omega) (off := q.2) ?_ (gtgt_of (g2 _ (List.mem_of_getElem? j3))) (k ls hl1)
    rw [hxi, show (lo + (j : Int) - lo).toNat = j by omega, ← Array.getElem?_toList]
    exact j3
  · subst h2
    refine lv_tableOut hx hb hd ?_ (gtgt_of g1) (k ls hl1)
    refine Decidable.byContradiction fun hn => ?_
    have hj : (x.toInt - lo).toNat < offs.toList.length := by omega
    have hm := gpairs_at offs.toList lo (x.toInt - lo).toNat _ (List.getElem?_eq_getElem hj)
    refine h1 _ hm ?_
    show x = Int32.ofInt (lo + ((x.toInt - lo).toNat : Int))
    rw [show lo + ((x.toInt - lo).toNat : Int) = x.toInt by omega]
    exact (Int32.ofInt_toInt x).symm

theorem gp_lsw {y pc : Nat} {L : List (Option gV)} {rest : List gV} {w : gW} {dflt : Int} {ps : Array (Int × Int)} {len : Nat} {x : Int32} (hd : decode (gby y) pc = .ok (.lookupswitch dflt ps, len)) (hl : 0 ≤ (pc : Int) + dflt ∧ (∀ o ∈ ps.toList, 0 ≤ (pc : Int) + o.2 ∧ -100000 ≤ o.1 ∧ o.1 ≤ 100000) ∧ (ps.toList.zip (ps.toList.drop 1)).all (fun (a, next) => a.1 < next.1) = true) : gPure y pc L (.inl x :: rest) w (gtgt pc (Op.lookupswitch.offset ps.toList dflt x.toInt)) L rest := by
  refine ⟨fun hwf hs hv => ⟨hs.tl, hv⟩, rfl, fun Cx D dA A ad ls H locs cells slots Q hl1 hs hv hI hf hr hL k => ?_⟩
  obtain ⟨hx, hb, hml, hrt, hown, hts, hlk, hnm⟩ := Cx
  exact lv_lookup hx hb hd hl.2.2 rfl (gtgt_of (gsw_mem (P := fun o => 0 ≤ (pc : Int) + o) hl.1 _ _ fun q hq => (hl.2.1 q hq).1)) (k ls hl1)
theorem gpq {d y pc pc1 : Nat} {L L1 : List (Option gV)} {st st1 : List gV} {w w' : gW} {rv : Option gV} (h : (∀ r, w.2.2.2.2 4 0 0 = some r → r.1 < 10) → gPure y pc L st w pc1 L1 st1) (k : gFine d y pc1 L1 st1 w rv w') : gFine d y pc L st w rv w' := by
  refine ⟨k.1, k.2.1, k.2.2.1, k.2.2.2.1, ?_⟩
  intro p l e R s m args below meth c Cx D dA A ad ls H locs cells slots Q hl hL hs hv hI
  have hq := hI.2.2.2.1.2.2.2.2.2.2.2
  exact ((h hq).fine k).2.2.2.2 Cx D dA A ad ls H locs cells slots Q hl hL hs hv hI
theorem gf_ret {d y pc : Nat} {L : List (Option gV)} {w : gW} {rv : Option gV} {ins : Instr} (hd : decode (gby y) pc = .ok (ins, 1)) (h : gRet (gmr y).2 rv ins) : gFine d y pc L rv.toList w rv w := by
  refine ⟨Nat.le_refl _, Nat.le_refl _, rfl, fun _ _ _ _ => ⟨rfl, rfl⟩, ?_⟩
  intro p l e R s m args below meth c Cx D dA A ad ls H locs cells slots Q hl hL hs hv hI hf hr hc hz kk
  have := kk ad H locs pc ls ins (fun _ _ => rfl) (fun v hv => hs v (by rw [hv]; exact List.mem_cons_self)) hI hd h
  rw [Nat.sub_self, Nat.sub_self] at this
  exact this
theorem gexn {y pc : Nat} {L : List (Option gV)} {rest : List gV} {w : gW} {i : Int32} {n : gNm} {pc1 : Nat} {L1 : List (Option gV)} {st1 : List gV} (hn : n.2 = 0) (h : gPure y pc L (.inl i :: .inr (.inr (some (n.1, 0))) :: rest) w pc1 L1 st1) : gPure y pc L (.inl i :: .inr (.inr (some n)) :: rest) w pc1 L1 st1 := by
  have : n = (n.1, 0) := Prod.ext rfl hn
  rw [this]
  exact h
theorem gexn2 {y pc : Nat} {L : List (Option gV)} {rest : List gV} {w : gW} {n : gNm} {pc1 : Nat} {L1 : List (Option gV)} {st1 : List gV} (hn : n.2 = 0) (h : gPure y pc L (.inr (.inr (some (n.1, 0))) :: rest) w pc1 L1 st1) : gPure y pc L (.inr (.inr (some n)) :: rest) w pc1 L1 st1 := by
  have : n = (n.1, 0) := Prod.ext rfl hn
  rw [this]
  exact h
theorem gkd_all : gkdL.all (fun z => match z with | some (.inr (t, _)) => t == 0 || t == 1 || t == 3 || t == 4 || t == 5 | some (.inl (ci, _)) => Nat.ble ci 11 | none => true) = true := by decide +kernel
theorem gkd_in {k : Nat} {z} (h : gkd k = some z) : some z ∈ gkdL := by
  have h : gkdL.getD k none = some z := h
  rw [List.getD_eq_getElem?_getD] at h
  cases h2 : gkdL[k]? with
  | none => rw [h2] at h; cases h
  | some q =>
    rw [h2] at h
    have : q = some z := h
    exact this ▸ List.mem_of_getElem? h2
theorem gkd_ty {k t : Nat} {len : Nat → Nat → Nat} (h : gkd k = some (.inr (t, len))) : t = 0 ∨ t = 1 ∨ t = 3 ∨ t = 4 ∨ t = 5 := by
  have := List.all_eq_true.mp gkd_all _ (gkd_in h)
  simp at this
  omega
theorem gkd_ci {k ci : Nat} {tys : List Nat} (h : gkd k = some (.inl (ci, tys))) : ci < 12 := by
  have := List.all_eq_true.mp gkd_all _ (gkd_in h)
  have := Nat.le_of_ble_eq_true this
  omega
theorem gcc {n d y pc' z : Nat} {L : List (Option gV)} {as rest : List gV} {w w' : gW} {rv : Option gV} (h : (match d with | 0 => none | d' + 1 => cond (Nat.ble (gsl as).length (gmr z).1) (match go gkd gext gnm gstat gexf gpr gmr n d' z 0 (gent as (gmr z).1) [] w with | none => none | some (rv, w') => go gkd gext gnm gstat gexf gpr gmr n d y pc' L (rv.toList ++ rest) w') none) = some (rv, w')) : ∃ d' rv1 w1, d = d' + 1 ∧ (gsl as).length ≤ (gmr z).1 ∧ gO n d' z 0 (gent as (gmr z).1) [] w = some (rv1, w1) ∧ gO n (d' + 1) y pc' L (rv1.toList ++ rest) w1 = some (rv, w') := by
  cases d with
  | zero => cases h
  | succ d' =>
    dsimp only at h
    cases hb : Nat.ble (gsl as).length (gmr z).1 with
    | false => rw [hb] at h; cases h
    | true =>
      rw [hb] at h
      dsimp only [cond] at h
      split at h
      · cases h
      · rename_i rv1 w1 h1
        exact ⟨d', rv1, w1, rfl, Nat.le_of_ble_eq_true hb, h1, h⟩
theorem gf_newarr' {d y pc t : Nat} {L : List (Option gV)} {st : List gV} {w w' : gW} {rv : Option gV} {n : gNm} {x : Int32} {len : Nat → Nat → Nat} {at0 : ArrayType} (hn : gnmL[w.1]? = some n) (hd : decode (gby y) pc = .ok (.newarray at0, 2)) (hk : gkd n.1 = some (.inr (t, len)))
    (h : t = gat at0 ∧ ¬ x < 0 ∧ x.toNatClampNeg = len w.2.1 n.2 ∧ x.toNatClampNeg ≤ 100000 ∧ t ≠ 9) (hlk : Cond.arrayClass (newarray.typeOf at0) ∈ gWS)
    (k : gFine d y (pc + 2) L (.inr (.inr (some n)) :: st) (gnw w n) rv w') : gFine d y pc L (.inl x :: st) w rv w' := by
  obtain ⟨h1, h2, h3, h4, h5⟩ := h
  cases at0 with
  | int => subst h1; exact gf_newarr (k2 := 0) hn hd hk rfl (by decide) (fun C h => by cases h) (fun _ => rfl) (Or.inr ⟨by decide, rfl⟩) ⟨h2, h3, h4⟩ hlk k
  | long => subst h1; exact gf_newarr (k2 := 1) hn hd hk rfl (by decide) (fun C h => by cases h) (fun _ => rfl) (Or.inl ⟨rfl, rfl⟩) ⟨h2, h3, h4⟩ hlk k
  | boolean => subst h1; exact gf_newarr (k2 := 2) hn hd hk rfl (by decide) (fun C h => by cases h) (fun _ => rfl) (Or.inr ⟨by decide, rfl⟩) ⟨h2, h3, h4⟩ hlk k
  | char => subst h1; exact gf_newarr (k2 := 3) hn hd hk rfl (by decide) (fun C h => by cases h) (fun _ => rfl) (Or.inr ⟨by decide, rfl⟩) ⟨h2, h3, h4⟩ hlk k
  | byte => subst h1; exact gf_newarr (k2 := 4) hn hd hk rfl (by decide) (fun C h => by cases h) (fun _ => rfl) (Or.inr ⟨by decide, rfl⟩) ⟨h2, h3, h4⟩ hlk k
  | _ => exact absurd h1 h5

theorem gsound (hok : ∀ (y pc : Nat) (op : gOp), gpr y pc = some op → gOk y pc op) : ∀ (n d y pc : Nat) (L : List (Option gV)) (st : List gV) (w : gW) (rv : Option gV) (w' : gW), gO n d y pc L st w = some (rv, w') → gFine d y pc L st w rv w' := by
  intro n
  induction n with
  | zero => intro d y pc L st w rv w' h; cases h
  | succ n ih =>
  intro d y pc L st w rv w' h
  unfold gO go at h
  cases hop : gpr y pc with
  | none => rw [hop] at h; cases h
  | some op =>
  rw [hop] at h
  obtain ⟨hd, hl⟩ := hok y pc op hop
  obtain ⟨ins, len, dat⟩ := op
  unfold gex at h
  dsimp only at h hd
  split at h
  · exact (gp_iconst hd).fine (ih _ _ _ _ _ _ _ _ h)
  · exact (gp_bipush hd).fine (ih _ _ _ _ _ _ _ _ h)
  · exact (gp_sipush hd).fine (ih _ _ _ _ _ _ _ _ h)
  · exact (gp_lconst hd).fine (ih _ _ _ _ _ _ _ _ h)
  · split at h
    · exact (gp_ldc hd hl).fine (ih _ _ _ _ _ _ _ _ h)
    · obtain ⟨e1, e2⟩ := hl
      subst e2
      exact (gp_ldcS hd e1).fine (ih _ _ _ _ _ _ _ _ h)
    · cases h
  · split at h
    · exact (gp_ldcw hd hl).fine (ih _ _ _ _ _ _ _ _ h)
    · cases h
  · split at h
    · exact (gp_ldc2 hd hl).fine (ih _ _ _ _ _ _ _ _ h)
    · cases h
  · unfold gld at h
    split at h
    · rename_i hL0
      exact (gp_iload_n hd hL0).fine (ih _ _ _ _ _ _ _ _ h)
    · cases h
    · cases h
    · cases h
  · unfold gld at h
    split at h
    · rename_i hL0
      exact (gp_iload hd hL0).fine (ih _ _ _ _ _ _ _ _ h)
    · cases h
    · cases h
    · cases h
  · unfold gld at h
    split at h
    · cases h
    · rename_i hL0
      exact (gp_lload_n hd hL0).fine (ih _ _ _ _ _ _ _ _ h)
    · cases h
    · cases h
  · unfold gld at h
    split at h
    · cases h
    · rename_i hL0
      exact (gp_lload hd hL0).fine (ih _ _ _ _ _ _ _ _ h)
    · cases h
    · cases h
  · unfold gld at h
    split at h
    · cases h
    · cases h
    · rename_i hL0
      exact (gp_aload_n hd hL0).fine (ih _ _ _ _ _ _ _ _ h)
    · cases h
  · unfold gld at h
    split at h
    · cases h
    · cases h
    · rename_i hL0
      exact (gp_aload hd hL0).fine (ih _ _ _ _ _ _ _ _ h)
    · cases h
  · unfold gst at h
    split at h
    · split at h
      · split at h
        · rename_i hL1
          exact (gp_istore_n hd hL1).fine (ih _ _ _ _ _ _ _ _ h)
        · cases h
      · exact absurd rfl (by assumption)
    · cases h
    · cases h
    · cases h
  · unfold gst at h
    split at h
    · split at h
      · split at h
        · rename_i hL1
          exact (gp_istore hd hL1).fine (ih _ _ _ _ _ _ _ _ h)
        · cases h
      · exact absurd rfl (by assumption)
    · cases h
    · cases h
    · cases h
  · unfold gst at h
    split at h
    · cases h
    · split at h
      · split at h
        · rename_i hL1
          exact (gp_lstore_n hd hL1).fine (ih _ _ _ _ _ _ _ _ h)
        · cases h
      · exact absurd rfl (by assumption)
    · cases h
    · cases h
  · unfold gst at h
    split at h
    · cases h
    · split at h
      · split at h
        · rename_i hL1
          exact (gp_lstore hd hL1).fine (ih _ _ _ _ _ _ _ _ h)
        · cases h
      · exact absurd rfl (by assumption)
    · cases h
    · cases h
  · unfold gst at h
    split at h
    · cases h
    · cases h
    · split at h
      · split at h
        · rename_i hL1
          exact (gp_astore_n hd hL1).fine (ih _ _ _ _ _ _ _ _ h)
        · cases h
      · exact absurd rfl (by assumption)
    · cases h
  · unfold gst at h
    split at h
    · cases h
    · cases h
    · split at h
      · split at h
        · rename_i hL1
          exact (gp_astore hd hL1).fine (ih _ _ _ _ _ _ _ _ h)
        · cases h
      · exact absurd rfl (by assumption)
    · cases h
  · split at h
    · rename_i hL0
      exact (gp_iinc hd hL0).fine (ih _ _ _ _ _ _ _ _ h)
    · cases h
  · split at h
    · exact (gp_iadd hd).fine (ih _ _ _ _ _ _ _ _ h)
    · cases h
  · split at h
    · exact (gp_isub hd).fine (ih _ _ _ _ _ _ _ _ h)
    · cases h
  · split at h
    · exact (gp_imul hd).fine (ih _ _ _ _ _ _ _ _ h)
    · cases h
  · split at h
    · exact (gp_iand hd).fine (ih _ _ _ _ _ _ _ _ h)
    · cases h
  · split at h
    · exact (gp_ior hd).fine (ih _ _ _ _ _ _ _ _ h)
    · cases h
  · split at h
    · exact (gp_ixor hd).fine (ih _ _ _ _ _ _ _ _ h)
    · cases h
  · split at h
    · exact (gp_ishl hd).fine (ih _ _ _ _ _ _ _ _ h)
    · cases h
  · split at h
    · exact (gp_ishr hd).fine (ih _ _ _ _ _ _ _ _ h)
    · cases h
  · split at h
    · exact (gp_iushr hd).fine (ih _ _ _ _ _ _ _ _ h)
    · cases h
  · split at h
    · split at h
      · cases h
      · rename_i hn
        exact (gp_idiv hd hn).fine (ih _ _ _ _ _ _ _ _ h)
    · cases h
  · split at h
    · split at h
      · cases h
      · rename_i hn
        exact (gp_irem hd hn).fine (ih _ _ _ _ _ _ _ _ h)
    · cases h
  · split at h
    · exact (gp_ineg hd).fine (ih _ _ _ _ _ _ _ _ h)
    · cases h
  · split at h
    · exact (gp_ladd hd).fine (ih _ _ _ _ _ _ _ _ h)
    · cases h
  · split at h
    · exact (gp_lsub hd).fine (ih _ _ _ _ _ _ _ _ h)
    · cases h
  · split at h
    · exact (gp_lmul hd).fine (ih _ _ _ _ _ _ _ _ h)
    · cases h
  · split at h
    · exact (gp_land hd).fine (ih _ _ _ _ _ _ _ _ h)
    · cases h
  · split at h
    · split at h
      · cases h
      · rename_i hn
        exact (gp_ldiv hd hn).fine (ih _ _ _ _ _ _ _ _ h)
    · cases h
  · split at h
    · split at h
      · cases h
      · rename_i hn
        exact (gp_lrem hd hn).fine (ih _ _ _ _ _ _ _ _ h)
    · cases h
  · split at h
    · exact (gp_lcmp hd).fine (ih _ _ _ _ _ _ _ _ h)
    · cases h
  · split at h
    · exact (gp_i2l hd).fine (ih _ _ _ _ _ _ _ _ h)
    · cases h
  · split at h
    · exact (gp_l2i hd).fine (ih _ _ _ _ _ _ _ _ h)
    · cases h
  · split at h
    · exact (gp_i2c hd).fine (ih _ _ _ _ _ _ _ _ h)
    · cases h
  · split at h
    · exact (gp_i2b hd).fine (ih _ _ _ _ _ _ _ _ h)
    · cases h
  · split at h
    · split at h
      · rename_i hc
        exact (gp_dup hd hc).fine (ih _ _ _ _ _ _ _ _ h)
      · cases h
    · cases h
  · split at h
    · split at h
      · rename_i hc hu
        exact (gp_dup2 hd hc hu).fine (ih _ _ _ _ _ _ _ _ h)
      · cases h
    · cases h
  · split at h
    · split at h
      · rename_i hc
        exact (gp_pop hd hc).fine (ih _ _ _ _ _ _ _ _ h)
      · cases h
    · cases h
  · split at h
    · split at h
      · rename_i hc
        exact (gp_icmp_eq0 hd hl hc).fine (ih _ _ _ _ _ _ _ _ h)
      · rename_i hc
        exact (gp_icmp_eq1 hd hl hc).fine (ih _ _ _ _ _ _ _ _ h)
    · cases h
  · split at h
    · split at h
      · rename_i hc
        exact (gp_icmp_ne1 hd hl (fun hne => hne hc)).fine (ih _ _ _ _ _ _ _ _ h)
      · rename_i hc
        exact (gp_icmp_ne0 hd hl hc).fine (ih _ _ _ _ _ _ _ _ h)
    · cases h
  · split at h
    · split at h
      · rename_i hc
        exact (gp_icmp_lt0 hd hl hc).fine (ih _ _ _ _ _ _ _ _ h)
      · rename_i hc
        exact (gp_icmp_lt1 hd hl hc).fine (ih _ _ _ _ _ _ _ _ h)
    · cases h
  · split at h
    · split at h
      · rename_i hc
        exact (gp_icmp_ge0 hd hl hc).fine (ih _ _ _ _ _ _ _ _ h)
      · rename_i hc
        exact (gp_icmp_ge1 hd hl hc).fine (ih _ _ _ _ _ _ _ _ h)
    · cases h
  · split at h
    · split at h
      · rename_i hc
        exact (gp_icmp_gt0 hd hl hc).fine (ih _ _ _ _ _ _ _ _ h)
      · rename_i hc
        exact (gp_icmp_gt1 hd hl hc).fine (ih _ _ _ _ _ _ _ _ h)
    · cases h
  · split at h
    · split at h
      · rename_i hc
        exact (gp_icmp_le0 hd hl hc).fine (ih _ _ _ _ _ _ _ _ h)
      · rename_i hc
        exact (gp_icmp_le1 hd hl hc).fine (ih _ _ _ _ _ _ _ _ h)
    · cases h
  · split at h
    · split at h
      · rename_i hc
        exact (gp_if_eq0 hd hl hc).fine (ih _ _ _ _ _ _ _ _ h)
      · rename_i hc
        exact (gp_if_eq1 hd hl hc).fine (ih _ _ _ _ _ _ _ _ h)
    · cases h
  · split at h
    · split at h
      · rename_i hc
        exact (gp_if_ne1 hd hl (fun hne => hne hc)).fine (ih _ _ _ _ _ _ _ _ h)
      · rename_i hc
        exact (gp_if_ne0 hd hl hc).fine (ih _ _ _ _ _ _ _ _ h)
    · cases h
  · split at h
    · split at h
      · rename_i hc
        exact (gp_if_lt0 hd hl hc).fine (ih _ _ _ _ _ _ _ _ h)
      · rename_i hc
        exact (gp_if_lt1 hd hl hc).fine (ih _ _ _ _ _ _ _ _ h)
    · cases h
  · split at h
    · split at h
      · rename_i hc
        exact (gp_if_ge0 hd hl hc).fine (ih _ _ _ _ _ _ _ _ h)
      · rename_i hc
        exact (gp_if_ge1 hd hl hc).fine (ih _ _ _ _ _ _ _ _ h)
    · cases h
  · split at h
    · split at h
      · rename_i hc
        exact (gp_if_gt0 hd hl hc).fine (ih _ _ _ _ _ _ _ _ h)
      · rename_i hc
        exact (gp_if_gt1 hd hl hc).fine (ih _ _ _ _ _ _ _ _ h)
    · cases h
  · split at h
    · split at h
      · rename_i hc
        exact (gp_if_le0 hd hl hc).fine (ih _ _ _ _ _ _ _ _ h)
      · rename_i hc
        exact (gp_if_le1 hd hl hc).fine (ih _ _ _ _ _ _ _ _ h)
    · cases h
  · exact (gp_goto hd hl).fine (ih _ _ _ _ _ _ _ _ h)
  · split at h
    · rcases gsw_list _ _ h with ⟨q, h1, h2, h3⟩ | ⟨h1, h2⟩
      · exact (gp_tsw hd hl (Or.inl ⟨q, h1, h2, rfl⟩)).fine (ih _ _ _ _ _ _ _ _ h3)
      · exact (gp_tsw hd hl (Or.inr ⟨h1, rfl⟩)).fine (ih _ _ _ _ _ _ _ _ h2)
    · cases h
  · split at h
    · rw [gsw_off _ _ (fun q hq => gofInt (hl.2.1 q hq).2.1 (by have := (hl.2.1 q hq).2.2; omega))] at h
      exact (gp_lsw hd hl).fine (ih _ _ _ _ _ _ _ _ h)
    · cases h
  · split at h
    · split at h
      · split at h
        · rename_i hk
          split at h
          · rename_i hci
            subst hci
            split at h
            · rename_i ht
              exact (gp_getf hd hk ht hl).fine (ih _ _ _ _ _ _ _ _ h)
            · cases h
          · cases h
        · cases h
      · split at h
        · rename_i he
          split at h
          · rename_i hn
            subst hn
            exact (gp_getx hd he hl).fine (ih _ _ _ _ _ _ _ _ h)
          · cases h
        · cases h
      · cases h
    · cases h
  · split at h
    · split at h
      · split at h
        · rename_i hk
          split at h
          · rename_i hci
            subst hci
            split at h
            · rename_i ht
              obtain ⟨w1, h1, h2⟩ := gp_pf (L := L) hd hk ht hl h
              exact h2.fine (ih _ _ _ _ _ _ _ _ h1)
            · cases h
          · cases h
        · cases h
      · cases h
    · cases h
  · split at h
    · split at h
      · rename_i he
        exact (gp_gets hd he hl).fine (ih _ _ _ _ _ _ _ _ h)
      · cases h
    · exact gpq (fun hq => gp_getq hd hl hq) (ih _ _ _ _ _ _ _ _ h)
    · cases h
  · split at h
    · split at h
      · rename_i hk
        split at h
        · split at h
          · rename_i hi
            exact (gp_iald hd hk hi).fine (ih _ _ _ _ _ _ _ _ h)
          · cases h
        · cases h
      · split at h
        · rename_i hk
          split at h
          · rename_i hn2
            split at h
            · rename_i hi
              exact (gexn hn2 (gp_ialx hd hk hi)).fine (ih _ _ _ _ _ _ _ _ h)
            · cases h
          · cases h
        · cases h
    · cases h
  · split at h
    · split at h
      · rename_i hk
        split at h
        · split at h
          · rename_i hi
            exact (gp_zald hd hk hi).fine (ih _ _ _ _ _ _ _ _ h)
          · cases h
        · split at h
          · rename_i hi
            exact (gp_bald hd hk hi).fine (ih _ _ _ _ _ _ _ _ h)
          · cases h
        · cases h
      · split at h
        · rename_i hk
          split at h
          · rename_i hn2
            split at h
            · rename_i hi
              exact (gexn hn2 (gp_balx hd hk hi)).fine (ih _ _ _ _ _ _ _ _ h)
            · cases h
          · cases h
        · cases h
    · cases h
  · split at h
    · split at h
      · rename_i hk
        split at h
        · split at h
          · rename_i hi
            exact (gp_cald hd hk hi).fine (ih _ _ _ _ _ _ _ _ h)
          · cases h
        · cases h
      · cases h
    · cases h
  · split at h
    · split at h
      · rename_i hk
        split at h
        · split at h
          · rename_i hi
            exact (gp_lald hd hk hi).fine (ih _ _ _ _ _ _ _ _ h)
          · cases h
        · cases h
      · cases h
    · cases h
  · split at h
    · split at h
      · rename_i hk
        split at h
        · split at h
          · rename_i hi
            exact (gp_iast hd hk hi).fine (ih _ _ _ _ _ _ _ _ h)
          · cases h
        · cases h
      · cases h
    · cases h
  · split at h
    · split at h
      · rename_i hk
        split at h
        · split at h
          · rename_i hi
            exact (gp_zast hd hk hi).fine (ih _ _ _ _ _ _ _ _ h)
          · cases h
        · split at h
          · rename_i hi
            exact (gp_bast hd hk hi).fine (ih _ _ _ _ _ _ _ _ h)
          · cases h
        · cases h
      · cases h
    · cases h
  · split at h
    · split at h
      · rename_i hk
        split at h
        · split at h
          · rename_i hi
            exact (gp_cast hd hk hi).fine (ih _ _ _ _ _ _ _ _ h)
          · cases h
        · cases h
      · cases h
    · cases h
  · split at h
    · split at h
      · rename_i hk
        split at h
        · split at h
          · rename_i hi
            exact (gp_last hd hk hi).fine (ih _ _ _ _ _ _ _ _ h)
          · cases h
        · cases h
      · cases h
    · cases h
  · split at h
    · split at h
      · rename_i hk
        exact (gp_alen hd hk (gkd_ty hk)).fine (ih _ _ _ _ _ _ _ _ h)
      · split at h
        · rename_i hk
          split at h
          · rename_i hn2
            exact (gexn2 hn2 (gp_alex hd hk)).fine (ih _ _ _ _ _ _ _ _ h)
          · cases h
        · cases h
    · cases h
  · split at h
    · split at h
      · rename_i hn
        split at h
        · rename_i hk
          split at h
          · rename_i hc
            exact gf_newarr' hn hd hk hc hl (ih _ _ _ _ _ _ _ _ h)
          · cases h
        · cases h
      · cases h
    · cases h
  · split at h
    · split at h
      · rename_i hn
        split at h
        · rename_i hk
          split at h
          · rename_i hci
            subst hci
            exact gf_new hn hd hk hl (ih _ _ _ _ _ _ _ _ h)
          · cases h
        · cases h
      · cases h
    · cases h
  · split at h
    · split at h
      · rename_i htk
        split at h
        · rename_i hsz
          obtain ⟨bs, b1, b2, b3⟩ := gtake_of _ _ _ _ _ htk
          rw [List.append_nil] at b2
          obtain ⟨hm, h1k, hci, hl1, hl2, hl3⟩ := hl
          split at h
          · rename_i hk
            split at h
            · rename_i he
              subst he
              obtain ⟨d', rv1, w1, rfl, hfit, c1, c2⟩ := gcc h
              rcases hci with ⟨T, N, hv⟩ | ⟨h99, -⟩
              · refine gf_virtual hd hm ?_ (b2 ▸ b3) hsz hfit (Or.inl ⟨T, N, _, hv, hk⟩) hl1 hl2 hl3 (ih _ _ _ _ _ _ _ _ c1) (ih _ _ _ _ _ _ _ _ c2)
                rw [← b2] at b1
                rw [← b1]
                rfl
              · exact absurd (gkd_ci hk) (by omega)
            · cases h
          · split at h
            · rename_i he
              obtain ⟨he1, he2⟩ := he
              subst he1; subst he2
              obtain ⟨d', rv1, w1, rfl, hfit, c1, c2⟩ := gcc h
              refine gf_virtual (ci := 0) hd hm ?_ (b2 ▸ b3) hsz hfit (Or.inr ⟨rfl, ?_⟩) hl1 hl2 hl3 (ih _ _ _ _ _ _ _ _ c1) (ih _ _ _ _ _ _ _ _ c2)
              · rw [← b2] at b1
                rw [← b1]
                rfl
              · rcases hci with ⟨T, N, hv⟩ | ⟨-, hs⟩
                · cases hv
                · exact hs
            · cases h
        · cases h
      · cases h
    · cases h
  · split at h
    · split at h
      · rename_i htk
        split at h
        · rename_i hsz
          obtain ⟨bs, b1, b2, b3⟩ := gtake_of _ _ _ _ _ htk
          rw [List.append_nil] at b2
          obtain ⟨hm, h1k, hl1, hl2, hl3, hl4⟩ := hl
          obtain ⟨d', rv1, w1, rfl, hfit, c1, c2⟩ := gcc h
          refine gf_special hd hm ?_ (b2 ▸ b3) hsz hfit hl1 hl2 hl3 hl4 (ih _ _ _ _ _ _ _ _ c1) (ih _ _ _ _ _ _ _ _ c2)
          rw [← b2] at b1
          rw [← b1]
          rfl
        · cases h
      · cases h
    · split at h
      · split at h
        · rename_i hsz
          exact (gp_objInit hd hl.1 hl.2.1 hl.2.2 hsz).fine (ih _ _ _ _ _ _ _ _ h)
        · cases h
      · cases h
    · cases h
  · split at h
    · split at h
      · rename_i htk
        split at h
        · rename_i hsz
          obtain ⟨bs, b1, b2, b3⟩ := gtake_of _ _ _ _ _ htk
          rw [List.append_nil] at b2
          obtain ⟨hm, hl1, hl2⟩ := hl
          obtain ⟨d', rv1, w1, rfl, hfit, c1, c2⟩ := gcc h
          exact gf_static hd hm (by rw [b2]; exact b1) (b2 ▸ b3) hsz hfit hl1 hl2 (ih _ _ _ _ _ _ _ _ c1) (ih _ _ _ _ _ _ _ _ c2)
        · cases h
      · cases h
    · split at h
      · split at h
        · rename_i hk1 hk2
          split at h
          · rename_i hc
            exact (gp_copy hd hk1 hk2 hl hc).fine (ih _ _ _ _ _ _ _ _ h)
          · cases h
        · cases h
      · cases h
    · cases h
  · split at h
    · split at h
      · rename_i hok
        cases h
        exact gf_ret (rv := some (.inl _)) hd ⟨rfl, _, by assumption, hok⟩
      · cases h
    · cases h
  · split at h
    · cases h
      exact gf_ret (rv := some (.inr (.inl _))) hd ⟨rfl, by assumption⟩
    · cases h
  · split at h
    · cases h
      exact gf_ret (rv := none) hd ⟨rfl, by assumption⟩
    · cases h
  · cases h
