/-! The small machine's steps are the machine's. -/
def gWS : List Cond := lw_tbl.filter goodWord
def gNest : List Cond := lw_tbl.filter (fun w => match w with | .methodLinkNest _ _ _ _ => true | _ => false)
theorem gGood {ws : List Cond} (h : ∀ w ∈ ws, w ∈ gWS) : GoodIn gWS ws := fun w hw => ⟨h w hw, good_of_word (List.mem_filter.mp (h w hw)).2⟩
def gtf : FieldType → Nat
  | .int => 0
  | .long => 1
  | .boolean => 3
  | .object _ => 2
  | .array _ => 2
  | _ => 9
/-- a class's tables -/
def gCl (ci : Nat) (C : String) (T : u_T) (N : Nat) (ty : Nat → FieldType) : Prop := (∀ w ∈ u_ws C T N, w ∈ gWS) ∧ (∀ k, k < N → parseFieldDescriptor (T k).2.2.1 = some (ty k)) ∧ (∀ a, a < N → ∀ b, b < N → a ≠ b → (T a).2.1 ≠ (T b).2.1) ∧ (∀ (k : Nat) (tys : List Nat), gkd k = some (.inl (ci, tys)) → tys = (List.range N).map (fun j => gtf (ty j))) ∧ ∀ j, j < N → gtf (ty j) ≠ 9
def gMk (z n : Nat) : Prop := z ≠ 0 ∧ Cond.code (gme z) (gby z) (gmr z).1 (gmr z).2 ∈ gWS ∧ Cond.initialized (gme z).cls ∈ gWS ∧ ((gme z).cls ≠ "java/lang/invoke/MethodHandle" ∧ (gme z).cls ≠ "java/lang/invoke/VarHandle") ∧ (parseMethodDescriptor (gme z).desc).map (fun d => d.parameters.length) = some n ∧ plainFor (gme z) = true ∧ (gmr z).1 ≤ 30
/-- what an instruction links, out of the tables -/
def gLk (y pc : Nat) (op : gOp) : Prop := match op.1, op.2.2 with
  | .if_icmp _ off, _ => 0 ≤ (pc : Int) + off
  | .ifCond _ off, _ => 0 ≤ (pc : Int) + off
  | .goto off, _ => 0 ≤ (pc : Int) + off
  | .tableswitch dflt lo hi offs, _ => 0 ≤ (pc : Int) + dflt ∧ (∀ o ∈ offs.toList, 0 ≤ (pc : Int) + o) ∧ -100000 ≤ lo ∧ hi ≤ 100000 ∧ hi + 1 - lo = offs.toList.length
  | .lookupswitch dflt ps, _ => 0 ≤ (pc : Int) + dflt ∧ (∀ o ∈ ps.toList, 0 ≤ (pc : Int) + o.2 ∧ -100000 ≤ o.1 ∧ o.1 ≤ 100000) ∧ (ps.toList.zip (ps.toList.drop 1)).all (fun (a, next) => a.1 < next.1) = true
  | .ldc i, [v] => Cond.constant (gme y).cls i (Int32.ofNat v) ∈ gWS
  | .ldc i, [0, 1] => (gme y).cls = "PassedDark$Words" ∧ i = 11
  | .ldc_w i, [v] => Cond.constant (gme y).cls i (Int32.ofNat v) ∈ gWS
  | .ldc2_w i, [v] => Cond.constantLong (gme y).cls i (Int64.ofNat v) ∈ gWS
  | .getfield i, [ci, k] => ∃ C T N ty, vwCl[ci]? = some (C, T, N) ∧ gCl ci C T N ty ∧ k < N ∧ Cond.fieldLink (gme y).cls i (T k).1 (T k).2.1 (T k).2.2.1 ∈ gWS
  | .getfield i, [e] => Cond.fieldLink (gme y).cls i (gexfN e).1 (gexfN e).2.1 (gexfN e).2.2 ∈ gWS
  | .putfield i, [ci, k] => ∃ C T N ty, vwCl[ci]? = some (C, T, N) ∧ gCl ci C T N ty ∧ k < N ∧ Cond.fieldLink (gme y).cls i (T k).1 (T k).2.1 (T k).2.2.1 ∈ gWS ∧ ((T k).2.2.2 = false ∨ ((T k).2.2.2 = true ∧ (gme y).name = "<init>" ∧ (T k).1 = (gme y).cls))
  | .getstatic i, [e] => Cond.fieldLink (gme y).cls i (gstatN e).1 (gstatN e).2.1 (gstatN e).2.2 ∈ gWS
  | .getstatic i, [0, 1] => Cond.fieldLink (gme y).cls i "jdk/internal/util/Preconditions" "SIOOBE_FORMATTER" "Ljava/util/function/BiFunction;" ∈ gWS
  | .new i, [ci] => ∃ C T N ty, vwCl[ci]? = some (C, T, N) ∧ gCl ci C T N ty ∧ Cond.classLink (gme y).cls i C ∈ gWS ∧ Cond.instantiable C N ∈ gWS ∧ Cond.initialized C ∈ gWS
  | .newarray t, _ => Cond.arrayClass (newarray.typeOf t) ∈ gWS
  | .invokevirtual i, [z, n, ci] => gMk z (n - 1) ∧ 1 ≤ n ∧ ((∃ T N, vwCl[ci]? = some ((gme z).cls, T, N)) ∨ (ci = 99 ∧ (gme z).cls = "java/lang/String")) ∧ (Cond.methodLink (gme y).cls i (gme z) ∈ gWS ∨ ∃ host, Cond.methodLinkNest (gme y).cls i (gme z) host ∈ gNest) ∧ Cond.instanceMethod (gme z) ∈ gWS ∧ Cond.selects (gme z).cls (gme z) (gme z) ∈ gWS
  | .invokespecial i, [z, n] => gMk z (n - 1) ∧ 1 ≤ n ∧ Cond.methodLink (gme y).cls i (gme z) ∈ gWS ∧ Cond.instanceMethod (gme z) ∈ gWS ∧ (gme z).name = "<init>" ∧ (gmr z).2 = none
  | .invokespecial i, [0] => Cond.methodLink (gme y).cls i objectInit ∈ gWS ∧ Cond.instanceMethod objectInit ∈ gWS ∧ Cond.code objectInit ⟨#[0xb1]⟩ 1 none ∈ gWS
  | .invokestatic i, [z, n] => gMk z n ∧ Cond.methodLink (gme y).cls i (gme z) ∈ gWS ∧ Cond.static (gme z) ∈ gWS
  | .invokestatic i, [0] => Cond.methodLink (gme y).cls i arraycopyName ∈ gWS ∧ Cond.native arraycopyName ∈ gWS ∧ Cond.static arraycopyName ∈ gWS ∧ Cond.initialized "java/lang/System" ∈ gWS
  | _, _ => True
def gln (ins : Instr) (len : Nat) : Nat := match ins with
  | .bipush _ | .ldc _ | .iload _ | .lload _ | .aload _ | .istore _ | .lstore _ | .astore _ | .newarray _ => 2
  | .sipush _ | .ldc_w _ | .ldc2_w _ | .iinc _ _ | .if_icmp _ _ | .ifCond _ _ | .goto _ | .getfield _ | .putfield _ | .getstatic _ | .new _ | .invokevirtual _ | .invokespecial _ | .invokestatic _ => 3
  | .tableswitch _ _ _ _ => len
  | .lookupswitch _ _ => len
  | _ => 1
def gOk (y pc : Nat) (op : gOp) : Prop := decode (gby y) pc = .ok (op.1, gln op.1 op.2.1) ∧ gLk y pc op
def gCx (p : Program) (s : State) (m : MethodId) (args : Array Value) (meth : Method) (c : Code) (y : Nat) : Prop := p.tables.exec = Jvm.exec ∧ c.code = gby y ∧ c.maxLocals = (gmr y).1 ∧ meth.sig.returnType = (gmr y).2 ∧ s.vm.findClass (gme y).cls = some m.cls ∧ (∀ w ∈ gWS, w.before args s = true) ∧ meth.locks = false ∧ ((gme y).name = "<init>" → meth.name = (gme y).name)
/-- what was there before the law began, and stays -/
def gEx (A : Nat → Prop) (ad : gNm → Nat) (w : gW) (U : State) : Prop :=
  (∀ (k t : Nat) (len : Nat → Nat → Nat), gext k = some (.inr (t, len)) → va_T (gty t) (ad (k, 0)) (len w.2.1 0) (fun j => .int (w.2.2.1 k 0 j)) A U U.heap) ∧
  (∀ (e : Nat) (v : gV), gstat e = some v → va_Z (gstatN e).1 (gstatN e).2.1 (gstatN e).2.2 (gcv ad v) A U U.heap) ∧
  (∀ (e q : Nat) (v : gV), gexf e = some (q, v) → va_OF (gexfN e).1 (gexfN e).2.1 (gexfN e).2.2 (gcv ad v) (ad (q, 0)) A U U.heap) ∧
  va_O "java/lang/String" (ad (2, 0)) A U U.heap ∧ (∃ tx, vk_R "PassedDark$Words" 11 tx (ad (2, 0)) U) ∧ (∀ (a : String) (i : Nat) (x : MethodName) (h : String), (Cond.methodLinkNest a i x h ∈ gNest → va_Nw (.methodLinkNest a i x h) U)) ∧ va_Z "jdk/internal/util/Preconditions" "SIOOBE_FORMATTER" "Ljava/util/function/BiFunction;" (gcv ad (.inr (.inr (w.2.2.2.2 4 0 0)))) A U U.heap ∧ ∀ r, w.2.2.2.2 4 0 0 = some r → r.1 < 10
def gIn (s : State) (D : va_G) (dA : Nat → ClassId) (A : Nat → Prop) (ad : gNm → Nat) (w : gW) (H : Heap) (locs : List Loc) : Prop :=
  va_K D vwCl (gtys dA) s ∧ va_P D vwCl (gws dA ad w) H ∧ va_D A (gws dA ad w) ∧ gEx A ad w s ∧ gWF w ∧ va_S A s.heap H locs ∧ ∀ q : Nat, s.heap.size ≤ q → A q
def gRet (ret : Option FieldType) (rv : Option gV) (ins : Instr) : Prop := match rv with
  | some (.inl v) => ins = .ireturn ∧ ∃ ty, ret = some ty ∧ gretok ty v = true
  | some (.inr (.inl _)) => ins = .lreturn ∧ ret = some .long
  | some _ => False
  | none => ins = .return_ ∧ ret = none
def gcsz (L : Nat) (n : gNm) : Nat := match gkd n.1 with
  | some (.inl (_, tys)) => tys.length
  | some (.inr (_, len)) => len L n.2
  | none => 0
def gsz (w : gW) : Nat := ((gnmL.take w.1).map (gcsz w.2.1)).sum
def gFine (d y pc : Nat) (L : List (Option gV)) (st : List gV) (w : gW) (rv : Option gV) (w' : gW) : Prop :=
  w.1 ≤ w'.1 ∧ gsz w ≤ gsz w' ∧ w'.2.1 = w.2.1 ∧ (∀ k i j, k < 10 → w'.2.2.1 k i j = w.2.2.1 k i j ∧ w'.2.2.2.2 k i j = w.2.2.2.2 k i j) ∧ ∀ {p : Program} {l : Launch} {e : Env} {R : Room} {s : State} {m : MethodId} {args : Array Value} {below : List Frame} {meth : Method} {c : Code} (_ : gCx p s m args meth c y) (D : va_G) (dA : Nat → ClassId) (A : Nat → Prop) (ad : gNm → Nat) (ls : Array Slot) (H : Heap) (locs : List Loc) (cells slots : Nat) (Q : State → Prop),
    gLv ad ls L → L.length = (gmr y).1 → gVs w st → gVL w L → gIn s D dA A ad w H locs → d + 1 ≤ R.frames → 100 + 60 * d ≤ R.locals → cells + (w'.1 - w.1) ≤ R.cells → slots + (gsz w' - gsz w) ≤ R.slots →
    (∀ (ad' : gNm → Nat) (H' : Heap) (locs' : List Loc) (pc' : Nat) (ls' : Array Slot) (ins : Instr), (∀ r, gVal w r → ad' r = ad r) → (∀ v, rv = some v → gVv w' v) → gIn s D dA A ad' w' H' locs' → decode (gby y) pc' = .ok (ins, 1) → gRet (gmr y).2 rv ins → W p l e R s m args below meth c H' locs' (cells + (w'.1 - w.1)) (slots + (gsz w' - gsz w)) Q (F0 m pc' ls' (rv.toList.map (gcv ad')))) →
    W p l e R s m args below meth c H locs cells slots Q (F0 m pc ls (st.map (gcv ad)))
/-- a step that leaves the world as it is -/
def gPure (y pc : Nat) (L : List (Option gV)) (st : List gV) (w : gW) (pc1 : Nat) (L1 : List (Option gV)) (st1 : List gV) : Prop :=
  (gWF w → gVs w st → gVL w L → gVs w st1 ∧ gVL w L1) ∧ L1.length = L.length ∧ ∀ {p : Program} {l : Launch} {e : Env} {R : Room} {s : State} {m : MethodId} {args : Array Value} {below : List Frame} {meth : Method} {c : Code} (_ : gCx p s m args meth c y) (D : va_G) (dA : Nat → ClassId) (A : Nat → Prop) (ad : gNm → Nat) (ls : Array Slot) (H : Heap) (locs : List Loc) (cells slots : Nat) (Q : State → Prop),
    gLv ad ls L → gVs w st → gVL w L → gIn s D dA A ad w H locs → 1 ≤ R.frames → 100 ≤ R.locals → L.length = (gmr y).1 →
    (∀ ls1, gLv ad ls1 L1 → W p l e R s m args below meth c H locs cells slots Q (F0 m pc1 ls1 (st1.map (gcv ad)))) →
    W p l e R s m args below meth c H locs cells slots Q (F0 m pc ls (st.map (gcv ad)))
theorem gPure.fine {d y pc : Nat} {L L1 : List (Option gV)} {st st1 : List gV} {w w' : gW} {pc1 : Nat} {rv : Option gV} (h : gPure y pc L st w pc1 L1 st1) (k : gFine d y pc1 L1 st1 w rv w') : gFine d y pc L st w rv w' := by
  obtain ⟨h1, h2, h3⟩ := h
  obtain ⟨k1, k2, k0, k4, k3⟩ := k
  refine ⟨k1, k2, k0, k4, fun Cx D dA A ad ls H locs cells slots Q hl hL hs hv hI hf hr hc hz kk => ?_⟩
  obtain ⟨hs1, hv1⟩ := h1 hI.2.2.2.2.1 hs hv
  refine h3 Cx D dA A ad ls H locs cells slots Q hl hs hv hI (by omega) (by omega) hL fun ls1 hl1 => ?_
  exact k3 Cx D dA A ad ls1 H locs cells slots Q hl1 (h2.trans hL) hs1 hv1 hI hf hr hc hz kk

theorem gp_iconst {y pc : Nat} {L : List (Option gV)} {rest : List gV} {w : gW} {n : Int} (hd : decode (gby y) pc = .ok (.iconst n, 1)) : gPure y pc L (rest) w (pc + 1) L (.inl (Int32.ofInt n) :: rest) := by
  refine ⟨fun hwf hs hv => ⟨hs.cons gVv.i, hv⟩, rfl, fun Cx D dA A ad ls H locs cells slots Q hl hs hv hI hf hr hL k => ?_⟩
  obtain ⟨hx, hb, hml, hrt, hown, hts, hlk, hnm⟩ := Cx
  exact lv_iconst hx hb hd rfl (k ls hl)
theorem gp_bipush {y pc : Nat} {L : List (Option gV)} {rest : List gV} {w : gW} {n : Int} (hd : decode (gby y) pc = .ok (.bipush n, 2)) : gPure y pc L (rest) w (pc + 2) L (.inl (Int8.ofInt n).toInt32 :: rest) := by
  refine ⟨fun hwf hs hv => ⟨hs.cons gVv.i, hv⟩, rfl, fun Cx D dA A ad ls H locs cells slots Q hl hs hv hI hf hr hL k => ?_⟩
  obtain ⟨hx, hb, hml, hrt, hown, hts, hlk, hnm⟩ := Cx
  exact lv_bipush hx hb hd rfl (k ls hl)
theorem gp_sipush {y pc : Nat} {L : List (Option gV)} {rest : List gV} {w : gW} {n : Int} (hd : decode (gby y) pc = .ok (.sipush n, 3)) : gPure y pc L (rest) w (pc + 3) L (.inl (Int16.ofInt n).toInt32 :: rest) := by
  refine ⟨fun hwf hs hv => ⟨hs.cons gVv.i, hv⟩, rfl, fun Cx D dA A ad ls H locs cells slots Q hl hs hv hI hf hr hL k => ?_⟩
  obtain ⟨hx, hb, hml, hrt, hown, hts, hlk, hnm⟩ := Cx
  exact lv_sipush hx hb hd rfl (k ls hl)
theorem gp_lconst {y pc : Nat} {L : List (Option gV)} {rest : List gV} {w : gW} {n : Fin 2} (hd : decode (gby y) pc = .ok (.lconst n, 1)) : gPure y pc L (rest) w (pc + 1) L (.inr (.inl (Int64.ofNat (n : Nat))) :: rest) := by
  refine ⟨fun hwf hs hv => ⟨hs.cons gVv.l, hv⟩, rfl, fun Cx D dA A ad ls H locs cells slots Q hl hs hv hI hf hr hL k => ?_⟩
  obtain ⟨hx, hb, hml, hrt, hown, hts, hlk, hnm⟩ := Cx
  exact lv_lconst hx hb hd rfl (k ls hl)
theorem gp_ldc {y pc : Nat} {L : List (Option gV)} {rest : List gV} {w : gW} {i : Nat} {v : Int32} (hd : decode (gby y) pc = .ok (.ldc i, 2)) (hc : Cond.constant (gme y).cls i v ∈ gWS) : gPure y pc L (rest) w (pc + 2) L (.inl v :: rest) := by
  refine ⟨fun hwf hs hv => ⟨hs.cons gVv.i, hv⟩, rfl, fun Cx D dA A ad ls H locs cells slots Q hl hs hv hI hf hr hL k => ?_⟩
  obtain ⟨hx, hb, hml, hrt, hown, hts, hlk, hnm⟩ := Cx
  exact lv_ldc hx hb hown (hts _ hc) hd (k ls hl)
theorem gp_ldcw {y pc : Nat} {L : List (Option gV)} {rest : List gV} {w : gW} {i : Nat} {v : Int32} (hd : decode (gby y) pc = .ok (.ldc_w i, 3)) (hc : Cond.constant (gme y).cls i v ∈ gWS) : gPure y pc L (rest) w (pc + 3) L (.inl v :: rest) := by
  refine ⟨fun hwf hs hv => ⟨hs.cons gVv.i, hv⟩, rfl, fun Cx D dA A ad ls H locs cells slots Q hl hs hv hI hf hr hL k => ?_⟩
  obtain ⟨hx, hb, hml, hrt, hown, hts, hlk, hnm⟩ := Cx
  exact lv_ldcw hx hb hown (hts _ hc) hd (k ls hl)
theorem gp_ldc2 {y pc : Nat} {L : List (Option gV)} {rest : List gV} {w : gW} {i : Nat} {v : Int64} (hd : decode (gby y) pc = .ok (.ldc2_w i, 3)) (hc : Cond.constantLong (gme y).cls i v ∈ gWS) : gPure y pc L (rest) w (pc + 3) L (.inr (.inl v) :: rest) := by
  refine ⟨fun hwf hs hv => ⟨hs.cons gVv.l, hv⟩, rfl, fun Cx D dA A ad ls H locs cells slots Q hl hs hv hI hf hr hL k => ?_⟩
  obtain ⟨hx, hb, hml, hrt, hown, hts, hlk, hnm⟩ := Cx
  exact lv_ldc2 hx hb hown (hts _ hc) hd (k ls hl)
theorem gp_iadd {y pc : Nat} {L : List (Option gV)} {rest : List gV} {w : gW} {x y1 : Int32} (hd : decode (gby y) pc = .ok (.iadd, 1)) : gPure y pc L (.inl y1 :: .inl x :: rest) w (pc + 1) L (.inl (x + y1) :: rest) := by
  refine ⟨fun hwf hs hv => ⟨hs.tl.tl.cons gVv.i, hv⟩, rfl, fun Cx D dA A ad ls H locs cells slots Q hl hs hv hI hf hr hL k => ?_⟩
  obtain ⟨hx, hb, hml, hrt, hown, hts, hlk, hnm⟩ := Cx
  exact lv_iadd hx hb hd (k ls hl)
theorem gp_isub {y pc : Nat} {L : List (Option gV)} {rest : List gV} {w : gW} {x y1 : Int32} (hd : decode (gby y) pc = .ok (.isub, 1)) : gPure y pc L (.inl y1 :: .inl x :: rest) w (pc + 1) L (.inl (x - y1) :: rest) := by
  refine ⟨fun hwf hs hv => ⟨hs.tl.tl.cons gVv.i, hv⟩, rfl, fun Cx D dA A ad ls H locs cells slots Q hl hs hv hI hf hr hL k => ?_⟩
  obtain ⟨hx, hb, hml, hrt, hown, hts, hlk, hnm⟩ := Cx
  exact lv_isub hx hb hd (k ls hl)
theorem gp_imul {y pc : Nat} {L : List (Option gV)} {rest : List gV} {w : gW} {x y1 : Int32} (hd : decode (gby y) pc = .ok (.imul, 1)) : gPure y pc L (.inl y1 :: .inl x :: rest) w (pc + 1) L (.inl (x * y1) :: rest) := by
  refine ⟨fun hwf hs hv => ⟨hs.tl.tl.cons gVv.i, hv⟩, rfl, fun Cx D dA A ad ls H locs cells slots Q hl hs hv hI hf hr hL k => ?_⟩
  obtain ⟨hx, hb, hml, hrt, hown, hts, hlk, hnm⟩ := Cx
  exact lv_imul hx hb hd (k ls hl)
theorem gp_iand {y pc : Nat} {L : List (Option gV)} {rest : List gV} {w : gW} {x y1 : Int32} (hd : decode (gby y) pc = .ok (.iand, 1)) : gPure y pc L (.inl y1 :: .inl x :: rest) w (pc + 1) L (.inl (x &&& y1) :: rest) := by
  refine ⟨fun hwf hs hv => ⟨hs.tl.tl.cons gVv.i, hv⟩, rfl, fun Cx D dA A ad ls H locs cells slots Q hl hs hv hI hf hr hL k => ?_⟩
  obtain ⟨hx, hb, hml, hrt, hown, hts, hlk, hnm⟩ := Cx
  exact lv_iand hx hb hd (k ls hl)
theorem gp_ior {y pc : Nat} {L : List (Option gV)} {rest : List gV} {w : gW} {x y1 : Int32} (hd : decode (gby y) pc = .ok (.ior, 1)) : gPure y pc L (.inl y1 :: .inl x :: rest) w (pc + 1) L (.inl (x ||| y1) :: rest) := by
  refine ⟨fun hwf hs hv => ⟨hs.tl.tl.cons gVv.i, hv⟩, rfl, fun Cx D dA A ad ls H locs cells slots Q hl hs hv hI hf hr hL k => ?_⟩
  obtain ⟨hx, hb, hml, hrt, hown, hts, hlk, hnm⟩ := Cx
  exact lv_ior hx hb hd (k ls hl)
theorem gp_ixor {y pc : Nat} {L : List (Option gV)} {rest : List gV} {w : gW} {x y1 : Int32} (hd : decode (gby y) pc = .ok (.ixor, 1)) : gPure y pc L (.inl y1 :: .inl x :: rest) w (pc + 1) L (.inl (x ^^^ y1) :: rest) := by
  refine ⟨fun hwf hs hv => ⟨hs.tl.tl.cons gVv.i, hv⟩, rfl, fun Cx D dA A ad ls H locs cells slots Q hl hs hv hI hf hr hL k => ?_⟩
  obtain ⟨hx, hb, hml, hrt, hown, hts, hlk, hnm⟩ := Cx
  exact lv_ixor hx hb hd (k ls hl)
theorem gp_ishl {y pc : Nat} {L : List (Option gV)} {rest : List gV} {w : gW} {x y1 : Int32} (hd : decode (gby y) pc = .ok (.ishl, 1)) : gPure y pc L (.inl y1 :: .inl x :: rest) w (pc + 1) L (.inl (x <<< (y1 &&& 31)) :: rest) := by
  refine ⟨fun hwf hs hv => ⟨hs.tl.tl.cons gVv.i, hv⟩, rfl, fun Cx D dA A ad ls H locs cells slots Q hl hs hv hI hf hr hL k => ?_⟩
  obtain ⟨hx, hb, hml, hrt, hown, hts, hlk, hnm⟩ := Cx
  exact lv_ishl hx hb hd (k ls hl)
theorem gp_ishr {y pc : Nat} {L : List (Option gV)} {rest : List gV} {w : gW} {x y1 : Int32} (hd : decode (gby y) pc = .ok (.ishr, 1)) : gPure y pc L (.inl y1 :: .inl x :: rest) w (pc + 1) L (.inl (x >>> (y1 &&& 31)) :: rest) := by
  refine ⟨fun hwf hs hv => ⟨hs.tl.tl.cons gVv.i, hv⟩, rfl, fun Cx D dA A ad ls H locs cells slots Q hl hs hv hI hf hr hL k => ?_⟩
  obtain ⟨hx, hb, hml, hrt, hown, hts, hlk, hnm⟩ := Cx
  exact lv_ishr hx hb hd (k ls hl)
theorem gp_iushr {y pc : Nat} {L : List (Option gV)} {rest : List gV} {w : gW} {x y1 : Int32} (hd : decode (gby y) pc = .ok (.iushr, 1)) : gPure y pc L (.inl y1 :: .inl x :: rest) w (pc + 1) L (.inl ((x.toUInt32 >>> (y1.toUInt32 &&& Int32.toUInt32 31)).toInt32) :: rest) := by
  refine ⟨fun hwf hs hv => ⟨hs.tl.tl.cons gVv.i, hv⟩, rfl, fun Cx D dA A ad ls H locs cells slots Q hl hs hv hI hf hr hL k => ?_⟩
  obtain ⟨hx, hb, hml, hrt, hown, hts, hlk, hnm⟩ := Cx
  exact lv_iushr hx hb hd rfl (k ls hl)
theorem gp_idiv {y pc : Nat} {L : List (Option gV)} {rest : List gV} {w : gW} {x y1 : Int32} (hd : decode (gby y) pc = .ok (.idiv, 1)) (hn : ¬ y1 = 0) : gPure y pc L (.inl y1 :: .inl x :: rest) w (pc + 1) L (.inl (x / y1) :: rest) := by
  refine ⟨fun hwf hs hv => ⟨hs.tl.tl.cons gVv.i, hv⟩, rfl, fun Cx D dA A ad ls H locs cells slots Q hl hs hv hI hf hr hL k => ?_⟩
  obtain ⟨hx, hb, hml, hrt, hown, hts, hlk, hnm⟩ := Cx
  exact lv_idiv hx hb hd hn (k ls hl)
theorem gp_irem {y pc : Nat} {L : List (Option gV)} {rest : List gV} {w : gW} {x y1 : Int32} (hd : decode (gby y) pc = .ok (.irem, 1)) (hn : ¬ y1 = 0) : gPure y pc L (.inl y1 :: .inl x :: rest) w (pc + 1) L (.inl (x - x / y1 * y1) :: rest) := by
  refine ⟨fun hwf hs hv => ⟨hs.tl.tl.cons gVv.i, hv⟩, rfl, fun Cx D dA A ad ls H locs cells slots Q hl hs hv hI hf hr hL k => ?_⟩
  obtain ⟨hx, hb, hml, hrt, hown, hts, hlk, hnm⟩ := Cx
  exact lv_irem hx hb hd hn (k ls hl)
theorem gp_ineg {y pc : Nat} {L : List (Option gV)} {rest : List gV} {w : gW} {x : Int32} (hd : decode (gby y) pc = .ok (.ineg, 1)) : gPure y pc L (.inl x :: rest) w (pc + 1) L (.inl (-x) :: rest) := by
  refine ⟨fun hwf hs hv => ⟨hs.tl.cons gVv.i, hv⟩, rfl, fun Cx D dA A ad ls H locs cells slots Q hl hs hv hI hf hr hL k => ?_⟩
  obtain ⟨hx, hb, hml, hrt, hown, hts, hlk, hnm⟩ := Cx
  exact lv_ineg hx hb hd (k ls hl)
theorem gp_ladd {y pc : Nat} {L : List (Option gV)} {rest : List gV} {w : gW} {x y1 : Int64} (hd : decode (gby y) pc = .ok (.ladd, 1)) : gPure y pc L (.inr (.inl y1) :: .inr (.inl x) :: rest) w (pc + 1) L (.inr (.inl (x + y1)) :: rest) := by
  refine ⟨fun hwf hs hv => ⟨hs.tl.tl.cons gVv.l, hv⟩, rfl, fun Cx D dA A ad ls H locs cells slots Q hl hs hv hI hf hr hL k => ?_⟩
  obtain ⟨hx, hb, hml, hrt, hown, hts, hlk, hnm⟩ := Cx
  exact lv_ladd hx hb hd (k ls hl)
theorem gp_lsub {y pc : Nat} {L : List (Option gV)} {rest : List gV} {w : gW} {x y1 : Int64} (hd : decode (gby y) pc = .ok (.lsub, 1)) : gPure y pc L (.inr (.inl y1) :: .inr (.inl x) :: rest) w (pc + 1) L (.inr (.inl (x - y1)) :: rest) := by
  refine ⟨fun hwf hs hv => ⟨hs.tl.tl.cons gVv.l, hv⟩, rfl, fun Cx D dA A ad ls H locs cells slots Q hl hs hv hI hf hr hL k => ?_⟩
  obtain ⟨hx, hb, hml, hrt, hown, hts, hlk, hnm⟩ := Cx
  exact lv_lsub hx hb hd (k ls hl)
theorem gp_lmul {y pc : Nat} {L : List (Option gV)} {rest : List gV} {w : gW} {x y1 : Int64} (hd : decode (gby y) pc = .ok (.lmul, 1)) : gPure y pc L (.inr (.inl y1) :: .inr (.inl x) :: rest) w (pc + 1) L (.inr (.inl (x * y1)) :: rest) := by
  refine ⟨fun hwf hs hv => ⟨hs.tl.tl.cons gVv.l, hv⟩, rfl, fun Cx D dA A ad ls H locs cells slots Q hl hs hv hI hf hr hL k => ?_⟩
  obtain ⟨hx, hb, hml, hrt, hown, hts, hlk, hnm⟩ := Cx
  exact lv_lmul hx hb hd (k ls hl)
theorem gp_land {y pc : Nat} {L : List (Option gV)} {rest : List gV} {w : gW} {x y1 : Int64} (hd : decode (gby y) pc = .ok (.land, 1)) : gPure y pc L (.inr (.inl y1) :: .inr (.inl x) :: rest) w (pc + 1) L (.inr (.inl (x &&& y1)) :: rest) := by
  refine ⟨fun hwf hs hv => ⟨hs.tl.tl.cons gVv.l, hv⟩, rfl, fun Cx D dA A ad ls H locs cells slots Q hl hs hv hI hf hr hL k => ?_⟩
  obtain ⟨hx, hb, hml, hrt, hown, hts, hlk, hnm⟩ := Cx
  exact lv_land hx hb hd (k ls hl)
theorem gp_ldiv {y pc : Nat} {L : List (Option gV)} {rest : List gV} {w : gW} {x y1 : Int64} (hd : decode (gby y) pc = .ok (.ldiv, 1)) (hn : ¬ y1 = 0) : gPure y pc L (.inr (.inl y1) :: .inr (.inl x) :: rest) w (pc + 1) L (.inr (.inl (x / y1)) :: rest) := by
  refine ⟨fun hwf hs hv => ⟨hs.tl.tl.cons gVv.l, hv⟩, rfl, fun Cx D dA A ad ls H locs cells slots Q hl hs hv hI hf hr hL k => ?_⟩
  obtain ⟨hx, hb, hml, hrt, hown, hts, hlk, hnm⟩ := Cx
  exact lv_ldiv hx hb hd hn (k ls hl)
theorem gp_lrem {y pc : Nat} {L : List (Option gV)} {rest : List gV} {w : gW} {x y1 : Int64} (hd : decode (gby y) pc = .ok (.lrem, 1)) (hn : ¬ y1 = 0) : gPure y pc L (.inr (.inl y1) :: .inr (.inl x) :: rest) w (pc + 1) L (.inr (.inl (x - x / y1 * y1)) :: rest) := by
  refine ⟨fun hwf hs hv => ⟨hs.tl.tl.cons gVv.l, hv⟩, rfl, fun Cx D dA A ad ls H locs cells slots Q hl hs hv hI hf hr hL k => ?_⟩
  obtain ⟨hx, hb, hml, hrt, hown, hts, hlk, hnm⟩ := Cx
  exact lv_lrem hx hb hd hn (k ls hl)
theorem gp_lcmp {y pc : Nat} {L : List (Option gV)} {rest : List gV} {w : gW} {x y1 : Int64} (hd : decode (gby y) pc = .ok (.lcmp, 1)) : gPure y pc L (.inr (.inl y1) :: .inr (.inl x) :: rest) w (pc + 1) L (.inl (lg_cmp x y1) :: rest) := by
  refine ⟨fun hwf hs hv => ⟨hs.tl.tl.cons gVv.i, hv⟩, rfl, fun Cx D dA A ad ls H locs cells slots Q hl hs hv hI hf hr hL k => ?_⟩
  obtain ⟨hx, hb, hml, hrt, hown, hts, hlk, hnm⟩ := Cx
  exact W.lcmp hx hb hd (k ls hl)
theorem gp_i2l {y pc : Nat} {L : List (Option gV)} {rest : List gV} {w : gW} {x : Int32} (hd : decode (gby y) pc = .ok (.i2l, 1)) : gPure y pc L (.inl x :: rest) w (pc + 1) L (.inr (.inl x.toInt64) :: rest) := by
  refine ⟨fun hwf hs hv => ⟨hs.tl.cons gVv.l, hv⟩, rfl, fun Cx D dA A ad ls H locs cells slots Q hl hs hv hI hf hr hL k => ?_⟩
  obtain ⟨hx, hb, hml, hrt, hown, hts, hlk, hnm⟩ := Cx
  exact lv_i2l hx hb hd rfl (k ls hl)
theorem gp_l2i {y pc : Nat} {L : List (Option gV)} {rest : List gV} {w : gW} {x : Int64} (hd : decode (gby y) pc = .ok (.l2i, 1)) : gPure y pc L (.inr (.inl x) :: rest) w (pc + 1) L (.inl x.toInt32 :: rest) := by
  refine ⟨fun hwf hs hv => ⟨hs.tl.cons gVv.i, hv⟩, rfl, fun Cx D dA A ad ls H locs cells slots Q hl hs hv hI hf hr hL k => ?_⟩
  obtain ⟨hx, hb, hml, hrt, hown, hts, hlk, hnm⟩ := Cx
  exact lv_l2i hx hb hd rfl (k ls hl)
theorem gp_i2c {y pc : Nat} {L : List (Option gV)} {rest : List gV} {w : gW} {x : Int32} (hd : decode (gby y) pc = .ok (.i2c, 1)) : gPure y pc L (.inl x :: rest) w (pc + 1) L (.inl (x.toUInt32 % 65536).toInt32 :: rest) := by
  refine ⟨fun hwf hs hv => ⟨hs.tl.cons gVv.i, hv⟩, rfl, fun Cx D dA A ad ls H locs cells slots Q hl hs hv hI hf hr hL k => ?_⟩
  obtain ⟨hx, hb, hml, hrt, hown, hts, hlk, hnm⟩ := Cx
  exact lv_i2c hx hb hd rfl (k ls hl)
theorem gp_i2b {y pc : Nat} {L : List (Option gV)} {rest : List gV} {w : gW} {x : Int32} (hd : decode (gby y) pc = .ok (.i2b, 1)) : gPure y pc L (.inl x :: rest) w (pc + 1) L (.inl x.toInt8.toInt32 :: rest) := by
  refine ⟨fun hwf hs hv => ⟨hs.tl.cons gVv.i, hv⟩, rfl, fun Cx D dA A ad ls H locs cells slots Q hl hs hv hI hf hr hL k => ?_⟩
  obtain ⟨hx, hb, hml, hrt, hown, hts, hlk, hnm⟩ := Cx
  exact lv_i2b hx hb hd rfl (k ls hl)
theorem gp_dup {y pc : Nat} {L : List (Option gV)} {rest : List gV} {w : gW} {v : gV} (hd : decode (gby y) pc = .ok (.dup, 1)) (hc : gcat v = 1) : gPure y pc L (v :: rest) w (pc + 1) L (v :: v :: rest) := by
  refine ⟨fun hwf hs hv => ⟨hs.cons hs.hd, hv⟩, rfl, fun Cx D dA A ad ls H locs cells slots Q hl hs hv hI hf hr hL k => ?_⟩
  obtain ⟨hx, hb, hml, hrt, hown, hts, hlk, hnm⟩ := Cx
  exact lv_dup hx hb hd ((gcv_cat ad v).trans hc) (k ls hl)
theorem gp_dup2 {y pc : Nat} {L : List (Option gV)} {rest : List gV} {w : gW} {v u : gV} (hd : decode (gby y) pc = .ok (.dup2, 1)) (hc : gcat v = 1) (hu : gcat u = 1) : gPure y pc L (v :: u :: rest) w (pc + 1) L (v :: u :: v :: u :: rest) := by
  refine ⟨fun hwf hs hv => ⟨(hs.cons hs.tl.hd).cons hs.hd, hv⟩, rfl, fun Cx D dA A ad ls H locs cells slots Q hl hs hv hI hf hr hL k => ?_⟩
  obtain ⟨hx, hb, hml, hrt, hown, hts, hlk, hnm⟩ := Cx
  exact lv_dup2_11 hx hb hd ((gcv_cat ad v).trans hc) ((gcv_cat ad u).trans hu) (k ls hl)
theorem gp_pop {y pc : Nat} {L : List (Option gV)} {rest : List gV} {w : gW} {v : gV} (hd : decode (gby y) pc = .ok (.pop, 1)) (hc : gcat v = 1) : gPure y pc L (v :: rest) w (pc + 1) L (rest) := by
  refine ⟨fun hwf hs hv => ⟨hs.tl, hv⟩, rfl, fun Cx D dA A ad ls H locs cells slots Q hl hs hv hI hf hr hL k => ?_⟩
  obtain ⟨hx, hb, hml, hrt, hown, hts, hlk, hnm⟩ := Cx
  exact lv_pop hx hb hd ((gcv_cat ad v).trans hc) (k ls hl)
theorem gtgt_of {pc : Nat} {off : Int} (h : 0 ≤ (pc : Int) + off) : (pc : Int) + off = (gtgt pc off : Int) := by unfold gtgt; omega
theorem gp_icmp_eq0 {y pc : Nat} {L : List (Option gV)} {rest : List gV} {w : gW} {off : Int} {x y1 : Int32} (hd : decode (gby y) pc = .ok (.if_icmp .eq off, 3)) (ho : 0 ≤ (pc : Int) + off) (hc : x = y1) : gPure y pc L (.inl y1 :: .inl x :: rest) w (gtgt pc off) L rest := by
  refine ⟨fun hwf hs hv => ⟨hs.tl.tl, hv⟩, rfl, fun Cx D dA A ad ls H locs cells slots Q hl hs hv hI hf hr hL k => ?_⟩
  obtain ⟨hx, hb, hml, hrt, hown, hts, hlk, hnm⟩ := Cx
  exact lv_icmp_eq hx hb hd (gtgt_of ho) (fun _ => k ls hl) (fun hn => absurd hc hn)
theorem gp_icmp_eq1 {y pc : Nat} {L : List (Option gV)} {rest : List gV} {w : gW} {off : Int} {x y1 : Int32} (hd : decode (gby y) pc = .ok (.if_icmp .eq off, 3)) (ho : 0 ≤ (pc : Int) + off) (hc : ¬ (x = y1)) : gPure y pc L (.inl y1 :: .inl x :: rest) w (pc + 3) L rest := by
  refine ⟨fun hwf hs hv => ⟨hs.tl.tl, hv⟩, rfl, fun Cx D dA A ad ls H locs cells slots Q hl hs hv hI hf hr hL k => ?_⟩
  obtain ⟨hx, hb, hml, hrt, hown, hts, hlk, hnm⟩ := Cx
  exact lv_icmp_eq hx hb hd (gtgt_of ho) (fun hn => absurd hn hc) (fun _ => k ls hl)
theorem gp_icmp_ne0 {y pc : Nat} {L : List (Option gV)} {rest : List gV} {w : gW} {off : Int} {x y1 : Int32} (hd : decode (gby y) pc = .ok (.if_icmp .ne off, 3)) (ho : 0 ≤ (pc : Int) + off) (hc : ¬ x = y1) : gPure y pc L (.inl y1 :: .inl x :: rest) w (gtgt pc off) L rest := by
  refine ⟨fun hwf hs hv => ⟨hs.tl.tl, hv⟩, rfl, fun Cx D dA A ad ls H locs cells slots Q hl hs hv hI hf hr hL k => ?_⟩
  obtain ⟨hx, hb, hml, hrt, hown, hts, hlk, hnm⟩ := Cx
  exact lv_icmp_ne hx hb hd (gtgt_of ho) (fun _ => k ls hl) (fun hn => absurd hn hc)
theorem gp_icmp_ne1 {y pc : Nat} {L : List (Option gV)} {rest : List gV} {w : gW} {off : Int} {x y1 : Int32} (hd : decode (gby y) pc = .ok (.if_icmp .ne off, 3)) (ho : 0 ≤ (pc : Int) + off) (hc : ¬ (¬ x = y1)) : gPure y pc L (.inl y1 :: .inl x :: rest) w (pc + 3) L rest := by
  refine ⟨fun hwf hs hv => ⟨hs.tl.tl, hv⟩, rfl, fun Cx D dA A ad ls H locs cells slots Q hl hs hv hI hf hr hL k => ?_⟩
  obtain ⟨hx, hb, hml, hrt, hown, hts, hlk, hnm⟩ := Cx
  exact lv_icmp_ne hx hb hd (gtgt_of ho) (fun hn => absurd hn hc) (fun _ => k ls hl)
theorem gp_icmp_lt0 {y pc : Nat} {L : List (Option gV)} {rest : List gV} {w : gW} {off : Int} {x y1 : Int32} (hd : decode (gby y) pc = .ok (.if_icmp .lt off, 3)) (ho : 0 ≤ (pc : Int) + off) (hc : x < y1) : gPure y pc L (.inl y1 :: .inl x :: rest) w (gtgt pc off) L rest := by
  refine ⟨fun hwf hs hv => ⟨hs.tl.tl, hv⟩, rfl, fun Cx D dA A ad ls H locs cells slots Q hl hs hv hI hf hr hL k => ?_⟩
  obtain ⟨hx, hb, hml, hrt, hown, hts, hlk, hnm⟩ := Cx
  exact lv_icmp_lt hx hb hd (gtgt_of ho) (fun _ => k ls hl) (fun hn => absurd hc hn)
theorem gp_icmp_lt1 {y pc : Nat} {L : List (Option gV)} {rest : List gV} {w : gW} {off : Int} {x y1 : Int32} (hd : decode (gby y) pc = .ok (.if_icmp .lt off, 3)) (ho : 0 ≤ (pc : Int) + off) (hc : ¬ (x < y1)) : gPure y pc L (.inl y1 :: .inl x :: rest) w (pc + 3) L rest := by
  refine ⟨fun hwf hs hv => ⟨hs.tl.tl, hv⟩, rfl, fun Cx D dA A ad ls H locs cells slots Q hl hs hv hI hf hr hL k => ?_⟩
  obtain ⟨hx, hb, hml, hrt, hown, hts, hlk, hnm⟩ := Cx
  exact lv_icmp_lt hx hb hd (gtgt_of ho) (fun hn => absurd hn hc) (fun _ => k ls hl)
theorem gp_icmp_ge0 {y pc : Nat} {L : List (Option gV)} {rest : List gV} {w : gW} {off : Int} {x y1 : Int32} (hd : decode (gby y) pc = .ok (.if_icmp .ge off, 3)) (ho : 0 ≤ (pc : Int) + off) (hc : y1 ≤ x) : gPure y pc L (.inl y1 :: .inl x :: rest) w (gtgt pc off) L rest := by
  refine ⟨fun hwf hs hv => ⟨hs.tl.tl, hv⟩, rfl, fun Cx D dA A ad ls H locs cells slots Q hl hs hv hI hf hr hL k => ?_⟩
  obtain ⟨hx, hb, hml, hrt, hown, hts, hlk, hnm⟩ := Cx
  exact lv_icmp_ge hx hb hd (gtgt_of ho) (fun _ => k ls hl) (fun hn => absurd hc hn)
theorem gp_icmp_ge1 {y pc : Nat} {L : List (Option gV)} {rest : List gV} {w : gW} {off : Int} {x y1 : Int32} (hd : decode (gby y) pc = .ok (.if_icmp .ge off, 3)) (ho : 0 ≤ (pc : Int) + off) (hc : ¬ (y1 ≤ x)) : gPure y pc L (.inl y1 :: .inl x :: rest) w (pc + 3) L rest := by
  refine ⟨fun hwf hs hv => ⟨hs.tl.tl, hv⟩, rfl, fun Cx D dA A ad ls H locs cells slots Q hl hs hv hI hf hr hL k => ?_⟩
  obtain ⟨hx, hb, hml, hrt, hown, hts, hlk, hnm⟩ := Cx
  exact lv_icmp_ge hx hb hd (gtgt_of ho) (fun hn => absurd hn hc) (fun _ => k ls hl)
theorem gp_icmp_gt0 {y pc : Nat} {L : List (Option gV)} {rest : List gV} {w : gW} {off : Int} {x y1 : Int32} (hd : decode (gby y) pc = .ok (.if_icmp .gt off, 3)) (ho : 0 ≤ (pc : Int) + off) (hc : y1 < x) : gPure y pc L (.inl y1 :: .inl x :: rest) w (gtgt pc off) L rest := by
  refine ⟨fun hwf hs hv => ⟨hs.tl.tl, hv⟩, rfl, fun Cx D dA A ad ls H locs cells slots Q hl hs hv hI hf hr hL k => ?_⟩
  obtain ⟨hx, hb, hml, hrt, hown, hts, hlk, hnm⟩ := Cx
  exact lv_icmp_gt hx hb hd (gtgt_of ho) (fun _ => k ls hl) (fun hn => absurd hc hn)
theorem gp_icmp_gt1 {y pc : Nat} {L : List (Option gV)} {rest : List gV} {w : gW} {off : Int} {x y1 : Int32} (hd : decode (gby y) pc = .ok (.if_icmp .gt off, 3)) (ho : 0 ≤ (pc : Int) + off) (hc : ¬ (y1 < x)) : gPure y pc L (.inl y1 :: .inl x :: rest) w (pc + 3) L rest := by
  refine ⟨fun hwf hs hv => ⟨hs.tl.tl, hv⟩, rfl, fun Cx D dA A ad ls H locs cells slots Q hl hs hv hI hf hr hL k => ?_⟩
  obtain ⟨hx, hb, hml, hrt, hown, hts, hlk, hnm⟩ := Cx
  exact lv_icmp_gt hx hb hd (gtgt_of ho) (fun hn => absurd hn hc) (fun _ => k ls hl)
theorem gp_icmp_le0 {y pc : Nat} {L : List (Option gV)} {rest : List gV} {w : gW} {off : Int} {x y1 : Int32} (hd : decode (gby y) pc = .ok (.if_icmp .le off, 3)) (ho : 0 ≤ (pc : Int) + off) (hc : x ≤ y1) : gPure y pc L (.inl y1 :: .inl x :: rest) w (gtgt pc off) L rest := by
  refine ⟨fun hwf hs hv => ⟨hs.tl.tl, hv⟩, rfl, fun Cx D dA A ad ls H locs cells slots Q hl hs hv hI hf hr hL k => ?_⟩
  obtain ⟨hx, hb, hml, hrt, hown, hts, hlk, hnm⟩ := Cx
  exact lv_icmp_le hx hb hd (gtgt_of ho) (fun _ => k ls hl) (fun hn => absurd hc hn)
theorem gp_icmp_le1 {y pc : Nat} {L : List (Option gV)} {rest : List gV} {w : gW} {off : Int} {x y1 : Int32} (hd : decode (gby y) pc = .ok (.if_icmp .le off, 3)) (ho : 0 ≤ (pc : Int) + off) (hc : ¬ (x ≤ y1)) : gPure y pc L (.inl y1 :: .inl x :: rest) w (pc + 3) L rest := by
  refine ⟨fun hwf hs hv => ⟨hs.tl.tl, hv⟩, rfl, fun Cx D dA A ad ls H locs cells slots Q hl hs hv hI hf hr hL k => ?_⟩
  obtain ⟨hx, hb, hml, hrt, hown, hts, hlk, hnm⟩ := Cx
  exact lv_icmp_le hx hb hd (gtgt_of ho) (fun hn => absurd hn hc) (fun _ => k ls hl)
theorem gp_if_eq0 {y pc : Nat} {L : List (Option gV)} {rest : List gV} {w : gW} {off : Int} {x : Int32} (hd : decode (gby y) pc = .ok (.ifCond .eq off, 3)) (ho : 0 ≤ (pc : Int) + off) (hc : x = 0) : gPure y pc L (.inl x :: rest) w (gtgt pc off) L rest := by
  refine ⟨fun hwf hs hv => ⟨hs.tl, hv⟩, rfl, fun Cx D dA A ad ls H locs cells slots Q hl hs hv hI hf hr hL k => ?_⟩
  obtain ⟨hx, hb, hml, hrt, hown, hts, hlk, hnm⟩ := Cx
  exact lv_if_eq hx hb hd (gtgt_of ho) (fun _ => k ls hl) (fun hn => absurd hc hn)
theorem gp_if_eq1 {y pc : Nat} {L : List (Option gV)} {rest : List gV} {w : gW} {off : Int} {x : Int32} (hd : decode (gby y) pc = .ok (.ifCond .eq off, 3)) (ho : 0 ≤ (pc : Int) + off) (hc : ¬ (x = 0)) : gPure y pc L (.inl x :: rest) w (pc + 3) L rest := by
  refine ⟨fun hwf hs hv => ⟨hs.tl, hv⟩, rfl, fun Cx D dA A ad ls H locs cells slots Q hl hs hv hI hf hr hL k => ?_⟩
  obtain ⟨hx, hb, hml, hrt, hown, hts, hlk, hnm⟩ := Cx
  exact lv_if_eq hx hb hd (gtgt_of ho) (fun hn => absurd hn hc) (fun _ => k ls hl)
theorem gp_if_ne0 {y pc : Nat} {L : List (Option gV)} {rest : List gV} {w : gW} {off : Int} {x : Int32} (hd : decode (gby y) pc = .ok (.ifCond .ne off, 3)) (ho : 0 ≤ (pc : Int) + off) (hc : ¬ x = 0) : gPure y pc L (.inl x :: rest) w (gtgt pc off) L rest := by
  refine ⟨fun hwf hs hv => ⟨hs.tl, hv⟩, rfl, fun Cx D dA A ad ls H locs cells slots Q hl hs hv hI hf hr hL k => ?_⟩
  obtain ⟨hx, hb, hml, hrt, hown, hts, hlk, hnm⟩ := Cx
  exact lv_if_ne hx hb hd (gtgt_of ho) (fun _ => k ls hl) (fun hn => absurd hn hc)
theorem gp_if_ne1 {y pc : Nat} {L : List (Option gV)} {rest : List gV} {w : gW} {off : Int} {x : Int32} (hd : decode (gby y) pc = .ok (.ifCond .ne off, 3)) (ho : 0 ≤ (pc : Int) + off) (hc : ¬ (¬ x = 0)) : gPure y pc L (.inl x :: rest) w (pc + 3) L rest := by
  refine ⟨fun hwf hs hv => ⟨hs.tl, hv⟩, rfl, fun Cx D dA A ad ls H locs cells slots Q hl hs hv hI hf hr hL k => ?_⟩
  obtain ⟨hx, hb, hml, hrt, hown, hts, hlk, hnm⟩ := Cx
  exact lv_if_ne hx hb hd (gtgt_of ho) (fun hn => absurd hn hc) (fun _ => k ls hl)
theorem gp_if_lt0 {y pc : Nat} {L : List (Option gV)} {rest : List gV} {w : gW} {off : Int} {x : Int32} (hd : decode (gby y) pc = .ok (.ifCond .lt off, 3)) (ho : 0 ≤ (pc : Int) + off) (hc : x < 0) : gPure y pc L (.inl x :: rest) w (gtgt pc off) L rest := by
  refine ⟨fun hwf hs hv => ⟨hs.tl, hv⟩, rfl, fun Cx D dA A ad ls H locs cells slots Q hl hs hv hI hf hr hL k => ?_⟩
  obtain ⟨hx, hb, hml, hrt, hown, hts, hlk, hnm⟩ := Cx
  exact lv_if_lt hx hb hd (gtgt_of ho) (fun _ => k ls hl) (fun hn => absurd hc hn)
theorem gp_if_lt1 {y pc : Nat} {L : List (Option gV)} {rest : List gV} {w : gW} {off : Int} {x : Int32} (hd : decode (gby y) pc = .ok (.ifCond .lt off, 3)) (ho : 0 ≤ (pc : Int) + off) (hc : ¬ (x < 0)) : gPure y pc L (.inl x :: rest) w (pc + 3) L rest := by
  refine ⟨fun hwf hs hv => ⟨hs.tl, hv⟩, rfl, fun Cx D dA A ad ls H locs cells slots Q hl hs hv hI hf hr hL k => ?_⟩
  obtain ⟨hx, hb, hml, hrt, hown, hts, hlk, hnm⟩ := Cx
  exact lv_if_lt hx hb hd (gtgt_of ho) (fun hn => absurd hn hc) (fun _ => k ls hl)
theorem gp_if_ge0 {y pc : Nat} {L : List (Option gV)} {rest : List gV} {w : gW} {off : Int} {x : Int32} (hd : decode (gby y) pc = .ok (.ifCond .ge off, 3)) (ho : 0 ≤ (pc : Int) + off) (hc : 0 ≤ x) : gPure y pc L (.inl x :: rest) w (gtgt pc off) L rest := by
  refine ⟨fun hwf hs hv => ⟨hs.tl, hv⟩, rfl, fun Cx D dA A ad ls H locs cells slots Q hl hs hv hI hf hr hL k => ?_⟩
  obtain ⟨hx, hb, hml, hrt, hown, hts, hlk, hnm⟩ := Cx
  exact lv_if_ge hx hb hd (gtgt_of ho) (fun _ => k ls hl) (fun hn => absurd hc hn)
theorem gp_if_ge1 {y pc : Nat} {L : List (Option gV)} {rest : List gV} {w : gW} {off : Int} {x : Int32} (hd : decode (gby y) pc = .ok (.ifCond .ge off, 3)) (ho : 0 ≤ (pc : Int) + off) (hc : ¬ (0 ≤ x)) : gPure y pc L (.inl x :: rest) w (pc + 3) L rest := by
  refine ⟨fun hwf hs hv => ⟨hs.tl, hv⟩, rfl, fun Cx D dA A ad ls H locs cells slots Q hl hs hv hI hf hr hL k => ?_⟩
  obtain ⟨hx, hb, hml, hrt, hown, hts, hlk, hnm⟩ := Cx
  exact lv_if_ge hx hb hd (gtgt_of ho) (fun hn => absurd hn hc) (fun _ => k ls hl)
theorem gp_if_gt0 {y pc : Nat} {L : List (Option gV)} {rest : List gV} {w : gW} {off : Int} {x : Int32} (hd : decode (gby y) pc = .ok (.ifCond .gt off, 3)) (ho : 0 ≤ (pc : Int) + off) (hc : 0 < x) : gPure y pc L (.inl x :: rest) w (gtgt pc off) L rest := by
  refine ⟨fun hwf hs hv => ⟨hs.tl, hv⟩, rfl, fun Cx D dA A ad ls H locs cells slots Q hl hs hv hI hf hr hL k => ?_⟩
  obtain ⟨hx, hb, hml, hrt, hown, hts, hlk, hnm⟩ := Cx
  exact lv_if_gt hx hb hd (gtgt_of ho) (fun _ => k ls hl) (fun hn => absurd hc hn)
theorem gp_if_gt1 {y pc : Nat} {L : List (Option gV)} {rest : List gV} {w : gW} {off : Int} {x : Int32} (hd : decode (gby y) pc = .ok (.ifCond .gt off, 3)) (ho : 0 ≤ (pc : Int) + off) (hc : ¬ (0 < x)) : gPure y pc L (.inl x :: rest) w (pc + 3) L rest := by
  refine ⟨fun hwf hs hv => ⟨hs.tl, hv⟩, rfl, fun Cx D dA A ad ls H locs cells slots Q hl hs hv hI hf hr hL k => ?_⟩
  obtain ⟨hx, hb, hml, hrt, hown, hts, hlk, hnm⟩ := Cx
  exact lv_if_gt hx hb hd (gtgt_of ho) (fun hn => absurd hn hc) (fun _ => k ls hl)
theorem gp_if_le0 {y pc : Nat} {L : List (Option gV)} {rest : List gV} {w : gW} {off : Int} {x : Int32} (hd : decode (gby y) pc = .ok (.ifCond .le off, 3)) (ho : 0 ≤ (pc : Int) + off) (hc : x ≤ 0) : gPure y pc L (.inl x :: rest) w (gtgt pc off) L rest := by
  refine ⟨fun hwf hs hv => ⟨hs.tl, hv⟩, rfl, fun Cx D dA A ad ls H locs cells slots Q hl hs hv hI hf hr hL k => ?_⟩
  obtain ⟨hx, hb, hml, hrt, hown, hts, hlk, hnm⟩ := Cx
  exact lv_if_le hx hb hd (gtgt_of ho) (fun _ => k ls hl) (fun hn => absurd hc hn)
theorem gp_if_le1 {y pc : Nat} {L : List (Option gV)} {rest : List gV} {w : gW} {off : Int} {x : Int32} (hd : decode (gby y) pc = .ok (.ifCond .le off, 3)) (ho : 0 ≤ (pc : Int) + off) (hc : ¬ (x ≤ 0)) : gPure y pc L (.inl x :: rest) w (pc + 3) L rest := by
  refine ⟨fun hwf hs hv => ⟨hs.tl, hv⟩, rfl, fun Cx D dA A ad ls H locs cells slots Q hl hs hv hI hf hr hL k => ?_⟩
  obtain ⟨hx, hb, hml, hrt, hown, hts, hlk, hnm⟩ := Cx
  exact lv_if_le hx hb hd (gtgt_of ho) (fun hn => absurd hn hc) (fun _ => k ls hl)
theorem gp_goto {y pc : Nat} {L : List (Option gV)} {rest : List gV} {w : gW} {off : Int} (hd : decode (gby y) pc = .ok (.goto off, 3)) (ho : 0 ≤ (pc : Int) + off) : gPure y pc L rest w (gtgt pc off) L rest := by
  refine ⟨fun hwf hs hv => ⟨hs, hv⟩, rfl, fun Cx D dA A ad ls H locs cells slots Q hl hs hv hI hf hr hL k => ?_⟩
  obtain ⟨hx, hb, hml, hrt, hown, hts, hlk, hnm⟩ := Cx
  exact lv_goto hx hb hd (gtgt_of ho) (k ls hl)

theorem gp_iload_n {y pc : Nat} {L : List (Option gV)} {rest : List gV} {w : gW} {k : Fin 4} {x : Int32} (hd : decode (gby y) pc = .ok (.iload_n k, 1)) (hL0 : L[k.val]? = some (some (.inl x))) : gPure y pc L rest w (pc + 1) L (.inl x :: rest) := by
  refine ⟨fun hwf hs hv => ⟨hs.cons (hv _ _ hL0), hv⟩, rfl, fun Cx D dA A ad ls H locs cells slots Q hl hs hv hI hf hr hL k1 => ?_⟩
  obtain ⟨hx, hb, hml, hrt, hown, hts, hlk, hnm⟩ := Cx
  exact lv_iload_n hx hb hd rfl (hl.2.2 _ _ hL0) (k1 ls hl)
theorem gp_iload {y pc : Nat} {L : List (Option gV)} {rest : List gV} {w : gW} {i : Nat} {x : Int32} (hd : decode (gby y) pc = .ok (.iload i, 2)) (hL0 : L[i]? = some (some (.inl x))) : gPure y pc L rest w (pc + 2) L (.inl x :: rest) := by
  refine ⟨fun hwf hs hv => ⟨hs.cons (hv _ _ hL0), hv⟩, rfl, fun Cx D dA A ad ls H locs cells slots Q hl hs hv hI hf hr hL k1 => ?_⟩
  obtain ⟨hx, hb, hml, hrt, hown, hts, hlk, hnm⟩ := Cx
  exact lv_iload hx hb hd (hl.2.2 _ _ hL0) (k1 ls hl)
theorem gp_lload_n {y pc : Nat} {L : List (Option gV)} {rest : List gV} {w : gW} {k : Fin 4} {x : Int64} (hd : decode (gby y) pc = .ok (.lload_n k, 1)) (hL0 : L[k.val]? = some (some (.inr (.inl x)))) : gPure y pc L rest w (pc + 1) L (.inr (.inl x) :: rest) := by
  refine ⟨fun hwf hs hv => ⟨hs.cons (hv _ _ hL0), hv⟩, rfl, fun Cx D dA A ad ls H locs cells slots Q hl hs hv hI hf hr hL k1 => ?_⟩
  obtain ⟨hx, hb, hml, hrt, hown, hts, hlk, hnm⟩ := Cx
  exact lv_lload_n hx hb hd rfl (hl.2.2 _ _ hL0) (k1 ls hl)
theorem gp_lload {y pc : Nat} {L : List (Option gV)} {rest : List gV} {w : gW} {i : Nat} {x : Int64} (hd : decode (gby y) pc = .ok (.lload i, 2)) (hL0 : L[i]? = some (some (.inr (.inl x)))) : gPure y pc L rest w (pc + 2) L (.inr (.inl x) :: rest) := by
  refine ⟨fun hwf hs hv => ⟨hs.cons (hv _ _ hL0), hv⟩, rfl, fun Cx D dA A ad ls H locs cells slots Q hl hs hv hI hf hr hL k1 => ?_⟩
  obtain ⟨hx, hb, hml, hrt, hown, hts, hlk, hnm⟩ := Cx
  exact lv_lload hx hb hd (hl.2.2 _ _ hL0) (k1 ls hl)
theorem gp_aload_n {y pc : Nat} {L : List (Option gV)} {rest : List gV} {w : gW} {k : Fin 4} {x : gNm} (hd : decode (gby y) pc = .ok (.aload_n k, 1)) (hL0 : L[k.val]? = some (some (.inr (.inr (some x))))) : gPure y pc L rest w (pc + 1) L (.inr (.inr (some x)) :: rest) := by
  refine ⟨fun hwf hs hv => ⟨hs.cons (hv _ _ hL0), hv⟩, rfl, fun Cx D dA A ad ls H locs cells slots Q hl hs hv hI hf hr hL k1 => ?_⟩
  obtain ⟨hx, hb, hml, hrt, hown, hts, hlk, hnm⟩ := Cx
  exact lv_aload_n hx hb hd rfl (hl.2.2 _ _ hL0) (k1 ls hl)
theorem gp_aload {y pc : Nat} {L : List (Option gV)} {rest : List gV} {w : gW} {i : Nat} {x : gNm} (hd : decode (gby y) pc = .ok (.aload i, 2)) (hL0 : L[i]? = some (some (.inr (.inr (some x))))) : gPure y pc L rest w (pc + 2) L (.inr (.inr (some x)) :: rest) := by
  refine ⟨fun hwf hs hv => ⟨hs.cons (hv _ _ hL0), hv⟩, rfl, fun Cx D dA A ad ls H locs cells slots Q hl hs hv hI hf hr hL k1 => ?_⟩
  obtain ⟨hx, hb, hml, hrt, hown, hts, hlk, hnm⟩ := Cx
  exact lv_aload hx hb hd (hl.2.2 _ _ hL0) (k1 ls hl)
theorem gp_istore_n {y pc : Nat} {L L1 : List (Option gV)} {rest : List gV} {w : gW} {k : Fin 4} {x : Int32} (hd : decode (gby y) pc = .ok (.istore_n k, 1)) (hL1 : gset1 L k.val (.inl x) = some L1) : gPure y pc L (.inl x :: rest) w (pc + 1) L1 rest := by
  have h9 := gset1_spec hL1
  refine ⟨fun hwf hs hv => ⟨hs.tl, fun j u hu => if e : j = k.val then (by subst e; rw [h9.2.2.1] at hu; cases hu; exact hs.hd) else hv j u (h9.2.2.2 j u e hu).1⟩, h9.2.1, fun Cx D dA A ad ls H locs cells slots Q hl hs hv hI hf hr hL k1 => ?_⟩
  obtain ⟨hx, hb, hml, hrt, hown, hts, hlk, hnm⟩ := Cx
  exact lv_istore_n hx hb hd rfl hl.has h9.1 rfl (fun ls1 h8 => k1 ls1 (gLv.set1 hL1 h8))
theorem gp_istore {y pc : Nat} {L L1 : List (Option gV)} {rest : List gV} {w : gW} {i : Nat} {x : Int32} (hd : decode (gby y) pc = .ok (.istore i, 2)) (hL1 : gset1 L i (.inl x) = some L1) : gPure y pc L (.inl x :: rest) w (pc + 2) L1 rest := by
  have h9 := gset1_spec hL1
  refine ⟨fun hwf hs hv => ⟨hs.tl, fun j u hu => if e : j = i then (by subst e; rw [h9.2.2.1] at hu; cases hu; exact hs.hd) else hv j u (h9.2.2.2 j u e hu).1⟩, h9.2.1, fun Cx D dA A ad ls H locs cells slots Q hl hs hv hI hf hr hL k1 => ?_⟩
  obtain ⟨hx, hb, hml, hrt, hown, hts, hlk, hnm⟩ := Cx
  exact lv_istore hx hb hd hl.has h9.1 rfl (fun ls1 h8 => k1 ls1 (gLv.set1 hL1 h8))
theorem gp_lstore_n {y pc : Nat} {L L1 : List (Option gV)} {rest : List gV} {w : gW} {k : Fin 4} {x : Int64} (hd : decode (gby y) pc = .ok (.lstore_n k, 1)) (hL1 : gset2 L k.val (.inr (.inl x)) = some L1) : gPure y pc L (.inr (.inl x) :: rest) w (pc + 1) L1 rest := by
  have h9 := gset2_spec hL1
  refine ⟨fun hwf hs hv => ⟨hs.tl, fun j u hu => if e : j = k.val then (by subst e; rw [h9.2.2.1] at hu; cases hu; exact hs.hd) else hv j u (h9.2.2.2 j u e hu).2.1⟩, h9.2.1, fun Cx D dA A ad ls H locs cells slots Q hl hs hv hI hf hr hL k1 => ?_⟩
  obtain ⟨hx, hb, hml, hrt, hown, hts, hlk, hnm⟩ := Cx
  exact lv_lstore_n hx hb hd rfl hl.has h9.1 rfl (fun ls1 h8 => k1 ls1 (gLv.set2 hL1 h8))
theorem gp_lstore {y pc : Nat} {L L1 : List (Option gV)} {rest : List gV} {w : gW} {i : Nat} {x : Int64} (hd : decode (gby y) pc = .ok (.lstore i, 2)) (hL1 : gset2 L i (.inr (.inl x)) = some L1) : gPure y pc L (.inr (.inl x) :: rest) w (pc + 2) L1 rest := by
  have h9 := gset2_spec hL1
  refine ⟨fun hwf hs hv => ⟨hs.tl, fun j u hu => if e : j = i then (by subst e; rw [h9.2.2.1] at hu; cases hu; exact hs.hd) else hv j u (h9.2.2.2 j u e hu).2.1⟩, h9.2.1, fun Cx D dA A ad ls H locs cells slots Q hl hs hv hI hf hr hL k1 => ?_⟩
  obtain ⟨hx, hb, hml, hrt, hown, hts, hlk, hnm⟩ := Cx
  exact lv_lstore hx hb hd hl.has h9.1 rfl (fun ls1 h8 => k1 ls1 (gLv.set2 hL1 h8))
theorem gp_astore_n {y pc : Nat} {L L1 : List (Option gV)} {rest : List gV} {w : gW} {k : Fin 4} {x : gNm} (hd : decode (gby y) pc = .ok (.astore_n k, 1)) (hL1 : gset1 L k.val (.inr (.inr (some x))) = some L1) : gPure y pc L (.inr (.inr (some x)) :: rest) w (pc + 1) L1 rest := by
  have h9 := gset1_spec hL1
  refine ⟨fun hwf hs hv => ⟨hs.tl, fun j u hu => if e : j = k.val then (by subst e; rw [h9.2.2.1] at hu; cases hu; exact hs.hd) else hv j u (h9.2.2.2 j u e hu).1⟩, h9.2.1, fun Cx D dA A ad ls H locs cells slots Q hl hs hv hI hf hr hL k1 => ?_⟩
  obtain ⟨hx, hb, hml, hrt, hown, hts, hlk, hnm⟩ := Cx
  exact lv_astore_n hx hb hd rfl hl.has h9.1 rfl (fun ls1 h8 => k1 ls1 (gLv.set1 hL1 h8))
theorem gp_astore {y pc : Nat} {L L1 : List (Option gV)} {rest : List gV} {w : gW} {i : Nat} {x : gNm} (hd : decode (gby y) pc = .ok (.astore i, 2)) (hL1 : gset1 L i (.inr (.inr (some x))) = some L1) : gPure y pc L (.inr (.inr (some x)) :: rest) w (pc + 2) L1 rest := by
  have h9 := gset1_spec hL1
  refine ⟨fun hwf hs hv => ⟨hs.tl, fun j u hu => if e : j = i then (by subst e; rw [h9.2.2.1] at hu; cases hu; exact hs.hd) else hv j u (h9.2.2.2 j u e hu).1⟩, h9.2.1, fun Cx D dA A ad ls H locs cells slots Q hl hs hv hI hf hr hL k1 => ?_⟩
  obtain ⟨hx, hb, hml, hrt, hown, hts, hlk, hnm⟩ := Cx
  exact lv_astore hx hb hd hl.has h9.1 rfl (fun ls1 h8 => k1 ls1 (gLv.set1 hL1 h8))
theorem gp_iinc {y pc : Nat} {L : List (Option gV)} {rest : List gV} {w : gW} {i : Nat} {n : Int} {x : Int32} (hd : decode (gby y) pc = .ok (.iinc i n, 3)) (hL0 : L[i]? = some (some (.inl x))) : gPure y pc L rest w (pc + 3) (L.set i (some (.inl (x + Int32.ofInt n)))) rest := by
  have hi : i < L.length := (List.getElem?_eq_some_iff.mp hL0).1
  refine ⟨fun hwf hs hv => ⟨hs, fun j u hu => ?_⟩, by simp, fun Cx D dA A ad ls H locs cells slots Q hl hs hv hI hf hr hL k1 => ?_⟩
  · by_cases e : j = i
    · subst e
      rw [List.getElem?_set_self hi] at hu
      cases hu
      exact gVv.i
    · rw [List.getElem?_set_ne (Ne.symm e)] at hu
      exact hv j u hu
  · obtain ⟨hx, hb, hml, hrt, hown, hts, hlk, hnm⟩ := Cx
    obtain ⟨q, hq⟩ := List.getElem?_of_mem (gas_mem (ad := ad) hL0)
    refine lv_iinc hx hb hd hl.has hq rfl hi rfl (fun ls1 h8 => k1 ls1 ?_)
    refine ⟨by rw [List.length_set]; exact h8.1, h8.2.1, fun j u hu => ?_⟩
    by_cases e : j = i
    · subst e
      rw [List.getElem?_set_self hi] at hu
      cases hu
      exact h8.2.2 _ List.mem_cons_self
    · rw [List.getElem?_set_ne (Ne.symm e)] at hu
      by_cases e2 : j + 1 = i ∧ gcat u = 2
      · exfalso
        have h1 := hl.2.2 j u hu
        have h2 := hl.2.1.1 j (gcv ad u) h1 (by rw [gcv_cat]; exact e2.2)
        have h3 := hl.2.2 i _ hL0
        rw [e2.1] at h2
        rw [h3] at h2
        cases h2
      · refine h8.2.2 (j, gcv ad u) (List.mem_cons_of_mem _ (List.mem_filter.mpr ⟨gas_mem hu, ?_⟩))
        have h9 := gcv_cat ad u
        simp only [Bool.and_eq_true, Bool.not_eq_true', beq_eq_false_iff_ne, ne_eq, Bool.and_eq_false_iff]
        refine ⟨e, ?_⟩
        by_cases e3 : j + 1 = i
        · exact Or.inr (by rw [h9]; exact fun e4 => e2 ⟨e3, e4⟩)
        · exact Or.inl e3
