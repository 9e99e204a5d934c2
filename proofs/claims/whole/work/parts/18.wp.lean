/-! What holds behind a run of the small machine. -/
section GMono
variable {kd : Nat → gKd} {ext : Nat → gKd} {nm : Nat → Option gNm} {stat : Nat → Option gV} {exf : Nat → Option (Nat × gV)}
theorem gsw_mono {β : Type} {K K' : Int → Option β} {r : β} (hK : ∀ o, K o = some r → K' o = some r) {dflt : Int} : ∀ (ps : List (Int × Int)) (x : Int32), gsw K dflt ps x = some r → gsw K' dflt ps x = some r
  | [], x => hK dflt
  | (v, off) :: ps, x => by
    unfold gsw
    split
    · exact hK off
    · exact gsw_mono hK ps x
set_option maxHeartbeats 4000000 in
theorem gex_mono {β : Type} {ret : Option FieldType} {op : gOp} {pc : Nat} {L : List (Option gV)} {st : List gV} {w : gW} {K K' : Nat → List (Option gV) → List gV → gW → Option β} {C C' : Nat → List gV → Nat → List gV → Option β} {Rt : Option gV → Option β} {r : β} (hK : ∀ a b c d, K a b c d = some r → K' a b c d = some r) (hC : ∀ a b c d, C a b c d = some r → C' a b c d = some r) : gex kd ext nm stat exf ret op pc L st w K C Rt = some r → gex kd ext nm stat exf ret op pc L st w K' C' Rt = some r := by
  unfold gex gld gst gpf
  split
  all_goals first
    | exact hK _ _ _ _
    | exact gsw_mono (fun _ => hK _ _ _ _) _ _
    | exact id
    | (repeat' split) <;> first | exact hK _ _ _ _ | exact hC _ _ _ _ | exact id | exact gsw_mono (fun _ => hK _ _ _ _) _ _ | (intro h; cases h)
end GMono
theorem gO_mono : ∀ (n d y pc : Nat) (L : List (Option gV)) (st : List gV) (w : gW) (r : Option gV × gW), gO n d y pc L st w = some r → gO (n + 1) d y pc L st w = some r := by
  intro n
  induction n with
  | zero => intro d y pc L st w r h; cases h
  | succ n ih =>
    intro d y pc L st w r h
    unfold gO go at h ⊢
    cases hop : gpr y pc with
    | none => rw [hop] at h; cases h
    | some op =>
      rw [hop] at h
      dsimp only at h ⊢
      refine gex_mono (fun a b c e h1 => ih d y a b c e r h1) (fun a b c e h1 => ?_) h
      cases d with
      | zero => cases h1
      | succ d' =>
        dsimp only at h1 ⊢
        cases hb : Nat.ble (gsl b).length (gmr a).1 with
        | false => rw [hb] at h1; cases h1
        | true =>
          rw [hb] at h1
          dsimp only [cond] at h1 ⊢
          split at h1
          · cases h1
          · rename_i rv1 w1 h2
            have h3 := ih d' a 0 _ _ _ _ h2
            rw [show go gkd gext gnm gstat gexf gpr gmr (n + 1) d' a 0 (gent b (gmr a).1) [] w = some (rv1, w1) from h3]
            exact ih (d' + 1) y c L (rv1.toList ++ e) w1 r h1
theorem gO_le {n m d y pc : Nat} {L : List (Option gV)} {st : List gV} {w : gW} {r : Option gV × gW} (hnm : n ≤ m) (h : gO n d y pc L st w = some r) : gO m d y pc L st w = some r := by
  obtain ⟨k, rfl⟩ := Nat.exists_eq_add_of_le hnm
  induction k with
  | zero => exact h
  | succ k ih => exact gO_mono _ _ _ _ _ _ _ _ (ih (Nat.le_add_right _ _))
def gq (d y pc : Nat) (L : List (Option gV)) (st : List gV) (w : gW) (Q : Option gV → gW → Prop) : Prop := ∃ (n : Nat) (rv : Option gV) (w' : gW), gO n d y pc L st w = some (rv, w') ∧ Q rv w'
abbrev gwd (S : Nat) (I : Nat → Nat → Nat → Int32) (J : Nat → Nat → Nat → Int64) (h : Nat × Option gNm) : gW := (127, S, I, J, gRT h)
/-- runs that come to what P says of what is wanted behind them -/
def gR (E : Nat → Option (Option gV × gW)) (P : (Option gV → gW → Prop) → Prop) : Prop := (∀ n r, E n = some r → E (n + 1) = some r) ∧ ∀ Q, (∃ (n : Nat) (rv : Option gV) (w' : gW), E n = some (rv, w') ∧ Q rv w') ↔ P Q
theorem gR_go {d y pc : Nat} {L : List (Option gV)} {st : List gV} {w : gW} : gR (fun n => gO n d y pc L st w) (gq d y pc L st w) := ⟨fun n r h => gO_mono _ _ _ _ _ _ _ _ h, fun _ => Iff.rfl⟩
theorem gR_none : gR (fun _ => none) (fun _ => False) := ⟨fun _ _ h => h, fun _ => ⟨fun ⟨_, _, _, h, _⟩ => (by cases h), fun h => False.elim h⟩⟩
theorem gR_ret {rv : Option gV} {w : gW} : gR (fun _ => some (rv, w)) (fun Q => Q rv w) := ⟨fun _ _ h => h, fun Q => ⟨fun ⟨_, _, _, h, hq⟩ => by cases h; exact hq, fun h => ⟨0, rv, w, rfl, h⟩⟩⟩
theorem gR_ite {c : Prop} [Decidable c] {A B : Nat → Option (Option gV × gW)} {P R : (Option gV → gW → Prop) → Prop} (hA : gR A P) (hB : gR B R) : gR (fun n => if c then A n else B n) (fun Q => if c then P Q else R Q) := by
  by_cases hc : c
  · simp only [if_pos hc]; exact hA
  · simp only [if_neg hc]; exact hB
theorem gR_if {c : Prop} [Decidable c] {A : Nat → Option (Option gV × gW)} {P : (Option gV → gW → Prop) → Prop} (hA : gR A P) : gR (fun n => if c then A n else none) (fun Q => c ∧ P Q) := by
  by_cases hc : c
  · simp only [if_pos hc, true_and, hc]; exact hA
  · simp only [if_neg hc, false_and, hc]; exact gR_none
theorem gR_ifn {c : Prop} [Decidable c] {A : Nat → Option (Option gV × gW)} {P : (Option gV → gW → Prop) → Prop} (hA : gR A P) : gR (fun n => if c then none else A n) (fun Q => ¬ c ∧ P Q) := by
  by_cases hc : c
  · simp only [if_pos hc, not_true_eq_false, false_and, hc]; exact gR_none
  · simp only [if_neg hc, not_false_eq_true, true_and, hc]; exact hA
theorem gR_call {d z y pc : Nat} {L0 L : List (Option gV)} {rest : List gV} {w : gW} : gR (fun n => match go gkd gext gnm gstat gexf gpr gmr n d z 0 L0 [] w with | none => none | some (rv, w') => go gkd gext gnm gstat gexf gpr gmr n (d + 1) y pc L (rv.toList ++ rest) w') (fun Q => gq d z 0 L0 [] w (fun rv w => gq (d + 1) y pc L (rv.toList ++ rest) w Q)) := by
  refine ⟨fun n r h => ?_, fun Q => ⟨fun ⟨n, rv, w', h, hq⟩ => ?_, fun ⟨n, rv, w', h, m, rv2, w2, h2, hq⟩ => ?_⟩⟩
  · dsimp only at h ⊢
    split at h
    · cases h
    · rename_i rv w' h1
      rw [show go gkd gext gnm gstat gexf gpr gmr (n + 1) d z 0 L0 [] w = some (rv, w') from gO_mono _ _ _ _ _ _ _ _ h1]
      exact gO_mono _ _ _ _ _ _ _ _ h
  · dsimp only at h
    split at h
    · cases h
    · rename_i rv1 w1 h1
      exact ⟨n, rv1, w1, h1, n, rv, w', h, hq⟩
  · refine ⟨max n m, rv2, w2, ?_, hq⟩
    dsimp only
    rw [show go gkd gext gnm gstat gexf gpr gmr (max n m) d z 0 L0 [] w = some (rv, w') from gO_le (Nat.le_max_left _ _) h]
    exact gO_le (Nat.le_max_right _ _) h2
theorem gR_blk {k d y pc : Nat} {L : List (Option gV)} {st : List gV} {w : gW} {E : Nat → Option (Option gV × gW)} {P : (Option gV → gW → Prop) → Prop} (hE : gR E P) (h : ∀ n, gO (n + k) d y pc L st w = E n) (Q : Option gV → gW → Prop) : gq d y pc L st w Q ↔ P Q := by
  rw [← hE.2 Q]
  constructor
  · rintro ⟨n, rv, w', h1, hq⟩
    exact ⟨n, rv, w', by rw [← h]; exact gO_le (Nat.le_add_right _ _) h1, hq⟩
  · rintro ⟨n, rv, w', h1, hq⟩
    exact ⟨n + k, rv, w', by rw [h]; exact h1, hq⟩
theorem go_iinc {n d y pc len k : Nat} {m : Int} {dat : List Nat} {L : List (Option gV)} {st : List gV} {w : gW} {x : Int32} (h : gpr y pc = some (.iinc k m, len, dat)) (hx : L[k]? = some (some (.inl x))) : gO (n + 1) d y pc L st w = gO n d y (pc + 3) (L.set k (some (.inl (x + Int32.ofInt m)))) st w := by
  unfold gO
  rw [go, h]
  unfold gex
  dsimp only
  rw [hx]
