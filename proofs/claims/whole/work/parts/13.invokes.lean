theorem gf_static {d y pc i z n : Nat} {L : List (Option gV)} {st as rest : List gV} {w w1 w' : gW} {rv1 rv : Option gV} (hd : decode (gby y) pc = .ok (.invokestatic i, 3)) (hk : gMk z n) (hn : as.length = n) (hst : st = as.reverse ++ rest) (hsz : (rest.map gcat).sum ≤ 8) (hfit : (gsl as).length ≤ (gmr z).1)
    (hl1 : Cond.methodLink (gme y).cls i (gme z) ∈ gWS) (hl2 : Cond.static (gme z) ∈ gWS) (c1 : gFine d z 0 (gent as (gmr z).1) [] w rv1 w1) (k : gFine (d + 1) y (pc + 3) L (rv1.toList ++ rest) w1 rv w') : gFine (d + 1) y pc L st w rv w' := by
  refine gGo (as := as) (rest := rest) (z := z) (gtake_vs hst) c1 ?_ hk.2.2.2.2.2.2 k
  intro p l e R s m args below meth c Cx D dA A ad ls H locs cells slots hl hL hs hI hf hr hc hz
  obtain ⟨hx, hb, hml, hrt, hown, hts, hlk1, hnm⟩ := Cx
  obtain ⟨hr1, hr2⟩ := gtake_vs hst hs
  have hM := gMet c1 hk hfit hr2 l D dA A ad
  subst hn
  have hgood : GoodIn gWS (va_wsS (gme y).cls i (gme z) (Cond.code (gme z) (gby z) (gmr z).1 (gmr z).2 :: gWS)) := gGood fun w hw => by
    rcases List.mem_append.mp hw with h | h
    · rcases List.mem_cons.mp h with rfl | h
      · exact hl1
      rcases List.mem_cons.mp h with rfl | h
      · exact hl2
      rcases List.mem_cons.mp h with rfl | h
      · exact hk.2.2.1
      cases h
    · exact (List.mem_cons.mp h).elim (fun e => e ▸ hk.2.1) id
  have cw := va_cwS (R := R) (args := args) (s := s) (mc := w1.1 - w.1) (ms := gsz w1 - gsz w) (rm := gRoom d w w1) as.length hts hgood rfl rfl rfl ⟨hk.2.2.2.1.1, hk.2.2.2.1.2, hk.2.2.2.2.1⟩ ⟨hf, hr⟩
  exact va_runS (As := as.map (gcv ad)) (rest := rest.map (gcv ad)) ⟨hx, hb, hml, hown, hts⟩ hM cw ⟨gAt.blind D dA A ad w _, fun U hU hW => ⟨rfl, hI.at hU hW⟩⟩ rfl (by simp) (hl.1.trans hL) (by rw [hst]; simp [F0]) (gsum hsz) hd ⟨hc, hz⟩
theorem gf_special {d y pc i z n : Nat} {L : List (Option gV)} {st as rest : List gV} {w w1 w' : gW} {rv1 rv : Option gV} {r : gNm} (hd : decode (gby y) pc = .ok (.invokespecial i, 3)) (hk : gMk z n) (hn : as.length = n) (hst : st = (.inr (.inr (some r)) :: as : List gV).reverse ++ rest) (hsz : (rest.map gcat).sum ≤ 8) (hfit : (gsl (.inr (.inr (some r)) :: as)).length ≤ (gmr z).1)
    (hl1 : Cond.methodLink (gme y).cls i (gme z) ∈ gWS) (hl2 : Cond.instanceMethod (gme z) ∈ gWS) (hin : (gme z).name = "<init>") (hret : (gmr z).2 = none) (c1 : gFine d z 0 (gent (.inr (.inr (some r)) :: as) (gmr z).1) [] w rv1 w1) (k : gFine (d + 1) y (pc + 3) L (rv1.toList ++ rest) w1 rv w') : gFine (d + 1) y pc L st w rv w' := by
  refine gGo (as := .inr (.inr (some r)) :: as) (rest := rest) (z := z) (gtake_vs hst) c1 ?_ hk.2.2.2.2.2.2 k
  intro p l e R s m args below meth c Cx D dA A ad ls H locs cells slots hl hL hs hI hf hr hc hz
  obtain ⟨hx, hb, hml, hrt, hown, hts, hlk1, hnm⟩ := Cx
  obtain ⟨hr1, hr2⟩ := gtake_vs hst hs
  have hM := gMet c1 hk hfit hr2 l D dA A ad
  subst hn
  rw [hret] at hM
  have hcode := hk.2.1
  rw [hret] at hcode
  have hgood : GoodIn gWS (Cond.code (gme z) (gby z) (gmr z).1 none :: gWS) := gGood fun w hw => (List.mem_cons.mp hw).elim (fun e => e ▸ hcode) id
  have cb : CallB R s args (gme y).cls i (gme z) (gby z) (gmr z).1 none (Cond.code (gme z) (gby z) (gmr z).1 none :: gWS) (gRoom d w w1) (w1.1 - w.1) (gsz w1 - gsz w) as.length := callB_of as.length hts hgood rfl rfl rfl (hts _ hk.2.2.1) (hts _ hl1) ⟨hk.2.2.2.1.1, hk.2.2.2.1.2, hk.2.2.2.2.1⟩ ⟨hf, hr⟩
  exact va_runI (b := ad r) (As := as.map (gcv ad)) (rest := rest.map (gcv ad)) ⟨hx, hb, hml, hown, hts⟩ hM ⟨cb, hin, hts _ hl2⟩ ⟨gAt.blind D dA A ad w _, fun U hU hW => ⟨rfl, hI.at hU hW⟩⟩ rfl (by simp) (hl.1.trans hL) (by rw [hst]; simp [F0, gcv, va_rf]) (gsum hsz) hd ⟨hc, hz⟩
theorem gf_virtual {d y pc i z n ci : Nat} {L : List (Option gV)} {st as rest : List gV} {w w1 w' : gW} {rv1 rv : Option gV} {r : gNm} (hd : decode (gby y) pc = .ok (.invokevirtual i, 3)) (hk : gMk z n) (hn : as.length = n) (hst : st = (.inr (.inr (some r)) :: as : List gV).reverse ++ rest) (hsz : (rest.map gcat).sum ≤ 8) (hfit : (gsl (.inr (.inr (some r)) :: as)).length ≤ (gmr z).1)
    (hrc : (∃ T N tys, vwCl[ci]? = some ((gme z).cls, T, N) ∧ gkd r.1 = some (.inl (ci, tys))) ∨ (r = (2, 0) ∧ (gme z).cls = "java/lang/String"))
    (hl1 : Cond.methodLink (gme y).cls i (gme z) ∈ gWS ∨ ∃ host, Cond.methodLinkNest (gme y).cls i (gme z) host ∈ gNest) (hl2 : Cond.instanceMethod (gme z) ∈ gWS) (hl3 : Cond.selects (gme z).cls (gme z) (gme z) ∈ gWS) (c1 : gFine d z 0 (gent (.inr (.inr (some r)) :: as) (gmr z).1) [] w rv1 w1) (k : gFine (d + 1) y (pc + 3) L (rv1.toList ++ rest) w1 rv w') : gFine (d + 1) y pc L st w rv w' := by
  refine gGo (as := .inr (.inr (some r)) :: as) (rest := rest) (z := z) (gtake_vs hst) c1 ?_ hk.2.2.2.2.2.2 k
  intro p l e R s m args below meth c Cx D dA A ad ls H locs cells slots hl hL hs hI hf hr hc hz
  obtain ⟨hx, hb, hml, hrt, hown, hts, hlk1, hnm⟩ := Cx
  obtain ⟨hr1, hr2⟩ := gtake_vs hst hs
  have hM := gMet c1 hk hfit hr2 l D dA A ad
  subst hn
  have hrecv : ∃ cellB : Cell, H[ad r]? = some cellB ∧ cellB.vm.isStatics = false ∧ s.vm.findClass (gme z).cls = some cellB.cls := by
    obtain ⟨hK, hP, hD, hE, hW, hS, hA⟩ := hI
    rcases hrc with ⟨T, N, tys, h1, h2⟩ | ⟨h1, h2⟩
    · obtain ⟨k0, h0, h9⟩ := gcell h2 (hr2 _ List.mem_cons_self r rfl)
      have he := gws_at (dA := dA) (ad := ad) h0 h9
      rw [gcont_obj h2] at he
      exact va_recv hK hP h1 he
    · subst h1
      rw [h2]
      have hO := hE.2.2.2.1
      have hO2 := hO.kept (H1 := H) (fun a ha hn => hS.2.1 a ha hn)
      obtain ⟨cell, a1, a2, a3, -⟩ := hO2
      exact ⟨cell, a1, a2, a3⟩
  have hp : PreV s H (gme z).cls (ad r) (va_Pc ((.inr (.inr (some r)) :: as : List gV).map (gcv ad)) (fun U => gAt D dA A ad w U)) (as.map (gcv ad)) := ⟨gAt.blind D dA A ad w _, hrecv, fun U hU hW => ⟨rfl, hI.at hU hW⟩⟩
  rcases hl1 with hl1 | ⟨host, hl1⟩
  · have hgood : GoodIn gWS (wsV (gme y).cls i (gme z).cls (gme z) (Cond.code (gme z) (gby z) (gmr z).1 (gmr z).2 :: gWS)) := gGood fun w hw => by
      rcases List.mem_append.mp hw with h | h
      · rcases List.mem_cons.mp h with rfl | h
        · exact hl1
        rcases List.mem_cons.mp h with rfl | h
        · exact hl2
        rcases List.mem_cons.mp h with rfl | h
        · exact hl3
        rcases List.mem_cons.mp h with rfl | h
        · exact hk.2.2.1
        cases h
      · exact (List.mem_cons.mp h).elim (fun e => e ▸ hk.2.1) id
    have cw := cwV (R := R) (args := args) (s := s) (mc := w1.1 - w.1) (ms := gsz w1 - gsz w) (rm := gRoom d w w1) as.length hts hgood rfl rfl rfl ⟨rfl, hk.2.2.2.1.1, hk.2.2.2.1.2, hk.2.2.2.2.1⟩ ⟨hf, hr⟩
    exact va_runV (b := ad r) (As := as.map (gcv ad)) (rest := rest.map (gcv ad)) ⟨hx, hb, hml, hown, hts⟩ hM cw hp rfl (by simp) (hl.1.trans hL) (by rw [hst]; simp [F0, gcv, va_rf]) (gsum hsz) hd ⟨hc, hz⟩
  · have cw := va_cnB (R := R) (args := args) (s := s) (mc := w1.1 - w.1) (ms := gsz w1 - gsz w) (rm := gRoom d w w1) as.length hts (gws_good z hk.2.1) rfl rfl rfl (hI.2.2.2.1.2.2.2.2.2.1 _ _ _ _ hl1) (hts _ hk.2.2.1) ⟨hk.2.2.2.1.1, hk.2.2.2.1.2, hk.2.2.2.2.1⟩ ⟨hf, hr⟩
    exact va_runVN (C := (gme z).cls) (b := ad r) (As := as.map (gcv ad)) (rest := rest.map (gcv ad)) ⟨hx, hb, hml, hown, hts⟩ hM ⟨cw, hts _ hl2, hts _ hl3⟩ hp rfl (by simp) (hl.1.trans hL) (by rw [hst]; simp [F0, gcv, va_rf]) (gsum hsz) hd ⟨hc, hz⟩
