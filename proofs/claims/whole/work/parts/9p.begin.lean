/-! How a state begins. -/
variable {C : gCo}
theorem gBgN_hd : ∀ (k b : Nat) (w m : Int), (0 ≤ w → C.1 (10 + w.toNat) = m) → 0 ≤ (gBgN C k b w m).1 → C.1 (10 + (gBgN C k b w m).1.toNat) = (gBgN C k b w m).2
  | 0, _, _, _, h => h
  | k + 1, b, w, m, h => by
    by_cases y : (b : Int) < C.1 2 ∧ (w = -1 ∨ C.1 (10 + b) < m)
    · rw [show gBgN C (k + 1) b w m = gBgN C k (b + 1) b (C.1 (10 + b)) from if_pos y]
      exact gBgN_hd k (b + 1) b _ (fun _ => rfl)
    · rw [show gBgN C (k + 1) b w m = gBgN C k (b + 1) w m from if_neg y]
      exact gBgN_hd k (b + 1) w m h
theorem gBeg_hd (hc : cOk C) : tHd (gBeg C) := by
  have r1 := hc.2.1
  have r2 := hc.2.2.1
  have r := gBgN_r hc 8 0 (-1) 0 (by omega) (by omega)
  have hh := gBgN_hd (C := C) 8 0 (-1) 0 (fun e => absurd e (by decide))
  intro h0
  have h0' : 0 ≤ (gBgN C 8 0 (-1) 0).1 := h0
  have hb : (gBgN C 8 0 (-1) 0).1.toNat < 8 := by omega
  show gBeg C (10 + (gBgN C 8 0 (-1) 0).1.toNat) = (gBgN C 8 0 (-1) 0).2
  rw [← hh h0']
  generalize (gBgN C 8 0 (-1) 0).1.toNat = b at hb
  show (if 10 + b = 1 then (gBgN C 8 0 (-1) 0).2 else if 10 + b = 2 then C.1 4 else if 10 + b = 3 then (gBgN C 8 0 (-1) 0).1 else if 10 ≤ 10 + b ∧ 10 + b < 18 then C.1 (10 + b) else 0) = C.1 (10 + b)
  rw [if_neg (by omega), if_neg (by omega), if_neg (by omega), if_pos (by omega)]
theorem gBeg_ps : tPs C (gBeg C) := fun b hb => by
  have e : gBit 0 b = true := hb
  unfold gBit at e
  rw [show (0 : Int).toNat = 0 from rfl, Nat.zero_testBit] at e
  cases e
