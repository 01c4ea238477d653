theorem dInv.cells {d : Nat → Nat} (h : dInv d) : cells d ≤ 36 := Nat.le_trans (Nat.mul_le_mul h.1.1 h.1.2.1) (by decide)
theorem e12_tellingsOf {d : Nat → Nat} {c : Nat → Int32} (hd : dInv d) (hc : mRep d c) {x : Nat} (hx : x < 36) : f_X12_tellingsOf c 0 (iN x) = some (iN (tellOf d x)) := by
  have h3 := hd.1.2.2.2.1
  have h36 := hd.cells
  refine iter_run (d 3) (fun k (φ : Int32 → Int32 → Option Int32) => φ (iN (sm k (fun t => b1 (decide (d (64 + t) = x))))) (iN k) = some (iN (tellOf d x))) (by omega) (fun k F hk h => ?_) (fun F => ?_)
  · have ho := hd.2.2.2 k hk
    simp (disch := omega) only [g_X12_tellingsOf_5, f_X12_tellingsOf_48, hc 3 (by omega), hc (64 + k) (by omega), iN_lit, iN_add, iN_mul, iN_sub, iN_nn, ck_iN, iN_le, iN_lt, iN_eq, Nat.mul_zero, Nat.zero_add, Nat.add_zero, Nat.reduceMul, Nat.reduceAdd, Nat.reduceSub, Option.bind_some]
    rw [if_neg (by omega)]
    rw [sm_succ] at h
    by_cases e : d (64 + k) = x
    · rw [if_pos e]; simpa [b1, e] using h
    · rw [if_neg e]; simpa [b1, e] using h
  · simp (disch := omega) only [g_X12_tellingsOf_5, f_X12_tellingsOf_48, hc 3 (by omega), iN_lit, iN_add, iN_mul, iN_sub, iN_nn, ck_iN, iN_le, iN_lt, iN_eq, Nat.mul_zero, Nat.zero_add, Nat.add_zero, Nat.reduceMul, Nat.reduceAdd, Nat.reduceSub, Option.bind_some]
    rw [if_pos (by omega)]; rfl
