/-! Calls: what stands, and what is read. -/
/-- what the two charts' own numbers have to do with each other; L the tape's length, K whether deeds are kept -/
def sR (T Tm : Nat → Int32) (L : Int32) (K : Int32 × Int32) : Prop := T 14 = Tm 0 ∧ T 17 = Tm 10 ∧ T 18 = Tm 11 ∧ (T 10 = Tm 23 ∧ Tm 23 = K.2) ∧ Tm 8 = L ∧ Tm 33 = K.1
theorem upd_s {f : Nat → Int32} {k : Nat} {x : Int32} : upd f k x k = x := if_pos rfl
theorem upd_n {f : Nat → Int32} {k j : Nat} {x : Int32} (h : j ≠ k) : upd f k x j = f j := if_neg h
theorem sR_ok {T Tm : Nat → Int32} {L : Int32} {K : Int32 × Int32} (h : sR T Tm L K) : sR (upd T 14 0) (upd (upd Tm 1 0) 0 0) L K := ⟨rfl, h.2⟩
theorem sR_no {T Tm : Nat → Int32} {L w : Int32} {K : Int32 × Int32} (h : sR T Tm L K) : sR (upd T 14 w) (upd (upd (upd Tm 1 0) 0 0) 0 w) L K := ⟨rfl, h.2⟩
theorem sR_lk {T Tm : Nat → Int32} {L : Int32} {K : Int32 × Int32} (h : sR T Tm L K) : sR T (upd Tm 1 0) L K := h
theorem inR.ne {x : Int32} {n : Nat} (h : ¬ inR x n) (hn : n ≤ 2147483648) {j : Nat} (hj : j < n) : (x = iN j) = False := by
  apply eq_false
  rintro rfl
  exact h (by rw [inR_iN (by omega)]; exact hj)
theorem or_tab : ∀ k, k < 5 → ∀ a, a < 2 ^ k → ∀ b, b < 2 → (iN a ||| (iN b <<< (iN k &&& 31))) = iN (a + b * 2 ^ k) := by decide +kernel
theorem e12_heardOnes {d : Nat → Nat} {c : Nat → Int32} (hd : dInv d) (hc : mRep d c) : f_X12_heardOnes c = some (iN (hset d)) := by
  have hm := hd.many
  refine iter_run (d 2) (fun k (φ : Int32 → Int32 → Option Int32) => φ (iN (sm k (fun k => d (47 + k) * 2 ^ k))) (iN k) = some (iN (hset d))) (by omega) (fun k F hk h => ?_) (fun F => ?_)
  · have ht := hd.trav (show k < 5 by omega)
    have hl := hs_lt (f := fun k => d (47 + k)) k (fun j hj => (hd.trav (show j < 5 by omega)).2)
    have ho := or_tab k (by omega) _ hl (d (47 + k)) (by omega)
    simp only [iN_lit] at ho
    simp (disch := omega) only [g_X12_heardOnes_4, hc 2 (by omega), hc (47 + k) (by omega), letv, ho, iN_lit, iN_add, iN_mul, iN_sub, iN_nn, ck_iN, iN_le, iN_lt, iN_eq, Nat.mul_zero, Nat.zero_add, Nat.add_zero, Nat.reduceMul, Nat.reduceAdd, Nat.reduceSub, Option.bind_some]
    rw [if_neg (by omega)]
    exact h
  · simp (disch := omega) only [g_X12_heardOnes_4, hc 2 (by omega), iN_lit, iN_add, iN_mul, iN_sub, iN_nn, ck_iN, iN_le, iN_lt, iN_eq, Nat.mul_zero, Nat.zero_add, Nat.add_zero, Nat.reduceMul, Nat.reduceAdd, Nat.reduceSub, Option.bind_some]
    rw [if_pos (by omega)]
    rfl
section OPS1
variable {d : Nat → Nat} {c T T0 Tm V2 V3 V4 V5 V6 V7 V8 : Nat → Int32} {L : Int32} {K : Int32 × Int32}
theorem q_many (hd : dInv d) (hc : mRep d c) (hT : tRep d T) (hOf : aRep d 64 (d 3) V4) (hFe : aRep d 76 (d 3) V5) (hBy : aRep d 52 (d 3) V6) (hSe : aRep d 6 (cells d) V7) (hs : sR T0 Tm L K) (x : Int32) : ∃ v U W Um, f_X11_many T0 T V3 V4 V5 V6 V7 x = some (v, U, W) ∧ f_X12_many Tm c x = some (v, Um) ∧ sR U Um L K := by
  have h36 := hd.c36
  have hm := hd.many
  have hw := whites_le d
  by_cases h : inR x 9
  · have hi := e_isIn_8 x
    rw [if_pos h] at hi
    obtain ⟨k, hk, rfl⟩ := h.eq (by decide)
    obtain ⟨W, eW, tW⟩ := e7_take hd hT hOf hFe hBy V3 (hset_lt hd)
    rcases (show k = 0 ∨ k = 1 ∨ k = 2 ∨ k = 3 ∨ k = 4 ∨ k = 5 ∨ k = 6 ∨ k = 7 ∨ k = 8 by omega) with rfl | rfl | rfl | rfl | rfl | rfl | rfl | rfl | rfl
    · refine ⟨iN (d 0), upd T0 14 0, V3, upd (upd Tm 1 0) 0 0, ?_, ?_, sR_ok hs⟩
      · simp (disch := omega) only [f_X11_many, f_X11_answer, hT.1, iN_lit, iN_add, iN_mul, iN_sub, iN_nn, ck_iN, iN_le, iN_lt, iN_eq, Nat.mul_zero, Nat.zero_add, Nat.add_zero, Nat.reduceMul, Nat.reduceAdd, Nat.reduceSub, Option.bind_some, reduceIte, Nat.reduceEqDiff, Nat.reduceLeDiff, Nat.reduceLT, Nat.le_refl, Nat.zero_le, eq_self]
      · rw [f_X12_many, hi]
        simp (disch := omega) only [hc 0 (by omega), iN_lit, iN_add, iN_mul, iN_sub, iN_nn, ck_iN, iN_le, iN_lt, iN_eq, Nat.mul_zero, Nat.zero_add, Nat.add_zero, Nat.reduceMul, Nat.reduceAdd, Nat.reduceSub, Option.bind_some, reduceIte, Nat.reduceEqDiff, Nat.reduceLeDiff, Nat.reduceLT, Nat.le_refl, Nat.zero_le, eq_self]
    · refine ⟨iN (d 1), upd T0 14 0, V3, upd (upd Tm 1 0) 0 0, ?_, ?_, sR_ok hs⟩
      · simp (disch := omega) only [f_X11_many, f_X11_answer, hT.2.1, iN_lit, iN_add, iN_mul, iN_sub, iN_nn, ck_iN, iN_le, iN_lt, iN_eq, Nat.mul_zero, Nat.zero_add, Nat.add_zero, Nat.reduceMul, Nat.reduceAdd, Nat.reduceSub, Option.bind_some, reduceIte, Nat.reduceEqDiff, Nat.reduceLeDiff, Nat.reduceLT, Nat.le_refl, Nat.zero_le, eq_self]
      · rw [f_X12_many, hi]
        simp (disch := omega) only [hc 1 (by omega), iN_lit, iN_add, iN_mul, iN_sub, iN_nn, ck_iN, iN_le, iN_lt, iN_eq, Nat.mul_zero, Nat.zero_add, Nat.add_zero, Nat.reduceMul, Nat.reduceAdd, Nat.reduceSub, Option.bind_some, reduceIte, Nat.reduceEqDiff, Nat.reduceLeDiff, Nat.reduceLT, Nat.le_refl, Nat.zero_le, eq_self]
    · refine ⟨iN (d 2), upd T0 14 0, V3, upd (upd Tm 1 0) 0 0, ?_, ?_, sR_ok hs⟩
      · simp (disch := omega) only [f_X11_many, f_X11_answer, hT.2.2.2.2.1, iN_lit, iN_add, iN_mul, iN_sub, iN_nn, ck_iN, iN_le, iN_lt, iN_eq, Nat.mul_zero, Nat.zero_add, Nat.add_zero, Nat.reduceMul, Nat.reduceAdd, Nat.reduceSub, Option.bind_some, reduceIte, Nat.reduceEqDiff, Nat.reduceLeDiff, Nat.reduceLT, Nat.le_refl, Nat.zero_le, eq_self]
      · rw [f_X12_many, hi]
        simp (disch := omega) only [hc 2 (by omega), iN_lit, iN_add, iN_mul, iN_sub, iN_nn, ck_iN, iN_le, iN_lt, iN_eq, Nat.mul_zero, Nat.zero_add, Nat.add_zero, Nat.reduceMul, Nat.reduceAdd, Nat.reduceSub, Option.bind_some, reduceIte, Nat.reduceEqDiff, Nat.reduceLeDiff, Nat.reduceLT, Nat.le_refl, Nat.zero_le, eq_self]
    · refine ⟨iN (d 3), upd T0 14 0, V3, upd (upd Tm 1 0) 0 0, ?_, ?_, sR_ok hs⟩
      · simp (disch := omega) only [f_X11_many, f_X11_answer, hT.2.2.2.2.2.2, iN_lit, iN_add, iN_mul, iN_sub, iN_nn, ck_iN, iN_le, iN_lt, iN_eq, Nat.mul_zero, Nat.zero_add, Nat.add_zero, Nat.reduceMul, Nat.reduceAdd, Nat.reduceSub, Option.bind_some, reduceIte, Nat.reduceEqDiff, Nat.reduceLeDiff, Nat.reduceLT, Nat.le_refl, Nat.zero_le, eq_self]
      · rw [f_X12_many, hi]
        simp (disch := omega) only [hc 3 (by omega), iN_lit, iN_add, iN_mul, iN_sub, iN_nn, ck_iN, iN_le, iN_lt, iN_eq, Nat.mul_zero, Nat.zero_add, Nat.add_zero, Nat.reduceMul, Nat.reduceAdd, Nat.reduceSub, Option.bind_some, reduceIte, Nat.reduceEqDiff, Nat.reduceLeDiff, Nat.reduceLT, Nat.le_refl, Nat.zero_le, eq_self]
    · refine ⟨iN (d 4), upd T0 14 0, V3, upd (upd Tm 1 0) 0 0, ?_, ?_, sR_ok hs⟩
      · simp (disch := omega) only [f_X11_many, f_X11_answer, hT.2.2.1, iN_lit, iN_add, iN_mul, iN_sub, iN_nn, ck_iN, iN_le, iN_lt, iN_eq, Nat.mul_zero, Nat.zero_add, Nat.add_zero, Nat.reduceMul, Nat.reduceAdd, Nat.reduceSub, Option.bind_some, reduceIte, Nat.reduceEqDiff, Nat.reduceLeDiff, Nat.reduceLT, Nat.le_refl, Nat.zero_le, eq_self]
      · rw [f_X12_many, hi]
        simp (disch := omega) only [hc 4 (by omega), iN_lit, iN_add, iN_mul, iN_sub, iN_nn, ck_iN, iN_le, iN_lt, iN_eq, Nat.mul_zero, Nat.zero_add, Nat.add_zero, Nat.reduceMul, Nat.reduceAdd, Nat.reduceSub, Option.bind_some, reduceIte, Nat.reduceEqDiff, Nat.reduceLeDiff, Nat.reduceLT, Nat.le_refl, Nat.zero_le, eq_self]
    · by_cases h0 : cells d = 0
      · refine ⟨-1, upd T0 14 8, V3, upd (upd (upd Tm 1 0) 0 0) 0 8, ?_, ?_, sR_no hs⟩
        · simp (disch := omega) only [f_X11_many, f_X11_refused, e3_cells hT, h0, iN_lit, iN_add, iN_mul, iN_sub, iN_nn, ck_iN, iN_le, iN_lt, iN_eq, Nat.mul_zero, Nat.zero_add, Nat.add_zero, Nat.reduceMul, Nat.reduceAdd, Nat.reduceSub, Option.bind_some, reduceIte, Nat.reduceEqDiff, Nat.reduceLeDiff, Nat.reduceLT, Nat.le_refl, Nat.zero_le, eq_self]
        · rw [f_X12_many, hi]
          simp (disch := omega) only [f_X12_refuse, e12_cells hd hc, h0, iN_lit, iN_add, iN_mul, iN_sub, iN_nn, ck_iN, iN_le, iN_lt, iN_eq, Nat.mul_zero, Nat.zero_add, Nat.add_zero, Nat.reduceMul, Nat.reduceAdd, Nat.reduceSub, Option.bind_some, reduceIte, Nat.reduceEqDiff, Nat.reduceLeDiff, Nat.reduceLT, Nat.le_refl, Nat.zero_le, eq_self]
      · refine ⟨iN (d 5), upd T0 14 0, V3, upd (upd Tm 1 0) 0 0, ?_, ?_, sR_ok hs⟩
        · simp (disch := omega) only [f_X11_many, f_X11_answer, e3_cells hT, h0, hT.2.2.2.1, iN_lit, iN_add, iN_mul, iN_sub, iN_nn, ck_iN, iN_le, iN_lt, iN_eq, Nat.mul_zero, Nat.zero_add, Nat.add_zero, Nat.reduceMul, Nat.reduceAdd, Nat.reduceSub, Option.bind_some, reduceIte, Nat.reduceEqDiff, Nat.reduceLeDiff, Nat.reduceLT, Nat.le_refl, Nat.zero_le, eq_self]
        · rw [f_X12_many, hi]
          simp (disch := omega) only [e12_cells hd hc, h0, hc 5 (by omega), iN_lit, iN_add, iN_mul, iN_sub, iN_nn, ck_iN, iN_le, iN_lt, iN_eq, Nat.mul_zero, Nat.zero_add, Nat.add_zero, Nat.reduceMul, Nat.reduceAdd, Nat.reduceSub, Option.bind_some, reduceIte, Nat.reduceEqDiff, Nat.reduceLeDiff, Nat.reduceLT, Nat.le_refl, Nat.zero_le, eq_self]
    · refine ⟨iN (hset d), upd T0 14 0, V3, upd (upd Tm 1 0) 0 0, ?_, ?_, sR_ok hs⟩
      · simp (disch := omega) only [f_X11_many, f_X11_answer, hT.2.2.2.2.2.1, iN_lit, iN_add, iN_mul, iN_sub, iN_nn, ck_iN, iN_le, iN_lt, iN_eq, Nat.mul_zero, Nat.zero_add, Nat.add_zero, Nat.reduceMul, Nat.reduceAdd, Nat.reduceSub, Option.bind_some, reduceIte, Nat.reduceEqDiff, Nat.reduceLeDiff, Nat.reduceLT, Nat.le_refl, Nat.zero_le, eq_self]
      · rw [f_X12_many, hi]
        simp (disch := omega) only [e12_heardOnes hd hc, iN_lit, iN_add, iN_mul, iN_sub, iN_nn, ck_iN, iN_le, iN_lt, iN_eq, Nat.mul_zero, Nat.zero_add, Nat.add_zero, Nat.reduceMul, Nat.reduceAdd, Nat.reduceSub, Option.bind_some, reduceIte, Nat.reduceEqDiff, Nat.reduceLeDiff, Nat.reduceLT, Nat.le_refl, Nat.zero_le, eq_self]
    · refine ⟨iN (whites d), upd T0 14 0, W, upd (upd Tm 1 0) 0 0, ?_, ?_, sR_ok hs⟩
      · simp (disch := omega) only [f_X11_many, f_X11_answer, f_X11_knownNow, hT.2.2.2.2.2.1, eW, e7_knownCells hd hT tW, knownS_h hd, e3_cells hT, (show cells d - (cells d - whites d) = whites d by omega), iN_lit, iN_add, iN_mul, iN_sub, iN_nn, ck_iN, iN_le, iN_lt, iN_eq, Nat.mul_zero, Nat.zero_add, Nat.add_zero, Nat.reduceMul, Nat.reduceAdd, Nat.reduceSub, Option.bind_some, reduceIte, Nat.reduceEqDiff, Nat.reduceLeDiff, Nat.reduceLT, Nat.le_refl, Nat.zero_le, eq_self]
      · rw [f_X12_many, hi]
        simp (disch := omega) only [e12_whites hd hc, iN_lit, iN_add, iN_mul, iN_sub, iN_nn, ck_iN, iN_le, iN_lt, iN_eq, Nat.mul_zero, Nat.zero_add, Nat.add_zero, Nat.reduceMul, Nat.reduceAdd, Nat.reduceSub, Option.bind_some, reduceIte, Nat.reduceEqDiff, Nat.reduceLeDiff, Nat.reduceLT, Nat.le_refl, Nat.zero_le, eq_self]
    · refine ⟨iN (rights d), upd T0 14 0, W, upd (upd Tm 1 0) 0 0, ?_, ?_, sR_ok hs⟩
      · simp (disch := omega) only [f_X11_many, f_X11_answer, hT.2.2.2.2.2.1, eW, e7_rightCells hd hT tW hSe, rightS_h hd, iN_lit, iN_add, iN_mul, iN_sub, iN_nn, ck_iN, iN_le, iN_lt, iN_eq, Nat.mul_zero, Nat.zero_add, Nat.add_zero, Nat.reduceMul, Nat.reduceAdd, Nat.reduceSub, Option.bind_some, reduceIte, Nat.reduceEqDiff, Nat.reduceLeDiff, Nat.reduceLT, Nat.le_refl, Nat.zero_le, eq_self]
      · rw [f_X12_many, hi]
        simp (disch := omega) only [e12_rights hd hc, iN_lit, iN_add, iN_mul, iN_sub, iN_nn, ck_iN, iN_le, iN_lt, iN_eq, Nat.mul_zero, Nat.zero_add, Nat.add_zero, Nat.reduceMul, Nat.reduceAdd, Nat.reduceSub, Option.bind_some, reduceIte, Nat.reduceEqDiff, Nat.reduceLeDiff, Nat.reduceLT, Nat.le_refl, Nat.zero_le, eq_self]
  · have hi := e_isIn_8 x
    rw [if_neg h] at hi
    have hne : ∀ {j : Nat}, j < 9 → (x = iN j) = False := fun hj => inR.ne h (by decide) hj
    refine ⟨-1, upd T0 14 5, V3, upd (upd (upd Tm 1 0) 0 0) 0 5, ?_, ?_, sR_no hs⟩
    · simp (disch := omega) only [f_X11_many, f_X11_refused, hne, iN_lit, iN_add, iN_mul, iN_sub, iN_nn, ck_iN, iN_le, iN_lt, iN_eq, Nat.mul_zero, Nat.zero_add, Nat.add_zero, Nat.reduceMul, Nat.reduceAdd, Nat.reduceSub, Option.bind_some, reduceIte, Nat.reduceEqDiff, Nat.reduceLeDiff, Nat.reduceLT, Nat.le_refl, Nat.zero_le, eq_self]
    · rw [f_X12_many, hi]
      simp (disch := omega) only [f_X12_refuse, iN_lit, iN_add, iN_mul, iN_sub, iN_nn, ck_iN, iN_le, iN_lt, iN_eq, Nat.mul_zero, Nat.zero_add, Nat.add_zero, Nat.reduceMul, Nat.reduceAdd, Nat.reduceSub, Option.bind_some, reduceIte, Nat.reduceEqDiff, Nat.reduceLeDiff, Nat.reduceLT, Nat.le_refl, Nat.zero_le, eq_self]
end OPS1
