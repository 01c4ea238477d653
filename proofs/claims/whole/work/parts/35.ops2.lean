/-! Calls: cell, votes, traveller, telling, fault. -/
theorem drawnF_h {d : Nat → Nat} (hd : dInv d) (x : Nat) : drawnF (votesS d (hset d) x) = drawn d x := drawnS_h hd x
theorem riskF_h {d : Nat → Nat} (hd : dInv d) (x : Nat) : riskF (votesS d (hset d) x) = risk d x := by
  rw [show votesS d (hset d) x = votes d x from funext (votesS_h hd x)]; rfl
section OPS2
variable {d : Nat → Nat} {c T T0 Tm V2 V3 V4 V5 V6 V7 V8 : Nat → Int32} {L : Int32} {K : Int32 × Int32}
theorem q_cell (hd : dInv d) (hc : mRep d c) (hT : tRep d T) (hOf : aRep d 64 (d 3) V4) (hFe : aRep d 76 (d 3) V5) (hBy : aRep d 52 (d 3) V6) (hSe : aRep d 6 (cells d) V7) (hMi : aRep d 88 (d 3) V8) (hs : sR T0 Tm L K) (x y : Int32) : ∃ v U W Um, f_X11_cell T0 T V3 V4 V5 V6 V7 V8 x y = some (v, U, W) ∧ f_X12_cell Tm c x y = some (v, Um) ∧ sR U Um L K := by
  have h36 := hd.c36
  have hm := hd.many
  have e1 := e3_hasCell hd hT x
  have e2 := e12_isCell hd hc x
  by_cases hx : inR x (cells d)
  · rw [if_pos hx] at e1 e2
    obtain ⟨i, hi, rfl⟩ := hx.eq (by omega)
    have h3 : i < 36 := by omega
    obtain ⟨W, eW, tW⟩ := e7_take hd hT hOf hFe hBy V3 (hset_lt hd)
    have ey := e_isIn_4 y
    by_cases h : inR y 5
    · rw [if_pos h] at ey
      obtain ⟨k, hk, rfl⟩ := h.eq (by decide)
      rcases (show k = 0 ∨ k = 1 ∨ k = 2 ∨ k = 3 ∨ k = 4 by omega) with rfl | rfl | rfl | rfl | rfl
      · refine ⟨iN (d (6 + i)), upd T0 14 0, W, upd (upd Tm 1 0) 0 0, ?_, ?_, sR_ok hs⟩
        · rw [f_X11_cell, e1]
          simp (disch := omega) only [f_X11_answer, hT.2.2.2.2.2.1, eW, e3_kindAt hSe hi h3, iN_lit, iN_add, iN_mul, iN_sub, iN_nn, ck_iN, iN_le, iN_lt, iN_eq, Nat.mul_zero, Nat.zero_add, Nat.add_zero, Nat.reduceMul, Nat.reduceAdd, Nat.reduceSub, Option.bind_some, reduceIte, Nat.reduceEqDiff, Nat.reduceLeDiff, Nat.reduceLT, Nat.le_refl, Nat.zero_le, eq_self]
        · rw [f_X12_cell, e2, Option.bind_some, ey]
          simp (disch := omega) only [hc (6 + i) (by omega), iN_lit, iN_add, iN_mul, iN_sub, iN_nn, ck_iN, iN_le, iN_lt, iN_eq, Nat.mul_zero, Nat.zero_add, Nat.add_zero, Nat.reduceMul, Nat.reduceAdd, Nat.reduceSub, Option.bind_some, reduceIte, Nat.reduceEqDiff, Nat.reduceLeDiff, Nat.reduceLT, Nat.le_refl, Nat.zero_le, eq_self]
      · refine ⟨iN (drawn d i), upd T0 14 0, W, upd (upd Tm 1 0) 0 0, ?_, ?_, sR_ok hs⟩
        · rw [f_X11_cell, e1]
          simp (disch := omega) only [f_X11_answer, hT.2.2.2.2.2.1, eW, e7_drawnAs tW (votesS_le hd _) h3, drawnF_h hd i, iN_lit, iN_add, iN_mul, iN_sub, iN_nn, ck_iN, iN_le, iN_lt, iN_eq, Nat.mul_zero, Nat.zero_add, Nat.add_zero, Nat.reduceMul, Nat.reduceAdd, Nat.reduceSub, Option.bind_some, reduceIte, Nat.reduceEqDiff, Nat.reduceLeDiff, Nat.reduceLT, Nat.le_refl, Nat.zero_le, eq_self]
        · rw [f_X12_cell, e2, Option.bind_some, ey]
          simp (disch := omega) only [e12_drawn hd hc h3, iN_lit, iN_add, iN_mul, iN_sub, iN_nn, ck_iN, iN_le, iN_lt, iN_eq, Nat.mul_zero, Nat.zero_add, Nat.add_zero, Nat.reduceMul, Nat.reduceAdd, Nat.reduceSub, Option.bind_some, reduceIte, Nat.reduceEqDiff, Nat.reduceLeDiff, Nat.reduceLT, Nat.le_refl, Nat.zero_le, eq_self]
      · refine ⟨iN (risk d i), upd T0 14 0, W, upd (upd Tm 1 0) 0 0, ?_, ?_, sR_ok hs⟩
        · rw [f_X11_cell, e1]
          simp (disch := omega) only [f_X11_answer, hT.2.2.2.2.2.1, eW, e7_riskOf tW (votesS_le hd _) h3, riskF_h hd i, iN_lit, iN_add, iN_mul, iN_sub, iN_nn, ck_iN, iN_le, iN_lt, iN_eq, Nat.mul_zero, Nat.zero_add, Nat.add_zero, Nat.reduceMul, Nat.reduceAdd, Nat.reduceSub, Option.bind_some, reduceIte, Nat.reduceEqDiff, Nat.reduceLeDiff, Nat.reduceLT, Nat.le_refl, Nat.zero_le, eq_self]
        · rw [f_X12_cell, e2, Option.bind_some, ey]
          simp (disch := omega) only [e12_riskOf hd hc h3, iN_lit, iN_add, iN_mul, iN_sub, iN_nn, ck_iN, iN_le, iN_lt, iN_eq, Nat.mul_zero, Nat.zero_add, Nat.add_zero, Nat.reduceMul, Nat.reduceAdd, Nat.reduceSub, Option.bind_some, reduceIte, Nat.reduceEqDiff, Nat.reduceLeDiff, Nat.reduceLT, Nat.le_refl, Nat.zero_le, eq_self]
      · refine ⟨iN (sizeAt d i), upd T0 14 0, W, upd (upd Tm 1 0) 0 0, ?_, ?_, sR_ok hs⟩
        · rw [f_X11_cell, e1]
          simp (disch := omega) only [f_X11_answer, hT.2.2.2.2.2.1, eW, e3_sizeOf hd hT hOf hFe hBy hMi h3, iN_lit, iN_add, iN_mul, iN_sub, iN_nn, ck_iN, iN_le, iN_lt, iN_eq, Nat.mul_zero, Nat.zero_add, Nat.add_zero, Nat.reduceMul, Nat.reduceAdd, Nat.reduceSub, Option.bind_some, reduceIte, Nat.reduceEqDiff, Nat.reduceLeDiff, Nat.reduceLT, Nat.le_refl, Nat.zero_le, eq_self]
        · rw [f_X12_cell, e2, Option.bind_some, ey]
          simp (disch := omega) only [e12_sizeAt hd hc h3, iN_lit, iN_add, iN_mul, iN_sub, iN_nn, ck_iN, iN_le, iN_lt, iN_eq, Nat.mul_zero, Nat.zero_add, Nat.add_zero, Nat.reduceMul, Nat.reduceAdd, Nat.reduceSub, Option.bind_some, reduceIte, Nat.reduceEqDiff, Nat.reduceLeDiff, Nat.reduceLT, Nat.le_refl, Nat.zero_le, eq_self]
      · refine ⟨iN (tellOf d i), upd T0 14 0, W, upd (upd Tm 1 0) 0 0, ?_, ?_, sR_ok hs⟩
        · rw [f_X11_cell, e1]
          simp (disch := omega) only [f_X11_answer, hT.2.2.2.2.2.1, eW, e3_tellingsOf hd hT hOf h3, iN_lit, iN_add, iN_mul, iN_sub, iN_nn, ck_iN, iN_le, iN_lt, iN_eq, Nat.mul_zero, Nat.zero_add, Nat.add_zero, Nat.reduceMul, Nat.reduceAdd, Nat.reduceSub, Option.bind_some, reduceIte, Nat.reduceEqDiff, Nat.reduceLeDiff, Nat.reduceLT, Nat.le_refl, Nat.zero_le, eq_self]
        · rw [f_X12_cell, e2, Option.bind_some, ey]
          have e12_t0 := e12_tellingsOf hd hc h3
          simp only [iN_lit] at e12_t0
          simp (disch := omega) only [e12_t0, iN_lit, iN_add, iN_mul, iN_sub, iN_nn, ck_iN, iN_le, iN_lt, iN_eq, Nat.mul_zero, Nat.zero_add, Nat.add_zero, Nat.reduceMul, Nat.reduceAdd, Nat.reduceSub, Option.bind_some, reduceIte, Nat.reduceEqDiff, Nat.reduceLeDiff, Nat.reduceLT, Nat.le_refl, Nat.zero_le, eq_self]
    · rw [if_neg h] at ey
      have hne : ∀ {j : Nat}, j < 5 → (y = iN j) = False := fun hj => inR.ne h (by decide) hj
      refine ⟨-1, upd T0 14 5, W, upd (upd (upd Tm 1 0) 0 0) 0 5, ?_, ?_, sR_no hs⟩
      · rw [f_X11_cell, e1]
        simp (disch := omega) only [f_X11_refused, hT.2.2.2.2.2.1, eW, hne, iN_lit, iN_add, iN_mul, iN_sub, iN_nn, ck_iN, iN_le, iN_lt, iN_eq, Nat.mul_zero, Nat.zero_add, Nat.add_zero, Nat.reduceMul, Nat.reduceAdd, Nat.reduceSub, Option.bind_some, reduceIte, Nat.reduceEqDiff, Nat.reduceLeDiff, Nat.reduceLT, Nat.le_refl, Nat.zero_le, eq_self]
      · rw [f_X12_cell, e2, Option.bind_some, ey]
        simp (disch := omega) only [f_X12_refuse, iN_lit, iN_add, iN_mul, iN_sub, iN_nn, ck_iN, iN_le, iN_lt, iN_eq, Nat.mul_zero, Nat.zero_add, Nat.add_zero, Nat.reduceMul, Nat.reduceAdd, Nat.reduceSub, Option.bind_some, reduceIte, Nat.reduceEqDiff, Nat.reduceLeDiff, Nat.reduceLT, Nat.le_refl, Nat.zero_le, eq_self]
  · rw [if_neg hx] at e1 e2
    refine ⟨-1, upd T0 14 2, V3, upd (upd (upd Tm 1 0) 0 0) 0 2, ?_, ?_, sR_no hs⟩
    · rw [f_X11_cell, e1]
      simp (disch := omega) only [f_X11_refused, iN_lit, iN_add, iN_mul, iN_sub, iN_nn, ck_iN, iN_le, iN_lt, iN_eq, Nat.mul_zero, Nat.zero_add, Nat.add_zero, Nat.reduceMul, Nat.reduceAdd, Nat.reduceSub, Option.bind_some, reduceIte, Nat.reduceEqDiff, Nat.reduceLeDiff, Nat.reduceLT, Nat.le_refl, Nat.zero_le, eq_self]
    · rw [f_X12_cell, e2]
      simp (disch := omega) only [f_X12_refuse, iN_lit, iN_add, iN_mul, iN_sub, iN_nn, ck_iN, iN_le, iN_lt, iN_eq, Nat.mul_zero, Nat.zero_add, Nat.add_zero, Nat.reduceMul, Nat.reduceAdd, Nat.reduceSub, Option.bind_some, reduceIte, Nat.reduceEqDiff, Nat.reduceLeDiff, Nat.reduceLT, Nat.le_refl, Nat.zero_le, eq_self]
theorem q_votes (hd : dInv d) (hc : mRep d c) (hT : tRep d T) (hOf : aRep d 64 (d 3) V4) (hFe : aRep d 76 (d 3) V5) (hBy : aRep d 52 (d 3) V6) (hs : sR T0 Tm L K) (x y : Int32) : ∃ v U W Um, f_X11_votes T0 T V3 V4 V5 V6 x y = some (v, U, W) ∧ f_X12_votes Tm c x y = some (v, Um) ∧ sR U Um L K := by
  have h36 := hd.c36
  have hm := hd.many
  have e1 := e3_hasCell hd hT x
  have e2 := e12_isCell hd hc x
  have k1 := e_isKind y
  have k2 := e12_isKind y
  by_cases hx : inR x (cells d)
  · rw [if_pos hx] at e1 e2
    obtain ⟨i, hi, rfl⟩ := hx.eq (by omega)
    have h3 : i < 36 := by omega
    by_cases h : inR y 4
    · rw [if_pos h] at k1 k2
      obtain ⟨k, hk, rfl⟩ := h.eq (by decide)
      obtain ⟨W, eW, tW⟩ := e7_take hd hT hOf hFe hBy V3 (hset_lt hd)
      refine ⟨iN (votes d i k), upd T0 14 0, W, upd (upd Tm 1 0) 0 0, ?_, ?_, sR_ok hs⟩
      · rw [f_X11_votes, e1, k1]
        simp (disch := omega) only [f_X11_answer, hT.2.2.2.2.2.1, eW, e7_votesFor tW h3 hk, votesS_h hd, iN_lit, iN_add, iN_mul, iN_sub, iN_nn, ck_iN, iN_le, iN_lt, iN_eq, Nat.mul_zero, Nat.zero_add, Nat.add_zero, Nat.reduceMul, Nat.reduceAdd, Nat.reduceSub, Option.bind_some, reduceIte, Nat.reduceEqDiff, Nat.reduceLeDiff, Nat.reduceLT, Nat.le_refl, Nat.zero_le, eq_self]
      · rw [f_X12_votes, e2, k2]
        simp (disch := omega) only [e12_votesOf hd hc h3 hk, iN_lit, iN_add, iN_mul, iN_sub, iN_nn, ck_iN, iN_le, iN_lt, iN_eq, Nat.mul_zero, Nat.zero_add, Nat.add_zero, Nat.reduceMul, Nat.reduceAdd, Nat.reduceSub, Option.bind_some, reduceIte, Nat.reduceEqDiff, Nat.reduceLeDiff, Nat.reduceLT, Nat.le_refl, Nat.zero_le, eq_self]
    · rw [if_neg h] at k1 k2
      refine ⟨-1, upd T0 14 5, V3, upd (upd (upd Tm 1 0) 0 0) 0 5, ?_, ?_, sR_no hs⟩
      · rw [f_X11_votes, e1, k1]
        simp (disch := omega) only [f_X11_refused, iN_lit, iN_add, iN_mul, iN_sub, iN_nn, ck_iN, iN_le, iN_lt, iN_eq, Nat.mul_zero, Nat.zero_add, Nat.add_zero, Nat.reduceMul, Nat.reduceAdd, Nat.reduceSub, Option.bind_some, reduceIte, Nat.reduceEqDiff, Nat.reduceLeDiff, Nat.reduceLT, Nat.le_refl, Nat.zero_le, eq_self]
      · rw [f_X12_votes, e2, k2]
        simp (disch := omega) only [f_X12_refuse, iN_lit, iN_add, iN_mul, iN_sub, iN_nn, ck_iN, iN_le, iN_lt, iN_eq, Nat.mul_zero, Nat.zero_add, Nat.add_zero, Nat.reduceMul, Nat.reduceAdd, Nat.reduceSub, Option.bind_some, reduceIte, Nat.reduceEqDiff, Nat.reduceLeDiff, Nat.reduceLT, Nat.le_refl, Nat.zero_le, eq_self]
  · rw [if_neg hx] at e1 e2
    refine ⟨-1, upd T0 14 2, V3, upd (upd (upd Tm 1 0) 0 0) 0 2, ?_, ?_, sR_no hs⟩
    · rw [f_X11_votes, e1]
      simp (disch := omega) only [f_X11_refused, iN_lit, iN_add, iN_mul, iN_sub, iN_nn, ck_iN, iN_le, iN_lt, iN_eq, Nat.mul_zero, Nat.zero_add, Nat.add_zero, Nat.reduceMul, Nat.reduceAdd, Nat.reduceSub, Option.bind_some, reduceIte, Nat.reduceEqDiff, Nat.reduceLeDiff, Nat.reduceLT, Nat.le_refl, Nat.zero_le, eq_self]
    · rw [f_X12_votes, e2]
      simp (disch := omega) only [f_X12_refuse, iN_lit, iN_add, iN_mul, iN_sub, iN_nn, ck_iN, iN_le, iN_lt, iN_eq, Nat.mul_zero, Nat.zero_add, Nat.add_zero, Nat.reduceMul, Nat.reduceAdd, Nat.reduceSub, Option.bind_some, reduceIte, Nat.reduceEqDiff, Nat.reduceLeDiff, Nat.reduceLT, Nat.le_refl, Nat.zero_le, eq_self]
theorem q_traveller (hd : dInv d) (hc : mRep d c) (hT : tRep d T) (hLi : aRep d 42 (d 2) V2) (hBy : aRep d 52 (d 3) V3) (hFe : aRep d 76 (d 3) V4) (hOf : aRep d 64 (d 3) V5) (hSe : aRep d 6 (cells d) V6) (hs : sR T0 Tm L K) (x y : Int32) : ∃ v U Um, f_X11_traveller T0 T V2 V3 V4 V5 V6 x y = some (v, U) ∧ f_X12_traveller Tm c x y = some (v, Um) ∧ sR U Um L K := by
  have hm := hd.many
  have e1 := e3_hasTraveller hd hT x
  have e2 := e12_isTravellerAt hd hc x
  by_cases hx : inR x (d 2)
  · rw [if_pos hx] at e1 e2
    obtain ⟨i, hi, rfl⟩ := hx.eq (by omega)
    have h5 : i < 5 := by omega
    have ht := hd.trav h5
    have ey := e_isIn_3 y
    by_cases h : inR y 4
    · rw [if_pos h] at ey
      obtain ⟨k, hk, rfl⟩ := h.eq (by decide)
      have t0 := e12_told0 hd hc h5
      have t1 := e12_told1 hd hc h5
      simp only [iN_lit] at t0 t1
      rcases (show k = 0 ∨ k = 1 ∨ k = 2 ∨ k = 3 by omega) with rfl | rfl | rfl | rfl
      · refine ⟨iN (d (42 + i)), upd T0 14 0, upd (upd Tm 1 0) 0 0, ?_, ?_, sR_ok hs⟩
        · rw [f_X11_traveller, e1]
          simp (disch := omega) only [f_X11_answer, hLi i hi, iN_lit, iN_add, iN_mul, iN_sub, iN_nn, ck_iN, iN_le, iN_lt, iN_eq, Nat.mul_zero, Nat.zero_add, Nat.add_zero, Nat.reduceMul, Nat.reduceAdd, Nat.reduceSub, Option.bind_some, reduceIte, Nat.reduceEqDiff, Nat.reduceLeDiff, Nat.reduceLT, Nat.le_refl, Nat.zero_le, eq_self]
        · rw [f_X12_traveller, e2, Option.bind_some, ey]
          simp (disch := omega) only [hc (42 + i) (by omega), iN_lit, iN_add, iN_mul, iN_sub, iN_nn, ck_iN, iN_le, iN_lt, iN_eq, Nat.mul_zero, Nat.zero_add, Nat.add_zero, Nat.reduceMul, Nat.reduceAdd, Nat.reduceSub, Option.bind_some, reduceIte, Nat.reduceEqDiff, Nat.reduceLeDiff, Nat.reduceLT, Nat.le_refl, Nat.zero_le, eq_self]
      · refine ⟨iN (d (47 + i)), upd T0 14 0, upd (upd Tm 1 0) 0 0, ?_, ?_, sR_ok hs⟩
        · rw [f_X11_traveller, e1]
          simp (disch := omega) only [f_X11_answer, f_X11_traveller_79, e3_isHeard hd hT hi, iN_lit, iN_add, iN_mul, iN_sub, iN_nn, ck_iN, iN_le, iN_lt, iN_eq, Nat.mul_zero, Nat.zero_add, Nat.add_zero, Nat.reduceMul, Nat.reduceAdd, Nat.reduceSub, Option.bind_some, reduceIte, Nat.reduceEqDiff, Nat.reduceLeDiff, Nat.reduceLT, Nat.le_refl, Nat.zero_le, eq_self]
          by_cases q : d (47 + i) = 1
          · rw [if_pos q, q]
            simp (disch := omega) only [iN_lit, iN_add, iN_mul, iN_sub, iN_nn, ck_iN, iN_le, iN_lt, iN_eq, Nat.mul_zero, Nat.zero_add, Nat.add_zero, Nat.reduceMul, Nat.reduceAdd, Nat.reduceSub, Option.bind_some, reduceIte, Nat.reduceEqDiff, Nat.reduceLeDiff, Nat.reduceLT, Nat.le_refl, Nat.zero_le, eq_self]
          · rw [if_neg q, show d (47 + i) = 0 by omega]
            simp (disch := omega) only [iN_lit, iN_add, iN_mul, iN_sub, iN_nn, ck_iN, iN_le, iN_lt, iN_eq, Nat.mul_zero, Nat.zero_add, Nat.add_zero, Nat.reduceMul, Nat.reduceAdd, Nat.reduceSub, Option.bind_some, reduceIte, Nat.reduceEqDiff, Nat.reduceLeDiff, Nat.reduceLT, Nat.le_refl, Nat.zero_le, eq_self]
        · rw [f_X12_traveller, e2, Option.bind_some, ey]
          simp (disch := omega) only [hc (47 + i) (by omega), iN_lit, iN_add, iN_mul, iN_sub, iN_nn, ck_iN, iN_le, iN_lt, iN_eq, Nat.mul_zero, Nat.zero_add, Nat.add_zero, Nat.reduceMul, Nat.reduceAdd, Nat.reduceSub, Option.bind_some, reduceIte, Nat.reduceEqDiff, Nat.reduceLeDiff, Nat.reduceLT, Nat.le_refl, Nat.zero_le, eq_self]
      · refine ⟨iN (tellBy d i), upd T0 14 0, upd (upd Tm 1 0) 0 0, ?_, ?_, sR_ok hs⟩
        · rw [f_X11_traveller, e1]
          simp (disch := omega) only [f_X11_answer, e3_tellingsBy hd hT hBy h5, iN_lit, iN_add, iN_mul, iN_sub, iN_nn, ck_iN, iN_le, iN_lt, iN_eq, Nat.mul_zero, Nat.zero_add, Nat.add_zero, Nat.reduceMul, Nat.reduceAdd, Nat.reduceSub, Option.bind_some, reduceIte, Nat.reduceEqDiff, Nat.reduceLeDiff, Nat.reduceLT, Nat.le_refl, Nat.zero_le, eq_self]
        · rw [f_X12_traveller, e2, Option.bind_some, ey]
          simp (disch := omega) only [f_X12_traveller_75, t0, iN_lit, iN_add, iN_mul, iN_sub, iN_nn, ck_iN, iN_le, iN_lt, iN_eq, Nat.mul_zero, Nat.zero_add, Nat.add_zero, Nat.reduceMul, Nat.reduceAdd, Nat.reduceSub, Option.bind_some, reduceIte, Nat.reduceEqDiff, Nat.reduceLeDiff, Nat.reduceLT, Nat.le_refl, Nat.zero_le, eq_self]
      · refine ⟨iN (falseBy d i), upd T0 14 0, upd (upd Tm 1 0) 0 0, ?_, ?_, sR_ok hs⟩
        · rw [f_X11_traveller, e1]
          simp (disch := omega) only [f_X11_answer, e3_falseBy hd hT hBy hFe hOf hSe h5, iN_lit, iN_add, iN_mul, iN_sub, iN_nn, ck_iN, iN_le, iN_lt, iN_eq, Nat.mul_zero, Nat.zero_add, Nat.add_zero, Nat.reduceMul, Nat.reduceAdd, Nat.reduceSub, Option.bind_some, reduceIte, Nat.reduceEqDiff, Nat.reduceLeDiff, Nat.reduceLT, Nat.le_refl, Nat.zero_le, eq_self]
        · rw [f_X12_traveller, e2, Option.bind_some, ey]
          simp (disch := omega) only [f_X12_traveller_75, t1, iN_lit, iN_add, iN_mul, iN_sub, iN_nn, ck_iN, iN_le, iN_lt, iN_eq, Nat.mul_zero, Nat.zero_add, Nat.add_zero, Nat.reduceMul, Nat.reduceAdd, Nat.reduceSub, Option.bind_some, reduceIte, Nat.reduceEqDiff, Nat.reduceLeDiff, Nat.reduceLT, Nat.le_refl, Nat.zero_le, eq_self]
    · rw [if_neg h] at ey
      have hne : ∀ {j : Nat}, j < 4 → (y = iN j) = False := fun hj => inR.ne h (by decide) hj
      refine ⟨-1, upd T0 14 5, upd (upd (upd Tm 1 0) 0 0) 0 5, ?_, ?_, sR_no hs⟩
      · rw [f_X11_traveller, e1]
        simp (disch := omega) only [f_X11_refused, hne, iN_lit, iN_add, iN_mul, iN_sub, iN_nn, ck_iN, iN_le, iN_lt, iN_eq, Nat.mul_zero, Nat.zero_add, Nat.add_zero, Nat.reduceMul, Nat.reduceAdd, Nat.reduceSub, Option.bind_some, reduceIte, Nat.reduceEqDiff, Nat.reduceLeDiff, Nat.reduceLT, Nat.le_refl, Nat.zero_le, eq_self]
      · rw [f_X12_traveller, e2, Option.bind_some, ey]
        simp (disch := omega) only [f_X12_refuse, iN_lit, iN_add, iN_mul, iN_sub, iN_nn, ck_iN, iN_le, iN_lt, iN_eq, Nat.mul_zero, Nat.zero_add, Nat.add_zero, Nat.reduceMul, Nat.reduceAdd, Nat.reduceSub, Option.bind_some, reduceIte, Nat.reduceEqDiff, Nat.reduceLeDiff, Nat.reduceLT, Nat.le_refl, Nat.zero_le, eq_self]
  · rw [if_neg hx] at e1 e2
    refine ⟨-1, upd T0 14 2, upd (upd (upd Tm 1 0) 0 0) 0 2, ?_, ?_, sR_no hs⟩
    · rw [f_X11_traveller, e1]
      simp (disch := omega) only [f_X11_refused, iN_lit, iN_add, iN_mul, iN_sub, iN_nn, ck_iN, iN_le, iN_lt, iN_eq, Nat.mul_zero, Nat.zero_add, Nat.add_zero, Nat.reduceMul, Nat.reduceAdd, Nat.reduceSub, Option.bind_some, reduceIte, Nat.reduceEqDiff, Nat.reduceLeDiff, Nat.reduceLT, Nat.le_refl, Nat.zero_le, eq_self]
    · rw [f_X12_traveller, e2]
      simp (disch := omega) only [f_X12_refuse, iN_lit, iN_add, iN_mul, iN_sub, iN_nn, ck_iN, iN_le, iN_lt, iN_eq, Nat.mul_zero, Nat.zero_add, Nat.add_zero, Nat.reduceMul, Nat.reduceAdd, Nat.reduceSub, Option.bind_some, reduceIte, Nat.reduceEqDiff, Nat.reduceLeDiff, Nat.reduceLT, Nat.le_refl, Nat.zero_le, eq_self]
theorem q_telling (hd : dInv d) (hc : mRep d c) (hT : tRep d T) (hBy : aRep d 52 (d 3) V2) (hOf : aRep d 64 (d 3) V3) (hFe : aRep d 76 (d 3) V4) (hMi : aRep d 88 (d 3) V5) (hs : sR T0 Tm L K) (x y : Int32) : ∃ v U Um, f_X11_telling T0 T V2 V3 V4 V5 x y = some (v, U) ∧ f_X12_telling Tm c x y = some (v, Um) ∧ sR U Um L K := by
  have hm := hd.many
  have e1 := e_within_n x (n := d 3) (by omega)
  have e2 := e_isIn_n x (n := d 3) (by omega)
  have g3 : gd 3 1860 = true := by decide
  have n3 : (3 : Int32).toNatClampNeg = 3 := by decide
  by_cases hx : inR x (d 3)
  · rw [if_pos hx] at e1 e2
    obtain ⟨i, hi, rfl⟩ := hx.eq (by omega)
    have ey := e_isIn_3 y
    by_cases h : inR y 4
    · rw [if_pos h] at ey
      obtain ⟨k, hk, rfl⟩ := h.eq (by decide)
      rcases (show k = 0 ∨ k = 1 ∨ k = 2 ∨ k = 3 by omega) with rfl | rfl | rfl | rfl
      · refine ⟨iN (d (52 + i)), upd T0 14 0, upd (upd Tm 1 0) 0 0, ?_, ?_, sR_ok hs⟩
        · rw [f_X11_telling, hT.2.2.2.2.2.2, e1]
          simp (disch := omega) only [f_X11_answer, hBy i hi, iN_lit, iN_add, iN_mul, iN_sub, iN_nn, ck_iN, iN_le, iN_lt, iN_eq, Nat.mul_zero, Nat.zero_add, Nat.add_zero, Nat.reduceMul, Nat.reduceAdd, Nat.reduceSub, Option.bind_some, reduceIte, Nat.reduceEqDiff, Nat.reduceLeDiff, Nat.reduceLT, Nat.le_refl, Nat.zero_le, eq_self]
        · rw [f_X12_telling, ck_y g3, n3, hc 3 (by omega), e2, Option.bind_some, ey]
          simp (disch := omega) only [hc (52 + i) (by omega), iN_lit, iN_add, iN_mul, iN_sub, iN_nn, ck_iN, iN_le, iN_lt, iN_eq, Nat.mul_zero, Nat.zero_add, Nat.add_zero, Nat.reduceMul, Nat.reduceAdd, Nat.reduceSub, Option.bind_some, reduceIte, Nat.reduceEqDiff, Nat.reduceLeDiff, Nat.reduceLT, Nat.le_refl, Nat.zero_le, eq_self]
      · refine ⟨iN (d (64 + i)), upd T0 14 0, upd (upd Tm 1 0) 0 0, ?_, ?_, sR_ok hs⟩
        · rw [f_X11_telling, hT.2.2.2.2.2.2, e1]
          simp (disch := omega) only [f_X11_answer, hOf i hi, iN_lit, iN_add, iN_mul, iN_sub, iN_nn, ck_iN, iN_le, iN_lt, iN_eq, Nat.mul_zero, Nat.zero_add, Nat.add_zero, Nat.reduceMul, Nat.reduceAdd, Nat.reduceSub, Option.bind_some, reduceIte, Nat.reduceEqDiff, Nat.reduceLeDiff, Nat.reduceLT, Nat.le_refl, Nat.zero_le, eq_self]
        · rw [f_X12_telling, ck_y g3, n3, hc 3 (by omega), e2, Option.bind_some, ey]
          simp (disch := omega) only [hc (64 + i) (by omega), iN_lit, iN_add, iN_mul, iN_sub, iN_nn, ck_iN, iN_le, iN_lt, iN_eq, Nat.mul_zero, Nat.zero_add, Nat.add_zero, Nat.reduceMul, Nat.reduceAdd, Nat.reduceSub, Option.bind_some, reduceIte, Nat.reduceEqDiff, Nat.reduceLeDiff, Nat.reduceLT, Nat.le_refl, Nat.zero_le, eq_self]
      · refine ⟨iN (d (76 + i)), upd T0 14 0, upd (upd Tm 1 0) 0 0, ?_, ?_, sR_ok hs⟩
        · rw [f_X11_telling, hT.2.2.2.2.2.2, e1]
          simp (disch := omega) only [f_X11_answer, hFe i hi, iN_lit, iN_add, iN_mul, iN_sub, iN_nn, ck_iN, iN_le, iN_lt, iN_eq, Nat.mul_zero, Nat.zero_add, Nat.add_zero, Nat.reduceMul, Nat.reduceAdd, Nat.reduceSub, Option.bind_some, reduceIte, Nat.reduceEqDiff, Nat.reduceLeDiff, Nat.reduceLT, Nat.le_refl, Nat.zero_le, eq_self]
        · rw [f_X12_telling, ck_y g3, n3, hc 3 (by omega), e2, Option.bind_some, ey]
          simp (disch := omega) only [hc (76 + i) (by omega), iN_lit, iN_add, iN_mul, iN_sub, iN_nn, ck_iN, iN_le, iN_lt, iN_eq, Nat.mul_zero, Nat.zero_add, Nat.add_zero, Nat.reduceMul, Nat.reduceAdd, Nat.reduceSub, Option.bind_some, reduceIte, Nat.reduceEqDiff, Nat.reduceLeDiff, Nat.reduceLT, Nat.le_refl, Nat.zero_le, eq_self]
      · refine ⟨iN (d (88 + i)), upd T0 14 0, upd (upd Tm 1 0) 0 0, ?_, ?_, sR_ok hs⟩
        · rw [f_X11_telling, hT.2.2.2.2.2.2, e1]
          simp (disch := omega) only [f_X11_answer, hMi i hi, iN_lit, iN_add, iN_mul, iN_sub, iN_nn, ck_iN, iN_le, iN_lt, iN_eq, Nat.mul_zero, Nat.zero_add, Nat.add_zero, Nat.reduceMul, Nat.reduceAdd, Nat.reduceSub, Option.bind_some, reduceIte, Nat.reduceEqDiff, Nat.reduceLeDiff, Nat.reduceLT, Nat.le_refl, Nat.zero_le, eq_self]
        · rw [f_X12_telling, ck_y g3, n3, hc 3 (by omega), e2, Option.bind_some, ey]
          simp (disch := omega) only [hc (88 + i) (by omega), iN_lit, iN_add, iN_mul, iN_sub, iN_nn, ck_iN, iN_le, iN_lt, iN_eq, Nat.mul_zero, Nat.zero_add, Nat.add_zero, Nat.reduceMul, Nat.reduceAdd, Nat.reduceSub, Option.bind_some, reduceIte, Nat.reduceEqDiff, Nat.reduceLeDiff, Nat.reduceLT, Nat.le_refl, Nat.zero_le, eq_self]
    · rw [if_neg h] at ey
      have hne : ∀ {j : Nat}, j < 4 → (y = iN j) = False := fun hj => inR.ne h (by decide) hj
      refine ⟨-1, upd T0 14 5, upd (upd (upd Tm 1 0) 0 0) 0 5, ?_, ?_, sR_no hs⟩
      · rw [f_X11_telling, hT.2.2.2.2.2.2, e1]
        simp (disch := omega) only [f_X11_refused, hne, iN_lit, iN_add, iN_mul, iN_sub, iN_nn, ck_iN, iN_le, iN_lt, iN_eq, Nat.mul_zero, Nat.zero_add, Nat.add_zero, Nat.reduceMul, Nat.reduceAdd, Nat.reduceSub, Option.bind_some, reduceIte, Nat.reduceEqDiff, Nat.reduceLeDiff, Nat.reduceLT, Nat.le_refl, Nat.zero_le, eq_self]
      · rw [f_X12_telling, ck_y g3, n3, hc 3 (by omega), e2, Option.bind_some, ey]
        simp (disch := omega) only [f_X12_refuse, iN_lit, iN_add, iN_mul, iN_sub, iN_nn, ck_iN, iN_le, iN_lt, iN_eq, Nat.mul_zero, Nat.zero_add, Nat.add_zero, Nat.reduceMul, Nat.reduceAdd, Nat.reduceSub, Option.bind_some, reduceIte, Nat.reduceEqDiff, Nat.reduceLeDiff, Nat.reduceLT, Nat.le_refl, Nat.zero_le, eq_self]
  · rw [if_neg hx] at e1 e2
    refine ⟨-1, upd T0 14 2, upd (upd (upd Tm 1 0) 0 0) 0 2, ?_, ?_, sR_no hs⟩
    · rw [f_X11_telling, hT.2.2.2.2.2.2, e1]
      simp (disch := omega) only [f_X11_refused, iN_lit, iN_add, iN_mul, iN_sub, iN_nn, ck_iN, iN_le, iN_lt, iN_eq, Nat.mul_zero, Nat.zero_add, Nat.add_zero, Nat.reduceMul, Nat.reduceAdd, Nat.reduceSub, Option.bind_some, reduceIte, Nat.reduceEqDiff, Nat.reduceLeDiff, Nat.reduceLT, Nat.le_refl, Nat.zero_le, eq_self]
    · rw [f_X12_telling, ck_y g3, n3, hc 3 (by omega), e2]
      simp (disch := omega) only [f_X12_refuse, iN_lit, iN_add, iN_mul, iN_sub, iN_nn, ck_iN, iN_le, iN_lt, iN_eq, Nat.mul_zero, Nat.zero_add, Nat.add_zero, Nat.reduceMul, Nat.reduceAdd, Nat.reduceSub, Option.bind_some, reduceIte, Nat.reduceEqDiff, Nat.reduceLeDiff, Nat.reduceLT, Nat.le_refl, Nat.zero_le, eq_self]
theorem q_fault (hs : sR T0 Tm L K) (x : Int32) : ∃ v Um, f_X11_fault T0 x = some v ∧ f_X12_fault Tm x = some (v, Um) ∧ sR T0 Um L K := by
  by_cases h0 : x = 0
  · exact ⟨T0 17, _, by rw [f_X11_fault, if_pos h0], by rw [f_X12_fault, if_pos h0, upd_n (by decide), ← hs.2.1], sR_lk hs⟩
  · by_cases h1 : x = 1
    · exact ⟨T0 18, _, by rw [f_X11_fault, if_neg h0, if_pos h1], by rw [f_X12_fault, if_neg h0, if_pos h1, upd_n (by decide), ← hs.2.2.1], sR_lk hs⟩
    · exact ⟨-1, _, by rw [f_X11_fault, if_neg h0, if_neg h1], by rw [f_X12_fault, if_neg h0, if_neg h1], sR_lk hs⟩
theorem q_status (hs : sR T0 Tm L K) : ∃ v Um, f_X11_status T0 = some v ∧ f_X12_status Tm = some (v, Um) ∧ sR T0 Um L K := ⟨T0 14, _, rfl, by rw [f_X12_status, upd_n (by decide), ← hs.1], sR_lk hs⟩
end OPS2
