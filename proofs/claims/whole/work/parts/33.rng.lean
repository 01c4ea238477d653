/-! Ranges, risk, clashes, liars, who is heard. -/
theorem ifc {α : Type} {p q : Prop} [Decidable p] [Decidable q] {a b : α} (h : p ↔ q) : (if p then a else b) = (if q then a else b) := by
  by_cases hp : p
  · rw [if_pos hp, if_pos (h.mp hp)]
  · rw [if_neg hp, if_neg (fun hq => hp (h.mpr hq))]
abbrev inR (x : Int32) (n : Nat) : Prop := 0 ≤ x.toInt ∧ x.toInt < (n : Int)
theorem inR.eq {x : Int32} {n : Nat} (h : inR x n) (hn : n ≤ 2147483648) : ∃ k, k < n ∧ x = iN k := by
  refine ⟨x.toInt.toNat, by have := h.1; have := h.2; omega, ?_⟩
  apply Int32.toInt_inj.mp
  rw [iN_int (by have := h.1; have := h.2; omega)]
  have := h.1
  omega
theorem inR_iN {k n : Nat} (hk : k < 2147483648) : inR (iN k) n = (k < n) := by
  unfold inR
  rw [iN_int hk]
  exact propext ⟨fun h => by omega, fun h => by omega⟩
theorem iN_pred {n : Nat} (hn : n < 2147483648) : (iN n - 1).toInt = (n : Int) - 1 := by
  cases n with
  | zero => decide
  | succ m =>
    rw [show (1 : Int32) = iN 1 from rfl, iN_sub (by omega), iN_int (by omega)]
    omega
theorem e_within_i (x A B : Int32) : f_X11_within x A B = some (if A.toInt ≤ x.toInt ∧ x.toInt ≤ B.toInt then 1 else 0) := by
  unfold f_X11_within
  simp only [Int32.lt_iff_toInt_lt]
  repeat' split
  all_goals (first | rfl | omega)
theorem e_isIn_i (x A B : Int64) : f_X12_isIn x A B = some (if A.toInt ≤ x.toInt ∧ x.toInt ≤ B.toInt then 1 else 0) := by
  unfold f_X12_isIn
  by_cases h1 : lg_cmp x A < 0
  · have h2 := Int64.lt_iff_toInt_lt.mp ((lg_cmp_lt x A).mp h1)
    rw [if_pos h1, if_neg (by omega)]
  · have h2 : ¬ x.toInt < A.toInt := fun h => h1 ((lg_cmp_lt x A).mpr (Int64.lt_iff_toInt_lt.mpr h))
    rw [if_neg h1]
    by_cases h3 : 0 < lg_cmp x B
    · have h4 := Int64.lt_iff_toInt_lt.mp ((lg_cmp_gt x B).mp h3)
      rw [if_pos h3, if_neg (by omega)]
    · have h4 : ¬ B.toInt < x.toInt := fun h => h3 ((lg_cmp_gt x B).mpr (Int64.lt_iff_toInt_lt.mpr h))
      rw [if_neg h3, if_pos (by omega)]
theorem e_within_n (x : Int32) {n : Nat} (hn : n < 2147483648) : f_X11_within x 0 (iN n - 1) = some (if inR x n then 1 else 0) := by
  rw [e_within_i, iN_pred hn]
  refine congrArg some (ifc ?_)
  unfold inR
  rw [show (0 : Int32).toInt = 0 from rfl]
  omega
theorem e_within_l (x : Int32) (m : Nat) (hm : m < 2147483647) : f_X11_within x 0 (iN m) = some (if inR x (m + 1) then 1 else 0) := by
  rw [e_within_i, iN_int (by omega)]
  refine congrArg some (ifc ?_)
  unfold inR
  rw [show (0 : Int32).toInt = 0 from rfl]
  omega
theorem e_isIn_n (x : Int32) {n : Nat} (hn : n < 2147483648) : f_X12_isIn (Int32.toInt64 x) 0 (Int32.toInt64 (iN n - 1)) = some (if inR x n then 1 else 0) := by
  rw [e_isIn_i, Int32.toInt_toInt64, Int32.toInt_toInt64, iN_pred hn]
  refine congrArg some (ifc ?_)
  unfold inR
  rw [show (0 : Int64).toInt = 0 from rfl]
  omega
theorem e_isIn_l (x : Int32) (m : Nat) (hm : m < 2147483647) : f_X12_isIn (Int32.toInt64 x) 0 (Int64.ofNat m) = some (if inR x (m + 1) then 1 else 0) := by
  rw [e_isIn_i, Int32.toInt_toInt64, Int64.toInt_ofNat_of_lt (by omega)]
  refine congrArg some (ifc ?_)
  unfold inR
  rw [show (0 : Int64).toInt = 0 from rfl]
  omega
theorem ck_bz {α : Type} {p : Prop} [Decidable p] {x : Option α} : ck (bz (if p then 1 else 0)) x = x := by
  apply ck_y
  split <;> rfl
theorem e_isIn_3 (x : Int32) : f_X12_isIn (Int32.toInt64 x) 0 3 = some (if inR x 4 then 1 else 0) := e_isIn_l x 3 (by decide)
theorem e_isIn_4 (x : Int32) : f_X12_isIn (Int32.toInt64 x) 0 4 = some (if inR x 5 then 1 else 0) := e_isIn_l x 4 (by decide)
theorem e_isIn_8 (x : Int32) : f_X12_isIn (Int32.toInt64 x) 0 8 = some (if inR x 9 then 1 else 0) := e_isIn_l x 8 (by decide)
theorem e_isIn_9 (x : Int32) : f_X12_isIn (Int32.toInt64 x) 0 9 = some (if inR x 10 then 1 else 0) := e_isIn_l x 9 (by decide)
theorem e_isIn_12 (x : Int32) : f_X12_isIn (Int32.toInt64 x) 0 12 = some (if inR x 13 then 1 else 0) := e_isIn_l x 12 (by decide)
theorem e_isIn_16 (x : Int32) : f_X12_isIn (Int32.toInt64 x) 0 16 = some (if inR x 17 then 1 else 0) := e_isIn_l x 16 (by decide)
theorem e_isIn_60 (x : Int32) : f_X12_isIn (Int32.toInt64 x) 0 60 = some (if inR x 61 then 1 else 0) := e_isIn_l x 60 (by decide)
theorem e_isIn_9999 (x : Int32) : f_X12_isIn (Int32.toInt64 x) 0 9999 = some (if inR x 10000 then 1 else 0) := e_isIn_l x 9999 (by decide)
theorem e_within_3 (x : Int32) : f_X11_within x 0 3 = some (if inR x 4 then 1 else 0) := e_within_l x 3 (by decide)
theorem e_within_4 (x : Int32) : f_X11_within x 0 4 = some (if inR x 5 then 1 else 0) := e_within_l x 4 (by decide)
theorem e_within_9 (x : Int32) : f_X11_within x 0 9 = some (if inR x 10 then 1 else 0) := e_within_l x 9 (by decide)
theorem e_within_12 (x : Int32) : f_X11_within x 0 12 = some (if inR x 13 then 1 else 0) := e_within_l x 12 (by decide)
theorem e_within_16 (x : Int32) : f_X11_within x 0 16 = some (if inR x 17 then 1 else 0) := e_within_l x 16 (by decide)
theorem e_within_60 (x : Int32) : f_X11_within x 0 60 = some (if inR x 61 then 1 else 0) := e_within_l x 60 (by decide)
theorem e_within_9999 (x : Int32) : f_X11_within x 0 9999 = some (if inR x 10000 then 1 else 0) := e_within_l x 9999 (by decide)

theorem e_isKind (x : Int32) : f_X11_isKind x = some (if inR x 4 then 1 else 0) := by
  unfold f_X11_isKind
  rw [e_within_3, Option.bind_some, ck_bz]
theorem e12_isKind (x : Int32) : f_X12_isKind x = some (if inR x 4 then 1 else 0) := by
  unfold f_X12_isKind
  rw [e_isIn_3, Option.bind_some, ck_bz]
section RNG
variable {d : Nat → Nat} {c T V1 V2 V3 V4 V5 : Nat → Int32}
theorem e3_hasCell (hd : dInv d) (hT : tRep d T) (x : Int32) : f_X3_hasCell T x = some (if inR x (cells d) then 1 else 0) := by
  have h36 := hd.c36
  unfold f_X3_hasCell
  rw [e3_cells hT, Option.bind_some, e_within_n x (by omega), Option.bind_some, ck_bz]
theorem e12_isCell (hd : dInv d) (hc : mRep d c) (x : Int32) : f_X12_isCell c x = some (if inR x (cells d) then 1 else 0) := by
  have h36 := hd.c36
  unfold f_X12_isCell
  rw [e12_cells hd hc, Option.bind_some, e_isIn_n x (by omega), Option.bind_some, ck_bz]
theorem e3_hasTraveller (hd : dInv d) (hT : tRep d T) (x : Int32) : f_X3_hasTraveller T x = some (if inR x (d 2) then 1 else 0) := by
  have hm := hd.many
  unfold f_X3_hasTraveller
  rw [hT.2.2.2.2.1, e_within_n x (by omega), Option.bind_some, ck_bz]
theorem e12_isTravellerAt (hd : dInv d) (hc : mRep d c) (x : Int32) : f_X12_isTravellerAt c x = some (if inR x (d 2) then 1 else 0) := by
  have hm := hd.many
  unfold f_X12_isTravellerAt
  rw [ck_y (show gd 2 1860 = true by decide), show (2 : Int32).toNatClampNeg = 2 by decide, hc 2 (by omega), e_isIn_n x (by omega), Option.bind_some, ck_bz]
theorem e3_isHeard (hd : dInv d) (hT : tRep d T) {k : Nat} (hk : k < d 2) : f_X3_isHeard T (iN k) = some (if d (47 + k) = 1 then 1 else 0) := by
  have hm := hd.many
  unfold f_X3_isHeard
  rw [hT.2.2.2.2.2.1, isIn_tab _ (hset_lt hd) k (by omega), Option.bind_some, ck_bz, hset_bit hd hk]
  by_cases h : d (47 + k) = 1
  · rw [if_pos h, if_pos (decide_eq_true h)]
  · rw [if_neg h, if_neg (fun h9 => h (of_decide_eq_true h9))]
theorem e3_tellingsOf (hd : dInv d) (hT : tRep d T) (h1 : aRep d 64 (d 3) V1) {x : Nat} (hx : x < 36) : f_X3_tellingsOf T V1 (iN x) = some (iN (tellOf d x)) := by
  have hm := hd.many
  have h36 := hd.c36
  refine iter_run (d 3) (fun k (φ : Int32 → Int32 → Option Int32) => φ (iN (sm k (fun t => if d (64 + t) = x then 1 else 0))) (iN k) = some (iN (tellOf d x))) (by omega) (fun k F hk h => ?_) (fun F => ?_)
  · have ho := hd.tell hk
    simp (disch := omega) only [g_X3_tellingsOf_4, f_X3_tellingsOf_28, hT.2.2.2.2.2.2, h1 k hk, iN_lit, iN_add, iN_mul, iN_sub, iN_nn, ck_iN, iN_le, iN_lt, iN_eq, Nat.mul_zero, Nat.zero_add, Nat.add_zero, Nat.reduceMul, Nat.reduceAdd, Nat.reduceSub, Option.bind_some]
    rw [if_neg (by omega)]
    simp only [sm_succ] at h
    repeat' split
    all_goals simp_all
  · simp (disch := omega) only [g_X3_tellingsOf_4, hT.2.2.2.2.2.2, iN_lit, iN_add, iN_mul, iN_sub, iN_nn, ck_iN, iN_le, iN_lt, iN_eq, Nat.mul_zero, Nat.zero_add, Nat.add_zero, Nat.reduceMul, Nat.reduceAdd, Nat.reduceSub, Option.bind_some]
    rw [if_pos (by omega)]; rfl
theorem e3_tellingsBy (hd : dInv d) (hT : tRep d T) (h1 : aRep d 52 (d 3) V1) {x : Nat} (hx : x < 5) : f_X3_tellingsBy T V1 (iN x) = some (iN (tellBy d x)) := by
  have hm := hd.many
  refine iter_run (d 3) (fun k (φ : Int32 → Int32 → Option Int32) => φ (iN (sm k (fun t => if d (52 + t) = x then 1 else 0))) (iN k) = some (iN (tellBy d x))) (by omega) (fun k F hk h => ?_) (fun F => ?_)
  · have ho := hd.tell hk
    simp (disch := omega) only [g_X3_tellingsBy_4, f_X3_tellingsBy_28, hT.2.2.2.2.2.2, h1 k hk, iN_lit, iN_add, iN_mul, iN_sub, iN_nn, ck_iN, iN_le, iN_lt, iN_eq, Nat.mul_zero, Nat.zero_add, Nat.add_zero, Nat.reduceMul, Nat.reduceAdd, Nat.reduceSub, Option.bind_some]
    rw [if_neg (by omega)]
    simp only [sm_succ] at h
    repeat' split
    all_goals simp_all
  · simp (disch := omega) only [g_X3_tellingsBy_4, hT.2.2.2.2.2.2, iN_lit, iN_add, iN_mul, iN_sub, iN_nn, ck_iN, iN_le, iN_lt, iN_eq, Nat.mul_zero, Nat.zero_add, Nat.add_zero, Nat.reduceMul, Nat.reduceAdd, Nat.reduceSub, Option.bind_some]
    rw [if_pos (by omega)]; rfl
theorem e3_falseBy (hd : dInv d) (hT : tRep d T) (h1 : aRep d 52 (d 3) V1) (h2 : aRep d 76 (d 3) V2) (h3 : aRep d 64 (d 3) V3) (h4 : aRep d 6 (cells d) V4) {x : Nat} (hx : x < 5) : f_X3_falseBy T V1 V2 V3 V4 (iN x) = some (iN (falseBy d x)) := by
  have hm := hd.many
  have h36 := hd.c36
  refine iter_run (d 3) (fun k (φ : Int32 → Int32 → Option Int32) => φ (iN (sm k (fun t => if d (52 + t) = x ∧ ¬ d (76 + t) = d (6 + d (64 + t)) then 1 else 0))) (iN k) = some (iN (falseBy d x))) (by omega) (fun k F hk h => ?_) (fun F => ?_)
  · have ho := hd.tell hk
    have hs := hd.2.1 (d (64 + k)) (by omega)
    simp (disch := omega) only [g_X3_falseBy_4, hT.2.2.2.2.2.2, h1 k hk, h2 k hk, h3 k hk, e3_kindAt h4 ho.2.1 (show d (64 + k) < 36 by omega), iN_lit, iN_add, iN_mul, iN_sub, iN_nn, ck_iN, iN_le, iN_lt, iN_eq, Nat.mul_zero, Nat.zero_add, Nat.add_zero, Nat.reduceMul, Nat.reduceAdd, Nat.reduceSub, Option.bind_some]
    rw [if_neg (by omega)]
    simp only [sm_succ] at h
    repeat' split
    all_goals simp_all
  · simp (disch := omega) only [g_X3_falseBy_4, hT.2.2.2.2.2.2, iN_lit, iN_add, iN_mul, iN_sub, iN_nn, ck_iN, iN_le, iN_lt, iN_eq, Nat.mul_zero, Nat.zero_add, Nat.add_zero, Nat.reduceMul, Nat.reduceAdd, Nat.reduceSub, Option.bind_some]
    rw [if_pos (by omega)]; rfl
theorem e3_sizeOf (hd : dInv d) (hT : tRep d T) (h1 : aRep d 64 (d 3) V1) (h2 : aRep d 76 (d 3) V2) (h3 : aRep d 52 (d 3) V3) (h4 : aRep d 88 (d 3) V4) {x : Nat} (hx : x < 36) : f_X3_sizeOf T V1 V2 V3 V4 (iN x) = some (iN (sizeAt d x)) := by
  have hm := hd.many
  have h36 := hd.c36
  refine iter_run (d 3) (fun k (φ : Int32 → Int32 → Option Int32) => φ (iN (sm k (fun t => if d (64 + t) = x ∧ d (76 + t) = 3 ∧ d (47 + d (52 + t)) = 1 then d (88 + t) else 0))) (iN k) = some (iN (sizeAt d x))) (by omega) (fun k F hk h => ?_) (fun F => ?_)
  · have ho := hd.tell hk
    simp (disch := omega) only [g_X3_sizeOf_4, hT.2.2.2.2.2.2, h1 k hk, h2 k hk, h3 k hk, h4 k hk, e3_isHeard hd hT ho.1, iN_lit, iN_add, iN_mul, iN_sub, iN_nn, ck_iN, iN_le, iN_lt, iN_eq, Nat.mul_zero, Nat.zero_add, Nat.add_zero, Nat.reduceMul, Nat.reduceAdd, Nat.reduceSub, Option.bind_some]
    rw [if_neg (by omega)]
    simp only [sm_succ] at h
    by_cases q1 : d (64 + k) = x
    · rw [if_pos q1]
      by_cases q2 : d (76 + k) = 3
      · rw [if_pos q2]
        by_cases q3 : d (47 + d (52 + k)) = 1
        · rw [if_pos q3, if_neg (by decide)]; simpa [q1, q2, q3] using h
        · rw [if_neg q3, if_pos rfl]; simpa [q1, q2, q3] using h
      · rw [if_neg q2]; simpa [q1, q2] using h
    · rw [if_neg q1]; simpa [q1] using h
  · simp (disch := omega) only [g_X3_sizeOf_4, hT.2.2.2.2.2.2, iN_lit, iN_add, iN_mul, iN_sub, iN_nn, ck_iN, iN_le, iN_lt, iN_eq, Nat.mul_zero, Nat.zero_add, Nat.add_zero, Nat.reduceMul, Nat.reduceAdd, Nat.reduceSub, Option.bind_some]
    rw [if_pos (by omega)]; rfl
theorem drS_pos {f : Nat → Nat} : ∀ k, (drS f k).2 ≤ sm k f ∧ ((drS f k).1 = 4 ∨ 0 < (drS f k).2)
  | 0 => ⟨Nat.le_refl _, Or.inl rfl⟩
  | k + 1 => by
    have ih := drS_pos (f := f) k
    rw [drS, sm_succ]
    repeat' split
    · exact ⟨by show f k ≤ _; omega, Or.inr (by show 0 < f k; omega)⟩
    · exact ⟨by show (drS f k).2 ≤ _; omega, Or.inl rfl⟩
    · exact ⟨by omega, ih.2⟩
theorem drawnF_pos {f : Nat → Nat} (h : ¬ drawnF f = 4) : 0 < sm 4 f := by
  have := drS_pos (f := f) 4
  unfold drawnF at h
  omega
theorem e12_riskOf (hd : dInv d) (hc : mRep d c) {x : Nat} (hx : x < 36) : f_X12_riskOf c (iN x) = some (iN (risk d x)) := by
  have hl := drawn_le hd x
  have hv : ∀ q, votes d x q ≤ 12 := votes_le hd x
  have hs : ∀ k, k ≤ 4 → sm k (votes d x) ≤ 48 := fun k hk => Nat.le_trans (sm_le (c := 12) (fun j _ => hv j)) (by omega)
  simp (disch := omega) only [f_X12_riskOf, e12_drawn hd hc hx, iN_lit, iN_add, iN_mul, iN_sub, iN_nn, ck_iN, iN_le, iN_lt, iN_eq, Nat.mul_zero, Nat.zero_add, Nat.add_zero, Nat.reduceMul, Nat.reduceAdd, Nat.reduceSub, Option.bind_some]
  unfold risk riskF
  rw [show drawnF (votes d x) = drawn d x from rfl]
  by_cases h1 : drawn d x = 1
  · rw [if_pos h1, if_pos h1]
  · by_cases h4 : drawn d x = 4
    · rw [if_neg h1, if_pos h4, if_neg h1, if_pos h4]
    · rw [if_neg h1, if_neg h4, if_neg h1, if_neg h4]
      refine iter_run 4 (fun k (φ : Int32 → Int32 → Option Int32) => φ (iN (sm k (votes d x))) (iN k) = some (iN (16 * votes d x 1 / sm 4 (votes d x)))) (by omega) (fun k F hk h => ?_) (fun F => ?_)
      · simp (disch := omega) only [g_X12_riskOf_27, e12_votesOf hd hc hx hk, iN_lit, iN_add, iN_mul, iN_sub, iN_nn, ck_iN, iN_le, iN_lt, iN_eq, Nat.mul_zero, Nat.zero_add, Nat.add_zero, Nat.reduceMul, Nat.reduceAdd, Nat.reduceSub, Option.bind_some]
        rw [if_neg (by omega)]
        exact h
      · have hp := drawnF_pos h4
        have h9 := hs 4 (by omega)
        have hv1 := hv 1
        simp (disch := omega) only [g_X12_riskOf_27, e12_votesOf hd hc hx (show 1 < 4 by decide), iN_div, iN_lit, iN_add, iN_mul, iN_sub, iN_nn, ck_iN, iN_le, iN_lt, iN_eq, Nat.mul_zero, Nat.zero_add, Nat.add_zero, Nat.reduceMul, Nat.reduceAdd, Nat.reduceSub, Option.bind_some]
        rw [if_pos (by omega), ck_y (by rw [decide_eq_true_eq]; omega)]
theorem e7_riskOf {f : Nat → Nat → Nat} {V : Nat → Int32} (hV : talR f V) (hf : ∀ x q, f x q ≤ 12) {x : Nat} (hx : x < 36) : f_X7_riskOf V (iN x) = some (iN (riskF (f x))) := by
  have hl := drawnF_le (hf x)
  have hs : ∀ k, k ≤ 4 → sm k (f x) ≤ 48 := fun k hk => Nat.le_trans (sm_le (c := 12) (fun j _ => hf x j)) (by omega)
  simp (disch := omega) only [f_X7_riskOf, e7_drawnAs hV hf hx, iN_lit, iN_add, iN_mul, iN_sub, iN_nn, ck_iN, iN_le, iN_lt, iN_eq, Nat.mul_zero, Nat.zero_add, Nat.add_zero, Nat.reduceMul, Nat.reduceAdd, Nat.reduceSub, Option.bind_some]
  unfold riskF
  by_cases h1 : drawnF (f x) = 1
  · rw [if_pos h1, if_pos h1]
  · rw [if_neg h1, if_neg h1]
    refine iter_run 4 (fun k (φ : Int32 → Int32 → Int32 → Option Int32) => φ (iN (drawnF (f x))) (iN (sm k (f x))) (iN k) = some (iN (if drawnF (f x) = 4 then 6 else 16 * f x 1 / sm 4 (f x)))) (by omega) (fun k F hk h => ?_) (fun F => ?_)
    · simp (disch := omega) only [g_X7_riskOf_19, e7_votesFor hV hx hk, iN_lit, iN_add, iN_mul, iN_sub, iN_nn, ck_iN, iN_le, iN_lt, iN_eq, Nat.mul_zero, Nat.zero_add, Nat.add_zero, Nat.reduceMul, Nat.reduceAdd, Nat.reduceSub, Option.bind_some]
      rw [if_neg (by omega)]
      exact h
    · have h9 := hs 4 (by omega)
      have hv1 := hf x 1
      simp (disch := omega) only [g_X7_riskOf_19, e7_votesFor hV hx (show 1 < 4 by decide), iN_div, iN_lit, iN_add, iN_mul, iN_sub, iN_nn, ck_iN, iN_le, iN_lt, iN_eq, Nat.mul_zero, Nat.zero_add, Nat.add_zero, Nat.reduceMul, Nat.reduceAdd, Nat.reduceSub, Option.bind_some]
      rw [if_pos (by omega)]
      by_cases h4 : drawnF (f x) = 4
      · rw [if_pos h4, if_pos h4]
      · have hp := drawnF_pos h4
        rw [if_neg h4, if_neg h4, if_neg (by omega), ck_y (by rw [decide_eq_true_eq]; omega)]
end RNG
