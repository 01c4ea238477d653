/-! The model's block 0 read: each reading is a plain count over d. -/
theorem dInv.c36 {d : Nat → Nat} (h : dInv d) : cells d ≤ 36 := Nat.le_trans (Nat.mul_le_mul h.1.1 h.1.2.1) (by decide)
theorem dInv.many {d : Nat → Nat} (h : dInv d) : d 2 ≤ 5 ∧ d 3 ≤ 12 := ⟨h.1.2.2.1, h.1.2.2.2.1⟩
theorem dInv.tell {d : Nat → Nat} (h : dInv d) {t : Nat} (ht : t < d 3) : d (52 + t) < d 2 ∧ d (64 + t) < cells d ∧ d (76 + t) < 4 ∧ d (88 + t) ≤ 9 := h.2.2.2.1 t ht
theorem dInv.trav {d : Nat → Nat} (h : dInv d) {k : Nat} (hk : k < 5) : d (42 + k) ≤ 16 ∧ d (47 + k) ≤ 1 := h.2.2.1 k hk
def votes (d : Nat → Nat) (x q : Nat) : Nat := sm (d 3) (fun t => if d (64 + t) = x ∧ d (76 + t) = q then d (47 + d (52 + t)) else 0)
/-- the kinds counted: the best so far, the most so far -/
def drS (f : Nat → Nat) : Nat → Nat × Nat
  | 0 => (4, 0)
  | k + 1 => if (drS f k).2 < f k then (k, f k) else if f k = (drS f k).2 then (4, (drS f k).2) else drS f k
def drawnF (f : Nat → Nat) : Nat := (drS f 4).1
def drawn (d : Nat → Nat) (x : Nat) : Nat := drawnF (votes d x)
def riskF (f : Nat → Nat) : Nat := if drawnF f = 1 then 16 else if drawnF f = 4 then 6 else 16 * f 1 / sm 4 f
def risk (d : Nat → Nat) (x : Nat) : Nat := riskF (votes d x)
def sizeAt (d : Nat → Nat) (x : Nat) : Nat := sm (d 3) (fun t => if d (64 + t) = x ∧ d (76 + t) = 3 ∧ d (47 + d (52 + t)) = 1 then d (88 + t) else 0)
def whites (d : Nat → Nat) : Nat := sm (cells d) (fun k => if drawn d k = 4 then 1 else 0)
def rights (d : Nat → Nat) : Nat := sm (cells d) (fun k => if drawn d k = d (6 + k) then 1 else 0)
def tellBy (d : Nat → Nat) (k : Nat) : Nat := sm (d 3) (fun t => if d (52 + t) = k then 1 else 0)
def falseBy (d : Nat → Nat) (k : Nat) : Nat := sm (d 3) (fun t => if d (52 + t) = k ∧ ¬ d (76 + t) = d (6 + d (64 + t)) then 1 else 0)
theorem iN_div {a b : Nat} (ha : a < 2147483648) (hb : b < 2147483648) : iN a / iN b = iN (a / b) := by
  apply Int32.toInt_inj.mp
  have h1 : a / b < 2147483648 := Nat.lt_of_le_of_lt (Nat.div_le_self a b) ha
  have hm : iN a ≠ Int32.minValue := fun h => by
    have h2 := congrArg Int32.toInt h
    rw [iN_int ha] at h2
    have h3 : Int32.minValue.toInt = -2147483648 := by decide
    omega
  rw [Int32.toInt_div_of_ne_left _ _ hm, iN_int ha, iN_int hb, iN_int h1]
  rfl
section MOD1
variable {d : Nat → Nat} {c : Nat → Int32}
theorem e12_tellingsOf (hd : dInv d) (hc : mRep d c) {x : Nat} (hx : x < 36) : f_X12_tellingsOf c 0 (iN x) = some (iN (tellOf d x)) := by
  have h3 := hd.many.2
  have h36 := hd.c36
  refine iter_run (d 3) (fun k (φ : Int32 → Int32 → Option Int32) => φ (iN (sm k (fun t => if d (64 + t) = x then 1 else 0))) (iN k) = some (iN (tellOf d x))) (by omega) (fun k F hk h => ?_) (fun F => ?_)
  · have ho := hd.tell hk
    simp (disch := omega) only [g_X12_tellingsOf_5, f_X12_tellingsOf_48, hc 3 (by omega), hc (64 + k) (by omega), iN_lit, iN_add, iN_mul, iN_sub, iN_nn, ck_iN, iN_le, iN_lt, iN_eq, Nat.mul_zero, Nat.zero_add, Nat.add_zero, Nat.reduceMul, Nat.reduceAdd, Nat.reduceSub, Option.bind_some]
    rw [if_neg (by omega)]
    simp only [sm_succ] at h
    repeat' split
    all_goals simp_all
  · simp (disch := omega) only [g_X12_tellingsOf_5, f_X12_tellingsOf_48, hc 3 (by omega), iN_lit, iN_add, iN_mul, iN_sub, iN_nn, ck_iN, iN_le, iN_lt, iN_eq, Nat.mul_zero, Nat.zero_add, Nat.add_zero, Nat.reduceMul, Nat.reduceAdd, Nat.reduceSub, Option.bind_some]
    rw [if_pos (by omega)]; rfl
theorem e12_votesOf (hd : dInv d) (hc : mRep d c) {x q : Nat} (hx : x < 36) (hq : q < 4) : f_X12_votesOf c (iN x) (iN q) = some (iN (votes d x q)) := by
  have h3 := hd.many
  have h36 := hd.c36
  refine iter_run (d 3) (fun k (φ : Int32 → Int32 → Option Int32) => φ (iN (sm k (fun t => if d (64 + t) = x ∧ d (76 + t) = q then d (47 + d (52 + t)) else 0))) (iN k) = some (iN (votes d x q))) (by omega) (fun k F hk h => ?_) (fun F => ?_)
  · have ho := hd.tell hk
    simp (disch := omega) only [g_X12_votesOf_5, f_X12_votesOf_66, f_X12_votesOf_67, hc 3 (by omega), hc (64 + k) (by omega), hc (76 + k) (by omega), hc (52 + k) (by omega), hc (47 + d (52 + k)) (by omega), iN_lit, iN_add, iN_mul, iN_sub, iN_nn, ck_iN, iN_le, iN_lt, iN_eq, Nat.mul_zero, Nat.zero_add, Nat.add_zero, Nat.reduceMul, Nat.reduceAdd, Nat.reduceSub, Option.bind_some]
    rw [if_neg (by omega)]
    simp only [sm_succ] at h
    repeat' split
    all_goals simp_all
  · simp (disch := omega) only [g_X12_votesOf_5, hc 3 (by omega), iN_lit, iN_add, iN_mul, iN_sub, iN_nn, ck_iN, iN_le, iN_lt, iN_eq, Nat.mul_zero, Nat.zero_add, Nat.add_zero, Nat.reduceMul, Nat.reduceAdd, Nat.reduceSub, Option.bind_some]
    rw [if_pos (by omega)]; rfl
theorem votes_le (hd : dInv d) (x q : Nat) : votes d x q ≤ 12 := by
  have h1 : votes d x q ≤ 1 * d 3 := sm_le (fun t ht => by
    split
    · exact (hd.trav (by have := hd.tell ht; have := hd.many; omega)).2
    · exact Nat.zero_le _)
  have := hd.many
  omega
theorem drS_le {f : Nat → Nat} {m : Nat} (h : ∀ k, k < 4 → f k ≤ m) : ∀ k, k ≤ 4 → (drS f k).1 ≤ 4 ∧ (drS f k).2 ≤ m
  | 0, _ => ⟨Nat.le_refl _, Nat.zero_le _⟩
  | k + 1, hk => by
    have ih := drS_le h k (by omega)
    have := h k (by omega)
    rw [drS]
    repeat' split
    all_goals (first | exact ih | exact ⟨by omega, by omega⟩ | exact ⟨Nat.le_refl _, ih.2⟩)
theorem drawn_le (hd : dInv d) (x : Nat) : drawn d x ≤ 4 := (drS_le (m := 12) (fun k _ => votes_le hd x k) 4 (by decide)).1
theorem e12_drawn (hd : dInv d) (hc : mRep d c) {x : Nat} (hx : x < 36) : f_X12_drawn c (iN x) = some (iN (drawn d x)) := by
  refine iter_run 4 (fun k (φ : Int32 → Int32 → Int32 → Option Int32) => φ (iN (drS (votes d x) k).1) (iN (drS (votes d x) k).2) (iN k) = some (iN (drawn d x))) (by omega) (fun k F hk h => ?_) (fun F => ?_)
  · have hv := votes_le hd x k
    have hs := drS_le (m := 12) (f := votes d x) (fun k _ => votes_le hd x k) k (by omega)
    simp (disch := omega) only [g_X12_drawn_7, f_X12_drawn_42, e12_votesOf hd hc hx hk, letv, iN_lit, iN_add, iN_mul, iN_sub, iN_nn, ck_iN, iN_le, iN_lt, iN_eq, Nat.mul_zero, Nat.zero_add, Nat.add_zero, Nat.reduceMul, Nat.reduceAdd, Nat.reduceSub, Option.bind_some]
    rw [if_neg (by omega)]
    rw [drS] at h
    generalize hv9 : votes d x k = v at h hv ⊢
    generalize hs9 : drS (votes d x) k = s9 at h hs ⊢
    obtain ⟨b, mo⟩ := s9
    by_cases h1 : mo < v
    · rw [if_neg (by omega), if_pos h1]
      rw [if_pos h1] at h
      exact h
    · rw [if_pos (by omega), if_neg h1]
      rw [if_neg h1] at h
      by_cases h2 : v = mo
      · rw [if_pos h2]; rw [if_pos h2] at h; exact h
      · rw [if_neg h2]; rw [if_neg h2] at h; exact h
  · simp (disch := omega) only [g_X12_drawn_7, iN_lit, iN_add, iN_mul, iN_sub, iN_nn, ck_iN, iN_le, iN_lt, iN_eq, Nat.mul_zero, Nat.zero_add, Nat.add_zero, Nat.reduceMul, Nat.reduceAdd, Nat.reduceSub, Option.bind_some]
    rw [if_pos (by omega)]; rfl
theorem e12_cells (hd : dInv d) (hc : mRep d c) : f_X12_cells c = some (iN (cells d)) := by
  simp (disch := omega) only [f_X12_cells, hc 0 (by omega), hc 1 (by omega), iN_lit, iN_add, iN_mul, iN_sub, iN_nn, ck_iN, iN_le, iN_lt, iN_eq, Nat.mul_zero, Nat.zero_add, Nat.add_zero, Nat.reduceMul, Nat.reduceAdd, Nat.reduceSub, Option.bind_some]
  rfl
theorem e12_whites (hd : dInv d) (hc : mRep d c) : f_X12_whites c = some (iN (whites d)) := by
  have h36 := hd.c36
  refine iter_run (cells d) (fun k (φ : Int32 → Int32 → Option Int32) => φ (iN (sm k (fun k => if drawn d k = 4 then 1 else 0))) (iN k) = some (iN (whites d))) (by omega) (fun k F hk h => ?_) (fun F => ?_)
  · have hv := drawn_le hd k
    simp (disch := omega) only [g_X12_whites_4, f_X12_whites_27, e12_cells hd hc, e12_drawn hd hc (show k < 36 by omega), iN_lit, iN_add, iN_mul, iN_sub, iN_nn, ck_iN, iN_le, iN_lt, iN_eq, Nat.mul_zero, Nat.zero_add, Nat.add_zero, Nat.reduceMul, Nat.reduceAdd, Nat.reduceSub, Option.bind_some]
    rw [if_neg (by omega)]
    simp only [sm_succ] at h
    repeat' split
    all_goals simp_all
  · simp (disch := omega) only [g_X12_whites_4, e12_cells hd hc, iN_lit, iN_add, iN_mul, iN_sub, iN_nn, ck_iN, iN_le, iN_lt, iN_eq, Nat.mul_zero, Nat.zero_add, Nat.add_zero, Nat.reduceMul, Nat.reduceAdd, Nat.reduceSub, Option.bind_some]
    rw [if_pos (by omega)]; rfl
theorem whites_le (d : Nat → Nat) : whites d ≤ cells d := by
  have h : whites d ≤ 1 * cells d := sm_le (fun k _ => by split <;> omega)
  omega
theorem e12_knowns (hd : dInv d) (hc : mRep d c) : f_X12_knowns c = some (iN (cells d - whites d)) := by
  have := whites_le d
  simp (disch := omega) only [f_X12_knowns, e12_cells hd hc, e12_whites hd hc, iN_lit, iN_add, iN_mul, iN_sub, iN_nn, ck_iN, iN_le, iN_lt, iN_eq, Nat.mul_zero, Nat.zero_add, Nat.add_zero, Nat.reduceMul, Nat.reduceAdd, Nat.reduceSub, Option.bind_some]
theorem e12_rights (hd : dInv d) (hc : mRep d c) : f_X12_rights c = some (iN (rights d)) := by
  have h36 := hd.c36
  refine iter_run (cells d) (fun k (φ : Int32 → Int32 → Option Int32) => φ (iN (sm k (fun k => if drawn d k = d (6 + k) then 1 else 0))) (iN k) = some (iN (rights d))) (by omega) (fun k F hk h => ?_) (fun F => ?_)
  · have hv := drawn_le hd k
    have hs := hd.2.1 k (by omega)
    simp (disch := omega) only [g_X12_rights_4, f_X12_rights_35, e12_cells hd hc, e12_drawn hd hc (show k < 36 by omega), hc (6 + k) (by omega), iN_lit, iN_add, iN_mul, iN_sub, iN_nn, ck_iN, iN_le, iN_lt, iN_eq, Nat.mul_zero, Nat.zero_add, Nat.add_zero, Nat.reduceMul, Nat.reduceAdd, Nat.reduceSub, Option.bind_some]
    rw [if_neg (by omega)]
    simp only [sm_succ] at h
    repeat' split
    all_goals simp_all
  · simp (disch := omega) only [g_X12_rights_4, e12_cells hd hc, iN_lit, iN_add, iN_mul, iN_sub, iN_nn, ck_iN, iN_le, iN_lt, iN_eq, Nat.mul_zero, Nat.zero_add, Nat.add_zero, Nat.reduceMul, Nat.reduceAdd, Nat.reduceSub, Option.bind_some]
    rw [if_pos (by omega)]; rfl
theorem e12_sizeAt (hd : dInv d) (hc : mRep d c) {x : Nat} (hx : x < 36) : f_X12_sizeAt c (iN x) = some (iN (sizeAt d x)) := by
  have h3 := hd.many
  have h36 := hd.c36
  refine iter_run (d 3) (fun k (φ : Int32 → Int32 → Option Int32) => φ (iN (sm k (fun t => if d (64 + t) = x ∧ d (76 + t) = 3 ∧ d (47 + d (52 + t)) = 1 then d (88 + t) else 0))) (iN k) = some (iN (sizeAt d x))) (by omega) (fun k F hk h => ?_) (fun F => ?_)
  · have ho := hd.tell hk
    have hh := hd.trav (show d (52 + k) < 5 by omega)
    simp (disch := omega) only [g_X12_sizeAt_4, f_X12_sizeAt_74, f_X12_sizeAt_75, hc 3 (by omega), hc (64 + k) (by omega), hc (76 + k) (by omega), hc (52 + k) (by omega), hc (88 + k) (by omega), hc (47 + d (52 + k)) (by omega), iN_lit, iN_add, iN_mul, iN_sub, iN_nn, ck_iN, iN_le, iN_lt, iN_eq, Nat.mul_zero, Nat.zero_add, Nat.add_zero, Nat.reduceMul, Nat.reduceAdd, Nat.reduceSub, Option.bind_some]
    rw [if_neg (by omega)]
    simp only [sm_succ] at h
    repeat' split
    all_goals simp_all
  · simp (disch := omega) only [g_X12_sizeAt_4, hc 3 (by omega), iN_lit, iN_add, iN_mul, iN_sub, iN_nn, ck_iN, iN_le, iN_lt, iN_eq, Nat.mul_zero, Nat.zero_add, Nat.add_zero, Nat.reduceMul, Nat.reduceAdd, Nat.reduceSub, Option.bind_some]
    rw [if_pos (by omega)]; rfl
theorem e12_told0 (hd : dInv d) (hc : mRep d c) {x : Nat} (hx : x < 5) : f_X12_told c (iN x) 0 = some (iN (tellBy d x)) := by
  have h3 := hd.many
  refine iter_run (d 3) (fun k (φ : Int32 → Int32 → Option Int32) => φ (iN (sm k (fun t => if d (52 + t) = x then 1 else 0))) (iN k) = some (iN (tellBy d x))) (by omega) (fun k F hk h => ?_) (fun F => ?_)
  · have ho := hd.tell hk
    simp (disch := omega) only [g_X12_told_5, f_X12_told_66, f_X12_told_70, f_X12_told_71, hc 3 (by omega), hc (52 + k) (by omega), iN_lit, iN_add, iN_mul, iN_sub, iN_nn, ck_iN, iN_le, iN_lt, iN_eq, Nat.mul_zero, Nat.zero_add, Nat.add_zero, Nat.reduceMul, Nat.reduceAdd, Nat.reduceSub, Option.bind_some]
    rw [if_neg (by omega)]
    simp only [sm_succ] at h
    repeat' split
    all_goals simp_all
  · simp (disch := omega) only [g_X12_told_5, hc 3 (by omega), iN_lit, iN_add, iN_mul, iN_sub, iN_nn, ck_iN, iN_le, iN_lt, iN_eq, Nat.mul_zero, Nat.zero_add, Nat.add_zero, Nat.reduceMul, Nat.reduceAdd, Nat.reduceSub, Option.bind_some]
    rw [if_pos (by omega)]; rfl
theorem e12_told1 (hd : dInv d) (hc : mRep d c) {x : Nat} (hx : x < 5) : f_X12_told c (iN x) 1 = some (iN (falseBy d x)) := by
  have h3 := hd.many
  have h36 := hd.c36
  refine iter_run (d 3) (fun k (φ : Int32 → Int32 → Option Int32) => φ (iN (sm k (fun t => if d (52 + t) = x ∧ ¬ d (76 + t) = d (6 + d (64 + t)) then 1 else 0))) (iN k) = some (iN (falseBy d x))) (by omega) (fun k F hk h => ?_) (fun F => ?_)
  · have ho := hd.tell hk
    have hs := hd.2.1 (d (64 + k)) (by omega)
    simp (disch := omega) only [g_X12_told_5, f_X12_told_66, f_X12_told_70, f_X12_told_71, hc 3 (by omega), hc (52 + k) (by omega), hc (76 + k) (by omega), hc (64 + k) (by omega), hc (6 + d (64 + k)) (by omega), iN_lit, iN_add, iN_mul, iN_sub, iN_nn, ck_iN, iN_le, iN_lt, iN_eq, Nat.mul_zero, Nat.zero_add, Nat.add_zero, Nat.reduceMul, Nat.reduceAdd, Nat.reduceSub, Option.bind_some]
    rw [if_neg (by omega)]
    simp only [sm_succ] at h
    repeat' split
    all_goals simp_all
  · simp (disch := omega) only [g_X12_told_5, hc 3 (by omega), iN_lit, iN_add, iN_mul, iN_sub, iN_nn, ck_iN, iN_le, iN_lt, iN_eq, Nat.mul_zero, Nat.zero_add, Nat.add_zero, Nat.reduceMul, Nat.reduceAdd, Nat.reduceSub, Option.bind_some]
    rw [if_pos (by omega)]; rfl
end MOD1
