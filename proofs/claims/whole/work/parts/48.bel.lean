/-! Calls: oddsThat, likeliest. -/
/-- how much a telling weighs for a kind -/
def tw (d : Nat → Nat) (t q : Nat) : Nat := if d (76 + t) = q then 3 * (16 - d (42 + d (52 + t))) else d (42 + d (52 + t))
def wN (d : Nat → Nat) (x q : Nat) : Nat → Nat
  | 0 => 1
  | n + 1 => if d (64 + n) = x ∧ d (47 + d (52 + n)) = 1 then wN d x q n * tw d n q else wN d x q n
def wAll (d : Nat → Nat) (x : Nat) : Nat := sm 4 (fun q => wN d x q (d 3))
/-- the likeliest kind of the first k + 1 -/
def lkl (f : Nat → Nat) : Nat → Nat
  | 0 => 0
  | k + 1 => if f (k + 1) ≤ f (lkl f k) then lkl f k else k + 1
section BEL
variable {d : Nat → Nat} {w Na : Nat → Int64} {c T T0 Tm S Li By Of Fe Mi : Nat → Int32} {L : Int32} {K : Int32 × Int32} {J J' M M' : Int64}
theorem lkl_le (f : Nat → Nat) : ∀ k, lkl f k ≤ k
  | 0 => Nat.le_refl _
  | k + 1 => by
    have := lkl_le f k
    rw [lkl]
    split <;> omega
theorem tw_le (hd : dInv d) {t : Nat} (ht : t < d 3) (q : Nat) : tw d t q ≤ 48 := by
  have h1 := hd.tell ht
  have hm := hd.many
  have h2 := hd.trav (show d (52 + t) < 5 by omega)
  unfold tw
  split <;> omega
theorem wN_le (hd : dInv d) (x q : Nat) : ∀ n, n ≤ d 3 → wN d x q n ≤ 48 ^ sm n (fun t => if d (64 + t) = x then 1 else 0)
  | 0, _ => Nat.le_refl _
  | n + 1, h => by
    have ih := wN_le hd x q n (by omega)
    have ht := tw_le hd (show n < d 3 by omega) q
    rw [wN, sm_succ]
    by_cases e : d (64 + n) = x
    · rw [if_pos e, Nat.pow_succ]
      split
      · exact Nat.mul_le_mul ih ht
      · exact Nat.le_trans ih (Nat.le_mul_of_pos_right _ (by decide))
    · rw [if_neg e, if_neg (fun h => e h.1)]
      exact ih
theorem wN_b (hd : dInv d) (x q : Nat) : wN d x q (d 3) ≤ 254803968 := by
  have h1 := wN_le hd x q (d 3) (Nat.le_refl _)
  have h2 : 48 ^ sm (d 3) (fun t => if d (64 + t) = x then 1 else 0) ≤ 48 ^ 5 := Nat.pow_le_pow_right (by decide) (hd.2.2.2.2 x)
  omega
theorem wAll_b (hd : dInv d) (x : Nat) : wAll d x ≤ 1019215872 := Nat.le_trans (sm_le (c := 254803968) (fun q _ => wN_b hd x q)) (by decide)
theorem e12_likely (hd : dInv d) (hc : mRep d c) {x q : Nat} (hx : x < 36) (hq : q < 4) : f_X12_likely c (iN x) (iN q) = some (jN (wN d x q (d 3))) := by
  have hm := hd.many
  have h36 := hd.c36
  refine iter_run (d 3) (fun k (φ : Int64 → Int32 → Option Int64) => φ (jN (wN d x q k)) (iN k) = some (jN (wN d x q (d 3)))) (by omega) (fun k F hk h => ?_) (fun F => ?_)
  · have ho := hd.tell hk
    have hh := hd.trav (show d (52 + k) < 5 by omega)
    simp (disch := omega) only [g_X12_likely_5, f_X12_likely_103, letv, hc 3 (by omega), hc (64 + k) (by omega), hc (52 + k) (by omega), hc (76 + k) (by omega), hc (47 + d (52 + k)) (by omega), hc (42 + d (52 + k)) (by omega), jN_i, jN_mul, iN_lit, iN_add, iN_mul, iN_sub, iN_nn, ck_iN, iN_le, iN_lt, iN_eq, Nat.mul_zero, Nat.zero_add, Nat.add_zero, Nat.reduceMul, Nat.reduceAdd, Nat.reduceSub, Option.bind_some]
    rw [if_neg (by omega)]
    rw [wN, tw] at h
    by_cases q1 : d (64 + k) = x
    · rw [if_pos q1]
      by_cases q2 : d (47 + d (52 + k)) = 0
      · rw [if_pos q2]
        rw [if_neg (fun h9 => by omega)] at h
        exact h
      · rw [if_neg q2]
        rw [if_pos ⟨q1, by omega⟩] at h
        by_cases q3 : d (76 + k) = q
        · rw [if_pos q3]; rw [if_pos q3] at h; exact h
        · rw [if_neg q3]; rw [if_neg q3] at h; exact h
    · rw [if_neg q1]
      rw [if_neg (fun h9 => q1 h9.1)] at h
      exact h
  · simp (disch := omega) only [g_X12_likely_5, hc 3 (by omega), iN_lit, iN_add, iN_mul, iN_sub, iN_nn, ck_iN, iN_le, iN_lt, iN_eq, Nat.mul_zero, Nat.zero_add, Nat.add_zero, Nat.reduceMul, Nat.reduceAdd, Nat.reduceSub, Option.bind_some]
    rw [if_pos (by omega)]
theorem e12_likelyAll (hd : dInv d) (hc : mRep d c) {x : Nat} (hx : x < 36) : f_X12_likelyAll c (iN x) = some (jN (wAll d x)) := by
  refine iter_run 4 (fun k (φ : Int64 → Int32 → Option Int64) => φ (jN (sm k (fun q => wN d x q (d 3)))) (iN k) = some (jN (wAll d x))) (by omega) (fun k F hk h => ?_) (fun F => ?_)
  · simp (disch := omega) only [g_X12_likelyAll_5, e12_likely hd hc hx hk, jN_add, iN_lit, iN_add, iN_mul, iN_sub, iN_nn, ck_iN, iN_le, iN_lt, iN_eq, Nat.mul_zero, Nat.zero_add, Nat.add_zero, Nat.reduceMul, Nat.reduceAdd, Nat.reduceSub, Option.bind_some]
    rw [if_neg (by omega)]
    exact h
  · simp (disch := omega) only [g_X12_likelyAll_5, iN_lit, iN_add, iN_mul, iN_sub, iN_nn, ck_iN, iN_le, iN_lt, iN_eq, Nat.mul_zero, Nat.zero_add, Nat.add_zero, Nat.reduceMul, Nat.reduceAdd, Nat.reduceSub, Option.bind_some]
    rw [if_pos (by omega)]; rfl
theorem e12_likeliestOf (hd : dInv d) (hc : mRep d c) {x : Nat} (hx : x < 36) : f_X12_likeliestOf c (iN x) = some (iN (lkl (fun q => wN d x q (d 3)) 3)) := by
  refine iter_run 3 (fun k (φ : Int32 → Int32 → Option Int32) => φ (iN (lkl (fun q => wN d x q (d 3)) k)) (iN (k + 1)) = some (iN (lkl (fun q => wN d x q (d 3)) 3))) (by omega) (fun k F hk h => ?_) (fun F => ?_)
  · have hl := lkl_le (fun q => wN d x q (d 3)) k
    have b1 := wN_b hd x (k + 1)
    have b2 := wN_b hd x (lkl (fun q => wN d x q (d 3)) k)
    rw [g_X12_likeliestOf_4, if_neg (by rw [show (4 : Int32) = iN 4 from rfl, iN_le (by omega) (by omega)]; omega), e12_likely hd hc hx (by omega), Option.bind_some, e12_likely hd hc hx (by omega), Option.bind_some, show (iN (k + 1) + 1 : Int32) = iN (k + 1 + 1) from iN_add (k + 1) 1]
    rw [lkl] at h
    by_cases q : wN d x (k + 1) (d 3) ≤ wN d x (lkl (fun q => wN d x q (d 3)) k) (d 3)
    · rw [if_pos (by rw [lg_cmp_le, jN_le (by omega) (by omega)]; exact q)]
      rw [if_pos q] at h; exact h
    · rw [if_neg (by rw [lg_cmp_le, jN_le (by omega) (by omega)]; exact q)]
      rw [if_neg q] at h; exact h
  · rw [g_X12_likeliestOf_4, if_pos (by decide)]
/-- the class's weights of a cell -/
def wRep (d : Nat → Nat) (x n : Nat) (V : Nat → Int64) : Prop := ∀ q, q < 4 → V q = jN (wN d x q n)
theorem e1_weigh (hd : dInv d) (hk : kRep d w T S Li Na By Of Fe Mi) {x : Nat} (hx : x < 36) (V : Nat → Int64) : ∃ W, f_X1_weigh T V By Of Li Fe (iN x) = some W ∧ wRep d x (d 3) W := by
  have hm := hd.many
  have h36 := hd.c36
  obtain ⟨W0, e0, h0⟩ := e7_fillL 4 (by decide) V 1
  have l := iter_run (g := g_X1_weigh_10 T By Of Li Fe (iN x)) (z := fun _ _ => none) (d 3) (fun k (φ : Int32 → (Nat → Int64) → Option (Nat → Int64)) => ∀ U, wRep d x k U → ∃ W, φ (iN k) U = some W ∧ wRep d x (d 3) W) (by omega) (fun k F hk9 h => fun U hU => ?_) (fun F => fun U hU => ?_)
  · obtain ⟨W, hW, h1⟩ := l W0 (fun q hq => h0 q hq)
    exact ⟨W, by rw [f_X1_weigh, e0, Option.bind_some]; exact hW, h1⟩
  · have ho := hd.tell hk9
    have hh := hd.trav (show d (52 + k) < 5 by omega)
    have ht := e3_hasTraveller hd hk.1 (iN (d (52 + k)))
    rw [if_pos (by rw [inR_iN (by omega)]; exact ho.1)] at ht
    rw [g_X1_weigh_10, hk.1.2.2.2.2.2.2, if_neg (by rw [iN_le (by omega) (by omega)]; omega), ck_iN (by omega) (by omega), ck_iN (by omega) (by omega), iN_nn (by omega), hk.2.2.2.2.2.1 k hk9, hk.2.2.2.2.1 k hk9, e3_isHeard hd hk.1 ho.1, Option.bind_some, ht, Option.bind_some, if_neg (show ¬ (1 : Int32) = 0 by decide), ck_iN (by omega) (by omega), iN_nn (by omega), hk.2.2.1 _ ho.1, letv, show (iN k + 1 : Int32) = iN (k + 1) from iN_add k 1]
    have skip : (¬ (d (64 + k) = x ∧ d (47 + d (52 + k)) = 1)) → ∃ W, F (iN (k + 1)) U = some W ∧ wRep d x (d 3) W := fun hn => h U (fun q hq => by rw [wN, if_neg hn]; exact hU q hq)
    by_cases q1 : d (64 + k) = x
    · rw [if_pos (by rw [q1])]
      by_cases q2 : d (47 + d (52 + k)) = 1
      · rw [if_pos q2, if_neg (show ¬ (1 : Int32) = 0 by decide)]
        have l2 := iter_run (g := g_X1_weigh_69 T By Of Li Fe (iN x) F) (z := fun _ _ _ _ => none) 4 (fun j (φ : Int32 → Int32 → Int32 → (Nat → Int64) → Option (Nat → Int64)) => ∀ U, (∀ q, q < 4 → U q = jN (if q < j then wN d x q k * tw d k q else wN d x q k)) → ∃ W, φ (iN k) (iN (d (42 + d (52 + k)))) (iN j) U = some W ∧ wRep d x (d 3) W) (by omega) (fun j G hj h9 => fun U9 hU9 => ?_) (fun G => fun U9 hU9 => ?_)
        · exact l2 U (fun q hq => by rw [if_neg (by omega)]; exact hU q hq)
        · have hUj := hU9 j hj
          rw [if_neg (by omega)] at hUj
          obtain ⟨W, hW, h8⟩ := h9 (vp_updL U9 j (jN (wN d x j k * tw d k j))) (fun q hq => by
            unfold vp_updL
            by_cases e : q = j
            · subst e; rw [if_pos rfl, if_pos (by omega)]
            · rw [if_neg e, hU9 q hq]
              by_cases e2 : q < j
              · rw [if_pos e2, if_pos (by omega)]
              · rw [if_neg e2, if_neg (by omega)])
          refine ⟨W, ?_, h8⟩
          rw [g_X1_weigh_69, if_neg (by rw [show (4 : Int32) = iN 4 from rfl, iN_le (by omega) (by omega)]; omega), ck_iN (by omega) (by omega), ck_iN (by omega) (by omega), iN_nn (by omega), iN_nn (by omega), hk.2.2.2.2.2.2.1 k hk9, hUj]
          have e3 : (3 * (16 - iN (d (42 + d (52 + k)))) : Int32) = iN (3 * (16 - d (42 + d (52 + k)))) := by
            rw [show (16 : Int32) = iN 16 from rfl, show (3 : Int32) = iN 3 from rfl, iN_sub (by omega), iN_mul]
          have ee : ∀ v, f_X1_weigh_108 T By Of Li Fe (iN x) F G (iN k) (iN (d (42 + d (52 + k)))) (iN j) (iN j) (jN (wN d x j k)) (jN v) U9 = G (iN k) (iN (d (42 + d (52 + k)))) (iN (j + 1)) (vp_updL U9 j (jN (wN d x j k * v))) := fun v => by
            rw [f_X1_weigh_108, ck_iN (by omega) (by omega), iN_nn (by omega), jN_mul, show (iN j + 1 : Int32) = iN (j + 1) from iN_add j 1]
          rw [e3, jN_i (by omega), jN_i (by omega), ee, ee]
          unfold tw at hW
          by_cases q3 : d (76 + k) = j
          · rw [if_pos (by rw [q3])]; rw [if_pos q3] at hW; exact hW
          · rw [if_neg (by rw [iN_eq (by omega) (by omega)]; exact q3)]; rw [if_neg q3] at hW; exact hW
        · rw [g_X1_weigh_69, if_pos (by decide), show (iN k + 1 : Int32) = iN (k + 1) from iN_add k 1]
          refine h U9 (fun q hq => ?_)
          rw [wN, if_pos ⟨q1, q2⟩, hU9 q hq, if_pos hq]
      · rw [if_neg q2, if_pos rfl]
        exact skip (fun h9 => q2 h9.2)
    · rw [if_neg (by rw [iN_eq (by omega) (by omega)]; exact q1)]
      exact skip (fun h9 => q1 h9.1)
  · refine ⟨U, ?_, hU⟩
    rw [g_X1_weigh_10, hk.1.2.2.2.2.2.2, if_pos (by rw [iN_le (by omega) (by omega)]; omega)]
theorem e1_sum {x : Nat} {V : Nat → Int64} (hV : wRep d x (d 3) V) : f_X1_sum V = some (jN (wAll d x)) := by
  refine iter_run 4 (fun k (φ : Int64 → Int32 → Option Int64) => φ (jN (sm k (fun q => wN d x q (d 3)))) (iN k) = some (jN (wAll d x))) (by omega) (fun k F hk h => ?_) (fun F => ?_)
  · simp (disch := omega) only [g_X1_sum_4, hV k hk, jN_add, iN_lit, iN_add, iN_mul, iN_sub, iN_nn, ck_iN, iN_le, iN_lt, iN_eq, Nat.mul_zero, Nat.zero_add, Nat.add_zero, Nat.reduceMul, Nat.reduceAdd, Nat.reduceSub, Option.bind_some]
    rw [if_neg (by omega)]
    exact h
  · simp (disch := omega) only [g_X1_sum_4, iN_lit, iN_add, iN_mul, iN_sub, iN_nn, ck_iN, iN_le, iN_lt, iN_eq, Nat.mul_zero, Nat.zero_add, Nat.add_zero, Nat.reduceMul, Nat.reduceAdd, Nat.reduceSub, Option.bind_some]
    rw [if_pos (by omega)]; rfl
theorem e1_likeliest (hd : dInv d) {x : Nat} {V : Nat → Int64} (hV : wRep d x (d 3) V) : f_X1_likeliestKind V = some (iN (lkl (fun q => wN d x q (d 3)) 3)) := by
  refine iter_run 3 (fun k (φ : Int32 → Int32 → Option Int32) => φ (iN (lkl (fun q => wN d x q (d 3)) k)) (iN (k + 1)) = some (iN (lkl (fun q => wN d x q (d 3)) 3))) (by omega) (fun k F hk h => ?_) (fun F => ?_)
  · have hl := lkl_le (fun q => wN d x q (d 3)) k
    have b1 := wN_b hd x (k + 1)
    have b2 := wN_b hd x (lkl (fun q => wN d x q (d 3)) k)
    rw [g_X1_likeliestKind_4, if_neg (by rw [show (4 : Int32) = iN 4 from rfl, iN_le (by omega) (by omega)]; omega), ck_iN (by omega) (by omega), ck_iN (by omega) (by omega), iN_nn (by omega), iN_nn (by omega), hV _ (by omega), hV _ (by omega), show (iN (k + 1) + 1 : Int32) = iN (k + 1 + 1) from iN_add (k + 1) 1]
    rw [lkl] at h
    by_cases q : wN d x (k + 1) (d 3) ≤ wN d x (lkl (fun q => wN d x q (d 3)) k) (d 3)
    · rw [if_pos (by rw [lg_cmp_le, jN_le (by omega) (by omega)]; exact q)]
      rw [if_pos q] at h; exact h
    · rw [if_neg (by rw [lg_cmp_le, jN_le (by omega) (by omega)]; exact q)]
      rw [if_neg q] at h; exact h
  · rw [g_X1_likeliestKind_4, if_pos (by decide)]
end BEL
