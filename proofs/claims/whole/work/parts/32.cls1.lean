/-! The class's duchy read: the same counts over d. -/
def votesS (d : Nat → Nat) (s x q : Nat) : Nat := sm (d 3) (fun t => if d (64 + t) = x ∧ d (76 + t) = q ∧ s.testBit (d (52 + t)) = true then 1 else 0)
def drawnS (d : Nat → Nat) (s x : Nat) : Nat := drawnF (votesS d s x)
def knownS (d : Nat → Nat) (s : Nat) : Nat := sm (cells d) (fun k => if drawnS d s k = 4 then 0 else 1)
def rightS (d : Nat → Nat) (s : Nat) : Nat := sm (cells d) (fun k => if drawnS d s k = d (6 + k) then 1 else 0)
def tRep (d : Nat → Nat) (T : Nat → Int32) : Prop := T 0 = iN (d 0) ∧ T 1 = iN (d 1) ∧ T 2 = iN (d 4) ∧ T 3 = iN (d 5) ∧ T 4 = iN (d 2) ∧ T 5 = iN (hset d) ∧ T 6 = iN (d 3)
/-- an array's first N numbers are those of d from o on -/
def aRep (d : Nat → Nat) (o N : Nat) (V : Nat → Int32) : Prop := ∀ k, k < N → V k = iN (d (o + k))
def talR (f : Nat → Nat → Nat) (V : Nat → Int32) : Prop := ∀ x q, x < 36 → q < 4 → V (4 * x + q) = iN (f x q)
theorem isIn_tab : ∀ s, s < 32 → ∀ k, k < 5 → f_X3_isIn (iN k) (iN s) = some (if s.testBit k then 1 else 0) := by decide +kernel
theorem has_tab : ∀ s, s < 32 → ∀ k, k < 5 → f_X12_has (iN s) (iN k) = some (if s.testBit k then 1 else 0) := by decide +kernel
theorem hs_lt {f : Nat → Nat} (N : Nat) (h : ∀ k, k < N → f k ≤ 1) : sm N (fun k => f k * 2 ^ k) < 2 ^ N := by
  induction N with
  | zero => exact Nat.one_pos
  | succ n ih =>
    have h1 := ih (fun k hk => h k (by omega))
    have h2 := h n (by omega)
    rw [sm_succ, Nat.pow_succ]
    have h3 : f n * 2 ^ n ≤ 1 * 2 ^ n := Nat.mul_le_mul_right _ h2
    omega
theorem hs_bit {f : Nat → Nat} (N : Nat) (h : ∀ k, k < N → f k ≤ 1) (j : Nat) (hj : j < N) : (sm N (fun k => f k * 2 ^ k)).testBit j = decide (f j = 1) := by
  induction N with
  | zero => omega
  | succ n ih =>
    have h1 := hs_lt n (fun k hk => h k (by omega))
    rw [sm_succ, Nat.add_comm, Nat.mul_comm, Nat.testBit_two_pow_mul_add _ h1]
    by_cases e : j < n
    · rw [if_pos e]; exact ih (fun k hk => h k (by omega)) e
    · rw [if_neg e]
      have ej : j = n := by omega
      subst ej
      have h2 := h j (by omega)
      rw [Nat.sub_self]
      rcases (show f j = 0 ∨ f j = 1 by omega) with h3 | h3 <;> rw [h3] <;> rfl
section CLS1
variable {d : Nat → Nat} {T V1 V2 V3 V4 V5 : Nat → Int32}
theorem hset_lt (hd : dInv d) : hset d < 32 := by
  have h1 := hs_lt (f := fun k => d (47 + k)) (d 2) (fun k hk => (hd.trav (by have := hd.many; omega)).2)
  have h2 : (2 : Nat) ^ d 2 ≤ 2 ^ 5 := Nat.pow_le_pow_right (by decide) hd.many.1
  exact Nat.lt_of_lt_of_le h1 h2
theorem hset_bit (hd : dInv d) {k : Nat} (hk : k < d 2) : (hset d).testBit k = decide (d (47 + k) = 1) := hs_bit (f := fun k => d (47 + k)) (d 2) (fun k hk => (hd.trav (by have := hd.many; omega)).2) k hk
theorem votesS_h (hd : dInv d) (x q : Nat) : votesS d (hset d) x q = votes d x q := by
  refine sm_congr (fun t ht => ?_)
  have ho := hd.tell ht
  rw [hset_bit hd ho.1]
  have hh := (hd.trav (show d (52 + t) < 5 by have := hd.many; omega)).2
  by_cases h1 : d (64 + t) = x ∧ d (76 + t) = q
  · by_cases h2 : d (47 + d (52 + t)) = 1
    · rw [if_pos h1, if_pos ⟨h1.1, h1.2, decide_eq_true h2⟩, h2]
    · rw [if_pos h1, if_neg (fun h => h2 (of_decide_eq_true h.2.2))]; omega
  · rw [if_neg h1, if_neg (fun h => h1 ⟨h.1, h.2.1⟩)]
theorem drawnS_h (hd : dInv d) (x : Nat) : drawnS d (hset d) x = drawn d x := by
  unfold drawnS drawn
  rw [show votesS d (hset d) x = votes d x from funext (votesS_h hd x)]
theorem knownS_h (hd : dInv d) : knownS d (hset d) = cells d - whites d := by
  have h : ∀ N, sm N (fun k => if drawnS d (hset d) k = 4 then 0 else 1) + sm N (fun k => if drawn d k = 4 then 1 else 0) = N := by
    intro N
    induction N with
    | zero => rfl
    | succ n ih =>
      rw [sm_succ, sm_succ, drawnS_h hd]
      split <;> omega
  have := h (cells d)
  unfold knownS whites
  omega
theorem rightS_h (hd : dInv d) : rightS d (hset d) = rights d := sm_congr (fun k _ => by rw [drawnS_h hd])
theorem votesS_le (hd : dInv d) (s x q : Nat) : votesS d s x q ≤ 12 := by
  have h1 : votesS d s x q ≤ 1 * d 3 := sm_le (fun t _ => by split <;> omega)
  have := hd.many
  omega
theorem e7_fill (N : Nat) (hN : N ≤ 1000) (V : Nat → Int32) (v : Int32) : ∃ W, f_J7_fill_53178 V N v = some W ∧ ∀ k, k < N → W k = v := by
  have h := iter_run (g := g_J7_fill_53178_5 N v) (z := fun _ _ _ => none) N (fun k (φ : Int32 → Int32 → (Nat → Int32) → Option (Nat → Int32)) => ∀ U : Nat → Int32, (∀ j, j < k → U j = v) → ∃ W, φ (iN k) (iN N) U = some W ∧ ∀ j, j < N → W j = v) (by omega) (fun k F hk h U hU => ?_) (fun F U hU => ?_)
  · exact h V (fun j hj => by omega)
  · obtain ⟨W, h1, h2⟩ := h (upd U k v) (fun j hj => by
      unfold upd
      by_cases e : j = k
      · rw [if_pos e]
      · rw [if_neg e]; exact hU j (by omega))
    refine ⟨W, ?_, h2⟩
    simp (disch := omega) only [g_J7_fill_53178_5, iN_lit, iN_add, iN_mul, iN_sub, iN_nn, ck_iN, iN_le, iN_lt, iN_eq, Nat.mul_zero, Nat.zero_add, Nat.add_zero, Nat.reduceMul, Nat.reduceAdd, Nat.reduceSub, Option.bind_some]
    rw [if_neg (by omega)]
    exact h1
  · refine ⟨U, ?_, hU⟩
    simp (disch := omega) only [g_J7_fill_53178_5, iN_lit, iN_add, iN_mul, iN_sub, iN_nn, ck_iN, iN_le, iN_lt, iN_eq, Nat.mul_zero, Nat.zero_add, Nat.add_zero, Nat.reduceMul, Nat.reduceAdd, Nat.reduceSub, Option.bind_some]
    rw [if_pos (by omega)]
theorem e_within (x lo hi : Nat) (hx : x < 2147483648) (hl : lo < 2147483648) (hh : hi < 2147483648) : f_X11_within (iN x) (iN lo) (iN hi) = some (if lo ≤ x ∧ x ≤ hi then 1 else 0) := by
  simp (disch := omega) only [f_X11_within, iN_lit, iN_add, iN_mul, iN_sub, iN_nn, ck_iN, iN_le, iN_lt, iN_eq, Nat.mul_zero, Nat.zero_add, Nat.add_zero, Nat.reduceMul, Nat.reduceAdd, Nat.reduceSub, Option.bind_some]
  repeat' split
  all_goals (first | rfl | omega)
theorem e7_take (hd : dInv d) (hT : tRep d T) (h3 : aRep d 64 (d 3) V3) (h4 : aRep d 76 (d 3) V4) (h5 : aRep d 52 (d 3) V5) (V2 : Nat → Int32) {s : Nat} (hs : s < 32) : ∃ W, f_X7_take T V2 V3 V4 V5 (iN s) = some W ∧ talR (votesS d s) W := by
  obtain ⟨W0, e0, h0⟩ := e7_fill 144 (by decide) V2 0
  have hm := hd.many
  have h36 := hd.c36
  have h := iter_run (g := g_X7_take_10 T V3 V4 V5 (iN s)) (z := fun _ _ => none) (d 3) (fun k (φ : Int32 → (Nat → Int32) → Option (Nat → Int32)) => ∀ U : Nat → Int32, talR (fun x q => sm k (fun t => if d (64 + t) = x ∧ d (76 + t) = q ∧ s.testBit (d (52 + t)) = true then 1 else 0)) U → ∃ W, φ (iN k) U = some W ∧ talR (votesS d s) W) (by omega) (fun k F hk h U hU => ?_) (fun F U hU => ?_)
  · unfold f_X7_take
    rw [e0]
    exact h W0 (fun x q hx hq => h0 _ (by omega))
  · have ho := hd.tell hk
    have hp : d (64 + k) * 4 + d (76 + k) < 144 := by omega
    simp (disch := omega) only [g_X7_take_10, hT.2.2.2.2.2.2, h3 k hk, h4 k hk, h5 k hk, letv, isIn_tab s hs _ (show d (52 + k) < 5 by omega), e_within, iN_lit, iN_add, iN_mul, iN_sub, iN_nn, ck_iN, iN_le, iN_lt, iN_eq, Nat.mul_zero, Nat.zero_add, Nat.add_zero, Nat.reduceMul, Nat.reduceAdd, Nat.reduceSub, Option.bind_some]
    rw [if_neg (by omega), if_pos (show 0 ≤ d (64 + k) * 4 + d (76 + k) ∧ d (64 + k) * 4 + d (76 + k) ≤ 143 by omega)]
    by_cases hb : s.testBit (d (52 + k)) = true
    · rw [if_pos hb, if_neg (by decide), if_neg (by decide)]
      refine h _ (fun x q hx hq => ?_)
      have hU' : U (4 * x + q) = iN (sm k _) := hU x q hx hq
      unfold upd
      show _ = iN (sm (k + 1) _)
      rw [sm_succ]
      by_cases e : 4 * x + q = d (64 + k) * 4 + d (76 + k)
      · rw [if_pos e, ← e, hU', if_pos ⟨by omega, by omega, hb⟩, iN_add]
      · rw [if_neg e, hU', if_neg (fun h9 => e (by omega))]; rfl
    · rw [if_neg hb, if_pos rfl]
      refine h U (fun x q hx hq => ?_)
      have hU' : U (4 * x + q) = iN (sm k _) := hU x q hx hq
      show _ = iN (sm (k + 1) _)
      rw [sm_succ, hU', if_neg (fun h9 => hb h9.2.2)]; rfl
  · refine ⟨U, ?_, hU⟩
    simp (disch := omega) only [g_X7_take_10, hT.2.2.2.2.2.2, iN_lit, iN_add, iN_mul, iN_sub, iN_nn, ck_iN, iN_le, iN_lt, iN_eq, Nat.mul_zero, Nat.zero_add, Nat.add_zero, Nat.reduceMul, Nat.reduceAdd, Nat.reduceSub, Option.bind_some]
    rw [if_pos (by omega)]
theorem e7_votesFor {f : Nat → Nat → Nat} {V : Nat → Int32} (hV : talR f V) {x q : Nat} (hx : x < 36) (hq : q < 4) : f_X7_votesFor V (iN x) (iN q) = some (iN (f x q)) := by
  have h := hV x q hx hq
  simp (disch := omega) only [f_X7_votesFor, iN_lit, iN_add, iN_mul, iN_sub, iN_nn, ck_iN, iN_le, iN_lt, iN_eq, Nat.mul_zero, Nat.zero_add, Nat.add_zero, Nat.reduceMul, Nat.reduceAdd, Nat.reduceSub, Option.bind_some]
  rw [if_neg (by omega), if_neg (by omega), Nat.mul_comm x 4, h]
theorem e7_drawnAs {f : Nat → Nat → Nat} {V : Nat → Int32} (hV : talR f V) (hf : ∀ x q, f x q ≤ 12) {x : Nat} (hx : x < 36) : f_X7_drawnAs V (iN x) = some (iN (drawnF (f x))) := by
  have h := iter_run (g := g_X7_drawnAs_29 V (iN x)) (z := fun _ _ _ _ => none) 4 (fun k (φ : Int32 → Int32 → Int32 → Int32 → Option Int32) => φ (iN (x * 4)) (iN (drS (f x) k).1) (iN (drS (f x) k).2) (iN k) = some (iN (drawnF (f x)))) (by omega) (fun k F hk h => ?_) (fun F => ?_)
  · simp (disch := omega) only [f_X7_drawnAs, iN_lit, iN_add, iN_mul, iN_sub, iN_nn, ck_iN, iN_le, iN_lt, iN_eq, Nat.mul_zero, Nat.zero_add, Nat.add_zero, Nat.reduceMul, Nat.reduceAdd, Nat.reduceSub, Option.bind_some]
    rw [if_neg (by omega), if_pos (by omega)]
    exact h
  · have hv := hf x k
    have hs := drS_le (m := 12) (f := f x) (fun k _ => hf x k) k (by omega)
    have hV' := hV x k hx hk
    rw [Nat.mul_comm 4 x] at hV'
    simp (disch := omega) only [g_X7_drawnAs_29, hV', iN_lit, iN_add, iN_mul, iN_sub, iN_nn, ck_iN, iN_le, iN_lt, iN_eq, Nat.mul_zero, Nat.zero_add, Nat.add_zero, Nat.reduceMul, Nat.reduceAdd, Nat.reduceSub, Option.bind_some]
    rw [if_neg (by omega)]
    rw [drS] at h
    generalize f x k = v at h hv ⊢
    generalize drS (f x) k = s9 at h hs ⊢
    obtain ⟨b, mo⟩ := s9
    by_cases h1 : mo < v
    · rw [if_neg (by omega)]; rw [if_pos h1] at h; exact h
    · rw [if_pos (by omega)]; rw [if_neg h1] at h
      by_cases h2 : v = mo
      · rw [if_pos h2]; rw [if_pos h2] at h; exact h
      · rw [if_neg h2]; rw [if_neg h2] at h; exact h
  · simp (disch := omega) only [g_X7_drawnAs_29, iN_lit, iN_add, iN_mul, iN_sub, iN_nn, ck_iN, iN_le, iN_lt, iN_eq, Nat.mul_zero, Nat.zero_add, Nat.add_zero, Nat.reduceMul, Nat.reduceAdd, Nat.reduceSub, Option.bind_some]
    rw [if_pos (by omega)]; rfl
theorem e3_cells (hT : tRep d T) : f_X3_cellCount T = some (iN (cells d)) := by
  unfold f_X3_cellCount
  rw [hT.1, hT.2.1, iN_mul]; rfl
theorem drawnF_le {f : Nat → Nat} (h : ∀ k, f k ≤ 12) : drawnF f ≤ 4 := (drS_le (m := 12) (fun k _ => h k) 4 (by decide)).1
theorem e7_knownCells (hd : dInv d) (hT : tRep d T) {s : Nat} {V : Nat → Int32} (hV : talR (votesS d s) V) : f_X7_knownCells T V = some (iN (knownS d s)) := by
  have h36 := hd.c36
  refine iter_run (cells d) (fun k (φ : Int32 → Int32 → Option Int32) => φ (iN (sm k (fun k => if drawnS d s k = 4 then 0 else 1))) (iN k) = some (iN (knownS d s))) (by omega) (fun k F hk h => ?_) (fun F => ?_)
  · have hv := drawnF_le (f := votesS d s k) (fun q => votesS_le hd s k q)
    simp (disch := omega) only [g_X7_knownCells_4, f_X7_knownCells_27, e3_cells hT, e7_drawnAs hV (votesS_le hd s) (show k < 36 by omega), iN_lit, iN_add, iN_mul, iN_sub, iN_nn, ck_iN, iN_le, iN_lt, iN_eq, Nat.mul_zero, Nat.zero_add, Nat.add_zero, Nat.reduceMul, Nat.reduceAdd, Nat.reduceSub, Option.bind_some]
    rw [if_neg (by omega)]
    simp only [sm_succ, drawnS] at h
    repeat' split
    all_goals simp_all [drawnS]
  · simp (disch := omega) only [g_X7_knownCells_4, e3_cells hT, iN_lit, iN_add, iN_mul, iN_sub, iN_nn, ck_iN, iN_le, iN_lt, iN_eq, Nat.mul_zero, Nat.zero_add, Nat.add_zero, Nat.reduceMul, Nat.reduceAdd, Nat.reduceSub, Option.bind_some]
    rw [if_pos (by omega)]; rfl
theorem e3_kindAt {N : Nat} (h : aRep d 6 N V1) {x : Nat} (hx : x < N) (h36 : x < 36) : f_X3_kindAt V1 (iN x) = some (iN (d (6 + x))) := by
  simp (disch := omega) only [f_X3_kindAt, e_within, h x hx, iN_lit, iN_add, iN_mul, iN_sub, iN_nn, ck_iN, iN_le, iN_lt, iN_eq, Nat.mul_zero, Nat.zero_add, Nat.add_zero, Nat.reduceMul, Nat.reduceAdd, Nat.reduceSub, Option.bind_some]
  rw [if_pos (show 0 ≤ x ∧ x ≤ 35 by omega), if_neg (by decide)]
theorem e7_rightCells (hd : dInv d) (hT : tRep d T) {s : Nat} {V : Nat → Int32} (hV : talR (votesS d s) V) (hS : aRep d 6 (cells d) V3) : f_X7_rightCells T V V3 = some (iN (rightS d s)) := by
  have h36 := hd.c36
  refine iter_run (cells d) (fun k (φ : Int32 → Int32 → Option Int32) => φ (iN (sm k (fun k => if drawnS d s k = d (6 + k) then 1 else 0))) (iN k) = some (iN (rightS d s))) (by omega) (fun k F hk h => ?_) (fun F => ?_)
  · have hv := drawnF_le (f := votesS d s k) (fun q => votesS_le hd s k q)
    have hs := hd.2.1 k (by omega)
    simp (disch := omega) only [g_X7_rightCells_4, f_X7_rightCells_31, e3_cells hT, e7_drawnAs hV (votesS_le hd s) (show k < 36 by omega), e3_kindAt hS hk (show k < 36 by omega), iN_lit, iN_add, iN_mul, iN_sub, iN_nn, ck_iN, iN_le, iN_lt, iN_eq, Nat.mul_zero, Nat.zero_add, Nat.add_zero, Nat.reduceMul, Nat.reduceAdd, Nat.reduceSub, Option.bind_some]
    rw [if_neg (by omega)]
    simp only [sm_succ, drawnS] at h
    repeat' split
    all_goals simp_all [drawnS]
  · simp (disch := omega) only [g_X7_rightCells_4, e3_cells hT, iN_lit, iN_add, iN_mul, iN_sub, iN_nn, ck_iN, iN_le, iN_lt, iN_eq, Nat.mul_zero, Nat.zero_add, Nat.add_zero, Nat.reduceMul, Nat.reduceAdd, Nat.reduceSub, Option.bind_some]
    rw [if_pos (by omega)]; rfl
end CLS1
