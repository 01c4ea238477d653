/-! Calls: plan, planSet. The duchy with another set heard. -/
def dS (d : Nat → Nat) (s : Nat) : Nat → Nat := fun j => if 47 ≤ j ∧ j < 47 + d 2 then b1 (s.testBit (j - 47)) else d j
theorem b1_le (p : Bool) : b1 p ≤ 1 := by cases p <;> decide
theorem dS_o {d : Nat → Nat} {s j : Nat} (h : ¬ (47 ≤ j ∧ j < 47 + d 2)) : dS d s j = d j := if_neg h
theorem dS_h {d : Nat → Nat} {s k : Nat} (h : k < d 2) : dS d s (47 + k) = b1 (s.testBit k) := by
  unfold dS
  rw [if_pos (by omega), Nat.add_sub_cancel_left]
theorem b1_1 (p : Bool) : decide (b1 p = 1) = p := by cases p <;> rfl
theorem or_t : ∀ h, h < 32 → ∀ s, s < 32 → (iN h ||| iN s) = iN (h ||| s) := by decide +kernel
theorem oa_t : ∀ h, h < 32 → ∀ s, s < 32 → (h ||| s) &&& h = h := by decide +kernel
theorem sm_add {f g : Nat → Nat} : ∀ n, sm n (fun k => f k + g k) = sm n f + sm n g
  | 0 => rfl
  | n + 1 => by rw [sm_succ, sm_succ, sm_succ, sm_add n]; omega
theorem sm_zero_f : ∀ n, sm n (fun _ => 0) = 0
  | 0 => rfl
  | n + 1 => by rw [sm_succ, sm_zero_f n]
theorem sm_one {i x : Nat} : ∀ n, sm n (fun k => if k = i then x else 0) = if i < n then x else 0
  | 0 => by rw [if_neg (by omega)]; rfl
  | n + 1 => by
    rw [sm_succ, sm_one n]
    by_cases e : n = i
    · rw [if_neg (by omega), if_pos e, if_pos (by omega), Nat.zero_add]
    · rw [if_neg e, Nat.add_zero]
      by_cases q : i < n
      · rw [if_pos q, if_pos (by omega)]
      · rw [if_neg q, if_neg (by omega)]
/-- counted by tellings, or by travellers -/
theorem sm_swap {f : Nat → Nat} {p : Nat → Bool} {m : Nat} : ∀ n, (∀ t, t < n → f t < m) → sm m (fun k => if p k = true then sm n (fun t => if f t = k then 1 else 0) else 0) = sm n (fun t => if p (f t) = true then 1 else 0)
  | 0, _ => by
    rw [sm_congr (g := fun _ => 0) (fun k _ => by split <;> rfl), sm_zero_f]; rfl
  | n + 1, h => by
    have ih := sm_swap (f := f) (p := p) (m := m) n (fun t ht => h t (by omega))
    rw [sm_succ, ← ih]
    have h1 : sm m (fun k => if p k = true then sm (n + 1) (fun t => if f t = k then 1 else 0) else 0) = sm m (fun k => (if p k = true then sm n (fun t => if f t = k then 1 else 0) else 0) + (if k = f n then (if p (f n) = true then 1 else 0) else 0)) := by
      refine sm_congr (fun k _ => ?_)
      by_cases e : k = f n
      · rw [if_pos e, ← e]
        by_cases q : p k = true
        · rw [if_pos q, if_pos q, if_pos q, sm_succ, if_pos e.symm]
        · rw [if_neg q, if_neg q, if_neg q]
      · rw [if_neg e, Nat.add_zero]
        by_cases q : p k = true
        · rw [if_pos q, if_pos q, sm_succ, if_neg (fun h9 => e h9.symm), Nat.add_zero]
        · rw [if_neg q, if_neg q]
    rw [h1, sm_add, sm_one, if_pos (h n (by omega))]
section PLAN
variable {d : Nat → Nat} {w Na : Nat → Int64} {c T T0 Tm S Li By Of Fe Mi : Nat → Int32} {L : Int32} {K : Int32 × Int32}
theorem cells_S (d : Nat → Nat) (s : Nat) : cells (dS d s) = cells d := by
  unfold cells
  rw [dS_o (by omega), dS_o (by omega)]
theorem dInv_S (hd : dInv d) (s : Nat) : dInv (dS d s) := by
  have hm := hd.many
  refine ⟨?_, fun j hj => ?_, fun j hj => ?_, fun t ht => ?_, fun z => ?_⟩
  · rw [cells_S, dS_o (by omega), dS_o (by omega), dS_o (by omega), dS_o (by omega), dS_o (by omega), dS_o (by omega)]; exact hd.1
  · rw [dS_o (by omega)]; exact hd.2.1 j hj
  · rw [dS_o (by omega)]
    refine ⟨(hd.trav hj).1, ?_⟩
    unfold dS
    split
    · exact b1_le _
    · exact (hd.trav hj).2
  · rw [dS_o (by omega)] at ht
    rw [cells_S, dS_o (by omega), dS_o (by omega), dS_o (by omega), dS_o (by omega), dS_o (by omega)]; exact hd.tell ht
  · unfold tellOf
    rw [dS_o (by omega)]
    exact Nat.le_trans (Nat.le_of_eq (sm_congr (fun t ht => by rw [dS_o (by omega)]))) (hd.2.2.2.2 z)
theorem votes_S (hd : dInv d) (s x q : Nat) : votes (dS d s) x q = votesS d s x q := by
  have hm := hd.many
  unfold votes votesS
  rw [dS_o (by omega)]
  refine sm_congr (fun t ht => ?_)
  have ho := hd.tell ht
  rw [dS_o (j := 64 + t) (by omega), dS_o (j := 76 + t) (by omega), dS_o (j := 52 + t) (by omega), dS_h ho.1]
  unfold b1
  by_cases h1 : d (64 + t) = x ∧ d (76 + t) = q
  · by_cases h2 : s.testBit (d (52 + t)) = true
    · rw [if_pos h1, if_pos h2, if_pos ⟨h1.1, h1.2, h2⟩]
    · rw [if_pos h1, if_neg h2, if_neg (fun h => h2 h.2.2)]
  · rw [if_neg h1, if_neg (fun h => h1 ⟨h.1, h.2.1⟩)]
theorem drawn_S (hd : dInv d) (s x : Nat) : drawn (dS d s) x = drawnS d s x := by
  unfold drawn drawnS
  rw [show votes (dS d s) x = votesS d s x from funext (votes_S hd s x)]
theorem whites_S (hd : dInv d) (s : Nat) : whites (dS d s) + knownS d s = cells d := by
  have h : ∀ N, sm N (fun k => if drawn (dS d s) k = 4 then 1 else 0) + sm N (fun k => if drawnS d s k = 4 then 0 else 1) = N := by
    intro N
    induction N with
    | zero => rfl
    | succ n ih =>
      rw [sm_succ, sm_succ, drawn_S hd]
      split <;> omega
  have := h (cells d)
  unfold whites knownS
  rw [cells_S]
  exact this
theorem hset_S (hd : dInv d) {s : Nat} (hs : s < 2 ^ d 2) : hset (dS d s) = s := by
  have hm := hd.many
  have hI := dInv_S hd s
  have e2 : dS d s 2 = d 2 := dS_o (by omega)
  apply Nat.eq_of_testBit_eq
  intro i
  by_cases h : i < d 2
  · rw [hset_bit hI (by rw [e2]; exact h), dS_h h, b1_1]
  · have h1 := hset_2 hI
    rw [e2] at h1
    have h2 : 2 ^ d 2 ≤ 2 ^ i := Nat.pow_le_pow_right (by decide) (by omega)
    rw [Nat.testBit_lt_two_pow (by omega), Nat.testBit_lt_two_pow (by omega)]
theorem dS_self (hd : dInv d) : dS d (hset d) = d := by
  have hm := hd.many
  funext j
  unfold dS
  split
  · rename_i h
    obtain ⟨k, rfl⟩ : ∃ k, j = 47 + k := ⟨j - 47, by omega⟩
    rw [Nat.add_sub_cancel_left, hset_bit hd (by omega)]
    have := (hd.trav (show k < 5 by omega)).2
    unfold b1
    by_cases q : d (47 + k) = 1
    · rw [if_pos (decide_eq_true q), q]
    · rw [if_neg (fun h9 => q (of_decide_eq_true h9))]; omega
  · rfl
/-- the model's block with another set heard -/
def mEx (d : Nat → Nat) (s : Nat) (c c' : Nat → Int32) : Prop := mRep (dS d s) c' ∧ ∀ j, 100 ≤ j → c' j = c j
theorem mEx_self (hd : dInv d) (hc : mRep d c) {c' : Nat → Int32} (h : mEx d (hset d) c c') : c' = c := by
  funext j
  by_cases q : j < 100
  · rw [h.1 j q, hc j q, dS_self hd]
  · exact h.2 j (by omega)
theorem mEx_0 (hd : dInv d) (hc : mRep d c) : mEx d (hset d) c c := ⟨by rw [dS_self hd]; exact hc, fun _ _ => rfl⟩
theorem e12_whitesWith (hd : dInv d) (hc : mRep d c) {s : Nat} (hs : s < 2 ^ d 2) : f_X12_whitesWith c (iN s) = some (iN (cells d - knownS d (hset d ||| s)), c) := by
  have hm := hd.many
  have h32 := pow_le hm.1
  have hh := hset_2 hd
  have hu : hset d ||| s < 2 ^ d 2 := Nat.or_lt_two_pow hh hs
  have g2 : gd 2 1860 = true := by decide
  have n2 : (2 : Int32).toNatClampNeg = 2 := by decide
  have fin : ∀ k u : Nat, k ≤ d 2 → ∀ c1 c2 : Nat → Int32, (∀ j, c2 j = if 47 ≤ j ∧ j < 47 + k then iN (b1 (u.testBit (j - 47))) else c1 j) → ∀ p : Bool, p = u.testBit k → ∀ j, upd c2 (47 + k) (if p = true then 1 else 0) j = if 47 ≤ j ∧ j < 47 + (k + 1) then iN (b1 (u.testBit (j - 47))) else c1 j := fun k u hk c1 c2 h p hp j => by
    unfold upd
    by_cases e : j = 47 + k
    · rw [if_pos e, if_pos (show 47 ≤ j ∧ j < 47 + (k + 1) by omega), e, Nat.add_sub_cancel_left, ← hp]
      cases p <;> rfl
    · rw [if_neg e, h j]
      by_cases q : 47 ≤ j ∧ j < 47 + k
      · rw [if_pos q, if_pos (by omega)]
      · rw [if_neg q, if_neg (by omega)]
  have l2 : ∀ c1, mEx d (hset d ||| s) c c1 → f_X12_whitesWith_55 (iN s) xF (iN (hset d)) (iN (cells d - knownS d (hset d ||| s))) 0 c1 = some (iN (cells d - knownS d (hset d ||| s)), c) := fun c1 h1 => by
    have c1o : ∀ j, ¬ (47 ≤ j ∧ j < 47 + d 2) → c1 j = c j := fun j hj => by
      by_cases q : j < 100
      · rw [h1.1 j q, hc j q, dS_o hj]
      · exact h1.2 j (by omega)
    have l := iter_run (g := g_X12_whitesWith_55 (iN s)) (z := fun _ _ _ _ => none) (d 2) (fun k (φ : Int32 → Int32 → Int32 → (Nat → Int32) → Option (Int32 × (Nat → Int32))) => ∀ c2, (∀ j, c2 j = if 47 ≤ j ∧ j < 47 + k then iN (b1 ((hset d).testBit (j - 47))) else c1 j) → φ (iN (hset d)) (iN (cells d - knownS d (hset d ||| s))) (iN k) c2 = some (iN (cells d - knownS d (hset d ||| s)), c)) (by omega) (fun k F hk ih => fun c2 h2 => ?_) (fun F => fun c2 h2 => ?_)
    · exact l c1 (fun j => by rw [if_neg (by omega)])
    · have e2 : c2 2 = iN (d 2) := by rw [h2, if_neg (by omega), c1o 2 (by omega), hc 2 (by omega)]
      have hf := fin k (hset d) (by omega) c1 c2 h2 _ rfl
      rw [g_X12_whitesWith_55, ck_y g2, n2, e2, if_neg (by rw [iN_le (by omega) (by omega)]; omega), has_tab _ (by omega) k (by omega), Option.bind_some, f_X12_whitesWith_89, f_X12_whitesWith_89, show (47 + iN k : Int32) = iN (47 + k) from iN_add 47 k, ck_iN (by omega) (by omega), ck_iN (by omega) (by omega), iN_nn (by omega), show (iN k + 1 : Int32) = iN (k + 1) from iN_add k 1]
      cases hb : (hset d).testBit k
      · rw [hb] at hf
        exact ih _ hf
      · rw [hb] at hf
        exact ih _ hf
    · have e2 : c2 2 = iN (d 2) := by rw [h2, if_neg (by omega), c1o 2 (by omega), hc 2 (by omega)]
      have e3 : c2 = c := by
        funext j
        rw [h2]
        by_cases q : 47 ≤ j ∧ j < 47 + d 2
        · rw [if_pos q, hc j (by omega), ← show dS d (hset d) j = d j from congrFun (dS_self hd) j]
          unfold dS
          rw [if_pos q]
        · rw [if_neg q, c1o j q]
      rw [g_X12_whitesWith_55, ck_y g2, n2, e2, if_pos (by rw [iN_le (by omega) (by omega)]; omega), e3]
  have l := iter_run (g := g_X12_whitesWith_7 (iN s)) (z := fun _ _ _ => none) (d 2) (fun k (φ : Int32 → Int32 → (Nat → Int32) → Option (Int32 × (Nat → Int32))) => ∀ c2, (∀ j, c2 j = if 47 ≤ j ∧ j < 47 + k then iN (b1 ((hset d ||| s).testBit (j - 47))) else c j) → φ (iN (hset d)) (iN k) c2 = some (iN (cells d - knownS d (hset d ||| s)), c)) (by omega) (fun k F hk ih => fun c2 h2 => ?_) (fun F => fun c2 h2 => ?_)
  · rw [f_X12_whitesWith, e12_heardOnes hd hc, Option.bind_some]
    exact l c (fun j => by rw [if_neg (by omega)])
  · have e2 : c2 2 = iN (d 2) := by rw [h2, if_neg (by omega), hc 2 (by omega)]
    have hf := fin k (hset d ||| s) (by omega) c c2 h2 _ rfl
    rw [g_X12_whitesWith_7, ck_y g2, n2, e2, if_neg (by rw [iN_le (by omega) (by omega)]; omega), or_t _ (by omega) _ (by omega), has_tab _ (by omega) k (by omega), Option.bind_some, f_X12_whitesWith_40, f_X12_whitesWith_40, show (47 + iN k : Int32) = iN (47 + k) from iN_add 47 k, ck_iN (by omega) (by omega), ck_iN (by omega) (by omega), iN_nn (by omega), show (iN k + 1 : Int32) = iN (k + 1) from iN_add k 1]
    cases hb : (hset d ||| s).testBit k
    · rw [hb] at hf
      exact ih _ hf
    · rw [hb] at hf
      exact ih _ hf
  · have e2 : c2 2 = iN (d 2) := by rw [h2, if_neg (by omega), hc 2 (by omega)]
    have h3 : mEx d (hset d ||| s) c c2 := by
      refine ⟨fun j hj => ?_, fun j hj => by rw [h2, if_neg (by omega)]⟩
      rw [h2]
      unfold dS
      split
      · rfl
      · exact hc j hj
    have h4 := whites_S hd (hset d ||| s)
    rw [g_X12_whitesWith_7, ck_y g2, n2, e2, if_pos (by rw [iN_le (by omega) (by omega)]; omega), e12_whites (dInv_S hd _) h3.1, Option.bind_some, show whites (dS d (hset d ||| s)) = cells d - knownS d (hset d ||| s) by omega]
    exact l2 c2 h3
def hrs (d : Nat → Nat) (s : Nat) : Nat := sm (d 3) (fun t => if s.testBit (d (52 + t)) = true then 1 else 0)
/-- the best set among the first n -/
def bsN (d : Nat → Nat) (h : Nat) : Nat → Nat
  | 0 => 0
  | n + 1 => if (n &&& hset d = 0 ∧ hrs d n ≤ h) ∧ knownS d (hset d ||| bsN d h n) < knownS d (hset d ||| n) then n else bsN d h n
theorem bsN_lt (d : Nat → Nat) (h : Nat) : ∀ n, 0 < n → bsN d h n < n
  | 0, h0 => by omega
  | n + 1, _ => by
    rw [bsN]
    split
    · omega
    · by_cases e : n = 0
      · subst e; rw [bsN]; omega
      · have := bsN_lt d h n (by omega)
        omega
theorem bsN_1 (d : Nat → Nat) (h : Nat) : bsN d h 1 = 0 := by
  have := bsN_lt d h 1 (by omega)
  omega
theorem e2_knownBy (Y : Nat → Int32) {u : Nat} (hu : u < 32) : f_X2_knownBy Y (iN u) = some (Y u) := by
  rw [f_X2_knownBy, show (31 : Int32) = iN 31 from rfl, e_within_l _ 31 (by decide), if_pos (by rw [inR_iN (by omega)]; omega), Option.bind_some, if_neg (by decide), ck_iN (by omega) (by omega), iN_nn (by omega)]
theorem hrs_le (hd : dInv d) (s : Nat) : hrs d s ≤ 12 := Nat.le_trans (sm_le_n (fun t _ => by split <;> omega)) hd.many.2
theorem e2_hoursOf (hd : dInv d) (hk : kRep d w T S Li Na By Of Fe Mi) {s : Nat} (hs : s < 32) : f_X2_hoursOf T By (iN s) = some (iN (hrs d s)) := by
  have hm := hd.many
  refine iter_run (d 3) (fun k (φ : Int32 → Int32 → Option Int32) => φ (iN (sm k (fun t => if s.testBit (d (52 + t)) = true then 1 else 0))) (iN k) = some (iN (hrs d s))) (by omega) (fun k F hk9 ih => ?_) (fun F => ?_)
  · have ho := hd.tell hk9
    rw [sm_succ] at ih
    rw [g_X2_hoursOf_4, hk.1.2.2.2.2.2.2, if_neg (by rw [iN_le (by omega) (by omega)]; omega), ck_iN (by omega) (by omega), iN_nn (by omega), hk.2.2.2.2.1 k hk9, isIn_tab s hs _ (by omega), Option.bind_some, f_X2_hoursOf_31, f_X2_hoursOf_31, show (iN k + 1 : Int32) = iN (k + 1) from iN_add k 1, show ∀ z, (iN z + 1 : Int32) = iN (z + 1) from fun z => iN_add z 1, show ∀ z, (iN z + 0 : Int32) = iN z from fun z => iN_add z 0]
    cases hb : s.testBit (d (52 + k))
    · rw [hb] at ih; exact ih
    · rw [hb] at ih; exact ih
  · rw [g_X2_hoursOf_4, hk.1.2.2.2.2.2.2, if_pos (by rw [iN_le (by omega) (by omega)]; omega)]; rfl
theorem e2_bestSet (hd : dInv d) (hk : kRep d w T S Li Na By Of Fe Mi) {Y : Nat → Int32} (hY : knR d Y (2 ^ d 2)) {h : Nat} (hh : h ≤ 60) : f_X2_bestSet T By Y (iN h) = some (iN (bsN d h (2 ^ d 2))) := by
  have hm := hd.many
  have h32 := pow_le hm.1
  have hp : 0 < 2 ^ d 2 := Nat.two_pow_pos _
  have hs2 := hset_2 hd
  have kb : ∀ u, u < 2 ^ d 2 → f_X2_knownBy Y (iN (hset d ||| u)) = some (iN (knownS d (hset d ||| u))) := fun u hu => by
    have h1 : hset d ||| u < 2 ^ d 2 := Nat.or_lt_two_pow hs2 hu
    rw [e2_knownBy Y (by omega), hY _ h1 (oa_t _ (by omega) u (by omega))]
  have kn : ∀ u, knownS d u ≤ cells d := fun u => sm_le_n (fun k _ => by split <;> omega)
  have h36 := hd.c36
  rw [f_X2_bestSet, show (0 : Int32) = iN (bsN d h 1) by rw [bsN_1]; rfl]
  have l := iter_run (g := g_X2_bestSet_5 T By Y (iN h)) (z := fun _ _ => none) (2 ^ d 2 - 1) (fun k (φ : Int32 → Int32 → Option Int32) => φ (iN (bsN d h (k + 1))) (iN (k + 1)) = some (iN (bsN d h (2 ^ d 2)))) (by omega) (fun k F hk9 ih => ?_) (fun F => ?_)
  · exact l
  · have hb := bsN_lt d h (k + 1) (by omega)
    have hr := hrs_le hd (k + 1)
    have k1 := kn (hset d ||| (k + 1))
    have k2 := kn (hset d ||| bsN d h (k + 1))
    rw [bsN] at ih
    rw [g_X2_bestSet_5, e3_sets hd hk.1, Option.bind_some, if_neg (by rw [iN_le (by omega) (by omega)]; omega), hk.1.2.2.2.2.2.1, and_tab _ (by omega) _ (by omega), e2_hoursOf hd hk (by omega), Option.bind_some, f_X2_bestSet_38, f_X2_bestSet_39, f_X2_bestSet_39, if_pos rfl, if_neg (show ¬ (1 : Int32) = 0 by decide), hk.1.2.2.2.2.2.1, or_t _ (by omega) _ (by omega), or_t _ (by omega) _ (by omega), kb _ (by omega), kb _ (by omega), Option.bind_some, Option.bind_some, show (iN (k + 1) + 1 : Int32) = iN (k + 1 + 1) from iN_add (k + 1) 1]
    have hal := Nat.and_le_left (n := k + 1) (m := hset d)
    by_cases q1 : (k + 1) &&& hset d = 0
    · rw [if_pos (show iN ((k + 1) &&& hset d) = (0 : Int32) from congrArg iN q1)]
      by_cases q2 : hrs d (k + 1) ≤ h
      · rw [if_neg (by rw [iN_lt (by omega) (by omega)]; omega)]
        by_cases q3 : knownS d (hset d ||| bsN d h (k + 1)) < knownS d (hset d ||| (k + 1))
        · rw [if_neg (by rw [iN_le (by omega) (by omega)]; omega)]
          rw [if_pos ⟨⟨q1, q2⟩, q3⟩] at ih
          exact ih
        · rw [if_pos (by rw [iN_le (by omega) (by omega)]; omega)]
          rw [if_neg (fun h9 => q3 h9.2)] at ih
          exact ih
      · rw [if_pos (by rw [iN_lt (by omega) (by omega)]; omega)]
        rw [if_neg (fun h9 => q2 h9.1.2)] at ih
        exact ih
    · rw [if_neg (show ¬ iN ((k + 1) &&& hset d) = (0 : Int32) from iN_ne (by omega) (by decide) q1)]
      rw [if_neg (fun h9 => q1 h9.1.1)] at ih
      exact ih
  · rw [g_X2_bestSet_5, e3_sets hd hk.1, Option.bind_some, if_pos (by rw [iN_le (by omega) (by omega)]; omega), show 2 ^ d 2 - 1 + 1 = 2 ^ d 2 by omega]
theorem tellBy_le (d : Nat → Nat) (k : Nat) : tellBy d k ≤ d 3 := sm_le_n (fun t _ => by split <;> omega)
theorem hrs_m (hd : dInv d) (s : Nat) : sm (d 2) (fun k => if s.testBit k = true then tellBy d k else 0) = hrs d s := sm_swap (f := fun t => d (52 + t)) (p := fun k => s.testBit k) (d 3) (fun t ht => (hd.tell ht).1)
theorem e12_plans (hd : dInv d) (hc : mRep d c) (U : Nat → Int32) {h : Nat} (hh : h ≤ 60) : ∃ U', f_X12_plans U c (iN h) = some (iN (bsN d h (2 ^ d 2)), U', c) ∧ U' 29 = iN (cells d - knownS d (hset d ||| bsN d h (2 ^ d 2))) ∧ ∀ j, ¬ j = 29 → U' j = U j := by
  have hm := hd.many
  have h36 := hd.c36
  have h32 := pow_le hm.1
  have hp : 0 < 2 ^ d 2 := Nat.two_pow_pos _
  have hs2 := hset_2 hd
  have g2 : gd 2 1860 = true := by decide
  have n2 : (2 : Int32).toNatClampNeg = 2 := by decide
  have kn : ∀ u, knownS d u ≤ cells d := fun u => sm_le_n (fun k _ => by split <;> omega)
  have l := iter_run (g := g_X12_plans_4 (iN h)) (z := fun _ _ _ _ => none) (2 ^ d 2) (fun n (φ : Int32 → Int32 → (Nat → Int32) → (Nat → Int32) → Option (Int32 × (Nat → Int32) × (Nat → Int32))) => ∀ U1, (0 < n → U1 29 = iN (cells d - knownS d (hset d ||| bsN d h n))) → (∀ j, ¬ j = 29 → U1 j = U j) → ∃ U', φ (if n = 0 then -1 else iN (bsN d h n)) (iN n) U1 c = some (iN (bsN d h (2 ^ d 2)), U', c) ∧ U' 29 = iN (cells d - knownS d (hset d ||| bsN d h (2 ^ d 2))) ∧ ∀ j, ¬ j = 29 → U' j = U j) (by omega) (fun n F hn ih => fun U1 hU hU2 => ?_) (fun F => fun U1 hU hU2 => ?_)
  · exact l U (fun h9 => by omega) (fun _ _ => rfl)
  · rw [g_X12_plans_4, ck_y g2, n2, hc 2 (by omega), shl_tab _ (by omega), if_neg (by rw [iN_le (by omega) (by omega)]; omega)]
    rw [if_neg (show ¬ n + 1 = 0 by omega)] at ih
    have take : ∀ U2, U2 29 = iN (cells d - knownS d (hset d ||| n)) → (∀ j, ¬ j = 29 → U2 j = U j) → bsN d h (n + 1) = n → ∃ U', F (iN n) (iN n + 1) U2 c = some (iN (bsN d h (2 ^ d 2)), U', c) ∧ U' 29 = iN (cells d - knownS d (hset d ||| bsN d h (2 ^ d 2))) ∧ ∀ j, ¬ j = 29 → U' j = U j := fun U2 t1 t2 t3 => by
      rw [show (iN n + 1 : Int32) = iN (n + 1) from iN_add n 1]
      have := ih U2 (fun _ => by rw [t3]; exact t1) t2
      rw [t3] at this
      exact this
    have skip : 0 < n → bsN d h (n + 1) = bsN d h n → ∃ U', F (if n = 0 then -1 else iN (bsN d h n)) (iN n + 1) U1 c = some (iN (bsN d h (2 ^ d 2)), U', c) ∧ U' 29 = iN (cells d - knownS d (hset d ||| bsN d h (2 ^ d 2))) ∧ ∀ j, ¬ j = 29 → U' j = U j := fun t0 t3 => by
      rw [if_neg (by omega), show (iN n + 1 : Int32) = iN (n + 1) from iN_add n 1]
      have := ih U1 (fun _ => by rw [t3]; exact hU t0) hU2
      rw [t3] at this
      exact this
    have l2 := iter_run (g := g_X12_plans_22 (iN h) F) (z := fun _ _ _ _ _ _ => none) (d 2) (fun k (φ : Int32 → Int32 → Int32 → Int32 → (Nat → Int32) → (Nat → Int32) → Option (Int32 × (Nat → Int32) × (Nat → Int32))) => ∃ U', φ (if n = 0 then -1 else iN (bsN d h n)) (iN n) (iN (sm k (fun k => if n.testBit k = true then tellBy d k else 0))) (iN k) U1 c = some (iN (bsN d h (2 ^ d 2)), U', c) ∧ U' 29 = iN (cells d - knownS d (hset d ||| bsN d h (2 ^ d 2))) ∧ ∀ j, ¬ j = 29 → U' j = U j) (by omega) (fun k G hk9 ih2 => ?_) (fun G => ?_)
    · exact l2
    · rw [sm_succ] at ih2
      rw [g_X12_plans_22, ck_y g2, n2, hc 2 (by omega), if_neg (by rw [iN_le (by omega) (by omega)]; omega), has_tab n (by omega) k (by omega), Option.bind_some, f_X12_plans_55, show f_X12_told c (iN k) 0 = some (iN (tellBy d k)) from e12_told0 hd hc (by omega), Option.bind_some, f_X12_plans_55, show (iN k + 1 : Int32) = iN (k + 1) from iN_add k 1, show ∀ z, (iN z + 0 : Int32) = iN z from fun z => iN_add z 0, iN_add]
      cases hb : n.testBit k
      · rw [hb] at ih2; exact ih2
      · rw [hb] at ih2; exact ih2
    · have hr := hrs_le hd n
      rw [g_X12_plans_22, ck_y g2, n2, hc 2 (by omega), if_pos (by rw [iN_le (by omega) (by omega)]; omega), e12_heardOnes hd hc, Option.bind_some, and_tab _ (by omega) _ (by omega), hrs_m hd n, f_X12_plans_98, e12_whitesWith hd hc hn, Option.bind_some, Option.bind_some]
      have hal := Nat.and_le_left (n := n) (m := hset d)
      have k1 := kn (hset d ||| n)
      have k2 := kn (hset d ||| bsN d h n)
      have hz : n = 0 → n &&& hset d = 0 ∧ hrs d n ≤ h := fun e => by
        rw [e]
        refine ⟨Nat.zero_and _, ?_⟩
        have : hrs d 0 = 0 := by
          unfold hrs
          rw [sm_congr (g := fun _ => 0) (fun t _ => by rw [Nat.zero_testBit]; rfl), sm_zero_f]
        omega
      have hbs : bsN d h (n + 1) = if (n &&& hset d = 0 ∧ hrs d n ≤ h) ∧ knownS d (hset d ||| bsN d h n) < knownS d (hset d ||| n) then n else bsN d h n := rfl
      by_cases q1 : n &&& hset d = 0
      · rw [if_pos (show iN (n &&& hset d) = (0 : Int32) from congrArg iN q1)]
        by_cases q2 : hrs d n ≤ h
        · rw [if_neg (by rw [iN_lt (by omega) (by omega)]; omega)]
          by_cases q0 : n = 0
          · rw [if_pos (by rw [if_pos q0]; decide)]
            exact take (upd U1 29 _) upd_s (fun j hj => by rw [upd_n hj]; exact hU2 j hj) (by rw [q0]; exact bsN_1 d h)
          · rw [if_neg (show ¬ (if n = 0 then -1 else iN (bsN d h n)) < (0 : Int32) by rw [if_neg q0, show (0 : Int32) = iN 0 from rfl, iN_lt (by have := bsN_lt d h n (by omega); omega) (by omega)]; omega), hU (by omega)]
            dsimp only
            by_cases q3 : knownS d (hset d ||| bsN d h n) < knownS d (hset d ||| n)
            · rw [if_pos (by rw [iN_lt (by omega) (by omega)]; omega)]
              rw [f_X12_plans_98, e12_whitesWith hd hc hn, Option.bind_some]
              exact take (upd U1 29 _) upd_s (fun j hj => by rw [upd_n hj]; exact hU2 j hj) (by rw [hbs, if_pos ⟨⟨q1, q2⟩, q3⟩])
            · rw [if_neg (by rw [iN_lt (by omega) (by omega)]; omega)]
              exact skip (by omega) (by rw [hbs, if_neg (fun h9 => q3 h9.2)])
        · rw [if_pos (by rw [iN_lt (by omega) (by omega)]; omega)]
          exact skip (Nat.pos_of_ne_zero (fun e => q2 (hz e).2)) (by rw [hbs, if_neg (fun h9 => q2 h9.1.2)])
      · rw [if_neg (show ¬ iN (n &&& hset d) = (0 : Int32) from iN_ne (by omega) (by decide) q1)]
        exact skip (Nat.pos_of_ne_zero (fun e => q1 (hz e).1)) (by rw [hbs, if_neg (fun h9 => q1 h9.1.1)])
  · refine ⟨U1, ?_, hU hp, hU2⟩
    rw [g_X12_plans_4, ck_y g2, n2, hc 2 (by omega), shl_tab _ (by omega), if_pos (by rw [iN_le (by omega) (by omega)]; omega), if_neg (by omega)]
theorem sR_u {T Tm U : Nat → Int32} {L : Int32} {K : Int32 × Int32} {i : Nat} (h : sR T Tm L K) (hi : i = 29 ∨ i = 30) (e : ∀ j, ¬ j = i → U j = Tm j) : sR T U L K := by
  unfold sR
  rw [e 0 (by omega), e 10 (by omega), e 11 (by omega), e 23 (by omega), e 8 (by omega), e 33 (by omega)]; exact h
theorem q_plan (hd : dInv d) (hc : mRep d c) (hk : kRep d w T S Li Na By Of Fe Mi) (hs : sR T0 Tm L K) (x : Int32) (V4 V8 : Nat → Int32) : ∃ v U W Y Um, f_X11_plan T0 T V4 Of Fe By V8 x = some (v, U, W, Y) ∧ f_X12_plan Tm c x = some (v, Um, c) ∧ sR U Um L K := by
  have hm := hd.many
  have h32 := pow_le hm.1
  have hp : 0 < 2 ^ d 2 := Nat.two_pow_pos _
  have e1 := e_within_60 x
  have e2 := e_isIn_60 x
  by_cases hx : inR x 61
  · rw [if_pos hx] at e1 e2
    obtain ⟨h, hh, rfl⟩ := hx.eq (by decide)
    obtain ⟨W, Y, f1, f2⟩ := e2_weigh hd hk V4 V8
    obtain ⟨U', p1, p2, p3⟩ := e12_plans hd hc (upd (upd Tm 1 0) 0 0) (show h ≤ 60 by omega)
    have hb := bsN_lt d h (2 ^ d 2) hp
    have hs2 := hset_2 hd
    have h1 : hset d ||| bsN d h (2 ^ d 2) < 2 ^ d 2 := Nat.or_lt_two_pow hs2 hb
    have kn : knownS d (hset d ||| bsN d h (2 ^ d 2)) ≤ cells d := sm_le_n (fun k _ => by split <;> omega)
    refine ⟨iN (cells d - knownS d (hset d ||| bsN d h (2 ^ d 2))), upd T0 14 0, W, Y, U', ?_, ?_, sR_u (sR_ok hs) (Or.inl rfl) p3⟩
    · rw [f_X11_plan, e1, Option.bind_some, if_neg (by decide), f1, Option.bind_some]
      dsimp only
      rw [e2_bestSet hd hk f2 (by omega), Option.bind_some, e3_cells hk.1, Option.bind_some, hk.1.2.2.2.2.2.1, or_t _ (by omega) _ (by omega), e2_knownBy Y (by omega), f2 _ h1 (oa_t _ (by omega) _ (by omega)), Option.bind_some, iN_sub kn]
      rfl
    · rw [f_X12_plan, e2, Option.bind_some, if_neg (by decide), p1, Option.bind_some]
      dsimp only
      rw [p2]
  · rw [if_neg hx] at e1 e2
    refine ⟨-1, upd T0 14 5, V4, V8, upd (upd (upd Tm 1 0) 0 0) 0 5, ?_, ?_, sR_no hs⟩
    · rw [f_X11_plan, e1]; rfl
    · rw [f_X12_plan, e2]; rfl
theorem q_planSet (hd : dInv d) (hc : mRep d c) (hk : kRep d w T S Li Na By Of Fe Mi) (hs : sR T0 Tm L K) (x : Int32) (V4 V8 : Nat → Int32) : ∃ v U W Y Um, f_X11_planSet T0 T V4 Of Fe By V8 x = some (v, U, W, Y) ∧ f_X12_planSet Tm c x = some (v, Um, c) ∧ sR U Um L K := by
  have hm := hd.many
  have h32 := pow_le hm.1
  have e1 := e_within_60 x
  have e2 := e_isIn_60 x
  by_cases hx : inR x 61
  · rw [if_pos hx] at e1 e2
    obtain ⟨h, hh, rfl⟩ := hx.eq (by decide)
    obtain ⟨W, Y, f1, f2⟩ := e2_weigh hd hk V4 V8
    obtain ⟨U', p1, p2, p3⟩ := e12_plans hd hc (upd (upd Tm 1 0) 0 0) (show h ≤ 60 by omega)
    refine ⟨iN (bsN d h (2 ^ d 2)), upd T0 14 0, W, Y, U', ?_, ?_, sR_u (sR_ok hs) (Or.inl rfl) p3⟩
    · rw [f_X11_planSet, e1, Option.bind_some, if_neg (by decide), f1, Option.bind_some]
      dsimp only
      rw [e2_bestSet hd hk f2 (by omega)]
      rfl
    · rw [f_X12_planSet, e2, Option.bind_some, if_neg (by decide), p1]; rfl
  · rw [if_neg hx] at e1 e2
    refine ⟨-1, upd T0 14 5, V4, V8, upd (upd (upd Tm 1 0) 0 0) 0 5, ?_, ?_, sR_no hs⟩
    · rw [f_X11_planSet, e1]; rfl
    · rw [f_X12_planSet, e2]; rfl
end PLAN
