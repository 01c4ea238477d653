/-! Calls: clashes, liars, liarSet. -/
section OPS7
variable {d : Nat → Nat} {w Na : Nat → Int64} {c T T0 Tm S Li By Of Fe Mi : Nat → Int32} {L : Int32} {K : Int32 × Int32}
theorem e12_clashes (hd : dInv d) (hc : mRep d c) {s : Nat} (hs : s < 32) : f_X12_clashesBut c (iN s) = some (iN (clash d s)) := by
  have hm := hd.many
  have h36 := hd.c36
  have g3 : gd 3 1860 = true := by decide
  have n3 : (3 : Int32).toNatClampNeg = 3 := by decide
  have a52 : ∀ k : Nat, (52 + iN k : Int32) = iN (52 + k) := fun k => iN_add 52 k
  have a64 : ∀ k : Nat, (64 + iN k : Int32) = iN (64 + k) := fun k => iN_add 64 k
  have a76 : ∀ k : Nat, (76 + iN k : Int32) = iN (76 + k) := fun k => iN_add 76 k
  refine iter_run (d 3) (fun k (φ : Int32 → Int32 → Option Int32) => φ (iN (sm k (fun t => sm t (clp d s t)))) (iN k) = some (iN (clash d s))) (by omega) (fun k F hk9 h => ?_) (fun F => ?_)
  · rw [g_X12_clashesBut_4, ck_y g3, n3, hc 3 (by omega), if_neg (by rw [iN_le (by omega) (by omega)]; omega)]
    have ho := hd.tell hk9
    refine iter_run k (fun j (φ : Int32 → Int32 → Int32 → Option Int32) => φ (iN (sm k (fun t => sm t (clp d s t)) + sm j (clp d s k))) (iN k) (iN j) = some (iN (clash d s))) (by omega) (fun j G hj h9 => ?_) (fun G => ?_)
    · have hp := hd.tell (show j < d 3 by omega)
      rw [sm_succ, ← Nat.add_assoc] at h9
      rw [g_X12_clashesBut_17, if_neg (by rw [iN_le (by omega) (by omega)]; omega), a64, a64, a76, a76, ck_iN (by omega) (by omega), ck_iN (by omega) (by omega), iN_nn (by omega), iN_nn (by omega), hc (64 + k) (by omega), hc (64 + j) (by omega), ck_iN (by omega) (by omega), ck_iN (by omega) (by omega), iN_nn (by omega), iN_nn (by omega), hc (76 + k) (by omega), hc (76 + j) (by omega)]
      have e72 : ∀ b : Int32, f_X12_clashesBut_72 c (iN s) F G (iN (sm k (fun t => sm t (clp d s t)) + sm j (clp d s k))) (iN k) (iN j) b = if b = 0 then G (iN (sm k (fun t => sm t (clp d s t)) + sm j (clp d s k))) (iN k) (iN (j + 1)) else (if s.testBit (d (52 + k)) = false ∧ s.testBit (d (52 + j)) = false then G (iN (sm k (fun t => sm t (clp d s t)) + sm j (clp d s k) + 1)) (iN k) (iN (j + 1)) else G (iN (sm k (fun t => sm t (clp d s t)) + sm j (clp d s k))) (iN k) (iN (j + 1))) := fun b => by
        rw [f_X12_clashesBut_72, f_X12_clashesBut_117, f_X12_clashesBut_118, f_X12_clashesBut_118, show (iN j + 1 : Int32) = iN (j + 1) from iN_add j 1, show ∀ z, (iN z + 1 : Int32) = iN (z + 1) from fun z => iN_add z 1, show ∀ z, (iN z + 0 : Int32) = iN z from fun z => iN_add z 0, a52, a52, ck_iN (by omega) (by omega), ck_iN (by omega) (by omega), iN_nn (by omega), iN_nn (by omega), hc (52 + k) (by omega), hc (52 + j) (by omega), has_tab s hs _ (by omega), has_tab s hs _ (by omega), Option.bind_some, Option.bind_some]
        by_cases hb : b = 0
        · rw [if_pos hb, if_pos hb]
        · rw [if_neg hb, if_neg hb]
          cases h1 : s.testBit (d (52 + k)) <;> cases h2 : s.testBit (d (52 + j)) <;> rfl
      have e71 : f_X12_clashesBut_71 c (iN s) F G (iN (sm k (fun t => sm t (clp d s t)) + sm j (clp d s k))) (iN k) (iN j) = G (iN (sm k (fun t => sm t (clp d s t)) + sm j (clp d s k))) (iN k) (iN (j + 1)) := by
        rw [f_X12_clashesBut_71, e72, if_pos rfl]
      rw [e71, e72]
      simp (disch := omega) only [iN_eq]
      unfold clp at h9 ⊢
      by_cases q1 : d (64 + k) = d (64 + j)
      · rw [if_pos q1]
        by_cases q2 : d (76 + k) = d (76 + j)
        · rw [if_pos q2]
          rw [if_neg (fun h => h.2.1 q2)] at h9
          exact h9
        · rw [if_neg q2, if_neg (show ¬ (1 : Int32) = 0 by decide)]
          by_cases q3 : s.testBit (d (52 + k)) = false ∧ s.testBit (d (52 + j)) = false
          · rw [if_pos q3]
            rw [if_pos ⟨q1, q2, q3⟩] at h9
            exact h9
          · rw [if_neg q3]
            rw [if_neg (fun h => q3 h.2.2)] at h9
            exact h9
      · rw [if_neg q1]
        rw [if_neg (fun h => q1 h.1)] at h9
        exact h9
    · rw [g_X12_clashesBut_17, if_pos (by rw [iN_le (by omega) (by omega)]; omega), show (iN k + 1 : Int32) = iN (k + 1) from iN_add k 1]
      exact h
  · rw [g_X12_clashesBut_4, ck_y g3, n3, hc 3 (by omega), if_pos (by rw [iN_le (by omega) (by omega)]; omega)]; rfl
theorem q_clashes (hd : dInv d) (hc : mRep d c) (hk : kRep d w T S Li Na By Of Fe Mi) (hs : sR T0 Tm L K) : ∃ v U Um, f_X11_clashes T0 T Of Fe By = some (v, U) ∧ f_X12_clashes Tm c = some (v, Um) ∧ sR U Um L K := by
  have e1 := e3_clashes hd hk (s := 0) (by decide)
  have e2 := e12_clashes hd hc (s := 0) (by decide)
  refine ⟨iN (clash d 0), upd T0 14 0, upd (upd Tm 1 0) 0 0, ?_, ?_, sR_ok hs⟩
  · rw [f_X11_clashes, show (0 : Int32) = iN 0 from rfl, e1]; rfl
  · rw [f_X12_clashes, show f_X12_clashesBut c 0 = some (iN (clash d 0)) from e2]; rfl
/-- how many are in a set -/
def sz (s : Nat) : Nat := sm 5 (fun k => if s.testBit k then 1 else 0)
theorem bitc_tab : ∀ s, s < 32 → f_J6_bitCount_0f7a4 (iN s) = some (iN (sz s)) := by decide +kernel
theorem sz_le (s : Nat) : sz s ≤ 5 := sm_le_n (fun k _ => by split <;> omega)
theorem e12_sizeOf {s : Nat} (hs : s < 32) : f_X12_sizeOf (iN s) = some (iN (sz s)) := by
  refine iter_run 5 (fun k (φ : Int32 → Int32 → Option Int32) => φ (iN (sm k (fun k => if s.testBit k then 1 else 0))) (iN k) = some (iN (sz s))) (by omega) (fun k F hk h => ?_) (fun F => ?_)
  · rw [sm_succ] at h
    rw [g_X12_sizeOf_4, if_neg (by rw [show (5 : Int32) = iN 5 from rfl, iN_le (by omega) (by omega)]; omega), has_tab s hs k hk, Option.bind_some]
    cases hb : s.testBit k
    · rw [hb, if_neg (by decide), Nat.add_zero] at h
      rw [if_pos (show (if false = true then (1 : Int32) else 0) = 0 from rfl), f_X12_sizeOf_23, show (iN k + 1 : Int32) = iN (k + 1) from iN_add k 1, show ∀ z, (iN z + 0 : Int32) = iN z from fun z => iN_add z 0]
      exact h
    · rw [hb, if_pos rfl] at h
      rw [if_neg (show ¬ (if true = true then (1 : Int32) else 0) = 0 by decide), f_X12_sizeOf_23, show (iN k + 1 : Int32) = iN (k + 1) from iN_add k 1, show ∀ z, (iN z + 1 : Int32) = iN (z + 1) from fun z => iN_add z 1]
      exact h
  · rw [g_X12_sizeOf_4, if_pos (by decide)]; rfl
theorem shl_tab : ∀ k, k < 6 → ((1 : Int32) <<< (iN k &&& 31)) = iN (2 ^ k) := by decide +kernel
theorem clash_all (hd : dInv d) : clash d (2 ^ d 2 - 1) = 0 := by
  have hz : ∀ t, t < d 3 → ∀ u, clp d (2 ^ d 2 - 1) t u = 0 := fun t ht u => by
    unfold clp
    refine if_neg (fun h => ?_)
    have h2 := h.2.2.1
    rw [Nat.testBit_two_pow_sub_one, decide_eq_false_iff_not] at h2
    exact h2 (hd.tell ht).1
  have h1 : ∀ t, t < d 3 → sm t (clp d (2 ^ d 2 - 1) t) = 0 := fun t ht => by
    have h2 : sm t (clp d (2 ^ d 2 - 1) t) ≤ 0 * t := sm_le (fun u _ => Nat.le_of_eq (hz t ht u))
    rw [Nat.zero_mul] at h2
    exact Nat.le_zero.mp h2
  have h3 : clash d (2 ^ d 2 - 1) ≤ 0 * d 3 := sm_le (fun t ht => Nat.le_of_eq (h1 t ht))
  rw [Nat.zero_mul] at h3
  exact Nat.le_zero.mp h3
/-- the least liars from above: the class's way -/
def lfu (d : Nat → Nat) (M : Nat) : Nat → Nat
  | 0 => M
  | k + 1 => if sz (M - k) ≤ sz (lfu d M k) ∧ clash d (M - k) = 0 then M - k else lfu d M k
/-- and from below: the model's -/
def lfd (d : Nat → Nat) : Nat → Option Nat
  | 0 => none
  | k + 1 => match lfd d k with
    | none => if clash d k = 0 then some k else none
    | some b => if sz k < sz b ∧ clash d k = 0 then some k else some b
end OPS7
