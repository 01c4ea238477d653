/-! Calls: share, clashes. -/
section OPS6
variable {d : Nat → Nat} {w Na : Nat → Int64} {c T T0 Tm S Li By Of Fe Mi : Nat → Int32} {L : Int32} {K : Int32 × Int32} {J J' N N' : Int64}
theorem sm_le_n {n : Nat} {f : Nat → Nat} (h : ∀ k, k < n → f k ≤ 1) : sm n f ≤ n := Nat.le_trans (sm_le (c := 1) h) (by omega)
theorem q_share (hd : dInv d) (hc : mRep d c) (hk : kRep d w T S Li Na By Of Fe Mi) (hs : sR T0 Tm L K) (hJ : J = N ∧ J' = N') (x : Int32) : ∃ v U p q Um, f_X11_share T0 J J' T By x = some (v, U, p, q) ∧ f_X12_share Tm N N' c x = some (v, Um, p, q) ∧ sR U Um L K := by
  have hm := hd.many
  have e1 := e3_hasTraveller hd hk.1 x
  have e2 := e12_isTravellerAt hd hc x
  have g3 : gd 3 1860 = true := by decide
  have n3 : (3 : Int32).toNatClampNeg = 3 := by decide
  obtain ⟨rfl, rfl⟩ := hJ
  by_cases hx : inR x (d 2)
  · rw [if_pos hx] at e1 e2
    obtain ⟨i, hi, rfl⟩ := hx.eq (by omega)
    by_cases h0 : d 3 = 0
    · refine ⟨0, upd T0 14 8, J, J', upd (upd (upd Tm 1 0) 0 0) 0 8, ?_, ?_, sR_no hs⟩
      · rw [f_X11_share, e1, Option.bind_some, if_neg (by decide), hk.1.2.2.2.2.2.2, h0]; rfl
      · rw [f_X12_share, e2, Option.bind_some, if_neg (by decide), ck_y g3, n3, hc 3 (by omega), h0]; rfl
    · have ht : tellBy d i ≤ d 3 := sm_le_n (fun t _ => by split <;> omega)
      obtain ⟨p, q, h1, h2⟩ := q_frac (T := T0) (J := J) (J' := J') (K := J) (K' := J') (a := tellBy d i) (b := d 3) (by omega) (by omega) (by omega)
      have nz : ¬ iN (d 3) = 0 := by
        rw [show (0 : Int32) = iN 0 from rfl, iN_eq (by omega) (by omega)]; exact h0
      have t0 := e12_told0 hd hc (show i < 5 by omega)
      refine ⟨1, upd T0 14 0, p, q, upd (upd Tm 1 0) 0 0, ?_, ?_, sR_ok hs⟩
      · rw [f_X11_share, e1, Option.bind_some, if_neg (by decide), hk.1.2.2.2.2.2.2, if_neg nz, e3_tellingsBy hd hk.1 hk.2.2.2.2.1 (by omega), Option.bind_some, jN_i (by omega), jN_i (by omega), h1]; rfl
      · rw [f_X12_share, e2, Option.bind_some, if_neg (by decide), ck_y g3, n3, hc 3 (by omega), if_neg nz, t0, Option.bind_some, ck_y g3, jN_i (by omega), jN_i (by omega), h2]; rfl
  · rw [if_neg hx] at e1 e2
    refine ⟨0, upd T0 14 2, J, J', upd (upd (upd Tm 1 0) 0 0) 0 2, ?_, ?_, sR_no hs⟩
    · rw [f_X11_share, e1]; rfl
    · rw [f_X12_share, e2]; rfl
/-- pairs of tellings that clash, by travellers outside a set -/
def clp (d : Nat → Nat) (s t u : Nat) : Nat := if d (64 + t) = d (64 + u) ∧ ¬ d (76 + t) = d (76 + u) ∧ s.testBit (d (52 + t)) = false ∧ s.testBit (d (52 + u)) = false then 1 else 0
def clash (d : Nat → Nat) (s : Nat) : Nat := sm (d 3) (fun t => sm t (clp d s t))
theorem e3_clashes (hd : dInv d) (hk : kRep d w T S Li Na By Of Fe Mi) {s : Nat} (hs : s < 32) : f_X3_clashesWithout T Of Fe By (iN s) = some (iN (clash d s)) := by
  have hm := hd.many
  have h36 := hd.c36
  refine iter_run (d 3) (fun k (φ : Int32 → Int32 → Option Int32) => φ (iN (sm k (fun t => sm t (clp d s t)))) (iN k) = some (iN (clash d s))) (by omega) (fun k F hk9 h => ?_) (fun F => ?_)
  · rw [g_X3_clashesWithout_4, hk.1.2.2.2.2.2.2, if_neg (by rw [iN_le (by omega) (by omega)]; omega)]
    have ho := hd.tell hk9
    refine iter_run k (fun j (φ : Int32 → Int32 → Int32 → Option Int32) => φ (iN (sm k (fun t => sm t (clp d s t)) + sm j (clp d s k))) (iN k) (iN j) = some (iN (clash d s))) (by omega) (fun j G hj h9 => ?_) (fun G => ?_)
    · have hp := hd.tell (show j < d 3 by omega)
      rw [sm_succ, ← Nat.add_assoc] at h9
      rw [g_X3_clashesWithout_15, if_neg (by rw [iN_le (by omega) (by omega)]; omega), ck_iN (by omega) (by omega), ck_iN (by omega) (by omega), iN_nn (by omega), iN_nn (by omega), hk.2.2.2.2.2.1 k hk9, hk.2.2.2.2.2.1 j (by omega), ck_iN (by omega) (by omega), ck_iN (by omega) (by omega), hk.2.2.2.2.2.2.1 k hk9, hk.2.2.2.2.2.2.1 j (by omega)]
      have e58 : ∀ b : Int32, f_X3_clashesWithout_58 T Of Fe By (iN s) F G (iN (sm k (fun t => sm t (clp d s t)) + sm j (clp d s k))) (iN k) (iN j) b = if b = 0 then G (iN (sm k (fun t => sm t (clp d s t)) + sm j (clp d s k))) (iN k) (iN (j + 1)) else (if s.testBit (d (52 + k)) = false ∧ s.testBit (d (52 + j)) = false then G (iN (sm k (fun t => sm t (clp d s t)) + sm j (clp d s k) + 1)) (iN k) (iN (j + 1)) else G (iN (sm k (fun t => sm t (clp d s t)) + sm j (clp d s k))) (iN k) (iN (j + 1))) := fun b => by
        rw [f_X3_clashesWithout_58, show (iN j + 1 : Int32) = iN (j + 1) from iN_add j 1, show ∀ z, (iN z + 1 : Int32) = iN (z + 1) from fun z => iN_add z 1, ck_iN (by omega) (by omega), ck_iN (by omega) (by omega), iN_nn (by omega), iN_nn (by omega), hk.2.2.2.2.1 k hk9, hk.2.2.2.2.1 j (by omega), isIn_tab s hs _ (by omega), isIn_tab s hs _ (by omega), Option.bind_some, Option.bind_some]
        by_cases hb : b = 0
        · rw [if_pos hb, if_pos hb]
        · rw [if_neg hb, if_neg hb]
          cases h1 : s.testBit (d (52 + k)) <;> cases h2 : s.testBit (d (52 + j)) <;> rfl
      have e57 : f_X3_clashesWithout_57 T Of Fe By (iN s) F G (iN (sm k (fun t => sm t (clp d s t)) + sm j (clp d s k))) (iN k) (iN j) = G (iN (sm k (fun t => sm t (clp d s t)) + sm j (clp d s k))) (iN k) (iN (j + 1)) := by
        rw [f_X3_clashesWithout_57, e58, if_pos rfl]
      rw [e57, e58]
      simp (disch := omega) only [iN_eq]
      unfold clp at h9 ⊢
      by_cases q1 : d (64 + k) = d (64 + j)
      · rw [if_pos q1]
        by_cases q2 : d (76 + k) = d (76 + j)
        · rw [if_pos q2]
          rw [if_neg (fun h => h.2.1 q2)] at h9
          exact h9
        · rw [if_neg q2, if_neg (show ¬ (1 : Int32) = 0 by decide)]
          by_cases q3 : s.testBit (d (52 + k)) = false ∧ s.testBit (d (52 + j)) = false
          · rw [if_pos q3]
            rw [if_pos ⟨q1, q2, q3⟩] at h9
            exact h9
          · rw [if_neg q3]
            rw [if_neg (fun h => q3 h.2.2)] at h9
            exact h9
      · rw [if_neg q1]
        rw [if_neg (fun h => q1 h.1)] at h9
        exact h9
    · rw [g_X3_clashesWithout_15, if_pos (by rw [iN_le (by omega) (by omega)]; omega), show (iN k + 1 : Int32) = iN (k + 1) from iN_add k 1]
      exact h
  · rw [g_X3_clashesWithout_4, hk.1.2.2.2.2.2.2, if_pos (by rw [iN_le (by omega) (by omega)]; omega)]; rfl
end OPS6
