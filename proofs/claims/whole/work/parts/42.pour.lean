/-! Calls: pour. -/
theorem ck_true {α : Type} {x : Option α} : ck true x = x := rfl
/-- m numbers from place a on laid to place b on, those from lo .. hi-1 so far -/
def pr (X : Nat → Int64) (a b lo hi : Nat) : Nat → Int64 := fun p => if b + lo ≤ p ∧ p < b + hi then X (a + (p - b)) else X p
section TRAY4
variable {Le So Ma Sm T0 Tm : Nat → Int32} {R0 R1 R2 R3 X : Nat → Int64} {R : Nat → Nat → Int64} {L : Int32} {K : Int32 × Int32}
theorem e9_move {t u i j m nt nu : Nat} (ht : t < 4) (hu : u < 4) (ht6 : nt ≤ 60) (hu6 : nu ≤ 60) (hLt : Le t = iN nt) (hLu : Le u = iN nu) (hi : i + m ≤ nt) (hj : j + m ≤ nu) : f_X9_move Le R0 R1 R2 R3 (iN t) (iN i) (iN u) (iN j) (iN m) = some (setR (r4 R0 R1 R2 R3) u (va_cpy (r4 R0 R1 R2 R3 t) (r4 R0 R1 R2 R3 u) i j m) 0, setR (r4 R0 R1 R2 R3) u (va_cpy (r4 R0 R1 R2 R3 t) (r4 R0 R1 R2 R3 u) i j m) 1, setR (r4 R0 R1 R2 R3) u (va_cpy (r4 R0 R1 R2 R3 t) (r4 R0 R1 R2 R3 u) i j m) 2, setR (r4 R0 R1 R2 R3) u (va_cpy (r4 R0 R1 R2 R3 t) (r4 R0 R1 R2 R3 u) i j m) 3) := by
  have p1 := e9_hasPlaces ht ht6 hLt (iN i) (iN m)
  have p2 := e9_hasPlaces hu hu6 hLu (iN j) (iN m)
  rw [iN_int (by omega), iN_int (by omega), if_pos (by omega)] at p1 p2
  have hcp : cpo (iN i) (iN j) (iN m) 60 60 = true := by
    unfold cpo
    rw [iN_int (by omega), iN_int (by omega), iN_int (by omega), Bool.and_eq_true, Bool.and_eq_true, Bool.and_eq_true, Bool.and_eq_true, decide_eq_true_eq, decide_eq_true_eq, decide_eq_true_eq, decide_eq_true_eq, decide_eq_true_eq]
    omega
  rw [f_X9_move, p1, Option.bind_some, if_neg (by decide), p2, Option.bind_some, if_neg (by decide), iN_nn (by omega), iN_nn (by omega), iN_nn (by omega), ck_iN ht (by decide)]
  rcases (show t = 0 ∨ t = 1 ∨ t = 2 ∨ t = 3 by omega) with rfl | rfl | rfl | rfl <;> rcases (show u = 0 ∨ u = 1 ∨ u = 2 ∨ u = 3 by omega) with rfl | rfl | rfl | rfl <;> simp (disch := omega) only [setR, r4, hcp, ck_true, iN_lit, iN_add, iN_mul, iN_sub, iN_nn, ck_iN, iN_le, iN_lt, iN_eq, Nat.mul_zero, Nat.zero_add, Nat.add_zero, Nat.reduceMul, Nat.reduceAdd, Nat.reduceSub, Option.bind_some, reduceIte, Nat.reduceEqDiff, Nat.reduceLeDiff, Nat.reduceLT, Nat.le_refl, Nat.zero_le, eq_self]
theorem pr_step_up {a b k : Nat} : vp_updL (pr X a b 0 k) (b + k) (X (a + k)) = pr X a b 0 (k + 1) := by
  funext p
  unfold vp_updL pr
  by_cases e : p = b + k
  · rw [if_pos e, if_pos (by omega), show p - b = k by omega]
  · rw [if_neg e]
    by_cases h : b + 0 ≤ p ∧ p < b + k
    · rw [if_pos h, if_pos (by omega)]
    · rw [if_neg h, if_neg (by omega)]
theorem pr_step_dn {a b m n : Nat} (h9 : n < m) : vp_updL (pr X a b (n + 1) m) (b + n) (X (a + n)) = pr X a b n m := by
  funext p
  unfold vp_updL pr
  by_cases e : p = b + n
  · rw [if_pos e, if_pos (by omega), show p - b = n by omega]
  · rw [if_neg e]
    by_cases h : b + (n + 1) ≤ p ∧ p < b + m
    · rw [if_pos h, if_pos (by omega)]
    · rw [if_neg h, if_neg (by omega)]
theorem e12_pour_up {t u i j m : Nat} (ht : t < 4) (hu : u < 4) (hi : i + m ≤ 60) (hj : j + m ≤ 60) (hij : j ≤ i) (T : Nat → Int32) : f_X12_pour_158 Ma Sm (iN t) (iN i) (iN u) (iN j) (iN m) xF 0 0 T X = some (1, T, pr X (60 * t + i) (60 * u + j) 0 m) := by
  have h0 : pr X (60 * t + i) (60 * u + j) 0 0 = X := by
    funext p
    unfold pr
    rw [if_neg (by omega)]
  have h := iter_run (g := g_X12_pour_158 Ma Sm (iN t) (iN i) (iN u) (iN j) (iN m)) (z := fun _ _ _ _ => none) m (fun k (φ : Int32 → Int32 → (Nat → Int32) → (Nat → Int64) → Option (Int32 × (Nat → Int32) × (Nat → Int64))) => φ 0 (iN k) T (pr X (60 * t + i) (60 * u + j) 0 k) = some (1, T, pr X (60 * t + i) (60 * u + j) 0 m)) (by omega) (fun k F hk h => ?_) (fun F => ?_)
  · rw [h0] at h; exact h
  · have e1 : (60 * iN t + iN i + iN k : Int32) = iN (60 * t + i + k) := by rw [show (60 : Int32) = iN 60 from rfl, iN_mul, iN_add, iN_add]
    have e2 : (60 * iN u + iN j + iN k : Int32) = iN (60 * u + j + k) := by rw [show (60 : Int32) = iN 60 from rfl, iN_mul, iN_add, iN_add]
    have e3 : pr X (60 * t + i) (60 * u + j) 0 k (60 * t + i + k) = X (60 * t + i + k) := by
      unfold pr
      rw [if_neg (by omega)]
    rw [g_X12_pour_158, if_neg (by rw [iN_le (by omega) (by omega)]; omega), if_pos rfl, f_X12_pour_182, e1, e2, ck_iN (by omega) (by omega), ck_iN (by omega) (by omega), iN_nn (by omega), iN_nn (by omega), e3, show (iN k + 1 : Int32) = iN (k + 1) from iN_add k 1, pr_step_up]
    exact h
  · rw [g_X12_pour_158, if_pos (by rw [iN_le (by omega) (by omega)]; omega)]
theorem e12_pour_dn {t u i j m : Nat} (ht : t < 4) (hu : u < 4) (hi : i + m ≤ 60) (hj : j + m ≤ 60) (hij : i < j) (T : Nat → Int32) : f_X12_pour_158 Ma Sm (iN t) (iN i) (iN u) (iN j) (iN m) xF 1 0 T X = some (1, T, pr X (60 * t + i) (60 * u + j) 0 m) := by
  have h0 : pr X (60 * t + i) (60 * u + j) (m - 0) m = X := by
    funext p
    unfold pr
    rw [if_neg (by omega)]
  have h := iter_run (g := g_X12_pour_158 Ma Sm (iN t) (iN i) (iN u) (iN j) (iN m)) (z := fun _ _ _ _ => none) m (fun k (φ : Int32 → Int32 → (Nat → Int32) → (Nat → Int64) → Option (Int32 × (Nat → Int32) × (Nat → Int64))) => φ 1 (iN k) T (pr X (60 * t + i) (60 * u + j) (m - k) m) = some (1, T, pr X (60 * t + i) (60 * u + j) 0 m)) (by omega) (fun k F hk h => ?_) (fun F => ?_)
  · rw [h0] at h; exact h
  · have e0 : (iN m - 1 - iN k : Int32) = iN (m - 1 - k) := by rw [show (1 : Int32) = iN 1 from rfl, iN_sub (by omega), iN_sub (by omega)]
    have e1 : (60 * iN t + iN i + iN (m - 1 - k) : Int32) = iN (60 * t + i + (m - 1 - k)) := by rw [show (60 : Int32) = iN 60 from rfl, iN_mul, iN_add, iN_add]
    have e2 : (60 * iN u + iN j + iN (m - 1 - k) : Int32) = iN (60 * u + j + (m - 1 - k)) := by rw [show (60 : Int32) = iN 60 from rfl, iN_mul, iN_add, iN_add]
    have e3 : pr X (60 * t + i) (60 * u + j) (m - k) m (60 * t + i + (m - 1 - k)) = X (60 * t + i + (m - 1 - k)) := by
      unfold pr
      rw [if_neg (by omega)]
    have e4 := pr_step_dn (X := X) (a := 60 * t + i) (b := 60 * u + j) (show m - 1 - k < m by omega)
    rw [show m - 1 - k + 1 = m - k by omega] at e4
    rw [g_X12_pour_158, if_neg (by rw [iN_le (by omega) (by omega)]; omega), if_neg (by decide), f_X12_pour_182, e0, e1, e2, ck_iN (by omega) (by omega), ck_iN (by omega) (by omega), iN_nn (by omega), iN_nn (by omega), e3, show (iN k + 1 : Int32) = iN (k + 1) from iN_add k 1, e4, show m - 1 - k = m - (k + 1) by omega]
    exact h
  · rw [g_X12_pour_158, if_pos (by rw [iN_le (by omega) (by omega)]; omega), Nat.sub_self]
theorem yRep_pr (hy : yRep Le So R Ma Sm X) {t u i j m nt nu : Nat} (ht : t < 4) (ht6 : nt ≤ 60) (hu6 : nu ≤ 60) (hLt : Le t = iN nt) (hLu : Le u = iN nu) (hi : i + m ≤ nt) (hj : j + m ≤ nu) : yRep Le So (setR R u (va_cpy (R t) (R u) i j m)) Ma Sm (pr X (60 * t + i) (60 * u + j) 0 m) := fun s hs9 => by
  obtain ⟨h1, h2, h3⟩ := hy s hs9
  refine ⟨h1, h2, h3.imp id (fun ⟨n, hn, h4, h5⟩ => ⟨n, hn, h4, fun k hk => ?_⟩)⟩
  unfold setR pr
  by_cases e : s = u
  · subst e
    rw [if_pos rfl]
    unfold va_cpy
    by_cases hin : j ≤ k ∧ k < j + m
    · rw [if_pos hin, if_pos (by omega)]
      rcases (hy t ht).2.2 with h6 | ⟨n', hn', h6, h7⟩
      · exact absurd (hLt.symm.trans h6) (iN_ne_m1 (by omega))
      · have h8 := hLt.symm.trans h6
        rw [iN_eq (by omega) (by omega)] at h8
        rw [h7 _ (by omega)]
        congr 1
        omega
    · rw [if_neg hin, if_neg (by omega)]; exact h5 k hk
  · rw [if_neg e, if_neg (by omega)]; exact h5 k hk
end TRAY4
