/-! The constructors' numbers. -/
theorem ct_is : (f_X8_init (fun _ => 0)).isSome = true := by decide +kernel
theorem ct_cd : ∀ w, w < 23 → ((f_X8_init (fun _ => 0)).getD (fun _ => 0)) w = jN (wcd w) := by decide +kernel
theorem ct_codes : ∃ zc, f_X8_init (fun _ => 0) = some zc ∧ cOk zc := by
  have h := ct_is
  have h2 := ct_cd
  cases e : f_X8_init (fun _ => 0) with
  | none => rw [e] at h; cases h
  | some z =>
    rw [e] at h2
    exact ⟨z, rfl, h2⟩
theorem ct_12 : ∃ z, f_X12_init (fun _ => 0) (fun _ => 0) = some z ∧ (∀ k, k < 4 → z.1 k = -1) ∧ ∀ k, k < 372 → z.2 k = if k = 4 then 4 else 0 := by
  obtain ⟨c', h1, h2, -⟩ := e12_empties (B := 0) (by decide) (fun _ => 0)
  have h1' : f_X12_empties (fun _ => 0) 0 = some c' := h1
  have h := iter_run (g := g_X12_init_109) (z := fun _ _ _ => none) 4 (fun k φ => φ (iN k) (cpU (fun _ => 0) (fun _ => -1) k) (fun _ => 0) = some (cpU (fun _ => 0) (fun _ => -1) 4, c')) (by decide) (fun k F hk h => ?_) (fun F => ?_)
  · rw [cpU_0] at h
    refine ⟨_, h, fun k hk => if_pos hk, fun k hk => ?_⟩
    have := h2 k hk
    rw [Nat.mul_zero, Nat.zero_add] at this
    exact this
  · rw [g_X12_init_109, if_neg (by rw [show (4 : Int32) = iN 4 from rfl, iN_le (by omega) (by omega)]; omega), ck_iN hk (by decide), iN_nn (by omega), show (iN k + 1 : Int32) = iN (k + 1) from iN_add k 1]
    have e := cpU_s (fun _ => 0) (fun _ => -1) k
    rw [← e] at h
    exact h
  · rw [g_X12_init_109, if_pos (by decide), h1', Option.bind_some]
