/-! Calls: ask. -/
section ASK
variable {d : Nat → Nat} {w Na : Nat → Int64} {c T T0 Tm S Li By Of Fe Mi : Nat → Int32} {L : Int32} {K : Int32 × Int32}
def aB : Option (Nat × Nat × Nat) → Int32
  | none => -1
  | some z => iN z.1
def aT (v : Int64) : Option (Nat × Nat × Nat) → Int64
  | none => v
  | some z => jN z.2.1
def aM : Option (Nat × Nat × Nat) → Int64
  | none => 1
  | some z => jN z.2.2
theorem mul_b {a b : Nat} (ha : a ≤ 254803968) (hb : b ≤ 1019215872) : a * b < 9223372036854775808 := Nat.lt_of_le_of_lt (Nat.mul_le_mul ha hb) (by decide)
theorem e12_askL (hd : dInv d) (hc : mRep d c) (Um : Nat → Int32) : f_X12_ask_20 c xF (-1) 0 1 0 Um = (match asS d (cells d) with | none => some (-1, upd Um 0 8) | some z => some (iN z.1, Um)) := by
  have h36 := hd.c36
  refine iter_run (cells d) (fun k (φ : Int32 → Int64 → Int64 → Int32 → (Nat → Int32) → Option (Int32 × (Nat → Int32))) => φ (aB (asS d k)) (aT 0 (asS d k)) (aM (asS d k)) (iN k) Um = (match asS d (cells d) with | none => some (-1, upd Um 0 8) | some z => some (iN z.1, Um))) (by omega) (fun k F hk h => ?_) (fun F => ?_)
  · have b1 := wN_b hd k (lkl (fun q => wN d k q (d 3)) 3)
    have b2 := wAll_b hd k
    have hl3 := lkl_le (fun q => wN d k q (d 3)) 3
    rw [asS] at h
    rw [g_X12_ask_20, e12_cells hd hc, Option.bind_some, if_neg (by rw [iN_le (by omega) (by omega)]; omega), e12_likelyAll hd hc (by omega), Option.bind_some, show (iN k + 1 : Int32) = iN (k + 1) from iN_add k 1]
    by_cases h0 : wAll d k = 0
    · rw [if_pos (by rw [lg_0 (by omega)]; exact h0)]
      rw [if_pos h0] at h; exact h
    · rw [if_neg (by rw [lg_0 (by omega)]; exact h0), e12_likeliestOf hd hc (by omega), Option.bind_some, e12_likely hd hc (by omega) (by omega), Option.bind_some]
      rw [if_neg h0] at h
      cases hl : asS d k with
      | none =>
        rw [hl] at h
        rw [if_pos (show aB none < 0 by decide), f_X12_ask_81, show (iN k + 1 : Int32) = iN (k + 1) from iN_add k 1]
        exact h
      | some z =>
        obtain ⟨b, t, m⟩ := z
        obtain ⟨z1, z2, z3⟩ := asS_ok hd k b t m hl
        have m1 := mul_b b1 z3
        have m2 := mul_b z2 b2
        rw [hl] at h
        dsimp only at h
        rw [show aB (some (b, t, m)) = iN b from rfl, show aT 0 (some (b, t, m)) = jN t from rfl, show aM (some (b, t, m)) = jN m from rfl, if_neg (by rw [show (0 : Int32) = iN 0 from rfl, iN_lt (by omega) (by omega)]; omega), jN_mul, jN_mul]
        by_cases q : wN d k (lkl (fun q => wN d k q (d 3)) 3) (d 3) * m < t * wAll d k
        · rw [if_pos (by rw [lg_cmp_lt, jN_lt m1 m2]; exact q), f_X12_ask_81, show (iN k + 1 : Int32) = iN (k + 1) from iN_add k 1]
          rw [if_pos q] at h; exact h
        · rw [if_neg (by rw [lg_cmp_lt, jN_lt m1 m2]; exact q)]
          rw [if_neg q] at h; exact h
  · rw [g_X12_ask_20, e12_cells hd hc, Option.bind_some, if_pos (by rw [iN_le (by omega) (by omega)]; omega)]
    cases hl : asS d (cells d) with
    | none => rfl
    | some z =>
      obtain ⟨b, t, m⟩ := z
      obtain ⟨z1, z2, z3⟩ := asS_ok hd _ b t m hl
      rw [show aB (some (b, t, m)) = iN b from rfl, if_pos (by rw [show (0 : Int32) = iN 0 from rfl, iN_le (by omega) (by omega)]; omega)]
theorem e1_least (hd : dInv d) (hk : kRep d w T S Li Na By Of Fe Mi) (V : Nat → Int64) : ∃ W, f_X1_leastSureCell T V By Of Li Fe = some (aB (asS d (cells d)), W) := by
  have h36 := hd.c36
  have l := iter_run (g := g_X1_leastSureCell_10 T By Of Li Fe) (z := fun _ _ _ _ _ => none) (cells d) (fun k (φ : Int32 → Int64 → Int64 → Int32 → (Nat → Int64) → Option (Int32 × (Nat → Int64))) => ∀ U, ∃ W, φ (aB (asS d k)) (aT 1 (asS d k)) (aM (asS d k)) (iN k) U = some (aB (asS d (cells d)), W)) (by omega) (fun k F hk9 h => fun U => ?_) (fun F => fun U => ?_)
  · exact l V
  · have b1 := wN_b hd k (lkl (fun q => wN d k q (d 3)) 3)
    have b2 := wAll_b hd k
    have hl3 := lkl_le (fun q => wN d k q (d 3)) 3
    obtain ⟨W, eW, tW⟩ := e1_weigh hd hk (show k < 36 by omega) U
    obtain ⟨W', h⟩ := h W
    refine ⟨W', ?_⟩
    rw [asS] at h
    rw [g_X1_leastSureCell_10, e3_cells hk.1, Option.bind_some, if_neg (by rw [iN_le (by omega) (by omega)]; omega), eW, Option.bind_some, e1_sum tW, Option.bind_some, e1_likeliest hd tW, Option.bind_some, e1_weightOf tW (by omega), Option.bind_some]
    have e65 : ∀ (a : Int32) (p q : Int64) (s : Int32), f_X1_leastSureCell_65 T By Of Li Fe F a p q (iN k) (jN (wAll d k)) (jN (wN d k (lkl (fun q => wN d k q (d 3)) 3) (d 3))) s W = if wAll d k = 0 then F a p q (iN (k + 1)) W else (if s = 0 then F a p q (iN (k + 1)) W else F (iN k) (jN (wN d k (lkl (fun q => wN d k q (d 3)) 3) (d 3))) (jN (wAll d k)) (iN (k + 1)) W) := fun a p q s => by
      rw [f_X1_leastSureCell_65, show (iN k + 1 : Int32) = iN (k + 1) from iN_add k 1]
      exact ifc (by rw [lg_cmp_le, show (0 : Int64) = jN 0 from rfl, jN_le (by omega) (by omega)]; omega)
    rw [f_X1_leastSureCell_60, e65, e65, if_pos rfl, if_neg (show ¬ (1 : Int32) = 0 by decide)]
    cases hl : asS d k with
    | none =>
      rw [hl] at h
      rw [if_pos (show aB none = -1 from rfl)]
      by_cases h0 : wAll d k = 0
      · rw [if_pos h0]; rw [if_pos h0] at h; exact h
      · rw [if_neg h0]; rw [if_neg h0] at h; exact h
    | some z =>
      obtain ⟨b, t, m⟩ := z
      obtain ⟨z1, z2, z3⟩ := asS_ok hd k b t m hl
      have m1 := mul_b b1 z3
      have m2 := mul_b z2 b2
      rw [hl] at h
      dsimp only at h
      rw [show aB (some (b, t, m)) = iN b from rfl, show aT 1 (some (b, t, m)) = jN t from rfl, show aM (some (b, t, m)) = jN m from rfl, if_neg (iN_ne_m1 (by omega)), jN_mul, jN_mul]
      by_cases h0 : wAll d k = 0
      · rw [if_pos h0] at h
        rw [if_pos h0, if_pos h0]
        split <;> exact h
      · rw [if_neg h0] at h
        rw [if_neg h0, if_neg h0]
        by_cases q : wN d k (lkl (fun q => wN d k q (d 3)) 3) (d 3) * m < t * wAll d k
        · rw [if_neg (by rw [lg_cmp_ge, jN_le m2 m1]; omega)]
          rw [if_pos q] at h; exact h
        · rw [if_pos (by rw [lg_cmp_ge, jN_le m2 m1]; omega)]
          rw [if_neg q] at h; exact h
  · refine ⟨U, ?_⟩
    rw [g_X1_leastSureCell_10, e3_cells hk.1, Option.bind_some, if_pos (by rw [iN_le (by omega) (by omega)]; omega)]
theorem q_ask (hd : dInv d) (hc : mRep d c) (hk : kRep d w T S Li Na By Of Fe Mi) (hs : sR T0 Tm L K) (V : Nat → Int64) : ∃ v U W Um, f_X11_ask T0 T V By Of Li Fe = some (v, U, W) ∧ f_X12_ask Tm c = some (v, Um) ∧ sR U Um L K := by
  obtain ⟨W, eW⟩ := e1_least hd hk V
  have e2 := e12_askL hd hc (upd (upd Tm 1 0) 0 0)
  have h36 := hd.c36
  cases hl : asS d (cells d) with
  | none =>
    rw [hl] at eW e2
    refine ⟨-1, upd T0 14 8, W, upd (upd (upd Tm 1 0) 0 0) 0 8, ?_, ?_, sR_no hs⟩
    · rw [f_X11_ask, eW]; rfl
    · rw [f_X12_ask]; exact e2
  | some z =>
    obtain ⟨b, t, m⟩ := z
    obtain ⟨z1, -, -⟩ := asS_ok hd _ b t m hl
    rw [hl] at eW e2
    refine ⟨iN b, upd T0 14 0, W, upd (upd Tm 1 0) 0 0, ?_, ?_, sR_ok hs⟩
    · rw [f_X11_ask, eW, Option.bind_some, show aB (some (b, t, m)) = iN b from rfl]
      dsimp only
      rw [if_neg (iN_ne_m1 (by omega))]; rfl
    · rw [f_X12_ask]; exact e2
end ASK
