/-! Calls: tray, copyChart. -/
theorem e7_fillL (N : Nat) (hN : N ≤ 1000) (V : Nat → Int64) (v : Int64) : ∃ W, f_J7_fill_d0a16 V N v = some W ∧ ∀ k, k < N → W k = v := by
  have h := iter_run (g := g_J7_fill_d0a16_6 N v) (z := fun _ _ _ => none) N (fun k (φ : Int32 → Int32 → (Nat → Int64) → Option (Nat → Int64)) => ∀ U : Nat → Int64, (∀ j, j < k → U j = v) → ∃ W, φ (iN k) (iN N) U = some W ∧ ∀ j, j < N → W j = v) (by omega) (fun k F hk h => fun U hU => ?_) (fun F => fun U hU => ?_)
  · exact h V (fun j hj => by omega)
  · obtain ⟨W, h1, h2⟩ := h (vp_updL U k v) (fun j hj => by
      unfold vp_updL
      by_cases e : j = k
      · rw [if_pos e]
      · rw [if_neg e]; exact hU j (by omega))
    refine ⟨W, ?_, h2⟩
    simp (disch := omega) only [g_J7_fill_d0a16_6, iN_lit, iN_add, iN_mul, iN_sub, iN_nn, ck_iN, iN_le, iN_lt, iN_eq, Nat.mul_zero, Nat.zero_add, Nat.add_zero, Nat.reduceMul, Nat.reduceAdd, Nat.reduceSub, Option.bind_some]
    rw [if_neg (by omega)]
    exact h1
  · refine ⟨U, ?_, hU⟩
    simp (disch := omega) only [g_J7_fill_d0a16_6, iN_lit, iN_add, iN_mul, iN_sub, iN_nn, ck_iN, iN_le, iN_lt, iN_eq, Nat.mul_zero, Nat.zero_add, Nat.add_zero, Nat.reduceMul, Nat.reduceAdd, Nat.reduceSub, Option.bind_some]
    rw [if_pos (by omega)]
def setR (R : Nat → Nat → Int64) (t : Nat) (F : Nat → Int64) : Nat → Nat → Int64 := fun s => if s = t then F else R s
section TRAY2
variable {Le So Ma Sm T0 Tm : Nat → Int32} {R0 R1 R2 R3 X : Nat → Int64} {R : Nat → Nat → Int64} {L : Int32} {K : Int32 × Int32}
theorem e9_lay {t n : Nat} (ht : t < 4) (hn : n ≤ 60) (y : Int32) : ∃ F, f_X9_lay So Le R0 R1 R2 R3 (iN t) y (iN n) = some (upd So t y, upd Le t (iN n), setR (r4 R0 R1 R2 R3) t F 0, setR (r4 R0 R1 R2 R3) t F 1, setR (r4 R0 R1 R2 R3) t F 2, setR (r4 R0 R1 R2 R3) t F 3) ∧ ∀ k, k < 60 → F k = 0 := by
  have e := e9_isTray (iN t)
  rw [if_pos (by rw [inR_iN (by omega)]; exact ht)] at e
  have e2 := e_within_60 (iN n)
  rw [if_pos (by rw [inR_iN (by omega)]; omega)] at e2
  rcases (show t = 0 ∨ t = 1 ∨ t = 2 ∨ t = 3 by omega) with rfl | rfl | rfl | rfl
  · obtain ⟨F, hF, hz⟩ := e7_fillL 60 (by decide) R0 0
    refine ⟨F, ?_, hz⟩
    rw [f_X9_lay, e, Option.bind_some, if_neg (by decide), e2, Option.bind_some, if_neg (by decide), ck_iN ht (by decide), ck_iN ht (by decide), ck_iN ht (by decide), if_pos (by decide), hF, Option.bind_some, iN_nn (by omega)]; rfl
  · obtain ⟨F, hF, hz⟩ := e7_fillL 60 (by decide) R1 0
    refine ⟨F, ?_, hz⟩
    rw [f_X9_lay, e, Option.bind_some, if_neg (by decide), e2, Option.bind_some, if_neg (by decide), ck_iN ht (by decide), ck_iN ht (by decide), ck_iN ht (by decide), if_neg (by decide), if_pos (by decide), hF, Option.bind_some, iN_nn (by omega)]; rfl
  · obtain ⟨F, hF, hz⟩ := e7_fillL 60 (by decide) R2 0
    refine ⟨F, ?_, hz⟩
    rw [f_X9_lay, e, Option.bind_some, if_neg (by decide), e2, Option.bind_some, if_neg (by decide), ck_iN ht (by decide), ck_iN ht (by decide), ck_iN ht (by decide), if_neg (by decide), if_neg (by decide), if_pos (by decide), hF, Option.bind_some, iN_nn (by omega)]; rfl
  · obtain ⟨F, hF, hz⟩ := e7_fillL 60 (by decide) R3 0
    refine ⟨F, ?_, hz⟩
    rw [f_X9_lay, e, Option.bind_some, if_neg (by decide), e2, Option.bind_some, if_neg (by decide), ck_iN ht (by decide), ck_iN ht (by decide), ck_iN ht (by decide), if_neg (by decide), if_neg (by decide), if_neg (by decide), hF, Option.bind_some, iN_nn (by omega)]; rfl
theorem e12_lay {t n : Nat} (ht : t < 4) (hn : n ≤ 60) (x2 : Int32) (T : Nat → Int32) (V1 V2 : Nat → Int32) (X : Nat → Int64) : ∃ X', f_X12_tray_74 (iN t) x2 (iN n) xF 0 T V1 V2 X = some (1, T, V1, V2, X') ∧ (∀ k, k < n → X' (60 * t + k) = 0) ∧ ∀ j, (j < 60 * t ∨ 60 * t + 60 ≤ j) → X' j = X j := by
  have h := iter_run (g := g_X12_tray_74 (iN t) x2 (iN n)) (z := fun _ _ _ _ _ => none) n (fun k (φ : Int32 → (Nat → Int32) → (Nat → Int32) → (Nat → Int32) → (Nat → Int64) → Option (Int32 × (Nat → Int32) × (Nat → Int32) × (Nat → Int32) × (Nat → Int64))) => ∀ U : Nat → Int64, (∀ j, j < k → U (60 * t + j) = 0) → (∀ j, (j < 60 * t ∨ 60 * t + 60 ≤ j) → U j = X j) → ∃ X', φ (iN k) T V1 V2 U = some (1, T, V1, V2, X') ∧ (∀ j, j < n → X' (60 * t + j) = 0) ∧ ∀ j, (j < 60 * t ∨ 60 * t + 60 ≤ j) → X' j = X j) (by omega) (fun k F hk h => fun U hU hO => ?_) (fun F => fun U hU hO => ?_)
  · exact h X (fun j hj => by omega) (fun j _ => rfl)
  · obtain ⟨X', h1, h2⟩ := h (vp_updL U (60 * t + k) 0) (fun j hj => by
      unfold vp_updL
      by_cases e : j = k
      · rw [if_pos (by omega)]
      · rw [if_neg (by omega)]; exact hU j (by omega)) (fun j hj => by
      unfold vp_updL
      rw [if_neg (by omega)]; exact hO j hj)
    refine ⟨X', ?_, h2⟩
    have e9 : (60 * iN t + iN k : Int32) = iN (60 * t + k) := by
      rw [show (60 : Int32) = iN 60 from rfl, iN_mul, iN_add]
    have e8 : (iN k + 1 : Int32) = iN (k + 1) := iN_add k 1
    rw [g_X12_tray_74, if_neg (by rw [iN_le (by omega) (by omega)]; omega), e9, ck_iN (by omega) (by omega), iN_nn (by omega), e8]
    exact h1
  · refine ⟨U, ?_, hU, hO⟩
    rw [g_X12_tray_74, if_pos (by rw [iN_le (by omega) (by omega)]; omega)]
theorem q_tray (hy : yRep Le So (r4 R0 R1 R2 R3) Ma Sm X) (hs : sR T0 Tm L K) (x y u : Int32) : ∃ v U So' Le' R0' R1' R2' R3' Um Sm' Ma' X', f_X11_tray T0 So Le R0 R1 R2 R3 x y u = some (v, U, So', Le', R0', R1', R2', R3') ∧ f_X12_tray Tm Sm Ma X x y u = some (v, Um, Sm', Ma', X') ∧ sR U Um L K ∧ yRep Le' So' (r4 R0' R1' R2' R3') Ma' Sm' X' := by
  have e1 := e9_isTray x
  have e2 := e_within_3 y
  have c0 : (0 : Int32).toInt = 0 := rfl
  have c3 : (3 : Int32).toInt = 3 := by decide
  have c4 : (4 : Int32).toInt = 4 := by decide
  have c60 : (60 : Int32).toInt = 60 := by decide
  by_cases hx : inR x 4
  · rw [if_pos hx] at e1
    have x1 : ¬ x < 0 := fun h => by have := Int32.lt_iff_toInt_lt.mp h; have := hx.1; omega
    have x2 : ¬ 4 ≤ x := fun h => by have := Int32.le_iff_toInt_le.mp h; have := hx.2; omega
    by_cases hy4 : inR y 4
    · rw [if_pos hy4] at e2
      have y1 : ¬ y < 0 := fun h => by have := Int32.lt_iff_toInt_lt.mp h; have := hy4.1; omega
      have y2 : y ≤ 3 := Int32.le_iff_toInt_le.mpr (by have := hy4.2; omega)
      by_cases u1 : u ≤ 60
      · by_cases u2 : 0 ≤ u
        · have u1' := Int32.le_iff_toInt_le.mp u1
          have u2' := Int32.le_iff_toInt_le.mp u2
          obtain ⟨t, ht, rfl⟩ := hx.eq (by decide)
          obtain ⟨n, hn, rfl⟩ := (show inR u 61 from ⟨by omega, by omega⟩).eq (by decide)
          obtain ⟨F, hF, hz⟩ := e9_lay (So := So) (Le := Le) (R0 := R0) (R1 := R1) (R2 := R2) (R3 := R3) ht (show n ≤ 60 by omega) y
          obtain ⟨X', hX, hX0, hX1⟩ := e12_lay ht (show n ≤ 60 by omega) y (upd (upd Tm 1 0) 0 0) (upd Sm t y) (upd Ma t (iN n)) X
          refine ⟨1, upd T0 14 0, upd So t y, upd Le t (iN n), setR (r4 R0 R1 R2 R3) t F 0, setR (r4 R0 R1 R2 R3) t F 1, setR (r4 R0 R1 R2 R3) t F 2, setR (r4 R0 R1 R2 R3) t F 3, upd (upd Tm 1 0) 0 0, upd Sm t y, upd Ma t (iN n), X', ?_, ?_, sR_ok hs, yRep_r4 (R := setR (r4 R0 R1 R2 R3) t F) (fun s hs9 => ?_)⟩
          · rw [f_X11_tray, e1, Option.bind_some, if_neg (by decide), e2, Option.bind_some, if_neg (by decide), if_pos u1, if_pos u2, hF]; rfl
          · rw [f_X12_tray, if_neg x1, if_neg x2, if_neg y1, if_pos y2, if_pos u1, if_pos u2, ck_iN ht (by decide), ck_iN ht (by decide), iN_nn (by omega), hX]
          · obtain ⟨h1, h2, h3⟩ := hy s hs9
            by_cases e : s = t
            · subst e
              refine ⟨by rw [upd_s, upd_s], by rw [upd_s, upd_s], Or.inr ⟨n, by omega, upd_s, fun k hk => ?_⟩⟩
              rw [setR, if_pos rfl, hz k (by omega), hX0 k hk]
            · refine ⟨by rw [upd_n e, upd_n e]; exact h1, by rw [upd_n e, upd_n e]; exact h2, ?_⟩
              rw [upd_n e, setR, if_neg e]
              exact h3.imp id (fun ⟨m, hm, h4, h5⟩ => ⟨m, hm, h4, fun k hk => by rw [hX1 _ (by omega)]; exact h5 k hk⟩)
        · refine ⟨0, upd T0 14 6, So, Le, R0, R1, R2, R3, upd (upd (upd Tm 1 0) 0 0) 0 6, Sm, Ma, X, ?_, ?_, sR_no hs, hy⟩
          · rw [f_X11_tray, e1, Option.bind_some, if_neg (by decide), e2, Option.bind_some, if_neg (by decide), if_pos u1, if_neg u2]; rfl
          · rw [f_X12_tray, if_neg x1, if_neg x2, if_neg y1, if_pos y2, if_pos u1, if_neg u2]; rfl
      · refine ⟨0, upd T0 14 5, So, Le, R0, R1, R2, R3, upd (upd (upd Tm 1 0) 0 0) 0 5, Sm, Ma, X, ?_, ?_, sR_no hs, hy⟩
        · rw [f_X11_tray, e1, Option.bind_some, if_neg (by decide), e2, Option.bind_some, if_neg (by decide), if_neg u1]; rfl
        · rw [f_X12_tray, if_neg x1, if_neg x2, if_neg y1, if_pos y2, if_neg u1]; rfl
    · rw [if_neg hy4] at e2
      refine ⟨0, upd T0 14 1, So, Le, R0, R1, R2, R3, upd (upd (upd Tm 1 0) 0 0) 0 1, Sm, Ma, X, ?_, ?_, sR_no hs, hy⟩
      · rw [f_X11_tray, e1, Option.bind_some, if_neg (by decide), e2]; rfl
      · rw [f_X12_tray, if_neg x1, if_neg x2]
        by_cases y1 : y < 0
        · rw [if_pos y1]; rfl
        · rw [if_neg y1, if_neg (fun h => hy4 ⟨by have : ¬ y.toInt < (0 : Int32).toInt := fun q => y1 (Int32.lt_iff_toInt_lt.mpr q); omega, by have := Int32.le_iff_toInt_le.mp h; omega⟩)]; rfl
  · rw [if_neg hx] at e1
    refine ⟨0, upd T0 14 1, So, Le, R0, R1, R2, R3, upd (upd (upd Tm 1 0) 0 0) 0 1, Sm, Ma, X, ?_, ?_, sR_no hs, hy⟩
    · rw [f_X11_tray, e1]; rfl
    · rw [f_X12_tray]
      by_cases x1 : x < 0
      · rw [if_pos x1]; rfl
      · rw [if_neg x1, if_pos (Int32.le_iff_toInt_le.mpr (by
          have q1 : ¬ x.toInt < (0 : Int32).toInt := fun q => x1 (Int32.lt_iff_toInt_lt.mpr q)
          have q2 : ¬ (0 ≤ x.toInt ∧ x.toInt < ((4 : Nat) : Int)) := hx
          omega))]; rfl
end TRAY2
