/-! Calls: copyChart. -/
def zc (s : Int32) (v : Int64) : Int64 := (f_X9_cut v s).getD 0
theorem zc_9 (s : Int32) (v : Int64) : f_X9_cut v s = some (zc s v) := by
  obtain ⟨z, h1, h2⟩ := e_cut v s
  unfold zc
  rw [h1]; rfl
theorem zc_12 (s : Int32) (v : Int64) : f_X12_cut s v = some (zc s v) := by
  obtain ⟨z, h1, h2⟩ := e_cut v s
  rw [h2]
  unfold zc
  rw [h1]; rfl
def cpR (d : Nat → Nat) (s : Int32) (R : Nat → Nat → Int64) (t : Nat) : Nat → Nat → Nat → Int64
  | 0 => R
  | k + 1 => updR (cpR d s R t k) t k (zc s (iN (drawn d k)).toInt64)
def cpX (d : Nat → Nat) (s : Int32) (X : Nat → Int64) (t : Nat) : Nat → Nat → Int64
  | 0 => X
  | k + 1 => vp_updL (cpX d s X t k) (60 * t + k) (zc s (iN (drawn d k)).toInt64)
section TRAY3
variable {d : Nat → Nat} {w Na : Nat → Int64} {c T S Li By Of Fe Mi V3 : Nat → Int32}
variable {Le So Ma Sm T0 Tm : Nat → Int32} {R0 R1 R2 R3 X : Nat → Int64} {R : Nat → Nat → Int64} {L : Int32} {K : Int32 × Int32}
theorem yRep_cp (hy : yRep Le So R Ma Sm X) {t : Nat} (s : Int32) : ∀ n, n ≤ 60 → yRep Le So (cpR d s R t n) Ma Sm (cpX d s X t n)
  | 0, _ => hy
  | n + 1, h => yRep_put (yRep_cp hy s n (by omega)) (by omega) _
theorem e12_placed {t n k : Nat} (ht : t < 4) (hn : n ≤ 60) (hM : Ma t = iN n) (hk : k < n) : f_X12_placed Ma (iN t) (iN k) = some 0 := by
  simp (disch := omega) only [f_X12_placed, f_X12_trayed, hM, iN_lit, iN_add, iN_mul, iN_sub, iN_nn, ck_iN, iN_le, iN_lt, iN_eq, Nat.mul_zero, Nat.zero_add, Nat.add_zero, Nat.reduceMul, Nat.reduceAdd, Nat.reduceSub, Option.bind_some, reduceIte, Nat.reduceEqDiff, Nat.reduceLeDiff, Nat.reduceLT, Nat.le_refl, Nat.zero_le, eq_self]
  rw [if_neg (by omega), if_pos (by omega)]
  simp (disch := omega) only [iN_lit, iN_add, iN_mul, iN_sub, iN_nn, ck_iN, iN_le, iN_lt, iN_eq, Nat.mul_zero, Nat.zero_add, Nat.add_zero, Nat.reduceMul, Nat.reduceAdd, Nat.reduceSub, Option.bind_some, reduceIte, Nat.reduceEqDiff, Nat.reduceLeDiff, Nat.reduceLT, Nat.le_refl, Nat.zero_le, eq_self]
  rw [if_neg (by omega), if_pos hk]
theorem q_copyChart (hd : dInv d) (hc : mRep d c) (hk : kRep d w T S Li Na By Of Fe Mi) (hy : yRep Le So (r4 R0 R1 R2 R3) Ma Sm X) (hs : sR T0 Tm L K) (x : Int32) (V5 : Nat → Int32) : ∃ v U W R0' R1' R2' R3' Um X', f_X11_copyChart T0 Le T V5 Of Fe By R0 So R1 R2 R3 x = some (v, U, W, R0', R1', R2', R3') ∧ f_X12_copyChart Tm Ma c X Sm x = some (v, Um, X') ∧ sR U Um L K ∧ yRep Le So (r4 R0' R1' R2' R3') Ma Sm X' := by
  have h36 := hd.c36
  have e1 := e9_isTray x
  have e2 := e12_isTray x
  by_cases hx : inR x 4
  · rw [if_pos hx] at e1 e2
    obtain ⟨t, ht, rfl⟩ := hx.eq (by decide)
    obtain ⟨h1, h2, h3⟩ := hy t ht
    rcases h3 with h3 | ⟨n, hn, h3, -⟩
    · refine ⟨-1, upd T0 14 3, V5, R0, R1, R2, R3, upd (upd (upd Tm 1 0) 0 0) 0 3, X, ?_, ?_, sR_no hs, hy⟩
      · rw [f_X11_copyChart, e1, Option.bind_some, if_neg (by decide), e9_isMissing ht, if_pos h3]; rfl
      · rw [f_X12_copyChart, e2, Option.bind_some, if_neg (by decide), ck_iN ht (by decide), iN_nn (by omega), ← h1, h3]; rfl
    · have g0 : (0 : Int32) ≤ Ma t := by
        rw [← h1, h3, show (0 : Int32) = iN 0 from rfl, iN_le (by omega) (by omega)]; omega
      have ep := e9_hasPlaces ht hn h3 0 (iN (cells d))
      rw [iN_int (by omega), show (0 : Int32).toInt = 0 from rfl] at ep
      by_cases hb : cells d ≤ n
      · rw [if_pos (by omega)] at ep
        obtain ⟨W, eW, tW⟩ := e7_take hd hk.1 hk.2.2.2.2.2.1 hk.2.2.2.2.2.2.1 hk.2.2.2.2.1 V5 (hset_lt hd)
        have l1 := iter_run (g := g_X11_copyChart_81 Le T Of Fe By So (iN t)) (z := fun _ _ _ _ _ _ _ _ => none) (cells d) (fun k (φ : Int32 → Int32 → (Nat → Int32) → (Nat → Int32) → (Nat → Int64) → (Nat → Int64) → (Nat → Int64) → (Nat → Int64) → Option (Int32 × (Nat → Int32) × (Nat → Int32) × (Nat → Int64) × (Nat → Int64) × (Nat → Int64) × (Nat → Int64))) => φ (iN (cells d)) (iN k) T0 W (cpR d (So t) (r4 R0 R1 R2 R3) t k 0) (cpR d (So t) (r4 R0 R1 R2 R3) t k 1) (cpR d (So t) (r4 R0 R1 R2 R3) t k 2) (cpR d (So t) (r4 R0 R1 R2 R3) t k 3) = some (iN (cells d), upd T0 14 0, W, cpR d (So t) (r4 R0 R1 R2 R3) t (cells d) 0, cpR d (So t) (r4 R0 R1 R2 R3) t (cells d) 1, cpR d (So t) (r4 R0 R1 R2 R3) t (cells d) 2, cpR d (So t) (r4 R0 R1 R2 R3) t (cells d) 3)) (by omega) (fun k F hk9 h => ?_) (fun F => ?_)
        · have l2 := iter_run (g := g_X12_copyChart_60 Ma c Sm (iN t)) (z := fun _ _ _ => none) (cells d) (fun k (φ : Int32 → (Nat → Int32) → (Nat → Int64) → Option (Int32 × (Nat → Int32) × (Nat → Int64))) => ∀ V : Nat → Int32, sR (upd T0 14 0) V L K → ∃ V', φ (iN k) V (cpX d (So t) X t k) = some (iN (cells d), V', cpX d (So t) X t (cells d)) ∧ sR (upd T0 14 0) V' L K) (by omega) (fun k F hk9 h => fun V hV => ?_) (fun F => fun V hV => ?_)
          · obtain ⟨V', hV1, hV2⟩ := l2 (upd (upd Tm 1 0) 0 0) (sR_ok hs)
            refine ⟨iN (cells d), upd T0 14 0, W, cpR d (So t) (r4 R0 R1 R2 R3) t (cells d) 0, cpR d (So t) (r4 R0 R1 R2 R3) t (cells d) 1, cpR d (So t) (r4 R0 R1 R2 R3) t (cells d) 2, cpR d (So t) (r4 R0 R1 R2 R3) t (cells d) 3, V', cpX d (So t) X t (cells d), ?_, ?_, hV2, yRep_r4 (yRep_cp hy (So t) _ (by omega))⟩
            · rw [f_X11_copyChart, e1, Option.bind_some, if_neg (by decide), e9_isMissing ht, h3, if_neg (iN_ne_m1 (by omega)), Option.bind_some, if_pos rfl, e3_cells hk.1, Option.bind_some, ep, Option.bind_some, if_neg (by decide), hk.1.2.2.2.2.2.1, eW, Option.bind_some]
              exact l1
            · rw [f_X12_copyChart, e2, Option.bind_some, if_neg (by decide), ck_iN ht (by decide), iN_nn (by omega), if_pos g0, ck_iN ht (by decide), e12_cells hd hc, Option.bind_some, if_pos (by rw [← h1, h3, iN_le (by omega) (by omega)]; exact hb)]
              exact hV1
          · obtain ⟨V', hV1, hV2⟩ := h (upd (upd V 1 0) 0 0) ⟨rfl, hV.2⟩
            refine ⟨V', ?_, hV2⟩
            have ew : f_X12_write V Ma (cpX d (So t) X t k) Sm (iN t) (iN k) (iN (drawn d k)).toInt64 = some (1, upd (upd V 1 0) 0 0, cpX d (So t) X t (k + 1)) := by
              have z2 := zc_12 (So t) (iN (drawn d k)).toInt64
              rw [h2] at z2
              rw [f_X12_write, e12_placed ht hn (h1.symm.trans h3) (by omega), Option.bind_some, if_pos (by rw [upd_s]; decide)]
              simp (disch := omega) only [z2, iN_lit, iN_add, iN_mul, iN_sub, iN_nn, ck_iN, iN_le, iN_lt, iN_eq, Nat.mul_zero, Nat.zero_add, Nat.add_zero, Nat.reduceMul, Nat.reduceAdd, Nat.reduceSub, Option.bind_some, reduceIte, Nat.reduceEqDiff, Nat.reduceLeDiff, Nat.reduceLT, Nat.le_refl, Nat.zero_le, eq_self]
              rw [cpX, h2]
            rw [g_X12_copyChart_60, e12_cells hd hc, Option.bind_some, if_neg (by rw [iN_le (by omega) (by omega)]; omega), e12_drawn hd hc (by omega), Option.bind_some, ew, Option.bind_some, show (iN k + 1 : Int32) = iN (k + 1) from iN_add k 1]
            exact hV1
          · refine ⟨V, ?_, hV⟩
            rw [g_X12_copyChart_60, e12_cells hd hc, Option.bind_some, if_pos (by rw [iN_le (by omega) (by omega)]; omega), Option.bind_some]
        · rw [g_X11_copyChart_81, if_neg (by rw [iN_le (by omega) (by omega)]; omega), e7_drawnAs tW (votesS_le hd _) (by omega), drawnF_h hd, Option.bind_some, e9_put ht hn h3 (by omega) (zc_9 _ _), Option.bind_some, show (iN k + 1 : Int32) = iN (k + 1) from iN_add k 1]
          exact h
        · rw [g_X11_copyChart_81, if_pos (by rw [iN_le (by omega) (by omega)]; omega)]; rfl
      · rw [if_neg (by omega)] at ep
        refine ⟨-1, upd T0 14 4, V5, R0, R1, R2, R3, upd (upd (upd Tm 1 0) 0 0) 0 4, X, ?_, ?_, sR_no hs, hy⟩
        · rw [f_X11_copyChart, e1, Option.bind_some, if_neg (by decide), e9_isMissing ht, h3, if_neg (iN_ne_m1 (by omega)), Option.bind_some, if_pos rfl, e3_cells hk.1, Option.bind_some, ep]; rfl
        · rw [f_X12_copyChart, e2, Option.bind_some, if_neg (by decide), ck_iN ht (by decide), iN_nn (by omega), if_pos g0, ck_iN ht (by decide), e12_cells hd hc, Option.bind_some, if_neg (by rw [← h1, h3, iN_le (by omega) (by omega)]; exact hb)]; rfl
  · rw [if_neg hx] at e1 e2
    refine ⟨-1, upd T0 14 1, V5, R0, R1, R2, R3, upd (upd (upd Tm 1 0) 0 0) 0 1, X, ?_, ?_, sR_no hs, hy⟩
    · rw [f_X11_copyChart, e1]; rfl
    · rw [f_X12_copyChart, e2]; rfl
end TRAY3
