/-! Calls: pour. -/
section TRAY5
variable {Le So Ma Sm T0 Tm : Nat → Int32} {R0 R1 R2 R3 X : Nat → Int64} {R : Nat → Nat → Int64} {L : Int32} {K : Int32 × Int32}
theorem inR_4 {x : Int32} (h : inR x 4) : ¬ x < 0 ∧ ¬ 4 ≤ x ∧ x < 4 := by
  obtain ⟨t, ht, rfl⟩ := h.eq (by decide)
  rw [show (0 : Int32) = iN 0 from rfl, show (4 : Int32) = iN 4 from rfl, iN_lt (by omega) (by omega), iN_lt (by omega) (by omega), iN_le (by omega) (by omega)]
  omega
theorem inR_4n {x : Int32} (h : ¬ inR x 4) : x < 0 ∨ (¬ x < 0 ∧ 4 ≤ x ∧ ¬ x < 4) := by
  by_cases h0 : x < 0
  · exact Or.inl h0
  · have h0' : ¬ x.toInt < (0 : Int32).toInt := fun q => h0 (Int32.lt_iff_toInt_lt.mpr q)
    rw [show (0 : Int32).toInt = 0 from rfl] at h0'
    have h4 : (4 : Int32).toInt = 4 := by decide
    have h1 : ¬ (0 ≤ x.toInt ∧ x.toInt < ((4 : Nat) : Int)) := h
    exact Or.inr ⟨h0, Int32.le_iff_toInt_le.mpr (by omega), fun q => by have := Int32.lt_iff_toInt_lt.mp q; omega⟩
theorem e9_sortOf {V : Nat → Int32} {t : Nat} (ht : t < 4) : f_X9_sortOf V (iN t) = some (V t) := by
  have e := e9_isTray (iN t)
  rw [if_pos (by rw [inR_iN (by omega)]; exact ht)] at e
  rw [f_X9_sortOf, e, Option.bind_some, if_neg (by decide), ck_iN ht (by decide), iN_nn (by omega)]
/-- how a pour can end before anything moves -/
theorem q_pour (hy : yRep Le So (r4 R0 R1 R2 R3) Ma Sm X) (hs : sR T0 Tm L K) (x1 x2 x3 x4 x5 : Int32) : ∃ v U R0' R1' R2' R3' Um X', f_X11_pour T0 Le So R0 R1 R2 R3 x1 x2 x3 x4 x5 = some (v, U, R0', R1', R2', R3') ∧ f_X12_pour Tm Ma Sm X x1 x2 x3 x4 x5 = some (v, Um, X') ∧ sR U Um L K ∧ yRep Le So (r4 R0' R1' R2' R3') Ma Sm X' := by
  have n0 : ∀ n, n ≤ 60 → ¬ iN n < 0 := fun n hn => by
    rw [show (0 : Int32) = iN 0 from rfl, iN_lt (by omega) (by omega)]; omega
  have p0 : ∀ n, n ≤ 60 → (0 : Int32) ≤ iN n := fun n hn => by
    rw [show (0 : Int32) = iN 0 from rfl, iN_le (by omega) (by omega)]; omega
  have e1 := e9_isTray x1
  have e3 := e9_isTray x3
  have no : ∀ k : Int32, ∀ q, f_X11_pour T0 Le So R0 R1 R2 R3 x1 x2 x3 x4 x5 = some (0, upd T0 14 k, R0, R1, R2, R3) → f_X12_pour Tm Ma Sm X x1 x2 x3 x4 x5 = some (0, upd (upd (upd Tm 1 0) 0 0) 0 k, X) → q = k → ∃ v U R0' R1' R2' R3' Um X', f_X11_pour T0 Le So R0 R1 R2 R3 x1 x2 x3 x4 x5 = some (v, U, R0', R1', R2', R3') ∧ f_X12_pour Tm Ma Sm X x1 x2 x3 x4 x5 = some (v, Um, X') ∧ sR U Um L K ∧ yRep Le So (r4 R0' R1' R2' R3') Ma Sm X' := fun k q h1 h2 _ => ⟨_, _, _, _, _, _, _, _, h1, h2, sR_no hs, hy⟩
  by_cases h1 : inR x1 4
  · obtain ⟨a1, b1, c1⟩ := inR_4 h1
    rw [if_pos h1] at e1
    by_cases h3 : inR x3 4
    · obtain ⟨a3, b3, c3⟩ := inR_4 h3
      rw [if_pos h3] at e3
      obtain ⟨t, ht, rfl⟩ := h1.eq (by decide)
      obtain ⟨u, hu, rfl⟩ := h3.eq (by decide)
      obtain ⟨lt, st, rt⟩ := hy t ht
      obtain ⟨lu, su, ru⟩ := hy u hu
      rcases rt with rt | ⟨nt, hnt, rt, -⟩
      · refine no 3 3 ?_ ?_ rfl
        · rw [f_X11_pour, e1, Option.bind_some, if_neg (by decide), e3, Option.bind_some, if_neg (by decide), e9_isMissing ht, if_pos rt]; rfl
        · rw [f_X12_pour, if_neg a1, if_neg b1, if_neg a3, if_pos c3, ck_iN ht (by decide), iN_nn (by omega), ← lt, rt]; rfl
      · rcases ru with ru | ⟨nu, hnu, ru, -⟩
        · refine no 3 3 ?_ ?_ rfl
          · rw [f_X11_pour, e1, Option.bind_some, if_neg (by decide), e3, Option.bind_some, if_neg (by decide), e9_isMissing ht, rt, if_neg (iN_ne_m1 (by omega)), Option.bind_some, if_pos rfl, e9_isMissing hu, if_pos ru]; rfl
          · rw [f_X12_pour, if_neg a1, if_neg b1, if_neg a3, if_pos c3, ck_iN ht (by decide), iN_nn (by omega), ← lt, rt, if_neg (n0 nt hnt), ck_iN hu (by decide), iN_nn (by omega), ← lu, ru]; rfl
        · by_cases hso : So t = So u
          · by_cases h5 : 0 ≤ x5
            · have h5' := Int32.le_iff_toInt_le.mp h5
              rw [show (0 : Int32).toInt = 0 from rfl] at h5'
              have q1 := e9_hasPlaces ht hnt rt x2 x5
              have q2 := e9_hasPlaces hu hnu ru x4 x5
              have E1 : ∀ r, (f_X9_hasPlaces Le (iN t) x2 x5).bind (fun z102 => if z102 = 0 then (f_X11_pour_123 Le So (iN t) x2 (iN u) x4 x5 T0 R0 R1 R2 R3) else ((f_X9_hasPlaces Le (iN u) x4 x5).bind (fun z117 => if z117 = 0 then (f_X11_pour_123 Le So (iN t) x2 (iN u) x4 x5 T0 R0 R1 R2 R3) else ((f_X9_move Le R0 R1 R2 R3 (iN t) x2 (iN u) x4 x5).bind (fun z140 => (f_X11_done T0).bind (fun z144 => ck (bz z144.1) (some (z144.1, z144.2, z140.1, z140.2.1, z140.2.2.1, z140.2.2.2)))))))) = r → f_X11_pour T0 Le So R0 R1 R2 R3 (iN t) x2 (iN u) x4 x5 = r := fun r hr => by
                rw [f_X11_pour, e1, Option.bind_some, if_neg (by decide), e3, Option.bind_some, if_neg (by decide), e9_isMissing ht, rt, if_neg (iN_ne_m1 (by omega)), Option.bind_some, if_pos rfl, e9_isMissing hu, ru, if_neg (iN_ne_m1 (by omega)), Option.bind_some, if_pos rfl, e9_sortOf ht, Option.bind_some, e9_sortOf hu, Option.bind_some, if_pos hso, if_pos h5]
                exact hr
              have M : f_X12_pour Tm Ma Sm X (iN t) x2 (iN u) x4 x5 = (if x2 < 0 then (f_X12_pour_136 Ma Sm (iN t) x2 (iN u) x4 x5 (upd (upd Tm 1 0) 0 0) X) else (if x4 < 0 then (f_X12_pour_136 Ma Sm (iN t) x2 (iN u) x4 x5 (upd (upd Tm 1 0) 0 0) X) else (if 0 < (lg_cmp ((Int32.toInt64 x2) + (Int32.toInt64 x5)) (Int32.toInt64 (iN nt))) then (f_X12_pour_136 Ma Sm (iN t) x2 (iN u) x4 x5 (upd (upd Tm 1 0) 0 0) X) else (if (lg_cmp ((Int32.toInt64 x4) + (Int32.toInt64 x5)) (Int32.toInt64 (iN nu))) ≤ 0 then (if x4 ≤ x2 then (f_X12_pour_153 Ma Sm (iN t) x2 (iN u) x4 x5 0 (upd (upd Tm 1 0) 0 0) X) else (f_X12_pour_153 Ma Sm (iN t) x2 (iN u) x4 x5 1 (upd (upd Tm 1 0) 0 0) X)) else (f_X12_pour_136 Ma Sm (iN t) x2 (iN u) x4 x5 (upd (upd Tm 1 0) 0 0) X))))) := by
                rw [f_X12_pour, if_neg a1, if_neg b1, if_neg a3, if_pos c3, ck_iN ht (by decide), iN_nn (by omega), ← lt, rt, if_neg (n0 nt hnt), ck_iN hu (by decide), iN_nn (by omega), ← lu, ru, if_pos (p0 nu hnu), ck_iN ht (by decide), ck_iN hu (by decide), ← st, ← su, if_pos hso, if_pos h5, ck_iN ht (by decide), ck_iN hu (by decide)]
              have ls : ∀ (y : Int32) (n : Nat), 0 ≤ y.toInt → n ≤ 60 → ((0 < lg_cmp ((Int32.toInt64 y) + (Int32.toInt64 x5)) (Int32.toInt64 (iN n))) ↔ (n : Int) < y.toInt + x5.toInt) := fun y n hy0 hn => by
                rw [lg_cmp_gt, Int64.lt_iff_toInt_lt, Int64.toInt_add, Int32.toInt_toInt64, Int32.toInt_toInt64, Int32.toInt_toInt64, iN_int (by omega)]
                have hy1 := Int32.toInt_lt y
                have hx1 := Int32.toInt_lt x5
                rw [Int.bmod_eq_of_le (by omega) (by omega)]
              have f4 : f_X12_pour_136 Ma Sm (iN t) x2 (iN u) x4 x5 (upd (upd Tm 1 0) 0 0) X = some (0, upd (upd (upd Tm 1 0) 0 0) 0 4, X) := rfl
              by_cases hA : 0 ≤ x2.toInt ∧ x2.toInt + x5.toInt ≤ nt
              · rw [if_pos ⟨h5', hA.1, hA.2⟩] at q1
                by_cases hB : 0 ≤ x4.toInt ∧ x4.toInt + x5.toInt ≤ nu
                · rw [if_pos ⟨h5', hB.1, hB.2⟩] at q2
                  obtain ⟨i, hi, rfl⟩ := (show inR x2 61 from ⟨hA.1, by have := hA.2; omega⟩).eq (by decide)
                  obtain ⟨j, hj, rfl⟩ := (show inR x4 61 from ⟨hB.1, by have := hB.2; omega⟩).eq (by decide)
                  obtain ⟨m, hm, rfl⟩ := (show inR x5 61 from ⟨h5', by have := hA.2; omega⟩).eq (by decide)
                  rw [iN_int (by omega), iN_int (by omega)] at hA hB
                  have hmv := e9_move (R0 := R0) (R1 := R1) (R2 := R2) (R3 := R3) ht hu hnt hnu rt ru (show i + m ≤ nt by omega) (show j + m ≤ nu by omega)
                  refine ⟨1, upd T0 14 0, _, _, _, _, upd (upd Tm 1 0) 0 0, pr X (60 * t + i) (60 * u + j) 0 m, E1 _ ?_, ?_, sR_ok hs, yRep_r4 (yRep_pr hy ht hnt hnu rt ru (show i + m ≤ nt by omega) (show j + m ≤ nu by omega))⟩
                  · rw [q1, Option.bind_some, if_neg (by decide), q2, Option.bind_some, if_neg (by decide), hmv]; rfl
                  · rw [M, if_neg (n0 i (by omega)), if_neg (n0 j (by omega)), if_neg (fun h => by have := (ls (iN i) nt (by rw [iN_int (by omega)]; omega) hnt).mp h; rw [iN_int (by omega), iN_int (by omega)] at this; omega)]
                    rw [if_pos (by
                      rw [lg_cmp_le, Int64.le_iff_toInt_le, Int64.toInt_add, Int32.toInt_toInt64, Int32.toInt_toInt64, Int32.toInt_toInt64, iN_int (by omega), iN_int (by omega), iN_int (by omega), Int.bmod_eq_of_le (by omega) (by omega)]
                      omega)]
                    by_cases hij : j ≤ i
                    · rw [if_pos (by rw [iN_le (by omega) (by omega)]; exact hij), f_X12_pour_153, e12_pour_up ht hu (by omega) (by omega) hij]
                    · rw [if_neg (by rw [iN_le (by omega) (by omega)]; exact hij), f_X12_pour_153, e12_pour_dn ht hu (by omega) (by omega) (by omega)]
                · rw [if_neg (fun h => hB ⟨h.2.1, h.2.2⟩)] at q2
                  refine no 4 4 (E1 _ ?_) ?_ rfl
                  · rw [q1, Option.bind_some, if_neg (by decide), q2]; rfl
                  · rw [M, f4]
                    by_cases g1 : x2 < 0
                    · rw [if_pos g1]
                    · rw [if_neg g1]
                      by_cases g2 : x4 < 0
                      · rw [if_pos g2]
                      · have g2' : ¬ x4.toInt < (0 : Int32).toInt := fun q => g2 (Int32.lt_iff_toInt_lt.mpr q)
                        rw [show (0 : Int32).toInt = 0 from rfl] at g2'
                        rw [if_neg g2]
                        have := (ls x4 nu (by omega) hnu).mpr (by omega)
                        split
                        · rfl
                        · rw [if_neg (fun h => by rw [Int32.le_iff_toInt_le] at h; rw [Int32.lt_iff_toInt_lt] at this; omega)]
              · rw [if_neg (fun h => hA ⟨h.2.1, h.2.2⟩)] at q1
                refine no 4 4 (E1 _ ?_) ?_ rfl
                · rw [q1]; rfl
                · rw [M, f4]
                  by_cases g1 : x2 < 0
                  · rw [if_pos g1]
                  · have g1' : ¬ x2.toInt < (0 : Int32).toInt := fun q => g1 (Int32.lt_iff_toInt_lt.mpr q)
                    rw [show (0 : Int32).toInt = 0 from rfl] at g1'
                    rw [if_neg g1, if_pos ((ls x2 nt (by omega) hnt).mpr (by omega))]
                    split <;> rfl
            · refine no 6 6 ?_ ?_ rfl
              · rw [f_X11_pour, e1, Option.bind_some, if_neg (by decide), e3, Option.bind_some, if_neg (by decide), e9_isMissing ht, rt, if_neg (iN_ne_m1 (by omega)), Option.bind_some, if_pos rfl, e9_isMissing hu, ru, if_neg (iN_ne_m1 (by omega)), Option.bind_some, if_pos rfl, e9_sortOf ht, Option.bind_some, e9_sortOf hu, Option.bind_some, if_pos hso, if_neg h5]; rfl
              · rw [f_X12_pour, if_neg a1, if_neg b1, if_neg a3, if_pos c3, ck_iN ht (by decide), iN_nn (by omega), ← lt, rt, if_neg (n0 nt hnt), ck_iN hu (by decide), iN_nn (by omega), ← lu, ru, if_pos (p0 nu hnu), ck_iN ht (by decide), ck_iN hu (by decide), ← st, ← su, if_pos hso, if_neg h5]; rfl
          · refine no 11 11 ?_ ?_ rfl
            · rw [f_X11_pour, e1, Option.bind_some, if_neg (by decide), e3, Option.bind_some, if_neg (by decide), e9_isMissing ht, rt, if_neg (iN_ne_m1 (by omega)), Option.bind_some, if_pos rfl, e9_isMissing hu, ru, if_neg (iN_ne_m1 (by omega)), Option.bind_some, if_pos rfl, e9_sortOf ht, Option.bind_some, e9_sortOf hu, Option.bind_some, if_neg hso]; rfl
            · rw [f_X12_pour, if_neg a1, if_neg b1, if_neg a3, if_pos c3, ck_iN ht (by decide), iN_nn (by omega), ← lt, rt, if_neg (n0 nt hnt), ck_iN hu (by decide), iN_nn (by omega), ← lu, ru, if_pos (p0 nu hnu), ck_iN ht (by decide), ck_iN hu (by decide), ← st, ← su, if_neg hso]; rfl
    · rw [if_neg h3] at e3
      refine no 1 1 ?_ ?_ rfl
      · rw [f_X11_pour, e1, Option.bind_some, if_neg (by decide), e3]; rfl
      · rw [f_X12_pour, if_neg a1, if_neg b1]
        rcases inR_4n h3 with q | ⟨q1, q2, q3⟩
        · rw [if_pos q]; rfl
        · rw [if_neg q1, if_neg q3]; rfl
  · rw [if_neg h1] at e1
    refine no 1 1 ?_ ?_ rfl
    · rw [f_X11_pour, e1]; rfl
    · rw [f_X12_pour]
      rcases inR_4n h1 with q | ⟨q1, q2, q3⟩
      · rw [if_pos q]; rfl
      · rw [if_neg q1, if_pos q2]; rfl
end TRAY5
