/-! Readings: names, cells, feelings. -/
def nmO (w : Nat → Int64) (J : Int64) : Nat → Option Nat
  | 0 => none
  | m + 1 => match nmO w J m with
    | some i => some i
    | none => if w m = J then some m else none
theorem nmO_lt {w : Nat → Int64} {J : Int64} {i : Nat} : ∀ m, nmO w J m = some i → i < m
  | 0, h => by cases h
  | m + 1, h => by
    rw [nmO] at h
    cases hm : nmO w J m with
    | some x =>
      rw [hm] at h
      injection h with h
      have := nmO_lt m hm
      omega
    | none =>
      rw [hm] at h
      dsimp only at h
      split at h
      · injection h with h; omega
      · cases h
theorem nmO_st {w : Nat → Int64} {J : Int64} {i m : Nat} (h : nmO w J m = some i) : ∀ m2, m ≤ m2 → nmO w J m2 = some i
  | 0, hm => by
    obtain rfl : m = 0 := by omega
    exact h
  | m2 + 1, hm => by
    by_cases e : m = m2 + 1
    · rw [← e]; exact h
    · rw [nmO, nmO_st h m2 (by omega)]
theorem nmO_cg {w w2 : Nat → Int64} {J : Int64} : ∀ m, (∀ k, k < m → w k = w2 k) → nmO w J m = nmO w2 J m
  | 0, _ => rfl
  | m + 1, h => by rw [nmO, nmO, nmO_cg m (fun k hk => h k (by omega)), h m (by omega)]
section RD2
variable {b : Nat → Nat} {n p q k : Nat} {V Vm T Tm : Nat → Int32} {J Jm : Int64} {V2 : Nat → Int64}
theorem e12_nam {c : Nat → Int32} {W : Nat → Int64} {B m : Nat} (hB : B ≤ 4) (hm : m ≤ 5) (h : c (372 * B + 2) = iN m) : f_X12_named Jm c W (iN B) = some (oN (nmO (fun k => W (5 * B + k)) Jm m)) := by
  have e1 : (372 * iN B + 2 : Int32) = iN (372 * B + 2) := by rw [show (372 : Int32) = iN 372 from rfl, iN_mul, show (2 : Int32) = iN 2 from rfl, iN_add]
  have e2 : ∀ i, (5 * iN B + iN i : Int32) = iN (5 * B + i) := fun i => by rw [show (5 : Int32) = iN 5 from rfl, iN_mul, iN_add]
  have l := iter_run (g := g_X12_named_2 Jm c W (iN B)) (z := fun _ => none) m (fun i (φ : Int32 → Option Int32) => nmO (fun k => W (5 * B + k)) Jm i = none → φ (iN i) = some (oN (nmO (fun k => W (5 * B + k)) Jm m))) (by omega) (fun i F hi ih => fun h0 => ?_) (fun F => fun h0 => ?_)
  · exact l rfl
  · rw [g_X12_named_2, e1, ck_iN (by omega) (by omega), iN_nn (by omega), h, if_neg (by rw [iN_le (by omega) (by omega)]; omega), e2, ck_iN (by omega) (by omega), iN_nn (by omega), show (iN i + 1 : Int32) = iN (i + 1) from iN_add i 1]
    have hs : nmO (fun k => W (5 * B + k)) Jm (i + 1) = if W (5 * B + i) = Jm then some i else none := by rw [nmO, h0]
    by_cases e : W (5 * B + i) = Jm
    · rw [if_pos e] at hs
      rw [if_pos (by rw [lg_cmp_eq]; exact e), nmO_st hs m (by omega)]; rfl
    · rw [if_neg e] at hs
      rw [if_neg (by rw [lg_cmp_eq]; exact e)]
      exact ih hs
  · rw [g_X12_named_2, e1, ck_iN (by omega) (by omega), iN_nn (by omega), h, if_pos (by rw [iN_le (by omega) (by omega)]; omega), h0]; rfl
theorem e3_nam {Td : Nat → Int32} {Na w : Nat → Int64} {m : Nat} (hm : m ≤ 5) (h : Td 4 = iN m) (hw : ∀ k, k < m → Na k = w k) (hJ : ¬ J = 0) : f_X3_travellerNamed Td Na J = some (oN (nmO w J m)) := by
  rw [← nmO_cg m hw]
  have l := iter_run (g := g_X3_travellerNamed_2 Td Na J) (z := fun _ => none) m (fun i (φ : Int32 → Option Int32) => nmO Na J i = none → φ (iN i) = some (oN (nmO Na J m))) (by omega) (fun i F hi ih => fun h0 => ?_) (fun F => fun h0 => ?_)
  · exact l rfl
  · rw [g_X3_travellerNamed_2, h, if_neg (by rw [iN_le (by omega) (by omega)]; omega), ck_iN (by omega) (by omega), iN_nn (by omega), show (iN i + 1 : Int32) = iN (i + 1) from iN_add i 1]
    have hs : nmO Na J (i + 1) = if Na i = J then some i else none := by rw [nmO, h0]
    by_cases e : Na i = J
    · rw [if_pos e] at hs
      rw [if_pos (by rw [lg_cmp_eq]; exact e), if_neg (by rw [lg_cmp_eq]; exact hJ), nmO_st hs m (by omega)]; rfl
    · rw [if_neg e] at hs
      rw [if_neg (by rw [lg_cmp_eq]; exact e)]
      exact ih hs
  · rw [g_X3_travellerNamed_2, h, if_pos (by rw [iN_le (by omega) (by omega)]; omega), h0]; rfl
/-- a name: both have one code for it, not that of the nameless -/
theorem name_J (h : rdS b n p q k T J Tm Jm) (hk : k = 1) (h8 : q - p ≤ 8) : J = Jm ∧ ¬ J = 0 := by
  obtain ⟨w1, w2, w3⟩ := h.1.word hk
  have a := (h.1.2.1.2.2.2.1 hk).1
  have m := (h.1.2.2.1.2.2.2.1 hk).2
  have ec : ccd b p q = cdw b p (q - p) := if_pos (by omega)
  rw [if_pos h8] at m
  rw [ec] at a
  refine ⟨a.trans m.symm, ?_⟩
  have hc := cdw_lt (b := b) (p := p) (q - p) (fun j hj => w3 (p + j) (by omega) (by omega))
  have h32 : 32 ^ (q - p) ≤ 32 ^ 8 := Nat.pow_le_pow_right (by decide) h8
  obtain ⟨z, hz⟩ : ∃ z, q - p = z + 1 := ⟨q - p - 1, by omega⟩
  have hg := cdw_ge (b := b) (p := p) z (fun j hj => w3 (p + j) (by omega) (by omega))
  have h0 : 0 < 32 ^ z := Nat.pow_pos (by decide)
  rw [a, show (0 : Int64) = jN 0 from rfl, jN_eq (by omega) (by decide)]
  rw [← hz] at hg
  omega
theorem p_trav (hX : tX b n V Vm) (hC : cOk V2) (h : rdS b n p q k T J Tm Jm) {Td c : Nat → Int32} {Na w W : Nat → Int64} {B m : Nat} (hB : B ≤ 4) (hm : m ≤ 5) (hT : Td 4 = iN m) (hc : c (372 * B + 2) = iN m) (hw : ∀ k, k < m → Na k = w k) (hW : ∀ k, k < m → W (5 * B + k) = w k) : (∃ T' Tm', f_X8_isName T = some 0 ∧ f_X8_blame T 2 = some (0, T') ∧ f_X12_readTraveller Tm Jm Vm c W (iN B) = some (0, Tm', Jm) ∧ flS T' Tm' ∧ frM Tm Tm') ∨ (∃ T' Tm', f_X8_isName T = some 1 ∧ f_X3_travellerNamed Td Na J = some (-1) ∧ f_X8_blame T 3 = some (0, T') ∧ f_X12_readTraveller Tm Jm Vm c W (iN B) = some (0, Tm', Jm) ∧ flS T' Tm' ∧ frM Tm Tm') ∨ (∃ (i : Nat) (T' : Nat → Int32) (J' : Int64) (Tm' : Nat → Int32) (Jm' : Int64), i < m ∧ f_X8_isName T = some 1 ∧ f_X3_travellerNamed Td Na J = some (iN i) ∧ f_X8_advance T J V V2 = some (T', J') ∧ f_X12_readTraveller Tm Jm Vm c W (iN B) = some (iN i, Tm', Jm') ∧ nexts b n q T Tm T' J' Tm' Jm') := by
  have c1 := e8_isName hX h.1
  have c2 := e12_isName hX h.1
  by_cases e : k = 1 ∧ wx b p q = 23 ∧ q - p ≤ 8
  · rw [if_pos e] at c1 c2
    obtain ⟨j1, j2⟩ := name_J h e.1 e.2.2
    have n1 := e3_nam (J := J) hm hT hw j2
    have n2 := e12_nam (Jm := Jm) (W := W) hB hm hc
    rw [nmO_cg m hW, ← j1] at n2
    cases ho : nmO w J m with
    | none =>
      rw [ho] at n1 n2
      obtain ⟨T', Tm', b1, b2, b3, b4⟩ := p_fail h (w := 3) (by decide) (by omega)
      refine Or.inr (Or.inl ⟨T', Tm', c1, n1, b1, ?_, b3, b4⟩)
      rw [f_X12_readTraveller, h.2, if_pos rfl, c2, Option.bind_some, if_neg (by decide), f_X12_readTraveller_18, h.2, if_pos (by decide), ← j1, n2, Option.bind_some, oN, if_neg (by decide), show (3 : Int32) = iN 3 from rfl, b2, Option.bind_some, f_X12_readTraveller_46, b_must b3.b]; rfl
    | some i =>
      rw [ho] at n1 n2
      have hi := nmO_lt m ho
      obtain ⟨T', J', Tm', Jm', a1, a2, a3⟩ := p_adv hX hC h
      refine Or.inr (Or.inr ⟨i, T', J', Tm', Jm', hi, c1, n1, a1, ?_, a3⟩)
      have hmx : (if (0 : Int32) < iN i then iN i else 0) = iN i := by
        by_cases q0 : i = 0
        · rw [q0]; rfl
        · rw [if_pos (by rw [show (0 : Int32) = iN 0 from rfl, iN_lt (by omega) (by omega)]; omega)]
      rw [f_X12_readTraveller, h.2, if_pos rfl, c2, Option.bind_some, if_neg (by decide), f_X12_readTraveller_18, h.2, if_pos (by decide), ← j1, n2, Option.bind_some, oN, if_pos (by rw [show (0 : Int32) = iN 0 from rfl, iN_le (by omega) (by omega)]; omega), f_X12_readTraveller_46, j1, p_must1 h.2 a2, Option.bind_some, letv, hmx]
  · rw [if_neg e] at c1 c2
    obtain ⟨T', Tm', b1, b2, b3, b4⟩ := p_amiss h
    refine Or.inl ⟨T', Tm', c1, b1, ?_, b3, b4⟩
    rw [f_X12_readTraveller, h.2, if_pos rfl, c2, Option.bind_some, if_pos rfl, b2, Option.bind_some, f_X12_readTraveller_18, if_neg b3.b.le]
theorem p_cell (hX : tX b n V Vm) (hC : cOk V2) (h : rdS b n p q k T J Tm Jm) {c : Nat → Int32} {B R C : Nat} (hB : B ≤ 4) (hR : R ≤ 6) (hC6 : C ≤ 6) (hc0 : c (372 * B) = iN R) (hc1 : c (372 * B + 1) = iN C) : (∃ T' Tm', f_X8_isNumber T 0 (iN R - 1) = some (0, T') ∧ f_X12_readCell Tm Jm c Vm (iN B) = some (0, Tm', Jm) ∧ flS T' Tm' ∧ frM Tm Tm') ∨ (∃ (v : Nat) (T1 : Nat → Int32) (J1 : Int64), v < R ∧ f_X8_isNumber T 0 (iN R - 1) = some (1, T) ∧ f_X8_number T = some (iN v) ∧ f_X8_advance T J V V2 = some (T1, J1) ∧ ((∃ T' Tm' Jm', f_X8_isNumber T1 0 (iN C - 1) = some (0, T') ∧ f_X12_readCell Tm Jm c Vm (iN B) = some (0, Tm', Jm') ∧ flS T' Tm' ∧ frM Tm Tm') ∨ (∃ (u : Nat) (Tm1 : Nat → Int32) (Jm1 : Int64), u < C ∧ f_X8_isNumber T1 0 (iN C - 1) = some (1, T1) ∧ f_X8_number T1 = some (iN u) ∧ f_X12_readCell Tm Jm c Vm (iN B) = some (iN (v * C + u), Tm1, Jm1) ∧ frC T T1 ∧ frM Tm Tm1 ∧ ∃ p' q', rdS b n p' q' 2 T1 J1 Tm1 Jm1 ∧ q ≤ p'))) := by
  have e0 : (372 * iN B : Int32) = iN (372 * B) := by rw [show (372 : Int32) = iN 372 from rfl, iN_mul]
  have e1 : (iN (372 * B) + 1 : Int32) = iN (372 * B + 1) := iN_add _ 1
  have pr : ∀ {R v : Nat}, R ≤ 6 → (0 : Int32).toInt ≤ (v : Int) ∧ (v : Int) ≤ (iN R - 1).toInt → v < R := fun hR h9 => by
    rw [iN_pred (by omega)] at h9
    omega
  rcases p_num hX hC h 0 (iN R - 1) with ⟨T', Tm', c1, c2, c3, c4⟩ | ⟨v, T1, J1, Tm1, Jm1, hk, hv, hr, c1, c2, c3, c4, c5, c6, fr1, fr2, p', q', k', hS, hp'⟩
  · refine Or.inl ⟨T', Tm', c1, ?_, c3, c4⟩
    rw [f_X12_readCell, e0, ck_iN (by omega) (by omega), iN_nn (by omega), hc0, c2, Option.bind_some, if_neg c3.b.ne, f_X12_readCell_37, if_neg c3.b.ne, f_X12_readCell_80, if_neg c3.b.le]
  · refine Or.inr ⟨v, T1, J1, pr hR hr, c1, c2, c4, ?_⟩
    have hm := hS.1.2.2.1
    have hl := hS.1.le
    have h8 := hS.1.2.1
    have start : f_X12_readCell Tm Jm c Vm (iN B) = if k' = 2 then f_X12_readCell_37 c Vm (iN B) (iN v) Tm1 Jm1 else (f_X12_amiss Tm1).bind (fun z34 => f_X12_readCell_37 c Vm (iN B) (iN v) z34 Jm1) := by
      rw [f_X12_readCell, e0, ck_iN (by omega) (by omega), iN_nn (by omega), hc0, c6, Option.bind_some]
      dsimp only
      rw [if_pos hS.2]
      by_cases e : k' = 2
      · rw [if_pos (by rw [hm.1, e]; rfl), if_pos e]
      · rw [if_neg (by rw [hm.1]; exact iN_ne (by omega) (by decide) e), if_neg e]
    rcases p_num hX hC hS 0 (iN C - 1) with ⟨T', Tm', d1, d2, d3, d4⟩ | ⟨u, T2, J2, Tm2, Jm2, dk, du, dr, d1, d2, d3, d4, d5, d6, -, -, -⟩
    · refine Or.inl ⟨T', Tm', Jm1, d1, ?_, d3, fr2.t d4⟩
      rw [start]
      rw [f_X12_count, hS.2, if_pos rfl, hm.1] at d2
      by_cases e : k' = 2
      · rw [if_pos e, f_X12_readCell_37, hS.2, if_pos rfl, e0, e1, ck_iN (by omega) (by omega), iN_nn (by omega), hc1]
        rw [if_pos (show iN k' = (2 : Int32) from congrArg iN e), f_X12_count_19, hS.2, if_pos rfl, show Int32.toInt64 (0 : Int32) = 0 from rfl] at d2
        have hI := e_isIn_i (Int32.toInt64 (Tm1 17)) 0 (Int32.toInt64 (iN C - 1))
        by_cases g : (0 : Int64).toInt ≤ (Int32.toInt64 (Tm1 17)).toInt ∧ (Int32.toInt64 (Tm1 17)).toInt ≤ (Int32.toInt64 (iN C - 1)).toInt
        · rw [if_pos g] at hI
          rw [hI, Option.bind_some, if_neg (by decide), f_X12_count_50, hS.2, if_pos (by decide)] at d2
          have hz := p_adv hX hC hS
          obtain ⟨x1, x2, x3, x4, -, y2, y3, y4, p9, q9, k9, z9, -⟩ := hz
          rw [y2, Option.bind_some] at d2
          injection d2 with d2
          injection d2 with d20 d21
          injection d21 with d21 d22
          dsimp only at d21
          rw [← d21] at d3
          have h12 : x3 12 = 0 := z9.2
          exact absurd h12 d3.b.ne
        · rw [if_neg g] at hI
          rw [hI, Option.bind_some, if_pos rfl] at d2 ⊢
          obtain ⟨T9, Tm9, b1, b2, b3, b4⟩ := p_fail hS (w := 4) (by decide) (by omega)
          rw [show (4 : Int32) = iN 4 from rfl, b2, Option.bind_some] at d2 ⊢
          rw [f_X12_count_50, if_neg b3.b.le] at d2
          injection d2 with d2
          injection d2 with d20 d21
          injection d21 with d21 d22
          rw [f_X12_readCell_80, if_neg b3.b.le, d21]
      · rw [if_neg e]
        rw [if_neg (show ¬ iN k' = (2 : Int32) from iN_ne (by omega) (by decide) e)] at d2
        obtain ⟨T9, Tm9, b1, b2, b3, b4⟩ := p_amiss hS
        rw [b2, Option.bind_some] at d2 ⊢
        rw [f_X12_count_19, if_neg b3.b.ne, f_X12_count_50, if_neg b3.b.le] at d2
        injection d2 with d2
        injection d2 with d20 d21
        injection d21 with d21 d22
        rw [f_X12_readCell_37, if_neg b3.b.ne, f_X12_readCell_80, if_neg b3.b.le, d21]
    · have hu := pr hC6 dr
      subst dk
      refine Or.inr ⟨u, Tm1, Jm1, hu, d1, d2, ?_, fr1, fr2, p', q', hS, hp'⟩
      have hI : f_X12_isIn (Int32.toInt64 (iN u)) 0 (Int32.toInt64 (iN C - 1)) = some 1 := by
        rw [e_isIn_n _ (by omega), if_pos (by rw [inR_iN (by omega)]; exact hu)]
      rw [start, if_pos rfl, f_X12_readCell_37, hS.2, if_pos rfl, e0, e1, ck_iN (by omega) (by omega), iN_nn (by omega), hc1, d3, hI, Option.bind_some, if_neg (by decide), f_X12_readCell_80, hS.2, if_pos (by decide), e0, e1, ck_iN (by omega) (by omega), iN_nn (by omega), hc1, d3, iN_mul, iN_add]
theorem p_feel (hX : tX b n V Vm) (hC : cOk V2) (h : rdS b n p q k T J Tm Jm) : (∃ T' Tm', f_X8_feeling T = some (-1) ∧ f_X8_blame T 2 = some (0, T') ∧ f_X12_readFeeling Tm Jm Vm = some (0, Tm', Jm) ∧ flS T' Tm' ∧ frM Tm Tm') ∨ (∃ (g : Nat) (T' : Nat → Int32) (J' : Int64) (Tm' : Nat → Int32) (Jm' : Int64), g < 4 ∧ f_X8_feeling T = some (iN g) ∧ f_X8_advance T J V V2 = some (T', J') ∧ f_X12_readFeeling Tm Jm Vm = some (iN g, Tm', Jm') ∧ nexts b n q T Tm T' J' Tm' Jm') := by
  have c1 := e8_feeling h.1
  have c2 := e12_feeling h.1
  cases ho : feW (kx k (wx b p q)) with
  | none =>
    rw [ho] at c1 c2
    obtain ⟨T', Tm', b1, b2, b3, b4⟩ := p_amiss h
    refine Or.inl ⟨T', Tm', c1, b1, ?_, b3, b4⟩
    rw [f_X12_readFeeling, h.2, if_pos (by decide), c2, Option.bind_some, f_X12_readFeeling_15, oN, if_pos (by decide), f_X12_readFeeling_26, p_must0 h b2]; rfl
  | some g =>
    rw [ho] at c1 c2
    have hg := (feW_lt ho).1
    obtain ⟨T', J', Tm', Jm', a1, a2, a3⟩ := p_adv hX hC h
    refine Or.inr ⟨g, T', J', Tm', Jm', hg, c1, a1, ?_, a3⟩
    have hmx : (if (0 : Int32) < iN g then iN g else 0) = iN g := by
      by_cases q0 : g = 0
      · rw [q0]; rfl
      · rw [if_pos (by rw [show (0 : Int32) = iN 0 from rfl, iN_lt (by omega) (by omega)]; omega)]
    rw [f_X12_readFeeling, h.2, if_pos (by decide), c2, Option.bind_some, f_X12_readFeeling_15, oN, if_neg (by rw [show (0 : Int32) = iN 0 from rfl, iN_lt (by omega) (by omega)]; omega), f_X12_readFeeling_26, p_must1 h.2 a2, Option.bind_some, letv, hmx]
end RD2
