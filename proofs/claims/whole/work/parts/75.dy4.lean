/-! The duchy read: a row. -/
def kcO (m : Nat) : Option Nat := if m = 115 then some 0 else if m = 114 then some 1 else if m = 98 then some 2 else if m = 105 then some 3 else none
theorem kcO_lt {m g : Nat} (h : kcO m = some g) : g < 4 := by
  unfold kcO at h
  repeat' split at h
  all_goals (first | (injection h with h; omega) | cases h)
theorem t12_kc : ∀ m, m < 256 → f_X12_kindOf (iN m) = some (oN (kcO m)) := by decide +kernel
theorem t8_kc : ∀ m, m < 128 → f_J0_indexOf_0f7a4_s1 ((Int32.toUInt32 (iN m) % 65536).toInt32) = some (oN (kcO m)) := by decide +kernel
/-- a row more -/
def dRow (d : Nat → Nat) (L : Nat) (f : Nat → Nat) : Nat → Nat := fun j => if j = 0 then d 0 + 1 else if j = 1 then L else if 6 + L * d 0 ≤ j ∧ j < 6 + L * d 0 + L then f (j - (6 + L * d 0)) else d j
section DY4
variable {b : Nat → Nat} {n p q k : Nat} {V Vm T Tm : Nat → Int32} {J Jm : Int64} {V2 : Nat → Int64} {d : Nat → Nat} {w Na W : Nat → Int64} {c Rr Td S Li By Of Fe Mi : Nat → Int32}
theorem dRow_0 {L : Nat} {f : Nat → Nat} : dRow d L f 0 = d 0 + 1 := if_pos rfl
theorem dRow_1 {L : Nat} {f : Nat → Nat} : dRow d L f 1 = L := rfl
theorem dRow_n {L : Nat} {f : Nat → Nat} {j : Nat} (h : 2 ≤ j ∧ ¬ (6 + L * d 0 ≤ j ∧ j < 6 + L * d 0 + L)) : dRow d L f j = d j := by
  unfold dRow
  rw [if_neg (by omega), if_neg (by omega), if_neg h.2]
theorem dRow_s {L i : Nat} {f : Nat → Nat} (h : i < L) : dRow d L f (6 + L * d 0 + i) = f i := by
  unfold dRow
  rw [if_neg (by omega), if_neg (by omega), if_pos (by omega), Nat.add_sub_cancel_left]
theorem row_36 {L : Nat} (hL : L ≤ 6) (h0 : d 0 < 6) : L * d 0 + L ≤ 36 := by
  have h : L * (d 0 + 1) ≤ 6 * 6 := Nat.mul_le_mul hL h0
  rw [Nat.mul_add] at h
  omega
theorem dRow_c {L : Nat} {f : Nat → Nat} : cells (dRow d L f) = L * d 0 + L := by
  unfold cells
  rw [dRow_0, dRow_1, Nat.add_mul, Nat.one_mul, Nat.mul_comm]
theorem dRow_inv (hd : dInv d) {L : Nat} {f : Nat → Nat} (hL : L ≤ 6) (h0 : d 0 < 6) (h3 : d 3 = 0) (h1 : d 0 = 0 ∨ d 1 = L) (hf : ∀ i, i < L → f i < 4) : dInv (dRow d L f) := by
  have hr := row_36 hL h0
  have hm9 := hd.many
  refine ⟨?_, fun j hj => ?_, fun j hj => ?_, fun t ht => ?_, fun z => ?_⟩
  · rw [dRow_c, dRow_0, dRow_1, dRow_n (by omega), dRow_n (by omega), dRow_n (by omega), dRow_n (by omega)]
    have h9 := hd.1
    refine ⟨by omega, hL, h9.2.2.1, h9.2.2.2.1, h9.2.2.2.2.1, ?_⟩
    rcases h9.2.2.2.2.2 with g | g
    · exact Or.inl g
    · unfold cells at g
      rcases h1 with e | e
      · rw [e, Nat.zero_mul] at g; omega
      · rw [e, Nat.mul_comm] at g; right; omega
  · by_cases e : L * d 0 ≤ j ∧ j < L * d 0 + L
    · obtain ⟨i, rfl⟩ : ∃ i, j = L * d 0 + i := ⟨j - L * d 0, by omega⟩
      rw [← Nat.add_assoc, dRow_s (by omega)]; exact hf i (by omega)
    · rw [dRow_n (by omega)]; exact hd.2.1 j hj
  · rw [dRow_n (by omega), dRow_n (by omega)]; exact hd.trav hj
  · rw [dRow_n (by omega), h3] at ht; omega
  · unfold tellOf
    rw [dRow_n (by omega), h3, sm_zero]; omega
theorem dRow_k (hd : dInv d) (hk : kRep d w Td S Li Na By Of Fe Mi) {L : Nat} {f : Nat → Nat} (hL : L ≤ 6) (h0 : d 0 < 6) (h3 : d 3 = 0) (h1 : d 0 = 0 ∨ d 1 = L) {S' : Nat → Int32} (hS1 : ∀ i, i < L → S' (L * d 0 + i) = iN (f i)) (hS2 : ∀ j, j < L * d 0 → S' j = S j) : kRep (dRow d L f) w (upd (upd Td 1 (iN L)) 0 (iN (d 0 + 1))) S' Li Na By Of Fe Mi := by
  have hr := row_36 hL h0
  have hm9 := hd.many
  have eh : hset (dRow d L f) = hset d := by
    unfold hset
    rw [dRow_n (by omega)]
    exact sm_congr (fun j hj => by rw [dRow_n (by omega)])
  refine ⟨?_, ?_, ?_, ?_, ?_, ?_, ?_, ?_⟩
  · unfold tRep
    rw [eh, dRow_0, dRow_1, dRow_n (by omega), dRow_n (by omega), dRow_n (by omega), dRow_n (by omega)]
    have ht := hk.1
    refine ⟨upd_s, ?_, ?_, ?_, ?_, ?_, ?_⟩
    · rw [upd_n (by decide), upd_s]
    · rw [upd_n (by decide), upd_n (by decide)]; exact ht.2.2.1
    · rw [upd_n (by decide), upd_n (by decide)]; exact ht.2.2.2.1
    · rw [upd_n (by decide), upd_n (by decide)]; exact ht.2.2.2.2.1
    · rw [upd_n (by decide), upd_n (by decide)]; exact ht.2.2.2.2.2.1
    · rw [upd_n (by decide), upd_n (by decide)]; exact ht.2.2.2.2.2.2
  · rw [dRow_c]
    intro j hj
    by_cases e : L * d 0 ≤ j
    · obtain ⟨i, rfl⟩ : ∃ i, j = L * d 0 + i := ⟨j - L * d 0, by omega⟩
      rw [hS1 i (by omega), ← Nat.add_assoc, dRow_s (by omega)]
    · rw [hS2 j (by omega), dRow_n (by omega)]
      refine hk.2.1 j ?_
      unfold cells
      rcases h1 with g | g
      · rw [g, Nat.mul_zero] at e; omega
      · rw [g, Nat.mul_comm]; omega
  · rw [dRow_n (by omega)]; exact aRep_o hk.2.2.1 (fun j _ _ => dRow_n (by omega))
  · rw [dRow_n (by omega)]; exact hk.2.2.2.1
  · rw [dRow_n (by omega)]; exact aRep_o hk.2.2.2.2.1 (fun j _ _ => dRow_n (by omega))
  · rw [dRow_n (by omega)]; exact aRep_o hk.2.2.2.2.2.1 (fun j _ _ => dRow_n (by omega))
  · rw [dRow_n (by omega)]; exact aRep_o hk.2.2.2.2.2.2.1 (fun j _ _ => dRow_n (by omega))
  · rw [dRow_n (by omega)]; exact aRep_o hk.2.2.2.2.2.2.2 (fun j _ _ => dRow_n (by omega))
theorem b_row97 (h : bad T) (V c : Nat → Int32) : f_X12_readRow_97 V T J c = some (T, J, c) := by rw [f_X12_readRow_97, if_neg h.le]
theorem b_row74 (h : bad T) (V c : Nat → Int32) : f_X12_readRow_74 V T J c = some (T, J, c) := by rw [f_X12_readRow_74, if_neg h.ne, b_row97 h]
theorem b_row50 (h : bad T) (V c : Nat → Int32) : f_X12_readRow_50 V T J c = some (T, J, c) := by
  rw [f_X12_readRow_50, b_must h, Option.bind_some, if_neg h.ne, b_row74 h]
theorem b_row27 (h : bad T) (V c : Nat → Int32) : f_X12_readRow_27 V T J c = some (T, J, c) := by
  rw [f_X12_readRow_27, ck_y (by decide), b_fail h, Option.bind_some, b_row50 h]
  split <;> rfl
theorem e8_letter (hX : tX b n V Vm) (h : rdS b n p q k T J Tm Jm) (hk : k = 1) {i : Nat} (hi : i < q - p) : f_X8_letter T V (iN i) = some (iN (b (p + i))) := by
  have hl := h.1.le
  have hn := hX.1
  obtain ⟨w1, w2, w3⟩ := h.1.word hk
  have hx := hX.2 (p + i) (by omega)
  have hkd := kd_1.mp (w3 (p + i) (by omega) (by omega))
  rw [f_X8_letter, e8_letters h.1 hk, Option.bind_some, e_within_n _ (by omega), if_pos (by rw [inR_iN (by omega)]; exact hi), Option.bind_some, if_neg (by decide), h.1.2.1.2.1, iN_add, ck_iN (by omega) (by omega), iN_nn (by omega), hx.2.1, sb_lo (by omega)]
theorem d_row (hX : tX b n V Vm) (hC : cOk V2) (H : dyS b n p q k Rr T J Td S Li Na By Of Fe Mi Tm Jm c W d w) (hk : ¬ k = 4) : (∃ (T' : Nat → Int32) (J' : Int64) (Td' S' Tm' : Nat → Int32) (Jm' : Int64) (c' : Nat → Int32), f_X4_takeRow Rr T J Td V V2 S = some (0, T', J', Td', S') ∧ f_X12_readRow Tm Jm c Vm = some (Tm', Jm', c') ∧ flS T' Tm' ∧ frN Tm Tm' ∧ frB c c') ∨ (∃ (T' : Nat → Int32) (J' : Int64) (Td' S' Tm' : Nat → Int32) (Jm' : Int64) (c' : Nat → Int32) (d' : Nat → Nat), f_X4_takeRow Rr T J Td V V2 S = some (1, T', J', Td', S') ∧ f_X12_readRow Tm Jm c Vm = some (Tm', Jm', c') ∧ frC T T' ∧ frN Tm Tm' ∧ frB c c' ∧ ∃ p' q' k', dyS b n p' q' k' Rr T' J' Td' S' Li Na By Of Fe Mi Tm' Jm' c' W d' w ∧ q ≤ p') := by
  obtain ⟨hS, ⟨hf1, hf2⟩, hd, hc, hkr, hw⟩ := H
  have hm9 := hd.many
  have h06 := hd.1.1
  have hn := hX.1
  have t0 : Td 0 = iN (d 0) := hkr.1.1
  have t1 : Td 1 = iN (d 1) := hkr.1.2.1
  have t6 : Td 6 = iN (d 3) := hkr.1.2.2.2.2.2.2
  have c0 : c 1488 = iN (d 0) := hc 0 (by omega)
  have c1 : c 1489 = iN (d 1) := hc 1 (by omega)
  have c3 : c 1491 = iN (d 3) := hc 3 (by omega)
  have g1 : gd 1491 1860 = true := by decide
  have g2 : gd 1488 1860 = true := by decide
  have g3 : gd 1489 1860 = true := by decide
  have n1 : (1491 : Int32).toNatClampNeg = 1491 := by decide
  have n2 : (1488 : Int32).toNatClampNeg = 1488 := by decide
  have n3 : (1489 : Int32).toNatClampNeg = 1489 := by decide
  have five : f_X4_takeRow Rr T J Td V V2 S = f_X4_takeRow_14 Rr V V2 T J Td S → f_X12_readRow Tm Jm c Vm = f_X12_readRow_18 Vm Tm Jm c → ∃ (T' : Nat → Int32) (J' : Int64) (Td' S' Tm' : Nat → Int32) (Jm' : Int64) (c' : Nat → Int32), f_X4_takeRow Rr T J Td V V2 S = some (0, T', J', Td', S') ∧ f_X12_readRow Tm Jm c Vm = some (Tm', Jm', c') ∧ flS T' Tm' ∧ frN Tm Tm' ∧ frB c c' := fun x1 x2 => by
    obtain ⟨T', Tm', b1, b2, b3, b4⟩ := p_fail hS (w := 5) (by decide) hk
    refine ⟨T', J, Td, S, Tm', Jm, c, ?_, ?_, b3, b4.n, frB.r c⟩
    · rw [x1, f_X4_takeRow_14, show (5 : Int32) = iN 5 from rfl, b1]; rfl
    · rw [x2, f_X12_readRow_18, show (5 : Int32) = iN 5 from rfl, b2, Option.bind_some, b_row27 b3.b]
  by_cases q0 : Rr 2 = 0
  · by_cases q3 : d 3 = 0
    · have k3 : Td 6 ≤ 0 := by rw [t6, q3]; decide
      have m3 : c (Int32.toNatClampNeg 1491) ≤ 0 := by rw [n1, c3, q3]; decide
      by_cases q6 : d 0 < 6
      · have lt6 : Td 0 < 6 := by
          rw [t0, show (6 : Int32) = iN 6 from rfl, iN_lt (by omega) (by omega)]; exact q6
        obtain ⟨T1, J1, Tm1, Jm1, a1, a2, fr1, fr2, p1, q1, k1, hS1, hp1⟩ := p_adv hX hC hS
        have hl1 := hS1.1.le
        have hm1 := hS1.1.2.2.1
        have h81 := hS1.1.2.1
        have m0 : f_X12_readRow Tm Jm c Vm = if (Tm1 14) = 1 then (f_X12_readRow_74 Vm Tm1 Jm1 c) else ((f_X12_amiss Tm1).bind (fun z71 => f_X12_readRow_74 Vm z71 Jm1 c)) := by
          rw [f_X12_readRow, ← hf2, if_pos q0, ck_y g1, if_pos m3, f_X12_readRow_27, ck_y g2, n2, c0, if_neg (show ¬ iN (d 0) = (6 : Int32) from iN_ne (b := 6) (by omega) (by decide) (by omega)), f_X12_readRow_50, p_must1 hS.2 a2, Option.bind_some]
          dsimp only
          rw [if_pos hS1.2]
        have k0 : f_X4_takeRow Rr T J Td V V2 S = (f_X8_isAnyWord T1).bind (fun z47 => if z47 = 0 then ((f_X8_blame T1 2).bind (fun z55 => ck (bz z55.1) (some (z55.1, z55.2, J1, Td, S)))) else ((f_X8_letters T1).bind (fun z60 => if 6 < z60 then (f_X4_takeRow_79 Rr V V2 T1 J1 Td S) else (if (Td 0) ≤ 0 then (f_X4_takeRow_85 Rr V V2 z60 T1 J1 Td S) else (if z60 = (Td 1) then (f_X4_takeRow_85 Rr V V2 z60 T1 J1 Td S) else (f_X4_takeRow_79 Rr V V2 T1 J1 Td S)))))) := by
          rw [f_X4_takeRow, if_pos q0, if_pos k3, if_pos lt6, a1]; rfl
        by_cases e1 : k1 = 1
        · have m14 : Tm1 14 = 1 := by rw [hm1.1, e1]; rfl
          rw [if_pos m14] at m0
          rw [f_X8_isAnyWord, if_pos (show T1 4 = 1 by rw [h81.1, e1]; rfl), Option.bind_some, if_neg (show ¬ (1 : Int32) = 0 by decide), e8_letters hS1.1 e1, Option.bind_some] at k0
          obtain ⟨w1, w2, w3⟩ := hS1.1.word e1
          have m18 : Tm1 18 = iN (q1 - p1) := (hm1.2.2.2.1 e1).1
          obtain ⟨L, hL⟩ : ∃ L, L = q1 - p1 := ⟨_, rfl⟩
          rw [← hL] at m18 k0
          have four : f_X4_takeRow Rr T J Td V V2 S = f_X4_takeRow_79 Rr V V2 T1 J1 Td S → f_X12_areCells Tm1 c Vm = some 0 → ∃ (T' : Nat → Int32) (J' : Int64) (Td' S' Tm' : Nat → Int32) (Jm' : Int64) (c' : Nat → Int32), f_X4_takeRow Rr T J Td V V2 S = some (0, T', J', Td', S') ∧ f_X12_readRow Tm Jm c Vm = some (Tm', Jm', c') ∧ flS T' Tm' ∧ frN Tm Tm' ∧ frB c c' := fun x1 x2 => by
            obtain ⟨T', Tm', b1, b2, b3, b4⟩ := p_fail hS1 (w := 4) (by decide) (by omega)
            refine ⟨T', J1, Td, S, Tm', Jm1, c, ?_, ?_, b3, (fr2.t b4).n, frB.r c⟩
            · rw [x1, f_X4_takeRow_79, show (4 : Int32) = iN 4 from rfl, b1]; rfl
            · rw [m0, f_X12_readRow_74, if_pos hS1.2, x2, Option.bind_some, if_pos rfl, show (4 : Int32) = iN 4 from rfl, b2, Option.bind_some, b_row97 b3.b]
          by_cases e6 : L ≤ 6
          · have nl6 : ¬ (6 : Int32) < iN L := by rw [show (6 : Int32) = iN 6 from rfl, iN_lt (by omega) (by omega)]; omega
            rw [if_neg nl6] at k0
            have ac : (d 0 = 0 ∨ d 1 = L) → f_X12_areCells Tm1 c Vm = f_X12_areCells_37 Tm1 c Vm := fun g => by
              rw [f_X12_areCells, m18, if_neg nl6, ck_y g2, n2, c0]
              rcases g with g | g
              · rw [if_pos (by rw [g]; decide)]
              · by_cases g0 : d 0 = 0
                · rw [if_pos (by rw [g0]; decide)]
                · rw [if_neg (by rw [show (0 : Int32) = iN 0 from rfl, iN_le (by omega) (by omega)]; omega), ck_y g3, n3, c1, if_pos (congrArg iN g.symm)]
            by_cases eW : d 0 = 0 ∨ d 1 = L
            · have kw : f_X4_takeRow Rr T J Td V V2 S = f_X4_takeRow_85 Rr V V2 (iN L) T1 J1 Td S := by
                rw [k0, t0]
                by_cases g0 : d 0 = 0
                · rw [if_pos (by rw [g0]; decide)]
                · rw [if_neg (by rw [show (0 : Int32) = iN 0 from rfl, iN_le (by omega) (by omega)]; omega), t1, if_pos (congrArg iN (show L = d 1 by omega))]
              have hr := row_36 e6 q6
              have lt : ∀ i, i < L → kd (b (p1 + i)) = 1 := fun i hi => w3 (p1 + i) (by omega) (by omega)
              have bl : ∀ i, i < L → b (p1 + i) < 128 := fun i hi => by have := kd_1.mp (lt i hi); omega
              have look : ∀ i, i < L → f_X12_look2 Tm1 Vm (iN (p1 + i)) = some (iN (b (p1 + i))) := fun i hi => by
                rw [e12_look hX hS1.1.2.2.2.2 (by omega), show lk b n (p1 + i) = b (p1 + i) from if_pos (by omega)]
              have mat : ∀ i, (Tm1 15 + iN i : Int32) = iN (p1 + i) := fun i => by rw [hm1.2.1, iN_add]
              -- the first cell that is none, if there is one
              by_cases hall : ∀ i, i < L → ¬ kcO (b (p1 + i)) = none
              · obtain ⟨f, hf⟩ : ∃ f : Nat → Nat, ∀ i, i < L → kcO (b (p1 + i)) = some (f i) := by
                  refine ⟨fun i => (kcO (b (p1 + i))).getD 0, fun i hi => ?_⟩
                  have := hall i hi
                  cases h9 : kcO (b (p1 + i)) with
                  | none => exact absurd h9 this
                  | some g =>
                    show some g = some ((kcO (b (p1 + i))).getD 0)
                    rw [h9]; rfl
                have hf4 : ∀ i, i < L → f i < 4 := fun i hi => kcO_lt (hf i hi)
                obtain ⟨T2, J2, Tm2, Jm2, x1, x2, fr3, fr4, p2, q2, k2, hS2, hp2⟩ := p_adv hX hC hS1
                have kl : ∃ S', f_X4_takeRow_85 Rr V V2 (iN L) T1 J1 Td S = some (1, T2, J2, upd (upd Td 1 (iN L)) 0 (iN (d 0 + 1)), S') ∧ (∀ i, i < L → S' (L * d 0 + i) = iN (f i)) ∧ ∀ j, j < L * d 0 → S' j = S j := by
                  have l := iter_run (g := g_X4_takeRow_88 Rr V V2) (z := fun _ _ _ _ _ _ => none) L (fun i (φ : Int32 → Int32 → (Nat → Int32) → Int64 → (Nat → Int32) → (Nat → Int32) → Option (Int32 × (Nat → Int32) × Int64 × (Nat → Int32) × (Nat → Int32))) => ∀ S1, (∀ j, j < i → S1 (L * d 0 + j) = iN (f j)) → (∀ j, j < L * d 0 → S1 j = S j) → ∃ S', φ (iN L) (iN i) T1 J1 Td S1 = some (1, T2, J2, upd (upd Td 1 (iN L)) 0 (iN (d 0 + 1)), S') ∧ (∀ i, i < L → S' (L * d 0 + i) = iN (f i)) ∧ ∀ j, j < L * d 0 → S' j = S j) (by omega) (fun i F hi ih => fun S1 s1 s2 => ?_) (fun F => fun S1 s1 s2 => ?_)
                  · exact l S (fun j hj => by omega) (fun _ _ => rfl)
                  · have hik : f_X11_isKind (iN (f i)) = some 1 := by
                      rw [e_isKind, if_pos (by rw [inR_iN (by have := hf4 i hi; omega)]; exact hf4 i hi)]
                    rw [g_X4_takeRow_88, if_neg (by rw [iN_le (by omega) (by omega)]; omega), e8_letter hX hS1 e1 (by omega), Option.bind_some, t8_kc _ (bl i hi), hf i hi, Option.bind_some, oN, hik, Option.bind_some, if_neg (by decide), t0, iN_mul, iN_add, Nat.mul_comm (d 0) L, ck_iN (by omega) (by omega), iN_nn (by omega), show (iN i + 1 : Int32) = iN (i + 1) from iN_add i 1]
                    refine ih _ (fun j hj => ?_) (fun j hj => by rw [upd_n (by omega)]; exact s2 j hj)
                    by_cases e : j = i
                    · rw [e, upd_s]
                    · rw [upd_n (by omega)]; exact s1 j (by omega)
                  · refine ⟨S1, ?_, s1, s2⟩
                    rw [g_X4_takeRow_88, if_pos (by rw [iN_le (by omega) (by omega)]; omega), x1, Option.bind_some, upd_n (show 0 ≠ 1 by decide), t0, show (iN (d 0) + 1 : Int32) = iN (d 0 + 1) from iN_add _ 1]
                have ml : f_X12_areCells_37 Tm1 c Vm = some 1 := by
                  refine iter_run (g := g_X12_areCells_39 Tm1 c Vm) (z := fun _ => none) L (fun i (φ : Int32 → Option Int32) => φ (iN i) = some 1) (by omega) (fun i F hi ih => ?_) (fun F => ?_)
                  · have h4 := hf4 i hi
                    rw [g_X12_areCells_39, m18, if_neg (by rw [iN_le (by omega) (by omega)]; omega), mat, look i hi, Option.bind_some, t12_kc _ (by have := bl i hi; omega), hf i hi, Option.bind_some, oN, if_pos (by rw [show (0 : Int32) = iN 0 from rfl, iN_le (by omega) (by omega)]; omega), show (iN i + 1 : Int32) = iN (i + 1) from iN_add i 1]
                    exact ih
                  · rw [g_X12_areCells_39, m18, if_pos (by rw [iN_le (by omega) (by omega)]; omega)]
                have mr : ∃ c', f_X12_readRow_119 Vm xF 0 Tm1 Jm1 (upd c 1489 (iN L)) = some (Tm2, Jm2, c') ∧ bB 1488 (dRow d L f) c' ∧ frB c c' := by
                  have l := iter_run (g := g_X12_readRow_119 Vm) (z := fun _ _ _ _ => none) L (fun i (φ : Int32 → (Nat → Int32) → Int64 → (Nat → Int32) → Option ((Nat → Int32) × Int64 × (Nat → Int32))) => ∀ c9, c9 1489 = iN L → (∀ j, j < i → c9 (1494 + L * d 0 + j) = iN (f j)) → (∀ j, ¬ j = 1489 → ¬ (1494 + L * d 0 ≤ j ∧ j < 1494 + L * d 0 + L) → c9 j = c j) → ∃ c', φ (iN i) Tm1 Jm1 c9 = some (Tm2, Jm2, c') ∧ bB 1488 (dRow d L f) c' ∧ frB c c') (by omega) (fun i F hi ih => fun c9 s0 s1 s2 => ?_) (fun F => fun c9 s0 s1 s2 => ?_)
                  · exact l _ upd_s (fun j hj => by omega) (fun j hj _ => upd_n hj)
                  · have h4 := hf4 i hi
                    have c90 : c9 1488 = iN (d 0) := by rw [s2 1488 (by decide) (by omega), c0]
                    rw [g_X12_readRow_119, m18, if_neg (by rw [iN_le (by omega) (by omega)]; omega), ck_y g2, mat, look i hi, Option.bind_some, t12_kc _ (by have := bl i hi; omega), hf i hi, Option.bind_some, oN, n2, c90, iN_mul, show (1494 : Int32) = iN 1494 from rfl, iN_add, iN_add, ck_iN (by omega) (by omega), iN_nn (by omega), show (iN i + 1 : Int32) = iN (i + 1) from iN_add i 1]
                    refine ih _ (by rw [upd_n (by omega)]; exact s0) (fun j hj => ?_) (fun j hj hj2 => by rw [upd_n (by omega)]; exact s2 j hj hj2)
                    by_cases e : j = i
                    · rw [e, upd_s]
                    · rw [upd_n (by omega)]; exact s1 j (by omega)
                  · have c90 : c9 1488 = iN (d 0) := by rw [s2 1488 (by decide) (by omega), c0]
                    refine ⟨upd c9 1488 (iN (d 0 + 1)), ?_, fun j hj => ?_, fun j hj => by rw [upd_n (by omega)]; exact s2 j (by omega) (by omega)⟩
                    · rw [g_X12_readRow_119, m18, if_pos (by rw [iN_le (by omega) (by omega)]; omega), ck_y g2, ck_y g2, x2, Option.bind_some, n2, c90, show (iN (d 0) + 1 : Int32) = iN (d 0 + 1) from iN_add _ 1]
                    · by_cases j0 : j = 0
                      · rw [j0, dRow_0, upd_s]
                      · rw [upd_n (by omega)]
                        by_cases j1 : j = 1
                        · rw [j1, dRow_1]; exact s0
                        · by_cases j2 : 6 + L * d 0 ≤ j ∧ j < 6 + L * d 0 + L
                          · obtain ⟨i, rfl⟩ : ∃ i, j = 6 + L * d 0 + i := ⟨j - (6 + L * d 0), by omega⟩
                            rw [dRow_s (by omega), show 1488 + (6 + L * d 0 + i) = 1494 + L * d 0 + i by omega]
                            exact s1 i (by omega)
                          · rw [dRow_n (by omega), s2 _ (by omega) (by omega)]; exact hc j hj
                obtain ⟨S', y1, y2, y3⟩ := kl
                obtain ⟨c', z1, z2, z3⟩ := mr
                refine Or.inr ⟨T2, J2, _, S', Tm2, Jm2, c', dRow d L f, kw.trans y1, ?_, fr1.t fr3, (fr2.t fr4).n, z3, p2, q2, k2, ⟨hS2, ⟨?_, ?_⟩, dRow_inv hd e6 q6 q3 eW hf4, z2, dRow_k hd hkr e6 q6 q3 eW y2 y3, ?_⟩, by have := tkS_pq hS1.1; omega⟩
                · rw [m0, f_X12_readRow_74, if_pos hS1.2, ac eW, ml, Option.bind_some, if_neg (by decide), f_X12_readRow_97, if_pos (by rw [hS1.2]; decide), ck_y g3, n3, m18, z1]
                · rw [fr4 24 (by omega), fr2 24 (by omega)]; exact hf1
                · rw [fr4 25 (by omega), fr2 25 (by omega)]; exact hf2
                · rw [dRow_n (by omega)]; exact hw
              · obtain ⟨i0, hi0⟩ : ∃ i, i < L ∧ kcO (b (p1 + i)) = none := by
                  apply Classical.byContradiction
                  intro h9
                  exact hall (fun i hi h8 => h9 ⟨i, hi, h8⟩)
                obtain ⟨m, hm1', hm2⟩ := least_ex (fun i => i < L ∧ kcO (b (p1 + i)) = none) i0 hi0
                have some' : ∀ i, i < m → ∃ g, kcO (b (p1 + i)) = some g := fun i hi => by
                  cases h9 : kcO (b (p1 + i)) with
                  | none => have := hm2 i ⟨by omega, h9⟩; omega
                  | some g => exact ⟨g, rfl⟩
                obtain ⟨T', Tm', b1, b2, b3, b4⟩ := p_fail hS1 (w := 4) (by decide) (by omega)
                have kl : ∃ S', f_X4_takeRow_85 Rr V V2 (iN L) T1 J1 Td S = some (0, T', J1, Td, S') := by
                  have l := iter_run (g := g_X4_takeRow_88 Rr V V2) (z := fun _ _ _ _ _ _ => none) m (fun i (φ : Int32 → Int32 → (Nat → Int32) → Int64 → (Nat → Int32) → (Nat → Int32) → Option (Int32 × (Nat → Int32) × Int64 × (Nat → Int32) × (Nat → Int32))) => ∀ S1, ∃ S', φ (iN L) (iN i) T1 J1 Td S1 = some (0, T', J1, Td, S')) (by omega) (fun i F hi ih => fun S1 => ?_) (fun F => fun S1 => ?_)
                  · exact l S
                  · obtain ⟨g, hg⟩ := some' i hi
                    have hg4 := kcO_lt hg
                    have hik : f_X11_isKind (iN g) = some 1 := by
                      rw [e_isKind, if_pos (by rw [inR_iN (by omega)]; exact hg4)]
                    rw [g_X4_takeRow_88, if_neg (by rw [iN_le (by omega) (by omega)]; omega), e8_letter hX hS1 e1 (by omega), Option.bind_some, t8_kc _ (bl i (by omega)), hg, Option.bind_some, oN, hik, Option.bind_some, if_neg (by decide), t0, iN_mul, iN_add, Nat.mul_comm (d 0) L, ck_iN (by omega) (by omega), iN_nn (by omega), show (iN i + 1 : Int32) = iN (i + 1) from iN_add i 1]
                    exact ih _
                  · refine ⟨S1, ?_⟩
                    rw [g_X4_takeRow_88, if_neg (by rw [iN_le (by omega) (by omega)]; omega), e8_letter hX hS1 e1 (by omega), Option.bind_some, t8_kc _ (bl m (by omega)), hm1'.2, Option.bind_some, oN, show f_X11_isKind (-1) = some 0 by decide, Option.bind_some, if_pos rfl, show (4 : Int32) = iN 4 from rfl, b1]; rfl
                have ml : f_X12_areCells_37 Tm1 c Vm = some 0 := by
                  refine iter_run (g := g_X12_areCells_39 Tm1 c Vm) (z := fun _ => none) m (fun i (φ : Int32 → Option Int32) => φ (iN i) = some 0) (by omega) (fun i F hi ih => ?_) (fun F => ?_)
                  · obtain ⟨g, hg⟩ := some' i hi
                    have hg4 := kcO_lt hg
                    rw [g_X12_areCells_39, m18, if_neg (by rw [iN_le (by omega) (by omega)]; omega), mat, look i (by omega), Option.bind_some, t12_kc _ (by have := bl i (by omega); omega), hg, Option.bind_some, oN, if_pos (by rw [show (0 : Int32) = iN 0 from rfl, iN_le (by omega) (by omega)]; omega), show (iN i + 1 : Int32) = iN (i + 1) from iN_add i 1]
                    exact ih
                  · rw [g_X12_areCells_39, m18, if_neg (by rw [iN_le (by omega) (by omega)]; omega), mat, look m (by omega), Option.bind_some, t12_kc _ (by have := bl m (by omega); omega), hm1'.2, Option.bind_some, oN, if_neg (by decide)]
                obtain ⟨S', y1⟩ := kl
                refine Or.inl ⟨T', J1, Td, S', Tm', Jm1, c, kw.trans y1, ?_, b3, (fr2.t b4).n, frB.r c⟩
                rw [m0, f_X12_readRow_74, if_pos hS1.2, ac eW, ml, Option.bind_some, if_pos rfl, show (4 : Int32) = iN 4 from rfl, b2, Option.bind_some, b_row97 b3.b]
            · have z0 : ¬ d 0 = 0 := fun h => eW (Or.inl h)
              have z1 : ¬ d 1 = L := fun h => eW (Or.inr h)
              have d16 := hd.1.2.1
              refine Or.inl (four ?_ ?_)
              · rw [k0, t0, if_neg (by rw [show (0 : Int32) = iN 0 from rfl, iN_le (by omega) (by omega)]; omega), t1, if_neg (iN_ne (by omega) (by omega) (fun h => z1 h.symm))]
              · rw [f_X12_areCells, m18, if_neg nl6, ck_y g2, n2, c0, if_neg (by rw [show (0 : Int32) = iN 0 from rfl, iN_le (by omega) (by omega)]; omega), ck_y g3, n3, c1, if_neg (iN_ne (by omega) (by omega) (fun h => z1 h.symm))]
          · have nl6 : (6 : Int32) < iN L := by rw [show (6 : Int32) = iN 6 from rfl, iN_lt (by omega) (by omega)]; omega
            refine Or.inl (four ?_ ?_)
            · rw [k0, if_pos nl6]
            · rw [f_X12_areCells, m18, if_pos nl6]
        · have m14 : ¬ Tm1 14 = 1 := by rw [hm1.1]; exact iN_ne (b := 1) (by omega) (by decide) e1
          rw [if_neg m14] at m0
          rw [f_X8_isAnyWord, if_neg (show ¬ T1 4 = 1 by rw [h81.1]; exact iN_ne (b := 1) (by omega) (by decide) e1), Option.bind_some, if_pos rfl] at k0
          obtain ⟨T', Tm', b1, b2, b3, b4⟩ := p_amiss hS1
          refine Or.inl ⟨T', J1, Td, S, Tm', Jm1, c, ?_, ?_, b3, (fr2.t b4).n, frB.r c⟩
          · rw [k0, b1]; rfl
          · rw [m0, b2, Option.bind_some, b_row74 b3.b]
      · obtain ⟨T', Tm', b1, b2, b3, b4⟩ := p_fail hS (w := 6) (by decide) hk
        refine Or.inl ⟨T', J, Td, S, Tm', Jm, c, ?_, ?_, b3, b4.n, frB.r c⟩
        · rw [f_X4_takeRow, if_pos q0, if_pos k3, t0, if_neg (by rw [show (6 : Int32) = iN 6 from rfl, iN_lt (by omega) (by omega)]; exact q6), show (6 : Int32) = iN 6 from rfl, b1]; rfl
        · rw [f_X12_readRow, ← hf2, if_pos q0, ck_y g1, if_pos m3, f_X12_readRow_27, ck_y g2, n2, c0, if_pos (show iN (d 0) = (6 : Int32) from congrArg iN (show d 0 = 6 by omega)), show (6 : Int32) = iN 6 from rfl, b2, Option.bind_some, b_row50 b3.b]
    · refine Or.inl (five ?_ ?_)
      · rw [f_X4_takeRow, if_pos q0, t6, if_neg (by rw [show (0 : Int32) = iN 0 from rfl, iN_le (by omega) (by omega)]; omega)]
      · rw [f_X12_readRow, ← hf2, if_pos q0, ck_y g1, n1, c3, if_neg (by rw [show (0 : Int32) = iN 0 from rfl, iN_le (by omega) (by omega)]; omega)]
  · refine Or.inl (five ?_ ?_)
    · rw [f_X4_takeRow, if_neg q0]
    · rw [f_X12_readRow, ← hf2, if_neg q0]
end DY4
