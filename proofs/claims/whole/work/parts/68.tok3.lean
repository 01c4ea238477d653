/-! Tokens: the model's next token. -/
/-- what the model has of a token -/
def k12 (b : Nat → Nat) (p q k : Nat) (T : Nat → Int32) (J : Int64) : Prop := T 14 = iN k ∧ T 15 = iN p ∧ T 16 = iN q ∧ (k = 1 → T 18 = iN (q - p) ∧ J = (if q - p ≤ 8 then jN (cdw b p (q - p)) else -1)) ∧ (k = 2 → T 17 = iN (nvw b p (q - p))) ∧ (k = 3 → T 17 = iN (b p))
def lk (b : Nat → Nat) (n i : Nat) : Nat := if i < n then b i else 0
section TOK3
variable {b : Nat → Nat} {n : Nat} {V Vm : Nat → Int32}
theorem lk_lt (hX : tX b n V Vm) (i : Nat) : lk b n i < 256 := by
  unfold lk
  split
  · rename_i h; exact (hX.2 i h).1
  · decide
theorem e12_look (hX : tX b n V Vm) {U : Nat → Int32} (h9 : U 9 = iN n) {i : Nat} (hi : i < 100000) : f_X12_look2 U Vm (iN i) = some (iN (lk b n i)) := by
  have hn := hX.1
  rw [f_X12_look2, h9]
  unfold lk
  by_cases q : i < n
  · have hx := hX.2 i q
    rw [if_neg (by rw [iN_le (by omega) (by omega)]; omega), ck_iN (by omega) (by omega), iN_nn (by omega), hx.2.2, t_255 _ hx.1, if_pos q]
  · rw [if_pos (by rw [iN_le (by omega) (by omega)]; omega), if_neg q]; rfl
theorem e12_word (hX : tX b n V Vm) {p q : Nat} (hq : q ≤ n) (hpq : p < q) (hr : ∀ i, p ≤ i → i < q → kd (b i) = 1) (he : ¬ (q < n ∧ kd (b q) = 1)) (T : Nat → Int32) (h9 : T 9 = iN n) (h15 : T 15 = iN p) (h16 : T 16 = iN p) : ∃ T', f_X12_advance_109 Vm xF T 0 = some (T', if q - p ≤ 8 then jN (cdw b p (q - p)) else -1) ∧ T' 16 = iN q ∧ T' 18 = iN (q - p) ∧ ∀ j, j ≠ 16 → j ≠ 18 → T' j = T j := by
  have hn := hX.1
  have l := iter_run (g := g_X12_advance_109 Vm) (z := fun _ _ => none) (q - p) (fun i (φ : (Nat → Int32) → Int64 → Option ((Nat → Int32) × Int64)) => ∀ U, U 16 = iN (p + i) → (∀ j, j ≠ 16 → U j = T j) → ∃ T', φ U (if i ≤ 8 then jN (cdw b p i) else -1) = some (T', if q - p ≤ 8 then jN (cdw b p (q - p)) else -1) ∧ T' 16 = iN q ∧ T' 18 = iN (q - p) ∧ ∀ j, j ≠ 16 → j ≠ 18 → T' j = T j) (by omega) (fun i F hi ih => fun U u16 uo => ?_) (fun F => fun U u16 uo => ?_)
  · exact l T h16 (fun _ _ => rfl)
  · have hk := hr (p + i) (by omega) (by omega)
    have hk2 := kd_1.mp hk
    have hl : lk b n (p + i) = b (p + i) := if_pos (by omega)
    have step : ∀ s1, s1 = (if i + 1 ≤ 8 then jN (cdw b p (i + 1)) else -1) → ∀ J9, ∃ T', f_X12_advance_166 Vm F s1 U J9 = some (T', if q - p ≤ 8 then jN (cdw b p (q - p)) else -1) ∧ T' 16 = iN q ∧ T' 18 = iN (q - p) ∧ ∀ j, j ≠ 16 → j ≠ 18 → T' j = T j := fun s1 hs J9 => by
      rw [f_X12_advance_166, u16, show (iN (p + i) + 1 : Int32) = iN (p + (i + 1)) from iN_add (p + i) 1, hs]
      exact ih _ upd_s (fun j hj => by rw [upd_n hj]; exact uo j hj)
    rw [g_X12_advance_109, u16, e12_look hX (by rw [uo 9 (by decide), h9]) (by omega), hl, Option.bind_some, t12_l _ (hX.2 _ (by omega)).1, if_pos hk, Option.bind_some, if_neg (by decide), uo 15 (by decide), h15, iN_sub (by omega), show p + i - p = i by omega]
    by_cases q8 : 8 ≤ i
    · rw [if_pos (by rw [show (8 : Int32) = iN 8 from rfl, iN_le (by omega) (by omega)]; exact q8)]
      exact step _ (by rw [if_neg (by omega)]) _
    · rw [if_neg (by rw [show (8 : Int32) = iN 8 from rfl, iN_le (by omega) (by omega)]; exact q8), Option.bind_some, if_pos (by omega)]
      refine step _ ?_ _
      rw [if_pos (by omega), jN_i (by omega), show (32 : Int64) = jN 32 from rfl, jN_mul, jN_add, show (96 : Int64) = jN 96 from rfl, jN_sub (by omega), cdw]
      congr 1
      omega
  · have hl : ¬ kd (lk b n q) = 1 := by
      unfold lk
      split
      · rename_i h; exact fun h2 => he ⟨h, h2⟩
      · decide
    have u16' : U 16 = iN q := by rw [u16]; congr 1; omega
    refine ⟨upd U 18 (iN (q - p)), ?_, ?_, upd_s, fun j hj hj2 => by rw [upd_n hj2]; exact uo j hj⟩
    · rw [g_X12_advance_109, u16', e12_look hX (by rw [uo 9 (by decide), h9]) (by omega), Option.bind_some, t12_l _ (lk_lt hX q), if_neg hl, Option.bind_some, if_pos rfl, uo 15 (by decide), h15, iN_sub (by omega)]
    · rw [upd_n (by decide)]; exact u16'
theorem e12_num (hX : tX b n V Vm) {p q : Nat} (hq : q ≤ n) (hpq : p < q) (hr : ∀ i, p ≤ i → i < q → kd (b i) = 2) (he : ¬ (q < n ∧ kd (b q) = 2)) (T : Nat → Int32) (J : Int64) (h9 : T 9 = iN n) (h15 : T 15 = iN p) (h16 : T 16 = iN p) (h17 : T 17 = 0) : ∃ T', f_X12_advance_210 Vm xF T J = some (T', J) ∧ T' 14 = iN (if q - p ≤ 4 then 2 else 4) ∧ T' 16 = iN q ∧ (q - p ≤ 4 → T' 17 = iN (nvw b p (q - p))) ∧ ∀ j, j ≠ 14 → j ≠ 16 → j ≠ 17 → T' j = T j := by
  have hn := hX.1
  have l := iter_run (g := g_X12_advance_210 Vm) (z := fun _ _ => none) (q - p) (fun i (φ : (Nat → Int32) → Int64 → Option ((Nat → Int32) × Int64)) => ∀ U, U 16 = iN (p + i) → (i ≤ 4 → U 17 = iN (nvw b p i)) → (∀ j, j ≠ 16 → j ≠ 17 → U j = T j) → ∃ T', φ U J = some (T', J) ∧ T' 14 = iN (if q - p ≤ 4 then 2 else 4) ∧ T' 16 = iN q ∧ (q - p ≤ 4 → T' 17 = iN (nvw b p (q - p))) ∧ ∀ j, j ≠ 14 → j ≠ 16 → j ≠ 17 → T' j = T j) (by omega) (fun i F hi ih => fun U u16 u17 uo => ?_) (fun F => fun U u16 u17 uo => ?_)
  · exact l T h16 (fun _ => h17) (fun _ _ _ => rfl)
  · have hk := hr (p + i) (by omega) (by omega)
    have hk2 := kd_2.mp hk
    have hl : lk b n (p + i) = b (p + i) := if_pos (by omega)
    rw [g_X12_advance_210, u16, e12_look hX (by rw [uo 9 (by decide) (by decide), h9]) (by omega), hl, Option.bind_some, t12_d _ (hX.2 _ (by omega)).1, if_pos hk, Option.bind_some, if_neg (by decide), uo 15 (by decide) (by decide), h15, iN_sub (by omega), show p + i - p = i by omega, f_X12_advance_260, u16, show (iN (p + i) + 1 : Int32) = iN (p + (i + 1)) from iN_add (p + i) 1]
    by_cases q8 : 4 ≤ i
    · rw [if_pos (by rw [show (4 : Int32) = iN 4 from rfl, iN_le (by omega) (by omega)]; exact q8)]
      exact ih _ upd_s (fun h => by omega) (fun j hj hj2 => by rw [upd_n hj]; exact uo j hj hj2)
    · rw [if_neg (by rw [show (4 : Int32) = iN 4 from rfl, iN_le (by omega) (by omega)]; exact q8), Option.bind_some, u17 (by omega), show (10 : Int32) = iN 10 from rfl, iN_mul, iN_add, show (48 : Int32) = iN 48 from rfl, iN_sub (by omega), f_X12_advance_260, upd_n (show 16 ≠ 17 by decide), u16, show (iN (p + i) + 1 : Int32) = iN (p + (i + 1)) from iN_add (p + i) 1]
      refine ih _ upd_s (fun h => ?_) (fun j hj hj2 => by rw [upd_n hj, upd_n hj2]; exact uo j hj hj2)
      rw [upd_n (by decide), upd_s, nvw]
      congr 1
      omega
  · have hl : ¬ kd (lk b n q) = 2 := by
      unfold lk
      split
      · rename_i h; exact fun h2 => he ⟨h, h2⟩
      · decide
    have u16' : U 16 = iN q := by rw [u16]; congr 1; omega
    rw [g_X12_advance_210, u16', e12_look hX (by rw [uo 9 (by decide) (by decide), h9]) (by omega), Option.bind_some, t12_d _ (lk_lt hX q), if_neg hl, Option.bind_some, if_pos rfl, uo 15 (by decide) (by decide), h15, iN_sub (by omega), f_X12_advance_292, f_X12_advance_292]
    by_cases q8 : q - p ≤ 4
    · rw [if_pos (by rw [show (4 : Int32) = iN 4 from rfl, iN_le (by omega) (by omega)]; exact q8)]
      refine ⟨_, rfl, by rw [upd_s, if_pos q8]; rfl, by rw [upd_n (by decide)]; exact u16', fun _ => by rw [upd_n (by decide)]; exact u17 q8, fun j h14 h16 h17 => by rw [upd_n h14]; exact uo j h16 h17⟩
    · rw [if_neg (by rw [show (4 : Int32) = iN 4 from rfl, iN_le (by omega) (by omega)]; exact q8)]
      exact ⟨_, rfl, by rw [upd_s, if_neg q8]; rfl, by rw [upd_n (by decide)]; exact u16', fun h => absurd h q8, fun j h14 h16 h17 => by rw [upd_n h14]; exact uo j h16 h17⟩
theorem e12_advance (hX : tX b n V Vm) {q0 p q k : Nat} (hN : nxT b n q0 p q k) (T : Nat → Int32) (J : Int64) (h9 : T 9 = iN n) (h16 : T 16 = iN q0) : ∃ T' J', f_X12_advance T J Vm = some (T', J') ∧ k12 b p q k T' J' ∧ ∀ j, j ≠ 14 → j ≠ 15 → j ≠ 16 → j ≠ 17 → j ≠ 18 → T' j = T j := by
  have hn := hX.1
  obtain ⟨⟨n1, n2, n3⟩, n4⟩ := hN
  have a58 : ∀ U J, U 9 = iN n → U 15 = iN p → ∃ T' J', f_X12_advance_58 Vm U J = some (T', J') ∧ k12 b p q k T' J' ∧ ∀ j, j ≠ 14 → j ≠ 15 → j ≠ 16 → j ≠ 17 → j ≠ 18 → T' j = U j := fun U J u9 u15 => by
    rcases n4 with ⟨e1, e2, e3⟩ | ⟨e1, e2, e3, e4, e5⟩
    · refine ⟨_, J, by rw [f_X12_advance_58, upd_n (by decide), upd_n (by decide), u9, u15, if_neg (by rw [iN_lt (by omega) (by omega)]; omega)], ⟨?_, ?_, ?_, fun h => by omega, fun h => by omega, fun h => by omega⟩, fun j h14 h15 h16 _ _ => by rw [upd_n h14, upd_n h16]⟩
      · rw [upd_s, e2]; rfl
      · rw [upd_n (by decide), upd_n (by decide), u15]
      · rw [upd_n (by decide), upd_s, e1, e3]
    · have hx := hX.2 p e1
      have hl : lk b n p = b p := if_pos e1
      have hkr := kd_r (b p)
      rw [f_X12_advance_58, upd_n (show 15 ≠ 16 by decide), upd_n (show 9 ≠ 16 by decide), u9, u15, if_pos (by rw [iN_lt (by omega) (by omega)]; omega), e12_look hX (by rw [upd_n (by decide), u9]) (by omega), hl, Option.bind_some, t12_l _ hx.1, Option.bind_some]
      rcases e5 with ⟨g1, g2, g3, g4⟩ | ⟨g1, g2, g3, g4⟩ | ⟨g1, g2, g3⟩
      · rw [if_pos g1, if_neg (by decide)]
        obtain ⟨T', r1, r2, r3, r4⟩ := e12_word hX e4 e3 g3 g4 (upd (upd U 16 (iN p)) 14 1) (by rw [upd_n (by decide), upd_n (by decide), u9]) (by rw [upd_n (by decide), upd_n (by decide), u15]) (by rw [upd_n (by decide), upd_s])
        refine ⟨T', _, r1, ⟨?_, ?_, r2, fun _ => ⟨r3, rfl⟩, fun h => by omega, fun h => by omega⟩, fun j h14 h15 h16 _ h18 => by rw [r4 j h16 h18, upd_n h14, upd_n h16]⟩
        · rw [r4 14 (by decide) (by decide), upd_s, g2]; rfl
        · rw [r4 15 (by decide) (by decide), upd_n (by decide), upd_n (by decide), u15]
      · rw [if_neg (show ¬ kd (b p) = 1 by omega), if_pos rfl, t12_d _ hx.1, if_pos g1, Option.bind_some, if_neg (by decide)]
        obtain ⟨T', r1, r2, r3, r4, r5⟩ := e12_num hX e4 e3 g3 g4 (upd (upd U 16 (iN p)) 17 0) J (by rw [upd_n (by decide), upd_n (by decide), u9]) (by rw [upd_n (by decide), upd_n (by decide), u15]) (by rw [upd_n (by decide), upd_s]) upd_s
        refine ⟨T', _, r1, ⟨by rw [r2, g2], ?_, r3, fun h => ?_, fun h => ?_, fun h => ?_⟩, fun j h14 h15 h16 h17 h18 => by rw [r5 j h14 h16 h17, upd_n h17, upd_n h16]⟩
        · rw [r5 15 (by decide) (by decide) (by decide), upd_n (by decide), upd_n (by decide), u15]
        · rw [h] at g2
          split at g2 <;> omega
        · refine r4 ?_
          rw [h] at g2
          split at g2
          · assumption
          · omega
        · rw [h] at g2
          split at g2 <;> omega
      · rw [if_neg (show ¬ kd (b p) = 1 by omega), if_pos rfl, t12_d _ hx.1, if_neg (show ¬ kd (b p) = 2 by omega), Option.bind_some, if_pos rfl, t12_s _ hx.1 g1, Option.bind_some, f_X12_advance_327, f_X12_advance_327, show (iN p + 1 : Int32) = iN (p + 1) from iN_add p 1]
        rcases (show kd (b p) = 3 ∨ kd (b p) = 4 by omega) with h3 | h3
        · rw [if_pos h3, if_neg (show ¬ (1 : Int32) = 0 by decide)]
          refine ⟨_, J, rfl, ⟨?_, ?_, ?_, fun h => by omega, fun h => by omega, fun _ => ?_⟩, fun j h14 h15 h16 h17 _ => by rw [upd_n h14, upd_n h17, upd_n h16, upd_n h16]⟩
          · rw [upd_s, g2, h3]; rfl
          · rw [upd_n (by decide), upd_n (by decide), upd_n (by decide), upd_n (by decide), u15]
          · rw [upd_n (by decide), upd_n (by decide), upd_s, g3]
          · rw [upd_n (by decide), upd_s]
        · rw [if_neg (show ¬ kd (b p) = 3 by omega), if_pos rfl]
          refine ⟨_, J, rfl, ⟨?_, ?_, ?_, fun h => by omega, fun h => by omega, fun h => by omega⟩, fun j h14 h15 h16 h17 _ => by rw [upd_n h14, upd_n h17, upd_n h16, upd_n h16]⟩
          · rw [upd_s, g2, h3]; rfl
          · rw [upd_n (by decide), upd_n (by decide), upd_n (by decide), upd_n (by decide), u15]
          · rw [upd_n (by decide), upd_n (by decide), upd_s, g3]
  have l := iter_run (g := g_X12_advance_8 Vm) (z := fun _ _ => none) (p - q0) (fun i (φ : (Nat → Int32) → Int64 → Option ((Nat → Int32) × Int64)) => ∀ U, U 15 = iN (q0 + i) → (∀ j, j ≠ 15 → U j = T j) → ∃ T' J', φ U J = some (T', J') ∧ k12 b p q k T' J' ∧ ∀ j, j ≠ 14 → j ≠ 15 → j ≠ 16 → j ≠ 17 → j ≠ 18 → T' j = T j) (by omega) (fun i F hi ih => fun U u15 uo => ?_) (fun F => fun U u15 uo => ?_)
  · rw [f_X12_advance, h16]
    exact l _ upd_s (fun j hj => upd_n hj)
  · have hx := hX.2 (q0 + i) (by omega)
    have hl : lk b n (q0 + i) = b (q0 + i) := if_pos (by omega)
    have hb := n3 (q0 + i) (by omega) (by omega)
    have st : ∃ T' J', f_X12_advance_45 Vm F U J = some (T', J') ∧ k12 b p q k T' J' ∧ ∀ j, j ≠ 14 → j ≠ 15 → j ≠ 16 → j ≠ 17 → j ≠ 18 → T' j = T j := by
      rw [f_X12_advance_45, u15, show (iN (q0 + i) + 1 : Int32) = iN (q0 + (i + 1)) from iN_add (q0 + i) 1]
      exact ih _ upd_s (fun j hj => by rw [upd_n hj]; exact uo j hj)
    rw [g_X12_advance_8, uo 9 (by decide), h9, u15, if_neg (by rw [iN_le (by omega) (by omega)]; omega), e12_look hX (by rw [uo 9 (by decide), h9]) (by omega), hl, Option.bind_some, Option.bind_some]
    unfold blk at hb
    rw [Bool.or_eq_true, beq_iff_eq, beq_iff_eq] at hb
    rcases hb with h10 | h32
    · rw [if_pos (show iN (b (q0 + i)) = (10 : Int32) from congrArg iN h10)]; exact st
    · rw [if_neg (by rw [h32]; decide), if_pos (show iN (b (q0 + i)) = (32 : Int32) from congrArg iN h32)]; exact st
  · have u15' : U 15 = iN p := by rw [u15]; congr 1; omega
    obtain ⟨T', J', r1, r2, r3⟩ := a58 U J (by rw [uo 9 (by decide), h9]) u15'
    have fin : ∃ T' J', f_X12_advance_58 Vm U J = some (T', J') ∧ k12 b p q k T' J' ∧ ∀ j, j ≠ 14 → j ≠ 15 → j ≠ 16 → j ≠ 17 → j ≠ 18 → T' j = T j := ⟨T', J', r1, r2, fun j h14 h15 h16 h17 h18 => by rw [r3 j h14 h15 h16 h17 h18, uo j h15]⟩
    rw [g_X12_advance_8, uo 9 (by decide), h9, u15']
    rcases n4 with ⟨e1, e2, e3⟩ | ⟨e1, e2, e3, e4, e5⟩
    · rw [if_pos (by rw [iN_le (by omega) (by omega)]; omega)]; exact fin
    · have hx := hX.2 p e1
      have hl : lk b n p = b p := if_pos e1
      unfold blk at e2
      rw [Bool.or_eq_true, beq_iff_eq, beq_iff_eq] at e2
      rw [if_neg (by rw [iN_le (by omega) (by omega)]; omega), e12_look hX (by rw [uo 9 (by decide), h9]) (by omega), hl, Option.bind_some, Option.bind_some, if_neg (show ¬ iN (b p) = (10 : Int32) from iN_ne (by omega) (by decide) (fun h => e2 (Or.inl h))), if_neg (show ¬ iN (b p) = (32 : Int32) from iN_ne (by omega) (by decide) (fun h => e2 (Or.inr h)))]
      exact fin
end TOK3
