/-! Tokens: the class's next token. -/
theorem cdw_lt {b : Nat → Nat} {p : Nat} : ∀ i, (∀ j, j < i → kd (b (p + j)) = 1) → cdw b p i < 32 ^ i
  | 0, _ => Nat.one_pos
  | i + 1, h => by
    have h1 := cdw_lt i (fun j hj => h j (by omega))
    have h2 := kd_1.mp (h i (by omega))
    rw [cdw, Nat.pow_succ]
    omega
theorem nvw_lt {b : Nat → Nat} {p : Nat} : ∀ i, (∀ j, j < i → kd (b (p + j)) = 2) → nvw b p i < 10 ^ i
  | 0, _ => Nat.one_pos
  | i + 1, h => by
    have h1 := nvw_lt i (fun j hj => h j (by omega))
    have h2 := kd_2.mp (h i (by omega))
    rw [nvw, Nat.pow_succ]
    omega
theorem ccd_lt {b : Nat → Nat} {p q : Nat} (h : ∀ i, p ≤ i → i < q → kd (b i) = 1) : ccd b p q < 1152921504606846976 := by
  unfold ccd
  split
  · rename_i h1
    have h2 := cdw_lt (b := b) (p := p) (q - p) (fun j hj => h (p + j) (by omega) (by omega))
    have h3 : 32 ^ (q - p) ≤ 32 ^ 12 := Nat.pow_le_pow_right (by decide) h1
    omega
  · decide
theorem wix_st {c w : Nat} (h : wix c w < w) : ∀ m, w ≤ m → wix c m = wix c w
  | 0, hm => by omega
  | m + 1, hm => by
    by_cases e : w = m + 1
    · rw [e]
    · have h1 := wix_st h m (by omega)
      rw [wix, if_pos (by omega), h1]
theorem wcd_lt : ∀ w, w < 23 → wcd w < 1152921504606846976 := by decide +kernel
def vw (c : Nat) : Int32 := if wix c 23 < 23 then iN (wix c 23) else -1
section TOK2
variable {b : Nat → Nat} {n : Nat} {V Vm : Nat → Int32} {V2 : Nat → Int64}
theorem e8_words (hC : cOk V2) {c : Nat} (hc : c < 1152921504606846976) (T : Nat → Int32) (h7 : T 7 = -1) : ∃ T', f_X8_readWord_62 V V2 T (jN c) = some (T', jN c) ∧ T' 7 = vw c ∧ ∀ j, j ≠ 7 → T' j = T j := by
  have l := iter_run (g := g_X8_readWord_64 V V2) (z := fun _ _ _ => none) 23 (fun w (φ : Int32 → (Nat → Int32) → Int64 → Option ((Nat → Int32) × Int64)) => ∀ U, U 7 = (if wix c w < w then iN (wix c w) else -1) → (∀ j, j ≠ 7 → U j = T j) → ∃ T', φ (iN w) U (jN c) = some (T', jN c) ∧ T' 7 = vw c ∧ ∀ j, j ≠ 7 → T' j = T j) (by omega) (fun w F hw ih => fun U h1 h2 => ?_) (fun F => fun U h1 h2 => ?_)
  · exact l T (by rw [if_neg (by omega)]; exact h7) (fun _ _ => rfl)
  · have hwl := wix_le c w
    rw [g_X8_readWord_64, if_neg (by rw [show (23 : Int32) = iN 23 from rfl, iN_le (by omega) (by omega)]; omega)]
    by_cases q : wix c w < w
    · rw [if_pos q] at h1
      refine ⟨U, by rw [if_neg (by rw [h1]; exact iN_ne_m1 (by omega))], ?_, h2⟩
      rw [h1, vw, wix_st q 23 (by omega), if_pos (by omega)]
    · rw [if_neg q] at h1
      have hcw := wcd_lt w hw
      rw [if_pos h1, ck_iN (by omega) (by omega), iN_nn (by omega), hC w hw, show (iN w + 1 : Int32) = iN (w + 1) from iN_add w 1]
      have hs : wix c (w + 1) = if wcd w = c then w else w + 1 := by rw [wix, if_neg q]
      by_cases q2 : wcd w = c
      · rw [if_pos (by rw [lg_cmp_eq, q2])]
        rw [if_pos q2] at hs
        exact ih _ (by rw [upd_s, hs, if_pos (by omega)]) (fun j hj => by rw [upd_n hj]; exact h2 j hj)
      · rw [if_neg (by rw [lg_cmp_eq, jN_eq (by omega) (by omega)]; exact q2)]
        rw [if_neg q2] at hs
        exact ih U (by rw [hs, if_neg (by omega)]; exact h1) h2
  · have hwl := wix_le c 23
    refine ⟨U, by rw [g_X8_readWord_64, if_pos (by decide)], ?_, h2⟩
    rw [h1]; rfl
theorem e8_readWord (hX : tX b n V Vm) (hC : cOk V2) {p q : Nat} (hq : q ≤ n) (hpq : p < q) (hr : ∀ i, p ≤ i → i < q → kd (b i) = 1) (T : Nat → Int32) (h5 : T 5 = iN p) (h6 : T 6 = iN q) (h7 : T 7 = -1) : ∃ T', f_X8_readWord T 0 V V2 = some (T', jN (ccd b p q)) ∧ T' 7 = vw (ccd b p q) ∧ ∀ j, j ≠ 7 → T' j = T j := by
  have hn := hX.1
  rw [f_X8_readWord, h5]
  refine iter_run (g := g_X8_readWord_5 V V2) (z := fun _ _ _ => none) (q - p) (fun i (φ : Int32 → (Nat → Int32) → Int64 → Option ((Nat → Int32) × Int64)) => ∃ T', φ (iN (p + i)) T (jN (cdw b p i)) = some (T', jN (ccd b p q)) ∧ T' 7 = vw (ccd b p q) ∧ ∀ j, j ≠ 7 → T' j = T j) (by omega) (fun i F hi ih => ?_) (fun F => ?_)
  · have hx := hX.2 (p + i) (by omega)
    have hk := kd_1.mp (hr (p + i) (by omega) (by omega))
    rw [cdw] at ih
    rw [g_X8_readWord_5, h6, if_neg (by rw [iN_le (by omega) (by omega)]; omega), ck_iN (by omega) (by omega), iN_nn (by omega), hx.2.1, sb_lo (by omega), jN_i (by omega), show (32 : Int64) = jN 32 from rfl, jN_mul, jN_add, show (96 : Int64) = jN 96 from rfl, jN_sub (by omega), show (iN (p + i) + 1 : Int32) = iN (p + (i + 1)) from iN_add (p + i) 1, show cdw b p i * 32 + b (p + i) - 96 = cdw b p i * 32 + (b (p + i) - 96) by omega]
    exact ih
  · have hl := ccd_lt hr
    rw [g_X8_readWord_5, h5, h6, if_pos (by rw [iN_le (by omega) (by omega)]; omega), iN_sub (by omega)]
    by_cases q9 : q - p ≤ 12
    · have e : ccd b p q = cdw b p (q - p) := if_pos q9
      rw [if_pos (by rw [show (12 : Int32) = iN 12 from rfl, iN_le (by omega) (by omega)]; exact q9), ← e]
      exact e8_words hC hl T h7
    · have e : ccd b p q = 0 := if_neg q9
      rw [if_neg (by rw [show (12 : Int32) = iN 12 from rfl, iN_le (by omega) (by omega)]; exact q9), e]
      exact e8_words hC (by decide) T h7
theorem e8_readNumber (hX : tX b n V Vm) {p q : Nat} (hq : q ≤ n) (hpq : p < q) (hr : ∀ i, p ≤ i → i < q → kd (b i) = 2) (T : Nat → Int32) (h4 : T 4 = 2) (h5 : T 5 = iN p) (h6 : T 6 = iN q) : ∃ T', f_X8_readNumber T V = some T' ∧ T' 4 = iN (if q - p ≤ 4 then 2 else 4) ∧ T' 7 = iN (nvw b p (q - p)) ∧ ∀ j, j ≠ 7 → j ≠ 4 → T' j = T j := by
  have hn := hX.1
  rw [f_X8_readNumber, upd_n (by decide), h5]
  have l := iter_run (g := g_X8_readNumber_10 V) (z := fun _ _ => none) (q - p) (fun i (φ : Int32 → (Nat → Int32) → Option (Nat → Int32)) => ∀ U, U 7 = iN (nvw b p i) → (∀ j, j ≠ 7 → U j = T j) → ∃ T', φ (iN (p + i)) U = some T' ∧ T' 4 = iN (if q - p ≤ 4 then 2 else 4) ∧ T' 7 = iN (nvw b p (q - p)) ∧ ∀ j, j ≠ 7 → j ≠ 4 → T' j = T j) (by omega) (fun i F hi ih => fun U u7 hu => ?_) (fun F => fun U u7 hu => ?_)
  · exact l _ upd_s (fun j hj => upd_n hj)
  · have hx := hX.2 (p + i) (by omega)
    have hk := kd_2.mp (hr (p + i) (by omega) (by omega))
    rw [nvw] at ih
    rw [g_X8_readNumber_10, hu 6 (by decide), h6, if_neg (by rw [iN_le (by omega) (by omega)]; omega), ck_iN (by omega) (by omega), iN_nn (by omega), hx.2.1, sb_lo (by omega), u7, show (10 : Int32) = iN 10 from rfl, iN_mul, iN_add, show (48 : Int32) = iN 48 from rfl, iN_sub (by omega), show (iN (p + i) + 1 : Int32) = iN (p + (i + 1)) from iN_add (p + i) 1, show nvw b p i * 10 + b (p + i) - 48 = nvw b p i * 10 + (b (p + i) - 48) by omega]
    exact ih _ upd_s (fun j hj => by rw [upd_n hj]; exact hu j hj)
  · rw [g_X8_readNumber_10, hu 6 (by decide), h6, hu 5 (by decide), h5, if_pos (by rw [iN_le (by omega) (by omega)]; omega), iN_sub (by omega)]
    by_cases q9 : q - p ≤ 4
    · rw [if_pos (by rw [show (4 : Int32) = iN 4 from rfl, iN_le (by omega) (by omega)]; exact q9)]
      refine ⟨U, rfl, ?_, u7, fun j hj _ => hu j hj⟩
      rw [if_pos q9, hu 4 (by decide), h4]; rfl
    · rw [if_neg (by rw [show (4 : Int32) = iN 4 from rfl, iN_le (by omega) (by omega)]; exact q9)]
      refine ⟨upd U 4 4, rfl, ?_, ?_, fun j hj hj4 => by rw [upd_n hj4]; exact hu j hj⟩
      · rw [if_neg q9, upd_s]; rfl
      · rw [upd_n (by decide)]; exact u7
/-- what the class has of a token -/
def k8 (b : Nat → Nat) (p q k : Nat) (T : Nat → Int32) (J : Int64) : Prop := T 4 = iN k ∧ T 5 = iN p ∧ T 6 = iN q ∧ (k = 1 → J = jN (ccd b p q) ∧ T 7 = vw (ccd b p q)) ∧ (k = 2 → T 7 = iN (nvw b p (q - p))) ∧ (k = 3 → T 7 = iN (b p))
theorem e8_advance (hX : tX b n V Vm) (hC : cOk V2) {q0 p q k : Nat} (hN : nxT b n q0 p q k) (T : Nat → Int32) (J : Int64) (h3 : T 3 = iN n) (h6 : T 6 = iN q0) : ∃ T' J', f_X8_advance T J V V2 = some (T', J') ∧ k8 b p q k T' J' ∧ ∀ j, j ≠ 4 → j ≠ 5 → j ≠ 6 → j ≠ 7 → T' j = T j := by
  have hn := hX.1
  obtain ⟨⟨n1, n2, n3⟩, n4⟩ := hN
  have a161 : ∀ U, p < q → q ≤ n → U 4 = iN (kd (b p)) → U 5 = iN p → U 6 = iN q → U 7 = -1 → ((kd (b p) = 1 ∧ k = 1 ∧ (∀ i, p ≤ i → i < q → kd (b i) = 1) ∧ ¬ (q < n ∧ kd (b q) = 1)) ∨ (kd (b p) = 2 ∧ k = (if q - p ≤ 4 then 2 else 4) ∧ (∀ i, p ≤ i → i < q → kd (b i) = 2) ∧ ¬ (q < n ∧ kd (b q) = 2)) ∨ (3 ≤ kd (b p) ∧ k = kd (b p) ∧ q = p + 1)) → ∃ T' J', f_X8_advance_161 V V2 U 0 = some (T', J') ∧ k8 b p q k T' J' ∧ ∀ j, j ≠ 4 → j ≠ 5 → j ≠ 6 → j ≠ 7 → T' j = U j := fun U hpq hq u4 u5 u6 u7 hc => by
    have hx := hX.2 p (by omega)
    have hkr := kd_r (b p)
    rcases hc with ⟨g1, g2, g3, g4⟩ | ⟨g1, g2, g3, g4⟩ | ⟨g1, g2, g3⟩
    · obtain ⟨T', t1, t2, t3⟩ := e8_readWord hX hC hq hpq g3 U u5 u6 u7
      refine ⟨T', _, ?_, ⟨?_, ?_, ?_, fun _ => ⟨rfl, t2⟩, fun h => by omega, fun h => by omega⟩, fun j h4 _ _ h7 => t3 j h7⟩
      · rw [f_X8_advance_161, if_pos (by rw [u4, g1]; rfl), t1]; rfl
      · rw [t3 4 (by decide), u4, g1, g2]
      · rw [t3 5 (by decide), u5]
      · rw [t3 6 (by decide), u6]
    · obtain ⟨T', t1, t2, t3, t4⟩ := e8_readNumber hX hq hpq g3 U (by rw [u4, g1]; rfl) u5 u6
      refine ⟨T', 0, ?_, ⟨?_, ?_, ?_, fun h => ?_, fun _ => t3, fun h => ?_⟩, fun j h4 _ _ h7 => t4 j h7 h4⟩
      · rw [f_X8_advance_161, if_neg (by rw [u4, g1]; decide), if_pos (by rw [u4, g1]; rfl), t1]; rfl
      · rw [t2, g2]
      · rw [t4 5 (by decide) (by decide), u5]
      · rw [t4 6 (by decide) (by decide), u6]
      · rw [h] at g2
        split at g2 <;> omega
      · rw [h] at g2
        split at g2 <;> omega
    · refine ⟨_, 0, by rw [f_X8_advance_161, if_neg (by rw [u4, show (1 : Int32) = iN 1 from rfl, iN_eq (by omega) (by omega)]; omega), if_neg (by rw [u4, show (2 : Int32) = iN 2 from rfl, iN_eq (by omega) (by omega)]; omega), u5, ck_iN (by omega) (by omega), iN_nn (by omega), hx.2.1], ⟨?_, ?_, ?_, fun h => by omega, fun h => by omega, fun h => ?_⟩, fun j _ _ _ h7 => upd_n h7⟩
      · rw [upd_n (by decide), u4, g2]
      · rw [upd_n (by decide), u5]
      · rw [upd_n (by decide), u6]
      · rw [upd_s, sb_lo]
        have : kd (b p) = 3 := by omega
        unfold kd at this
        split at this
        · omega
        · split at this
          · omega
          · split at this <;> omega
  have a47 : ∀ U J, U 3 = iN n → U 5 = iN p → ∃ T' J', f_X8_advance_47 V V2 U J = some (T', J') ∧ k8 b p q k T' J' ∧ ∀ j, j ≠ 4 → j ≠ 5 → j ≠ 6 → j ≠ 7 → T' j = U j := fun U J u3 u5 => by
    rcases n4 with ⟨e1, e2, e3⟩ | ⟨e1, e2, e3, e4, e5⟩
    · refine ⟨_, 0, by rw [f_X8_advance_47, upd_n (by decide), upd_n (by decide), upd_n (by decide), upd_n (by decide), u3, u5, if_neg (by rw [iN_lt (by omega) (by omega)]; omega)], ⟨?_, ?_, ?_, fun h => by omega, fun h => by omega, fun h => by omega⟩, fun j h4 h5 h6 h7 => by rw [upd_n h4, upd_n h7, upd_n h6]⟩
      · rw [upd_s, e2]; rfl
      · rw [upd_n (by decide), upd_n (by decide), upd_n (by decide), u5]
      · rw [upd_n (by decide), upd_n (by decide), upd_s, e1, e3]
    · have hx := hX.2 p e1
      rw [f_X8_advance_47, upd_n (show 5 ≠ 7 by decide), upd_n (show 5 ≠ 6 by decide), upd_n (show 3 ≠ 7 by decide), upd_n (show 3 ≠ 6 by decide), u3, u5, if_pos (by rw [iN_lt (by omega) (by omega)]; omega), ck_iN (by omega) (by omega), iN_nn (by omega), hx.2.1, t8_kind _ hx.1, Option.bind_some]
      have hkr := kd_r (b p)
      obtain ⟨W, hW⟩ : ∃ W, W = upd (upd (upd (upd U 6 (iN p)) 7 (-1)) 4 (iN (kd (b p)))) 6 (iN (p + 1)) := ⟨_, rfl⟩
      have w4 : W 4 = iN (kd (b p)) := by rw [hW, upd_n (by decide), upd_s]
      have w5 : W 5 = iN p := by rw [hW, upd_n (by decide), upd_n (by decide), upd_n (by decide), upd_n (by decide), u5]
      have w6 : W 6 = iN (p + 1) := by rw [hW, upd_s]
      have w7 : W 7 = -1 := by rw [hW, upd_n (by decide), upd_n (by decide), upd_s]
      have w3 : W 3 = iN n := by rw [hW, upd_n (by decide), upd_n (by decide), upd_n (by decide), upd_n (by decide), u3]
      have wo : ∀ j, j ≠ 4 → j ≠ 5 → j ≠ 6 → j ≠ 7 → W j = U j := fun j h4 h5 h6 h7 => by rw [hW, upd_n h6, upd_n h4, upd_n h7, upd_n h6]
      have eW : upd (upd (upd (upd U 6 (iN p)) 7 (-1)) 4 (iN (kd (b p)))) 6 ((upd (upd (upd U 6 (iN p)) 7 (-1)) 4 (iN (kd (b p)))) 5 + 1) = W := by
        rw [hW, upd_n (show 5 ≠ 4 by decide), upd_n (show 5 ≠ 7 by decide), upd_n (show 5 ≠ 6 by decide), u5, show (iN p + 1 : Int32) = iN (p + 1) from iN_add p 1]
      rw [eW]
      suffices hh : ∃ T' J', f_X8_advance_108 V V2 xF W 0 = some (T', J') ∧ k8 b p q k T' J' ∧ ∀ j, j ≠ 4 → j ≠ 5 → j ≠ 6 → j ≠ 7 → T' j = W j by
        obtain ⟨T', J', r1, r2, r3⟩ := hh
        exact ⟨T', J', r1, r2, fun j h4 h5 h6 h7 => by rw [r3 j h4 h5 h6 h7, wo j h4 h5 h6 h7]⟩
      have l := iter_run (g := g_X8_advance_108 V V2) (z := fun _ _ => none) (q - (p + 1)) (fun i (φ : (Nat → Int32) → Int64 → Option ((Nat → Int32) × Int64)) => ∀ X, X 6 = iN (p + 1 + i) → (∀ j, j ≠ 6 → X j = W j) → ∃ T' J', φ X 0 = some (T', J') ∧ k8 b p q k T' J' ∧ ∀ j, j ≠ 4 → j ≠ 5 → j ≠ 6 → j ≠ 7 → T' j = W j) (by omega) (fun i F hi ih => fun X x6 xo => ?_) (fun F => fun X x6 xo => ?_)
      · exact l W w6 (fun _ _ => rfl)
      · have hx2 := hX.2 (p + 1 + i) (by omega)
        have hlong : (kd (b p) = 1 ∨ kd (b p) = 2) ∧ kd (b (p + 1 + i)) = kd (b p) := by
          rcases e5 with ⟨g1, g2, g3, g4⟩ | ⟨g1, g2, g3, g4⟩ | ⟨g1, g2, g3⟩
          · exact ⟨Or.inl g1, by rw [g1]; exact g3 _ (by omega) (by omega)⟩
          · exact ⟨Or.inr g1, by rw [g1]; exact g3 _ (by omega) (by omega)⟩
          · omega
        have hil : f_X8_isLong (iN (kd (b p))) = some 1 := by
          rcases hlong.1 with g | g <;> rw [g] <;> rfl
        rw [g_X8_advance_108, xo 3 (by decide), w3, x6, if_neg (by rw [iN_le (by omega) (by omega)]; omega), xo 4 (by decide), w4, hil, Option.bind_some, if_neg (by decide), ck_iN (by omega) (by omega), iN_nn (by omega), hx2.2.1, t8_kind _ hx2.1, Option.bind_some, hlong.2, if_pos rfl, show (iN (p + 1 + i) + 1 : Int32) = iN (p + 1 + (i + 1)) from iN_add (p + 1 + i) 1]
        exact ih _ upd_s (fun j hj => by rw [upd_n hj]; exact xo j hj)
      · have h161 := a161 X e3 e4 (by rw [xo 4 (by decide), w4]) (by rw [xo 5 (by decide), w5]) (by rw [x6]; congr 1; omega) (by rw [xo 7 (by decide), w7]) e5
        have fin : ∃ T' J', f_X8_advance_161 V V2 X 0 = some (T', J') ∧ k8 b p q k T' J' ∧ ∀ j, j ≠ 4 → j ≠ 5 → j ≠ 6 → j ≠ 7 → T' j = W j := by
          obtain ⟨T', J', r1, r2, r3⟩ := h161
          exact ⟨T', J', r1, r2, fun j h4 h5 h6 h7 => by rw [r3 j h4 h5 h6 h7, xo j h6]⟩
        rw [g_X8_advance_108, xo 3 (by decide), w3, x6, show p + 1 + (q - (p + 1)) = q by omega]
        by_cases q9 : n ≤ q
        · rw [if_pos (by rw [iN_le (by omega) (by omega)]; exact q9)]; exact fin
        · have hx2 := hX.2 q (by omega)
          have hkq := kd_r (b q)
          rw [if_neg (by rw [iN_le (by omega) (by omega)]; exact q9), xo 4 (by decide), w4]
          rcases e5 with ⟨g1, g2, g3, g4⟩ | ⟨g1, g2, g3, g4⟩ | ⟨g1, g2, g3⟩
          · rw [show f_X8_isLong (iN (kd (b p))) = some 1 by rw [g1]; rfl, Option.bind_some, if_neg (by decide), ck_iN (by omega) (by omega), iN_nn (by omega), hx2.2.1, t8_kind _ hx2.1, Option.bind_some, if_neg (iN_ne (by omega) (by omega) (fun h => g4 ⟨by omega, by omega⟩))]
            exact fin
          · rw [show f_X8_isLong (iN (kd (b p))) = some 1 by rw [g1]; rfl, Option.bind_some, if_neg (by decide), ck_iN (by omega) (by omega), iN_nn (by omega), hx2.2.1, t8_kind _ hx2.1, Option.bind_some, if_neg (iN_ne (by omega) (by omega) (fun h => g4 ⟨by omega, by omega⟩))]
            exact fin
          · rw [show f_X8_isLong (iN (kd (b p))) = some 0 by
              rcases (show kd (b p) = 3 ∨ kd (b p) = 4 by omega) with g | g <;> rw [g] <;> rfl, Option.bind_some, if_pos rfl]
            exact fin
  have l := iter_run (g := g_X8_advance_8 V V2) (z := fun _ _ => none) (p - q0) (fun i (φ : (Nat → Int32) → Int64 → Option ((Nat → Int32) × Int64)) => ∀ U, U 5 = iN (q0 + i) → (∀ j, j ≠ 5 → U j = T j) → ∃ T' J', φ U J = some (T', J') ∧ k8 b p q k T' J' ∧ ∀ j, j ≠ 4 → j ≠ 5 → j ≠ 6 → j ≠ 7 → T' j = T j) (by omega) (fun i F hi ih => fun U u5 uo => ?_) (fun F => fun U u5 uo => ?_)
  · rw [f_X8_advance, h6]
    exact l _ upd_s (fun j hj => upd_n hj)
  · have hx := hX.2 (q0 + i) (by omega)
    rw [g_X8_advance_8, uo 3 (by decide), h3, u5, if_neg (by rw [iN_le (by omega) (by omega)]; omega), ck_iN (by omega) (by omega), iN_nn (by omega), hx.2.1, t8_blank _ hx.1, n3 (q0 + i) (by omega) (by omega), if_pos rfl, Option.bind_some, if_neg (by decide), show (iN (q0 + i) + 1 : Int32) = iN (q0 + (i + 1)) from iN_add (q0 + i) 1]
    exact ih _ upd_s (fun j hj => by rw [upd_n hj]; exact uo j hj)
  · have u5' : U 5 = iN p := by rw [u5]; congr 1; omega
    obtain ⟨T', J', r1, r2, r3⟩ := a47 U J (by rw [uo 3 (by decide), h3]) u5'
    have fin : ∃ T' J', f_X8_advance_47 V V2 U J = some (T', J') ∧ k8 b p q k T' J' ∧ ∀ j, j ≠ 4 → j ≠ 5 → j ≠ 6 → j ≠ 7 → T' j = T j := ⟨T', J', r1, r2, fun j h4 h5 h6 h7 => by rw [r3 j h4 h5 h6 h7, uo j h5]⟩
    rw [g_X8_advance_8, uo 3 (by decide), h3, u5']
    rcases n4 with ⟨e1, e2, e3⟩ | ⟨e1, e2, e3, e4, e5⟩
    · rw [if_pos (by rw [iN_le (by omega) (by omega)]; omega)]; exact fin
    · have hx := hX.2 p e1
      rw [if_neg (by rw [iN_le (by omega) (by omega)]; omega), ck_iN (by omega) (by omega), iN_nn (by omega), hx.2.1, t8_blank _ hx.1, if_neg e2, Option.bind_some, if_pos rfl]
      exact fin
end TOK2
