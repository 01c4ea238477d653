/-! Calls: way, wayLong, wayAt, comesIn, sail. -/
/-- where a sail along a path ends that has j cells to go of k -/
def slE (d : Nat → Nat) (P : Nat → Nat) (k : Nat) : Nat → Nat
  | 0 => P k
  | j + 1 => if d (6 + P (k - j)) = 1 then P (k - j) else slE d P k j
/-- the odds of a path's first i cells, by sixteenths -/
def prd (d : Nat → Nat) (P : Nat → Nat) : Nat → Nat
  | 0 => 1
  | i + 1 => prd d P i * (16 - risk d (P (i + 1)))
theorem prd_le (d P : Nat → Nat) : ∀ i, prd d P i ≤ 16 ^ i
  | 0 => Nat.le_refl _
  | i + 1 => by
    rw [prd, Nat.pow_succ]
    exact Nat.mul_le_mul (prd_le d P i) (Nat.sub_le _ _)
section WAY5
variable {d : Nat → Nat} {w Na : Nat → Int64} {c T T0 Tm S Li By Of Fe Mi : Nat → Int32} {L : Int32} {K : Int32 × Int32} {J J' M M' : Int64}
/-- what a found way is -/
def wWay (d : Nat → Nat) (c : Nat → Int32) (t : Nat) (r k : Nat) (P : Nat → Nat) (W T9 P9 A9 B9 C9 : Nat → Int32) : Prop := r ≤ 15 * k ∧ k ≤ 36 ∧ P 0 = d 5 ∧ (∀ i, i ≤ k → P i < cells d) ∧ T9 5 = iN k ∧ T9 4 = iN (cells d) ∧ (∀ i, i ≤ k → P9 i = iN (P i)) ∧ A9 (d 5) = iN (64 * r + k) ∧ vRep (cells d) (risk d) B9 ∧ (∀ i, i < k → f_X12_nextOn c B9 C9 (iN (P i)) = some (iN (P (i + 1)))) ∧ talR (votesS d (hset d)) W
theorem e_why (hd : dInv d) (hc : mRep d c) (hk : kRep d w T S Li Na By Of Fe Mi) {t : Nat} (ht : t < cells d) (V3 T7 V8 V9 V10 B2 B3 : Nat → Int32) : (∃ W T9 P9 A9 E9 B9 C9, f_X11_whyNoWay T V3 Of Fe By T7 V8 V9 V10 (iN t) = some (8, W, T9, P9, A9, E9) ∧ f_X12_wayCost c B2 B3 (iN t) = some (99999999, B9, C9)) ∨ (∃ (r k : Nat) (P : Nat → Nat) (W T9 P9 A9 E9 B9 C9 : Nat → Int32), f_X11_whyNoWay T V3 Of Fe By T7 V8 V9 V10 (iN t) = some (0, W, T9, P9, A9, E9) ∧ f_X12_wayCost c B2 B3 (iN t) = some (iN (100 * r + k), B9, C9) ∧ wWay d c t r k P W T9 P9 A9 B9 C9) := by
  have h36 := hd.c36
  obtain ⟨W, eW, tW⟩ := e7_take hd hk.1 hk.2.2.2.2.2.1 hk.2.2.2.2.2.2.1 hk.2.2.2.2.1 V3 (hset_lt hd)
  have c1 := e3_hasCell hd hk.1 (iN t)
  rw [if_pos (by rw [inR_iN (by omega)]; exact ht)] at c1
  rcases e_way hd hc hk.1 tW ht T7 V8 V9 V10 B2 B3 with ⟨T9, P9, A9, E9, B9, C9, f1, f2⟩ | ⟨r, k, P, T9, P9, A9, E9, B9, C9, g1, g2, g3, g4, f1, g5, g6, g7, g8, f2, g9, g10⟩
  · refine Or.inl ⟨W, T9, P9, A9, E9, B9, C9, ?_, f2⟩
    rw [f_X11_whyNoWay, c1, Option.bind_some, if_neg (by decide), hk.1.2.2.2.2.2.1, eW, Option.bind_some, f1, Option.bind_some, if_pos rfl]
  · refine Or.inr ⟨r, k, P, W, T9, P9, A9, E9, B9, C9, ?_, f2, g1, g2, g3, g4, g5, g6, g7, g8, g9, g10, tW⟩
    rw [f_X11_whyNoWay, c1, Option.bind_some, if_neg (by decide), hk.1.2.2.2.2.2.1, eW, Option.bind_some, f1, Option.bind_some, if_neg (show ¬ (1 : Int32) = 0 by decide)]
theorem e_whyno (hd : dInv d) (hk : kRep d w T S Li Na By Of Fe Mi) {x : Int32} (hx : ¬ inR x (cells d)) (V3 T7 V8 V9 V10 : Nat → Int32) : f_X11_whyNoWay T V3 Of Fe By T7 V8 V9 V10 x = some (2, V3, T7, V8, V9, V10) := by
  have c1 := e3_hasCell hd hk.1 x
  rw [if_neg hx] at c1
  rw [f_X11_whyNoWay, c1, Option.bind_some, if_pos rfl]
theorem ne9 {r k : Nat} (h1 : r ≤ 15 * k) (h2 : k ≤ 36) : ¬ iN (100 * r + k) = (99999999 : Int32) := by rw [show (99999999 : Int32) = iN 99999999 from rfl, iN_eq (by omega) (by omega)]; omega
theorem q_way (hd : dInv d) (hc : mRep d c) (hk : kRep d w T S Li Na By Of Fe Mi) (hs : sR T0 Tm L K) (x : Int32) (V3 T7 V8 V9 V10 B2 B3 : Nat → Int32) : ∃ v U W' T7' V8' V9' V10' Um B2' B3', f_X11_way T0 T V3 Of Fe By T7 V8 V9 V10 x = some (v, U, W', T7', V8', V9', V10') ∧ f_X12_way Tm c B2 B3 x = some (v, Um, B2', B3') ∧ sR U Um L K := by
  have h36 := hd.c36
  have e2 := e12_isCell hd hc x
  by_cases hx : inR x (cells d)
  · rw [if_pos hx] at e2
    obtain ⟨t, ht, rfl⟩ := hx.eq (by omega)
    rcases e_why hd hc hk ht V3 T7 V8 V9 V10 B2 B3 with ⟨W, T9, P9, A9, E9, B9, C9, f1, f2⟩ | ⟨r, k, P, W, T9, P9, A9, E9, B9, C9, f1, f2, g1, g2, g3, g4, g5, g6, g7, g8, g9, g10, tW⟩
    · refine ⟨-1, upd T0 14 8, W, T9, P9, A9, E9, upd (upd (upd Tm 1 0) 0 0) 0 8, B9, C9, ?_, ?_, sR_no hs⟩
      · rw [f_X11_way, f1]; rfl
      · rw [f_X12_way, e2, Option.bind_some, if_neg (by decide), f2]; rfl
    · refine ⟨iN r, upd T0 14 0, W, T9, P9, A9, E9, upd (upd Tm 1 0) 0 0, B9, C9, ?_, ?_, sR_ok hs⟩
      · have p0 := g7 0 (Nat.zero_le _)
        have h5 := g4 0 (Nat.zero_le _)
        rw [g3] at p0 h5
        rw [f_X11_way, f1, Option.bind_some, if_pos rfl]
        dsimp only
        rw [f_X6_risk, ck_y (show gd 0 37 = true by decide), show (0 : Int32).toNatClampNeg = 0 by decide, p0, g6, e_within_n _ (by omega), if_pos (by rw [inR_iN (by omega)]; exact h5), Option.bind_some, if_neg (by decide), ck_y (show gd 0 37 = true by decide), ck_iN (by omega) (by omega), ck_y (by decide), iN_nn (by omega), g8, show (64 : Int32) = iN 64 from rfl, iN_div (by omega) (by omega), show (64 * r + k) / 64 = r by omega]
        rfl
      · rw [f_X12_way, e2, Option.bind_some, if_neg (by decide), f2, Option.bind_some, if_neg (ne9 g1 g2), ck_y (by decide), show (100 : Int32) = iN 100 from rfl, iN_div (by omega) (by omega), show (100 * r + k) / 100 = r by omega]
  · rw [if_neg hx] at e2
    refine ⟨-1, upd T0 14 2, V3, T7, V8, V9, V10, upd (upd (upd Tm 1 0) 0 0) 0 2, B2, B3, ?_, ?_, sR_no hs⟩
    · rw [f_X11_way, e_whyno hd hk hx]; rfl
    · rw [f_X12_way, e2]; rfl
theorem q_wayLong (hd : dInv d) (hc : mRep d c) (hk : kRep d w T S Li Na By Of Fe Mi) (hs : sR T0 Tm L K) (x : Int32) (V3 T7 V8 V9 V10 B2 B3 : Nat → Int32) : ∃ v U W' T7' V8' V9' V10' Um B2' B3', f_X11_wayLong T0 T V3 Of Fe By T7 V8 V9 V10 x = some (v, U, W', T7', V8', V9', V10') ∧ f_X12_wayLong Tm c B2 B3 x = some (v, Um, B2', B3') ∧ sR U Um L K := by
  have h36 := hd.c36
  have e2 := e12_isCell hd hc x
  by_cases hx : inR x (cells d)
  · rw [if_pos hx] at e2
    obtain ⟨t, ht, rfl⟩ := hx.eq (by omega)
    rcases e_why hd hc hk ht V3 T7 V8 V9 V10 B2 B3 with ⟨W, T9, P9, A9, E9, B9, C9, f1, f2⟩ | ⟨r, k, P, W, T9, P9, A9, E9, B9, C9, f1, f2, g1, g2, g3, g4, g5, g6, g7, g8, g9, g10, tW⟩
    · refine ⟨-1, upd T0 14 8, W, T9, P9, A9, E9, upd (upd (upd Tm 1 0) 0 0) 0 8, B9, C9, ?_, ?_, sR_no hs⟩
      · rw [f_X11_wayLong, f1]; rfl
      · rw [f_X12_wayLong, e2, Option.bind_some, if_neg (by decide), f2]; rfl
    · refine ⟨iN k, upd T0 14 0, W, T9, P9, A9, E9, upd (upd Tm 1 0) 0 0, B9, C9, ?_, ?_, sR_ok hs⟩
      · rw [f_X11_wayLong, f1, Option.bind_some, if_pos rfl]
        dsimp only
        rw [f_X6_cells, g5]; rfl
      · rw [f_X12_wayLong, e2, Option.bind_some, if_neg (by decide), f2, Option.bind_some, if_neg (ne9 g1 g2), ck_y (by decide), iN_m100 (by omega) (by omega)]
  · rw [if_neg hx] at e2
    refine ⟨-1, upd T0 14 2, V3, T7, V8, V9, V10, upd (upd (upd Tm 1 0) 0 0) 0 2, B2, B3, ?_, ?_, sR_no hs⟩
    · rw [f_X11_wayLong, e_whyno hd hk hx]; rfl
    · rw [f_X12_wayLong, e2]; rfl
theorem e6_cellAt {T9 P9 : Nat → Int32} {k : Nat} (hk : k ≤ 36) (g5 : T9 5 = iN k) {i : Nat} (hi : i ≤ k) : f_X6_cellAt T9 P9 (iN i) = some (P9 i) := by
  rw [f_X6_cellAt, g5, e_within_l _ _ (by omega), if_pos (by rw [inR_iN (by omega)]; omega), Option.bind_some, if_neg (by decide), ck_iN (by omega) (by omega), iN_nn (by omega)]
theorem q_wayAt (hd : dInv d) (hc : mRep d c) (hk : kRep d w T S Li Na By Of Fe Mi) (hs : sR T0 Tm L K) (x y : Int32) (V3 T7 V8 V9 V10 B2 B3 : Nat → Int32) : ∃ v U W' T7' V8' V9' V10' Um B2' B3', f_X11_wayAt T0 T V3 Of Fe By T7 V8 V9 V10 x y = some (v, U, W', T7', V8', V9', V10') ∧ f_X12_wayAt Tm c B2 B3 x y = some (v, Um, B2', B3') ∧ sR U Um L K := by
  have h36 := hd.c36
  have e2 := e12_isCell hd hc x
  by_cases hx : inR x (cells d)
  · rw [if_pos hx] at e2
    obtain ⟨t, ht, rfl⟩ := hx.eq (by omega)
    rcases e_why hd hc hk ht V3 T7 V8 V9 V10 B2 B3 with ⟨W, T9, P9, A9, E9, B9, C9, f1, f2⟩ | ⟨r, k, P, W, T9, P9, A9, E9, B9, C9, f1, f2, g1, g2, g3, g4, g5, g6, g7, g8, g9, g10, tW⟩
    · refine ⟨-1, upd T0 14 8, W, T9, P9, A9, E9, upd (upd (upd Tm 1 0) 0 0) 0 8, B9, C9, ?_, ?_, sR_no hs⟩
      · rw [f_X11_wayAt, f1]; rfl
      · rw [f_X12_wayAt, e2, Option.bind_some, if_neg (by decide), f2]; rfl
    · have w1 := e_within_l y k (by omega)
      have w2 : f_X12_isIn (Int32.toInt64 y) 0 (Int32.toInt64 (iN k)) = some (if inR y (k + 1) then 1 else 0) := by
        rw [jN_i (by omega)]; exact e_isIn_l y k (by omega)
      by_cases hy : inR y (k + 1)
      · rw [if_pos hy] at w1 w2
        obtain ⟨n, hn, rfl⟩ := hy.eq (by omega)
        refine ⟨iN (P n), upd T0 14 0, W, T9, P9, A9, E9, upd (upd Tm 1 0) 0 0, B9, C9, ?_, ?_, sR_ok hs⟩
        · rw [f_X11_wayAt, f1, Option.bind_some, if_pos rfl]
          dsimp only
          rw [f_X6_cells, Option.bind_some, g5, w1, Option.bind_some, if_neg (by decide), e6_cellAt g2 g5 (show n ≤ k by omega), g7 n (by omega)]; rfl
        · rw [f_X12_wayAt, e2, Option.bind_some, if_neg (by decide), f2, Option.bind_some, if_neg (ne9 g1 g2), ck_y (by decide), iN_m100 (by omega) (by omega), w2, Option.bind_some, if_neg (by decide), ck_y (show gd 5 1860 = true by decide), show (5 : Int32).toNatClampNeg = 5 by decide, hc 5 (by omega), ← g3]
          refine iter_run (g := g_X12_wayAt_69 c (iN t) (iN n)) (z := fun _ _ _ _ _ => none) n (fun i (φ : Int32 → Int32 → (Nat → Int32) → (Nat → Int32) → (Nat → Int32) → Option (Int32 × (Nat → Int32) × (Nat → Int32) × (Nat → Int32))) => φ (iN (P i)) (iN i) (upd (upd Tm 1 0) 0 0) B9 C9 = some (iN (P n), upd (upd Tm 1 0) 0 0, B9, C9)) (by omega) (fun i F hi ih => ?_) (fun F => ?_)
          · rw [g_X12_wayAt_69, if_neg (by rw [iN_le (by omega) (by omega)]; omega), g10 i (by omega), Option.bind_some, show (iN i + 1 : Int32) = iN (i + 1) from iN_add i 1]
            exact ih
          · rw [g_X12_wayAt_69, if_pos (by rw [iN_le (by omega) (by omega)]; omega)]
      · rw [if_neg hy] at w1 w2
        refine ⟨-1, upd T0 14 8, W, T9, P9, A9, E9, upd (upd (upd Tm 1 0) 0 0) 0 8, B9, C9, ?_, ?_, sR_no hs⟩
        · rw [f_X11_wayAt, f1, Option.bind_some, if_pos rfl]
          dsimp only
          rw [f_X6_cells, Option.bind_some, g5, w1]; rfl
        · rw [f_X12_wayAt, e2, Option.bind_some, if_neg (by decide), f2, Option.bind_some, if_neg (ne9 g1 g2), ck_y (by decide), iN_m100 (by omega) (by omega), w2]; rfl
  · rw [if_neg hx] at e2
    refine ⟨-1, upd T0 14 2, V3, T7, V8, V9, V10, upd (upd (upd Tm 1 0) 0 0) 0 2, B2, B3, ?_, ?_, sR_no hs⟩
    · rw [f_X11_wayAt, e_whyno hd hk hx]; rfl
    · rw [f_X12_wayAt, e2]; rfl
theorem e6_sailedTo (hd : dInv d) (hk : kRep d w T S Li Na By Of Fe Mi) {k : Nat} {P : Nat → Nat} {T9 P9 : Nat → Int32} (g2 : k ≤ 36) (g4 : ∀ i, i ≤ k → P i < cells d) (g5 : T9 5 = iN k) (g7 : ∀ i, i ≤ k → P9 i = iN (P i)) : f_X6_sailedTo T9 P9 S = some (iN (slE d P k k)) := by
  have h36 := hd.c36
  refine iter_run (g := g_X6_sailedTo_2 T9 P9 S) (z := fun _ => none) k (fun i (φ : Int32 → Option Int32) => φ (iN (i + 1)) = some (iN (slE d P k (k - i)))) (by omega) (fun i F hi ih => ?_) (fun F => ?_)
  · have hp := g4 (i + 1) (by omega)
    have h4 := hd.2.1 (P (i + 1)) (by omega)
    rw [g_X6_sailedTo_2, g5, if_neg (by rw [iN_lt (by omega) (by omega)]; omega), e6_cellAt g2 g5 (by omega), Option.bind_some, g7 _ (by omega), e3_kindAt hk.2.1 hp (by omega), Option.bind_some, show (iN (i + 1) + 1 : Int32) = iN (i + 1 + 1) from iN_add (i + 1) 1]
    obtain ⟨j, hj⟩ : ∃ j, k - i = j + 1 := ⟨k - i - 1, by omega⟩
    rw [show k - (i + 1) = j by omega] at ih
    rw [hj, slE, show k - j = i + 1 by omega]
    by_cases q : d (6 + P (i + 1)) = 1
    · rw [if_pos (show iN (d (6 + P (i + 1))) = (1 : Int32) from congrArg iN q), if_pos q]; rfl
    · rw [if_neg (show ¬ iN (d (6 + P (i + 1))) = (1 : Int32) from iN_ne (by omega) (by decide) q), if_neg q]
      exact ih
  · rw [g_X6_sailedTo_2, g5, if_pos (by rw [iN_lt (by omega) (by omega)]; omega), e6_cellAt g2 g5 (by omega), Option.bind_some, g7 _ (by omega), Nat.sub_self, slE]
theorem e12_sailing (hd : dInv d) (hc : mRep d c) (t : Nat) {r k : Nat} {P : Nat → Nat} {B9 C9 : Nat → Int32} (g1 : r ≤ 15 * k) (g2 : k ≤ 36) (g3 : P 0 = d 5) (g4 : ∀ i, i ≤ k → P i < cells d) (g10 : ∀ i, i < k → f_X12_nextOn c B9 C9 (iN (P i)) = some (iN (P (i + 1)))) : f_X12_sails_25 c (iN t) xF (iN (100 * r + k)) (iN (d 5)) 0 B9 C9 = some (iN (slE d P k k), B9, C9) := by
  have h36 := hd.c36
  rw [← g3]
  refine iter_run (g := g_X12_sails_25 c (iN t)) (z := fun _ _ _ _ _ => none) k (fun i (φ : Int32 → Int32 → Int32 → (Nat → Int32) → (Nat → Int32) → Option (Int32 × (Nat → Int32) × (Nat → Int32))) => φ (iN (100 * r + k)) (iN (P i)) (iN i) B9 C9 = some (iN (slE d P k (k - i)), B9, C9)) (by omega) (fun i F hi ih => ?_) (fun F => ?_)
  · have hp := g4 (i + 1) (by omega)
    have h4 := hd.2.1 (P (i + 1)) (by omega)
    rw [g_X12_sails_25, ck_y (by decide), iN_m100 (by omega) (by omega), if_neg (by rw [iN_le (by omega) (by omega)]; omega), g10 i hi, Option.bind_some, show (6 + iN (P (i + 1)) : Int32) = iN (6 + P (i + 1)) from iN_add 6 _, ck_iN (by omega) (by omega), iN_nn (by omega), hc _ (by omega), show (iN i + 1 : Int32) = iN (i + 1) from iN_add i 1]
    obtain ⟨j, hj⟩ : ∃ j, k - i = j + 1 := ⟨k - i - 1, by omega⟩
    rw [show k - (i + 1) = j by omega] at ih
    rw [hj, slE, show k - j = i + 1 by omega]
    by_cases q : d (6 + P (i + 1)) = 1
    · rw [if_pos (show iN (d (6 + P (i + 1))) = (1 : Int32) from congrArg iN q), if_pos q]
    · rw [if_neg (show ¬ iN (d (6 + P (i + 1))) = (1 : Int32) from iN_ne (by omega) (by decide) q), if_neg q]
      exact ih
  · rw [g_X12_sails_25, ck_y (by decide), iN_m100 (by omega) (by omega), if_pos (by rw [iN_le (by omega) (by omega)]; omega), Nat.sub_self, slE]
theorem slE_lt {P : Nat → Nat} {k N : Nat} (g4 : ∀ i, i ≤ k → P i < N) : ∀ j, slE d P k j < N
  | 0 => g4 k (Nat.le_refl _)
  | j + 1 => by
    rw [slE]
    split
    · exact g4 _ (by omega)
    · exact slE_lt g4 j
theorem q_sail (hd : dInv d) (hc : mRep d c) (hk : kRep d w T S Li Na By Of Fe Mi) (hs : sR T0 Tm L K) (x : Int32) (V3 T7 V8 V9 V10 B2 B3 : Nat → Int32) : ∃ v U W' T7' V8' V9' V10' Um B2' B3', f_X11_sail T0 T V3 Of Fe By T7 V8 V9 V10 S x = some (v, U, W', T7', V8', V9', V10') ∧ f_X12_sail Tm c B2 B3 x = some (v, Um, B2', B3') ∧ sR U Um L K := by
  have h36 := hd.c36
  have e2 := e12_isCell hd hc x
  by_cases hx : inR x (cells d)
  · rw [if_pos hx] at e2
    obtain ⟨t, ht, rfl⟩ := hx.eq (by omega)
    rcases e_why hd hc hk ht V3 T7 V8 V9 V10 B2 B3 with ⟨W, T9, P9, A9, E9, B9, C9, f1, f2⟩ | ⟨r, k, P, W, T9, P9, A9, E9, B9, C9, f1, f2, g1, g2, g3, g4, g5, g6, g7, g8, g9, g10, tW⟩
    · refine ⟨-1, upd T0 14 8, W, T9, P9, A9, E9, upd (upd (upd Tm 1 0) 0 0) 0 8, B9, C9, ?_, ?_, sR_no hs⟩
      · rw [f_X11_sail, f1]; rfl
      · rw [f_X12_sail, e2, Option.bind_some, if_neg (by decide), f_X12_sails, f2]; rfl
    · have hl := slE_lt (d := d) g4 k
      refine ⟨iN (slE d P k k), upd T0 14 0, W, T9, P9, A9, E9, upd (upd Tm 1 0) 0 0, B9, C9, ?_, ?_, sR_ok hs⟩
      · rw [f_X11_sail, f1, Option.bind_some, if_pos rfl]
        dsimp only
        rw [e6_sailedTo hd hk g2 g4 g5 g7]; rfl
      · rw [f_X12_sail, e2, Option.bind_some, if_neg (by decide), f_X12_sails, f2, Option.bind_some, if_neg (ne9 g1 g2), ck_y (show gd 5 1860 = true by decide), show (5 : Int32).toNatClampNeg = 5 by decide, hc 5 (by omega), e12_sailing hd hc t g1 g2 g3 g4 g10, Option.bind_some, if_pos (by rw [show (0 : Int32) = iN 0 from rfl, iN_le (by omega) (by omega)]; omega)]
  · rw [if_neg hx] at e2
    refine ⟨-1, upd T0 14 2, V3, T7, V8, V9, V10, upd (upd (upd Tm 1 0) 0 0) 0 2, B2, B3, ?_, ?_, sR_no hs⟩
    · rw [f_X11_sail, e_whyno hd hk hx]; rfl
    · rw [f_X12_sail, e2]; rfl
theorem q_comesIn (hd : dInv d) (hc : mRep d c) (hk : kRep d w T S Li Na By Of Fe Mi) (hs : sR T0 Tm L K) (hJ : J = M ∧ J' = M') (x : Int32) (V3 T7 V8 V9 V10 B2 B3 : Nat → Int32) : ∃ v U p q W' T7' V8' V9' V10' Um B2' B3', f_X11_comesIn T0 J J' T V3 Of Fe By T7 V8 V9 V10 x = some (v, U, p, q, W', T7', V8', V9', V10') ∧ f_X12_comesIn Tm M M' c B2 B3 x = some (v, Um, p, q, B2', B3') ∧ sR U Um L K := by
  have h36 := hd.c36
  have e2 := e12_isCell hd hc x
  obtain ⟨rfl, rfl⟩ := hJ
  by_cases hx : inR x (cells d)
  · rw [if_pos hx] at e2
    obtain ⟨t, ht, rfl⟩ := hx.eq (by omega)
    rcases e_why hd hc hk ht V3 T7 V8 V9 V10 B2 B3 with ⟨W, T9, P9, A9, E9, B9, C9, f1, f2⟩ | ⟨r, k, P, W, T9, P9, A9, E9, B9, C9, f1, f2, g1, g2, g3, g4, g5, g6, g7, g8, g9, g10, tW⟩
    · refine ⟨0, upd T0 14 8, J, J', W, T9, P9, A9, E9, upd (upd (upd Tm 1 0) 0 0) 0 8, B9, C9, ?_, ?_, sR_no hs⟩
      · rw [f_X11_comesIn, f1]; rfl
      · rw [f_X12_comesIn, e2, Option.bind_some, if_neg (by decide), f2]; rfl
    · by_cases h15 : k ≤ 15
      · have h16 : 16 ^ k ≤ 16 ^ 15 := Nat.pow_le_pow_right (by decide) h15
        have h0 : 0 < 16 ^ k := Nat.pow_pos (by decide)
        have hp := prd_le d P k
        obtain ⟨p, q, o1, o2⟩ := q_frac (T := T0) (J := J) (J' := J') (K := J) (K' := J') (a := prd d P k) (b := 16 ^ k) (by omega) (by omega) h0
        refine ⟨1, upd T0 14 0, p, q, W, T9, P9, A9, E9, upd (upd Tm 1 0) 0 0, B9, C9, ?_, ?_, sR_ok hs⟩
        · rw [f_X11_comesIn, f1, Option.bind_some, if_pos rfl]
          dsimp only
          rw [f_X6_cells, Option.bind_some, g5, if_pos (by rw [show (15 : Int32) = iN 15 from rfl, iN_le (by omega) (by omega)]; exact h15)]
          refine iter_run (g := g_X11_comesIn_43 T Of Fe By (iN t)) (z := fun _ _ _ _ _ _ _ _ _ _ _ => none) k (fun i (φ : Int64 → Int64 → Int32 → (Nat → Int32) → Int64 → Int64 → (Nat → Int32) → (Nat → Int32) → (Nat → Int32) → (Nat → Int32) → (Nat → Int32) → Option (Int32 × (Nat → Int32) × Int64 × Int64 × (Nat → Int32) × (Nat → Int32) × (Nat → Int32) × (Nat → Int32) × (Nat → Int32))) => φ (jN (prd d P i)) (jN (16 ^ i)) (iN (i + 1)) T0 J J' W T9 P9 A9 E9 = some (1, upd T0 14 0, p, q, W, T9, P9, A9, E9)) (by omega) (fun i F hi ih => ?_) (fun F => ?_)
          · have hr := risk_le d (P (i + 1))
            have hpi := g4 (i + 1) (by omega)
            rw [g_X11_comesIn_43, f_X6_cells, Option.bind_some, g5, if_neg (by rw [iN_lt (by omega) (by omega)]; omega), e6_cellAt g2 g5 (by omega), Option.bind_some, g7 _ (by omega), e7_riskOf tW (votesS_le hd _) (by omega), Option.bind_some, riskF_h hd, show (16 : Int32) = iN 16 from rfl, iN_sub hr, jN_i (by omega), jN_mul, show (16 : Int64) = jN 16 from rfl, jN_mul, show (iN (i + 1) + 1 : Int32) = iN (i + 1 + 1) from iN_add (i + 1) 1, ← Nat.pow_succ]
            exact ih
          · rw [g_X11_comesIn_43, f_X6_cells, Option.bind_some, g5, if_pos (by rw [iN_lt (by omega) (by omega)]; omega), o1]; rfl
        · rw [f_X12_comesIn, e2, Option.bind_some, if_neg (by decide), f2, Option.bind_some, if_neg (ne9 g1 g2), ck_y (by decide)]
          show (if iN (100 * r + k) - iN (100 * r + k) / 100 * 100 ≤ 15 then _ else _) = _
          rw [iN_m100 (by omega) (by omega), if_pos (by rw [show (15 : Int32) = iN 15 from rfl, iN_le (by omega) (by omega)]; exact h15), ck_y (show gd 5 1860 = true by decide), show (5 : Int32).toNatClampNeg = 5 by decide, hc 5 (by omega), ← g3]
          refine iter_run (g := g_X12_comesIn_76 c (iN t)) (z := fun _ _ _ _ _ _ _ _ _ _ => none) k (fun i (φ : Int32 → Int64 → Int64 → Int32 → Int32 → (Nat → Int32) → Int64 → Int64 → (Nat → Int32) → (Nat → Int32) → Option (Int32 × (Nat → Int32) × Int64 × Int64 × (Nat → Int32) × (Nat → Int32))) => φ (iN (100 * r + k)) (jN (prd d P i)) (jN (16 ^ i)) (iN (P i)) (iN i) (upd (upd Tm 1 0) 0 0) J J' B9 C9 = some (1, upd (upd Tm 1 0) 0 0, p, q, B9, C9)) (by omega) (fun i F hi ih => ?_) (fun F => ?_)
          · have hr := risk_le d (P (i + 1))
            have hpi := g4 (i + 1) (by omega)
            rw [g_X12_comesIn_76, ck_y (by decide), iN_m100 (by omega) (by omega), if_neg (by rw [iN_le (by omega) (by omega)]; omega), g10 i hi, Option.bind_some, ck_iN (by omega) (by omega), letv, iN_nn (by omega), g9 _ hpi, show (16 : Int32) = iN 16 from rfl, iN_sub hr, jN_i (by omega), jN_mul, show (16 : Int64) = jN 16 from rfl, jN_mul, show (iN i + 1 : Int32) = iN (i + 1) from iN_add i 1, ← Nat.pow_succ]
            exact ih
          · rw [g_X12_comesIn_76, ck_y (by decide), iN_m100 (by omega) (by omega), if_pos (by rw [iN_le (by omega) (by omega)]; omega), o2]; rfl
      · refine ⟨0, upd T0 14 9, J, J', W, T9, P9, A9, E9, upd (upd (upd Tm 1 0) 0 0) 0 9, B9, C9, ?_, ?_, sR_no hs⟩
        · rw [f_X11_comesIn, f1, Option.bind_some, if_pos rfl]
          dsimp only
          rw [f_X6_cells, Option.bind_some, g5, if_neg (by rw [show (15 : Int32) = iN 15 from rfl, iN_le (by omega) (by omega)]; exact h15)]; rfl
        · rw [f_X12_comesIn, e2, Option.bind_some, if_neg (by decide), f2, Option.bind_some, if_neg (ne9 g1 g2), ck_y (by decide)]
          show (if iN (100 * r + k) - iN (100 * r + k) / 100 * 100 ≤ 15 then _ else _) = _
          rw [iN_m100 (by omega) (by omega), if_neg (by rw [show (15 : Int32) = iN 15 from rfl, iN_le (by omega) (by omega)]; exact h15)]; rfl
  · rw [if_neg hx] at e2
    refine ⟨0, upd T0 14 2, J, J', V3, T7, V8, V9, V10, upd (upd (upd Tm 1 0) 0 0) 0 2, B2, B3, ?_, ?_, sR_no hs⟩
    · rw [f_X11_comesIn, e_whyno hd hk hx]; rfl
    · rw [f_X12_comesIn, e2]; rfl
end WAY5
