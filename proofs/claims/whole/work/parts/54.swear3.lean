/-! Calls: swear. -/
section SWR3
variable {d : Nat → Nat} {w Na : Nat → Int64} {c T T0 Tm S Li By Of Fe Mi : Nat → Int32} {L : Int32} {K : Int32 × Int32} {J J' M M' p q : Int64}
theorem e12_swear (hd : dInv d) (hc : mRep d c) (U : Nat → Int32) (V : Nat → Int64) {n k : Nat} (hn : n ≤ 12) (hk : k ≤ 12) (hf : f_X12_fraction M M' (jN (swK (swW (d 4) n) k (13 - k))) (jN (16 ^ n)) = some (1, p, q)) : ∃ W, f_X12_swear_45 c (iN n) (iN k) xF 1 0 U M M' V = some (1, U, p, q, W) := by
  have ho : d 4 ≤ 16 := hd.1.2.2.2.2.1
  have g4 : gd 4 1860 = true := by decide
  have n4 : (4 : Int32).toNatClampNeg = 4 := by decide
  have eo : (16 - c 4 : Int32) = iN (16 - d 4) := by rw [hc 4 (by omega), show (16 : Int32) = iN 16 from rfl, iN_sub ho]
  have fin : ∀ V9, swV (d 4) n V9 → f_X12_swear_169 c (iN n) (iN k) xF (jN (16 ^ n)) 0 (iN k) U M M' V9 = some (1, U, p, q, V9) := fun V9 hV9 => by
    refine iter_run (13 - k) (fun j (φ : Int64 → Int64 → Int32 → (Nat → Int32) → Int64 → Int64 → (Nat → Int64) → Option (Int32 × (Nat → Int32) × Int64 × Int64 × (Nat → Int64))) => φ (jN (16 ^ n)) (jN (swK (swW (d 4) n) k j)) (iN (k + j)) U M M' V9 = some (1, U, p, q, V9)) (by omega) (fun j G hj h9 => ?_) (fun G => ?_)
    · rw [g_X12_swear_169, if_neg (by rw [show (12 : Int32) = iN 12 from rfl, iN_lt (by omega) (by omega)]; omega), ck_iN (by omega) (by omega), iN_nn (by omega), hV9 _ (by omega), jN_add, show (iN (k + j) + 1 : Int32) = iN (k + j + 1) from iN_add (k + j) 1]
      exact h9
    · rw [g_X12_swear_169, if_pos (by rw [show (12 : Int32) = iN 12 from rfl, iN_lt (by omega) (by omega)]; omega), hf]; rfl
  have mid : ∀ V9, swV (d 4) 0 V9 → ∃ W, f_X12_swear_78 c (iN n) (iN k) xF 1 0 U M M' V9 = some (1, U, p, q, W) := fun V9 hV9 => by
    have l := iter_run (g := g_X12_swear_78 c (iN n) (iN k)) (z := fun _ _ _ _ _ _ => none) n (fun m (φ : Int64 → Int32 → (Nat → Int32) → Int64 → Int64 → (Nat → Int64) → Option (Int32 × (Nat → Int32) × Int64 × Int64 × (Nat → Int64))) => ∀ U9, swV (d 4) m U9 → ∃ W, φ (jN (16 ^ m)) (iN m) U M M' U9 = some (1, U, p, q, W)) (by omega) (fun m F hm h => fun U8 hU => ?_) (fun F => fun U8 hU => ?_)
    · exact l V9 hV9
    · have l2 := iter_run (g := g_X12_swear_88 c (iN n) (iN k) F) (z := fun _ _ _ _ _ _ _ => none) 13 (fun j (φ : Int64 → Int32 → Int32 → (Nat → Int32) → Int64 → Int64 → (Nat → Int64) → Option (Int32 × (Nat → Int32) × Int64 × Int64 × (Nat → Int64))) => ∀ U9, (∀ i, i < 13 → U9 i = jN (if 13 ≤ i + j then swW (d 4) (m + 1) i else swW (d 4) m i)) → ∃ W, φ (jN (16 ^ m)) (iN m) (dn j) U M M' U9 = some (1, U, p, q, W)) (by omega) (fun j G hj h9 => fun U9 hU9 => ?_) (fun G => fun U9 hU9 => ?_)
      · obtain ⟨W, hW⟩ := l2 U8 (fun i hi => by rw [if_neg (by omega)]; exact hU i hi)
        exact ⟨W, by rw [g_X12_swear_78, if_neg (by rw [iN_le (by omega) (by omega)]; omega)]; exact hW⟩
      · obtain ⟨t1, t2, t3⟩ := dn_tab j hj
        have hv := hU9 (12 - j) (by omega)
        rw [if_neg (by omega)] at hv
        obtain ⟨W, hW⟩ := h9 (vp_updL U9 (12 - j) (jN (swW (d 4) (m + 1) (12 - j)))) (fun i hi => by
          unfold vp_updL
          by_cases e : i = 12 - j
          · rw [if_pos e, if_pos (by omega), e]
          · rw [if_neg e, hU9 i hi]
            by_cases e2 : 13 ≤ i + j
            · rw [if_pos e2, if_pos (by omega)]
            · rw [if_neg e2, if_neg (by omega)])
        refine ⟨W, ?_⟩
        have ee : ∀ s : Nat, swW (d 4) m (12 - j) * (16 - d 4) + s = swW (d 4) (m + 1) (12 - j) → f_X12_swear_143 c (iN n) (iN k) F G (jN (16 ^ m)) (iN m) (dn j) (dn j) (jN (swW (d 4) m (12 - j) * (16 - d 4))) (jN s) U M M' U9 = some (1, U, p, q, W) := fun s hs => by
          rw [f_X12_swear_143, t3, t1, ck_iN (by omega) (by omega), iN_nn (by omega), jN_add, hs]
          exact hW
        rw [g_X12_swear_88, if_neg t2, t1, ck_iN (by omega) (by omega), iN_nn (by omega), ck_y g4, n4, eo, hv, jN_i (by omega), jN_mul, ← t1]
        by_cases e : j = 12
        · rw [if_pos (by rw [e]; decide)]
          refine ee 0 ?_
          rw [e, Nat.sub_self, swW, Nat.add_zero]
        · have hv2 := hU9 (12 - j - 1) (by omega)
          rw [if_neg (by omega)] at hv2
          rw [if_neg (by rw [t1, show (0 : Int32) = iN 0 from rfl, iN_le (by omega) (by omega)]; omega), show (dn j - 1 : Int32) = iN (12 - j - 1) from by rw [t1]; exact iN_sub (b := 1) (by omega), ck_iN (by omega) (by omega), ck_y g4, iN_nn (by omega), hv2, hc 4 (by omega), jN_i (by omega), jN_mul]
          refine ee _ ?_
          obtain ⟨r, hr⟩ : ∃ r, 12 - j = r + 1 := ⟨11 - j, by omega⟩
          rw [hr, swW, Nat.add_sub_cancel]
      · obtain ⟨W, hW⟩ := h U9 (fun i hi => by rw [hU9 i hi, if_pos (by omega)])
        refine ⟨W, ?_⟩
        rw [g_X12_swear_88, if_pos (by decide), show (iN m + 1 : Int32) = iN (m + 1) from iN_add m 1, show (16 : Int64) = jN 16 from rfl, jN_mul, ← Nat.pow_succ]
        exact hW
    · refine ⟨U8, ?_⟩
      rw [g_X12_swear_78, if_pos (by rw [iN_le (by omega) (by omega)]; omega)]
      exact fin U8 hU
  have l0 := iter_run (g := g_X12_swear_45 c (iN n) (iN k)) (z := fun _ _ _ _ _ _ => none) 13 (fun j (φ : Int64 → Int32 → (Nat → Int32) → Int64 → Int64 → (Nat → Int64) → Option (Int32 × (Nat → Int32) × Int64 × Int64 × (Nat → Int64))) => ∀ U9 : Nat → Int64, (∀ i, i < j → U9 i = jN (swW (d 4) 0 i)) → ∃ W, φ 1 (iN j) U M M' U9 = some (1, U, p, q, W)) (by omega) (fun j F hj h => fun U9 hU9 => ?_) (fun F => fun U9 hU9 => ?_)
  · exact l0 V (fun i hi => by omega)
  · obtain ⟨W, hW⟩ := h (vp_updL U9 j (jN (swW (d 4) 0 j))) (fun i hi => by
      unfold vp_updL
      by_cases e : i = j
      · rw [if_pos e, e]
      · rw [if_neg e]; exact hU9 i (by omega))
    refine ⟨W, ?_⟩
    rw [g_X12_swear_45, if_neg (by rw [show (12 : Int32) = iN 12 from rfl, iN_lt (by omega) (by omega)]; omega), f_X12_swear_68, f_X12_swear_68, ck_iN (by omega) (by omega), iN_nn (by omega), show (iN j + 1 : Int32) = iN (j + 1) from iN_add j 1]
    rw [swW] at hW
    by_cases e : j = 0
    · rw [if_pos (by rw [e]; rfl)]; rw [if_pos e] at hW; exact hW
    · rw [if_neg (by rw [show (0 : Int32) = iN 0 from rfl, iN_eq (by omega) (by omega)]; exact e), ck_iN (by omega) (by omega)]; rw [if_neg e] at hW; exact hW
  · obtain ⟨W, hW⟩ := mid U9 (fun i hi => hU9 i hi)
    refine ⟨W, ?_⟩
    rw [g_X12_swear_45, if_pos (by decide)]
    exact hW
theorem q_swear (hd : dInv d) (hc : mRep d c) (hT : tRep d T) (hs : sR T0 Tm L K) (hJ : J = M ∧ J' = M') (x y : Int32) (V Vm : Nat → Int64) : ∃ v U a b W Um Wm, f_X11_swear T0 J J' T V x y = some (v, U, a, b, W) ∧ f_X12_swear Tm M M' Vm c x y = some (v, Um, a, b, Wm) ∧ sR U Um L K := by
  have ho : d 4 ≤ 16 := hd.1.2.2.2.2.1
  have e1 := e_within_12 x
  have e2 := e_within_12 y
  have k1 := e_isIn_12 x
  have k2 := e_isIn_12 y
  obtain ⟨rfl, rfl⟩ := hJ
  by_cases hx : inR x 13
  · rw [if_pos hx] at e1 k1
    by_cases hy : inR y 13
    · rw [if_pos hy] at e2 k2
      obtain ⟨n, hn, rfl⟩ := hx.eq (by decide)
      obtain ⟨k, hk, rfl⟩ := hy.eq (by decide)
      obtain ⟨W, hW⟩ := e1_ways V (show n ≤ 12 by omega) (show k ≤ 12 by omega) ho
      have hb := swK_le (f := swW (d 4) n) k (swW_sum (d 4) ho n) (13 - k)
      have h16 : 16 ^ n ≤ 16 ^ 12 := Nat.pow_le_pow_right (by decide) (by omega)
      have h0 : 0 < 16 ^ n := Nat.pow_pos (by decide)
      obtain ⟨a, b, f1, f2⟩ := q_frac (T := T0) (J := J) (J' := J') (K := J) (K' := J') (a := swK (swW (d 4) n) k (13 - k)) (b := 16 ^ n) (by omega) (by omega) h0
      obtain ⟨Wm, hWm⟩ := e12_swear hd hc (upd (upd Tm 1 0) 0 0) Vm (show n ≤ 12 by omega) (show k ≤ 12 by omega) f2
      refine ⟨1, upd T0 14 0, a, b, W, upd (upd Tm 1 0) 0 0, Wm, ?_, ?_, sR_ok hs⟩
      · rw [f_X11_swear, e1, Option.bind_some, if_neg (by decide), e2, Option.bind_some, if_neg (by decide), hT.2.2.1, hW, Option.bind_some, e11_power (by omega), Option.bind_some, f1]; rfl
      · rw [f_X12_swear, k1, Option.bind_some, if_neg (by decide), k2, Option.bind_some, if_neg (by decide)]
        exact hWm
    · rw [if_neg hy] at e2 k2
      refine ⟨0, upd T0 14 5, J, J', V, upd (upd (upd Tm 1 0) 0 0) 0 5, Vm, ?_, ?_, sR_no hs⟩
      · rw [f_X11_swear, e1, Option.bind_some, if_neg (by decide), e2]; rfl
      · rw [f_X12_swear, k1, Option.bind_some, if_neg (by decide), k2]; rfl
  · rw [if_neg hx] at e1 k1
    refine ⟨0, upd T0 14 5, J, J', V, upd (upd (upd Tm 1 0) 0 0) 0 5, Vm, ?_, ?_, sR_no hs⟩
    · rw [f_X11_swear, e1]; rfl
    · rw [f_X12_swear, k1]; rfl
end SWR3
