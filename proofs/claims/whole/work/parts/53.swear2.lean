/-! swear: the class's numbers. -/
section SWR2
variable {d : Nat → Nat}
def swV (o n : Nat) (V : Nat → Int64) : Prop := ∀ i, i < 13 → V i = jN (swW o n i)
def dn (j : Nat) : Int32 := if j = 13 then -1 else iN (12 - j)
theorem dn_tab : ∀ j, j < 13 → dn j = iN (12 - j) ∧ ¬ dn j < 0 ∧ dn j + (-1) = dn (j + 1) := by decide +kernel
theorem e1_ways (V : Nat → Int64) {n k o : Nat} (hn : n ≤ 12) (hk : k ≤ 12) (ho : o ≤ 16) : ∃ W, f_X1_waysToSwear V (iN n) (iN k) (iN o) = some (jN (swK (swW o n) k (13 - k)), W) := by
  obtain ⟨W0, e0, h0⟩ := e7_fillL 13 (by decide) V 0
  have eo : (16 - iN o : Int32) = iN (16 - o) := by rw [show (16 : Int32) = iN 16 from rfl, iN_sub ho]
  have l := iter_run (g := g_X1_waysToSwear_18 (iN n) (iN k) (iN o)) (z := fun _ _ => none) n (fun m (φ : Int32 → (Nat → Int64) → Option (Int64 × (Nat → Int64))) => ∀ U, swV o m U → ∃ W, φ (iN m) U = some (jN (swK (swW o n) k (13 - k)), W)) (by omega) (fun m F hm h => fun U hU => ?_) (fun F => fun U hU => ?_)
  · obtain ⟨W, hW⟩ := l (vp_updL W0 0 1) (fun i hi => by
      unfold vp_updL
      by_cases e : i = 0
      · rw [if_pos e, e]; rfl
      · rw [if_neg e, h0 i hi, swW, if_neg e]; rfl)
    exact ⟨W, by rw [f_X1_waysToSwear, e0, Option.bind_some, ck_y (by decide)]; exact hW⟩
  · have l2 := iter_run (g := g_X1_waysToSwear_33 (iN n) (iN k) (iN o) F) (z := fun _ _ _ => none) 13 (fun j (φ : Int32 → Int32 → (Nat → Int64) → Option (Int64 × (Nat → Int64))) => ∀ U, (∀ i, i < 13 → U i = jN (if 13 ≤ i + j then swW o (m + 1) i else swW o m i)) → ∃ W, φ (iN m) (dn j) U = some (jN (swK (swW o n) k (13 - k)), W)) (by omega) (fun j G hj h9 => fun U9 hU9 => ?_) (fun G => fun U9 hU9 => ?_)
    · obtain ⟨W, hW⟩ := l2 U (fun i hi => by rw [if_neg (by omega)]; exact hU i hi)
      exact ⟨W, by rw [g_X1_waysToSwear_18, if_neg (by rw [iN_le (by omega) (by omega)]; omega)]; exact hW⟩
    · obtain ⟨t1, t2, t3⟩ := dn_tab j hj
      have hv := hU9 (12 - j) (by omega)
      rw [if_neg (by omega)] at hv
      obtain ⟨W, hW⟩ := h9 (vp_updL U9 (12 - j) (jN (swW o (m + 1) (12 - j)))) (fun i hi => by
        unfold vp_updL
        by_cases e : i = 12 - j
        · rw [if_pos e, if_pos (by omega), e]
        · rw [if_neg e, hU9 i hi]
          by_cases e2 : 13 ≤ i + j
          · rw [if_pos e2, if_pos (by omega)]
          · rw [if_neg e2, if_neg (by omega)])
      refine ⟨W, ?_⟩
      have ee : ∀ s : Nat, swW o m (12 - j) * (16 - o) + s * o = swW o (m + 1) (12 - j) → f_X1_waysToSwear_56 (iN n) (iN k) (iN o) F G (iN m) (dn j) (jN s) U9 = some (jN (swK (swW o n) k (13 - k)), W) := fun s hs => by
        rw [f_X1_waysToSwear_56, t3, t1, ck_iN (by omega) (by omega), ck_iN (by omega) (by omega), iN_nn (by omega), hv, eo, jN_i (by omega), jN_i (by omega), jN_mul, jN_mul, jN_add, hs]
        exact hW
      rw [g_X1_waysToSwear_33, if_neg t2]
      by_cases q : j = 12
      · rw [if_pos (by rw [q]; decide)]
        refine ee 0 ?_
        rw [q, Nat.sub_self, swW, Nat.zero_mul, Nat.add_zero]
      · have hv2 := hU9 (12 - j - 1) (by omega)
        rw [if_neg (by omega)] at hv2
        rw [if_neg (by rw [t1, show (0 : Int32) = iN 0 from rfl, iN_le (by omega) (by omega)]; omega), show (dn j - 1 : Int32) = iN (12 - j - 1) from by rw [t1]; exact iN_sub (b := 1) (by omega), ck_iN (by omega) (by omega), iN_nn (by omega), hv2]
        refine ee _ ?_
        obtain ⟨p, hp⟩ : ∃ p, 12 - j = p + 1 := ⟨11 - j, by omega⟩
        rw [hp, swW, Nat.add_sub_cancel]
    · obtain ⟨W, hW⟩ := h U9 (fun i hi => by rw [hU9 i hi, if_pos (by omega)])
      refine ⟨W, ?_⟩
      rw [g_X1_waysToSwear_33, if_pos (by decide), show (iN m + 1 : Int32) = iN (m + 1) from iN_add m 1]
      exact hW
  · refine ⟨U, ?_⟩
    have ew : (if 0 < iN k then iN k else 0 : Int32) = iN k := by
      by_cases e : k = 0
      · subst e; rfl
      · rw [if_pos (by rw [show (0 : Int32) = iN 0 from rfl, iN_lt (by omega) (by omega)]; omega)]
    have l3 := iter_run (g := g_X1_waysToSwear_106 (iN n) (iN k) (iN o)) (z := fun _ _ _ => none) (13 - k) (fun j (φ : Int64 → Int32 → (Nat → Int64) → Option (Int64 × (Nat → Int64))) => φ (jN (swK (swW o n) k j)) (iN (k + j)) U = some (jN (swK (swW o n) k (13 - k)), U)) (by omega) (fun j G hj h9 => ?_) (fun G => ?_)
    · rw [g_X1_waysToSwear_18, if_pos (by rw [iN_le (by omega) (by omega)]; omega), ew, letv]
      exact l3
    · rw [g_X1_waysToSwear_106, if_neg (by rw [show (13 : Int32) = iN 13 from rfl, iN_le (by omega) (by omega)]; omega), ck_iN (by omega) (by omega), iN_nn (by omega), hU _ (by omega), jN_add, show (iN (k + j) + 1 : Int32) = iN (k + j + 1) from iN_add (k + j) 1]
      exact h9
    · rw [g_X1_waysToSwear_106, if_pos (by rw [show (13 : Int32) = iN 13 from rfl, iN_le (by omega) (by omega)]; omega)]
theorem e11_power {n : Nat} (hn : n ≤ 12) : f_X11_power 16 (iN n) = some (jN (16 ^ n)) := by
  refine iter_run n (fun k (φ : Int64 → Int32 → Option Int64) => φ (jN (16 ^ k)) (iN k) = some (jN (16 ^ n))) (by omega) (fun k F hk h => ?_) (fun F => ?_)
  · rw [g_X11_power_5, if_neg (by rw [iN_le (by omega) (by omega)]; omega), show (iN k + 1 : Int32) = iN (k + 1) from iN_add k 1, show Int32.toInt64 16 = jN 16 from rfl, jN_mul, ← Nat.pow_succ]
    exact h
  · rw [g_X11_power_5, if_pos (by rw [iN_le (by omega) (by omega)]; omega)]
end SWR2
