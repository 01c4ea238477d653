/-! Lives: a line's numbers. -/
section LIF4
variable {T2 V : Nat → Int32} {ln l : Nat}
theorem e0_has (h2 : T2 2 = iN ln) (hn : ln ≤ 60) (hl : l < ln) : f_X0_hasLine T2 (iN l) = some 1 := by
  rw [f_X0_hasLine, h2, e_within_n (iN l) (n := ln) (by omega), if_pos (by rw [inR_iN (by omega)]; exact hl)]; rfl
theorem e0_hasno (h2 : T2 2 = iN ln) (hn : ln ≤ 60) : f_X0_hasLine T2 (iN ln) = some 0 := by
  rw [f_X0_hasLine, h2, e_within_n (iN ln) (n := ln) (by omega), if_neg (by rw [inR_iN (by omega)]; omega)]; rfl
theorem e0_deed (h2 : T2 2 = iN ln) (hn : ln ≤ 60) (hl : l < ln) : f_X0_deed T2 V (iN l) = some (V l) := by
  rw [f_X0_deed, e0_has h2 hn hl, Option.bind_some, if_neg (show ¬ (1 : Int32) = 0 by decide), ck_iN (by omega) (by omega), iN_nn (by omega)]
theorem e0_first (h2 : T2 2 = iN ln) (hn : ln ≤ 60) (hl : l < ln) : f_X0_first T2 V (iN l) = some (V l) := by
  rw [f_X0_first, e0_has h2 hn hl, Option.bind_some, if_neg (show ¬ (1 : Int32) = 0 by decide), ck_iN (by omega) (by omega), iN_nn (by omega)]
theorem e0_second (h2 : T2 2 = iN ln) (hn : ln ≤ 60) (hl : l < ln) : f_X0_second T2 V (iN l) = some (V l) := by
  rw [f_X0_second, e0_has h2 hn hl, Option.bind_some, if_neg (show ¬ (1 : Int32) = 0 by decide), ck_iN (by omega) (by omega), iN_nn (by omega)]
theorem e0_third (h2 : T2 2 = iN ln) (hn : ln ≤ 60) (hl : l < ln) : f_X0_third T2 V (iN l) = some (V l) := by
  rw [f_X0_third, e0_has h2 hn hl, Option.bind_some, if_neg (show ¬ (1 : Int32) = 0 by decide), ck_iN (by omega) (by omega), iN_nn (by omega)]
theorem e0_partner (h2 : T2 2 = iN ln) (hn : ln ≤ 60) (hl : l < ln) : f_X0_partner T2 V (iN l) = some (V l) := by
  rw [f_X0_partner, e0_has h2 hn hl, Option.bind_some, if_neg (show ¬ (1 : Int32) = 0 by decide), ck_iN (by omega) (by omega), iN_nn (by omega)]
end LIF4
