/-! Readings: both sides go on from token to token, or find the same fault. -/
def frM (Tm Tm' : Nat → Int32) : Prop := ∀ j, (j < 12 ∨ 19 ≤ j) → Tm' j = Tm j
def frC (T T' : Nat → Int32) : Prop := ∀ j, j < 4 ∨ 8 ≤ j → T' j = T j
theorem frM.t {A B C : Nat → Int32} (h : frM A B) (h2 : frM B C) : frM A C := fun j hj => (h2 j hj).trans (h j hj)
theorem frC.t {A B C : Nat → Int32} (h : frC A B) (h2 : frC B C) : frC A C := fun j hj => (h2 j hj).trans (h j hj)
theorem frM.r (A : Nat → Int32) : frM A A := fun _ _ => rfl
theorem frC.r (A : Nat → Int32) : frC A A := fun _ _ => rfl
/-- a fault stands, the same on both sides -/
def flS (T Tm : Nat → Int32) : Prop := ∃ f, T 9 = iN f ∧ Tm 12 = iN f ∧ T 10 = Tm 13 ∧ 1 ≤ f ∧ f ≤ 7
def bad (T : Nat → Int32) : Prop := ∃ f, T 12 = iN f ∧ 1 ≤ f ∧ f ≤ 7
theorem flS.b {T Tm : Nat → Int32} (h : flS T Tm) : bad Tm := by
  obtain ⟨f, h1, h2, h3, h4, h5⟩ := h
  exact ⟨f, h2, h4, h5⟩
theorem bad.le {T : Nat → Int32} (h : bad T) : ¬ T 12 ≤ 0 := by
  obtain ⟨f, h1, h2, h3⟩ := h
  rw [h1, show (0 : Int32) = iN 0 from rfl, iN_le (by omega) (by omega)]; omega
theorem bad.ne {T : Nat → Int32} (h : bad T) : ¬ T 12 = 0 := by
  obtain ⟨f, h1, h2, h3⟩ := h
  rw [h1]
  exact iN_ne (b := 0) (by omega) (by decide) (by omega)
theorem bad.lt {T : Nat → Int32} (h : bad T) : 0 < T 12 := by
  obtain ⟨f, h1, h2, h3⟩ := h
  rw [h1, show (0 : Int32) = iN 0 from rfl, iN_lt (by omega) (by omega)]; omega
section BAD
variable {T : Nat → Int32} {J : Int64}
theorem b_fail (h : bad T) (x y : Int32) : f_X12_fail T x y = some T := by rw [f_X12_fail, if_neg h.le]
theorem b_amiss (h : bad T) : f_X12_amiss T = some T := by
  rw [f_X12_amiss, f_X12_amiss_14, f_X12_amiss_14, b_fail h, b_fail h]
  split <;> rfl
theorem b_must (h : bad T) (V : Nat → Int32) (x : Int32) : f_X12_must T J V x = some (T, J) := by rw [f_X12_must, if_neg h.le]
theorem b_count (h : bad T) (V : Nat → Int32) (x y : Int32) : f_X12_count T J V x y = some (0, T, J) := by
  rw [f_X12_count, if_neg h.ne, f_X12_count_19, if_neg h.ne, f_X12_count_50, if_neg h.le]
theorem b_perhaps (h : bad T) (V : Nat → Int32) (x : Int32) : f_X12_perhaps T J V x = some (0, T, J) := by rw [f_X12_perhaps, if_pos h.lt]
theorem b_readCell (h : bad T) (V1 V : Nat → Int32) {o : Int32} (hg : gd (372 * o) 1860 = true) : f_X12_readCell T J V1 V o = some (0, T, J) := by
  rw [f_X12_readCell, ck_y hg, b_count h, Option.bind_some, if_neg h.ne, f_X12_readCell_37, if_neg h.ne, f_X12_readCell_80, if_neg h.le]
theorem b_cellHere (h : bad T) (V1 V : Nat → Int32) {o : Int32} (hg : gd (372 * o) 1860 = true) : f_X12_cellHere T J V1 V o = some (0, T, J) := by
  rw [f_X12_cellHere, b_readCell h V1 V hg, Option.bind_some]
  dsimp only
  rw [b_must h]; rfl
theorem b_readTraveller (h : bad T) (V1 V2 : Nat → Int32) (V3 : Nat → Int64) (o : Int32) : f_X12_readTraveller T J V1 V2 V3 o = some (0, T, J) := by
  rw [f_X12_readTraveller, if_neg h.ne, f_X12_readTraveller_18, if_neg h.le]
theorem b_readFeeling (h : bad T) (V : Nat → Int32) : f_X12_readFeeling T J V = some (0, T, J) := by
  rw [f_X12_readFeeling, if_neg h.le, f_X12_readFeeling_15, if_neg (by decide), f_X12_readFeeling_26, b_must h]; rfl
theorem t_isWord (T : Nat → Int32) (J w : Int64) : f_X12_isWord T J w = some 0 ∨ f_X12_isWord T J w = some 1 := by
  rw [f_X12_isWord]
  repeat' split
  all_goals first | exact Or.inl rfl | exact Or.inr rfl
theorem t_isMissed (T : Nat → Int32) (J : Int64) : ∃ v, f_X12_isMissed T J = some v := by
  rw [f_X12_isMissed, show f_X12_spelled 109 105 115 115 101 100 = some (jN (wcd 7)) by decide +kernel, Option.bind_some]
  rcases t_isWord T J (jN (wcd 7)) with h | h <;> rw [h] <;> exact ⟨_, rfl⟩
theorem t_isLies (T : Nat → Int32) (J : Int64) : ∃ v, f_X12_isLies T J = some v := by
  rw [f_X12_isLies, show f_X12_spelled 108 105 101 115 0 0 = some (jN (wcd 4)) by decide +kernel, Option.bind_some]
  rcases t_isWord T J (jN (wcd 4)) with h | h <;> rw [h] <;> exact ⟨_, rfl⟩
theorem t_isHeard (T : Nat → Int32) (J : Int64) : ∃ v, f_X12_isHeard T J = some v := by
  rw [f_X12_isHeard, show f_X12_spelled 104 101 97 114 100 0 = some (jN (wcd 5)) by decide +kernel, Option.bind_some]
  rcases t_isWord T J (jN (wcd 5)) with h | h <;> rw [h] <;> exact ⟨_, rfl⟩
theorem t_isEnd (T : Nat → Int32) (J : Int64) : ∃ v, f_X12_isEnd T J = some v := by
  rw [f_X12_isEnd, show f_X12_spelled 101 110 100 0 0 0 = some (jN (wcd 21)) by decide +kernel, Option.bind_some]
  rcases t_isWord T J (jN (wcd 21)) with h | h <;> rw [h] <;> exact ⟨_, rfl⟩
theorem t_isSign (T : Nat → Int32) (x : Int32) : ∃ v, f_X12_isSign T x = some v := by
  rw [f_X12_isSign]
  repeat' split
  all_goals exact ⟨_, rfl⟩
end BAD
/-- the same token stands, no fault yet -/
def rdS (b : Nat → Nat) (n p q k : Nat) (T : Nat → Int32) (J : Int64) (Tm : Nat → Int32) (Jm : Int64) : Prop := tkS b n p q k T J Tm Jm ∧ Tm 12 = 0
section RD1
variable {b : Nat → Nat} {n p q k : Nat} {V Vm T Tm : Nat → Int32} {J Jm : Int64} {V2 : Nat → Int64}
/-- both go on to the next token -/
def nexts (b : Nat → Nat) (n q : Nat) (T Tm T' : Nat → Int32) (J' : Int64) (Tm' : Nat → Int32) (Jm' : Int64) : Prop := frC T T' ∧ frM Tm Tm' ∧ ∃ p' q' k', rdS b n p' q' k' T' J' Tm' Jm' ∧ q ≤ p'
theorem p_adv0 (hX : tX b n V Vm) (hC : cOk V2) {q : Nat} (hq : q ≤ n) (h3 : T 3 = iN n) (h6 : T 6 = iN q) (h9 : Tm 9 = iN n) (h16 : Tm 16 = iN q) (h12 : Tm 12 = 0) (J Jm : Int64) : ∃ T' J' Tm' Jm', f_X8_advance T J V V2 = some (T', J') ∧ f_X12_advance Tm Jm Vm = some (Tm', Jm') ∧ nexts b n q T Tm T' J' Tm' Jm' := by
  obtain ⟨p', q', k', hN⟩ := nxT_ex b hq
  obtain ⟨T', J', a1, a2, a3⟩ := e8_advance hX hC hN T J h3 h6
  obtain ⟨Tm', Jm', m1, m2, m3⟩ := e12_advance hX hN Tm Jm h9 h16
  refine ⟨T', J', Tm', Jm', a1, m1, fun j hj => a3 j (by omega) (by omega) (by omega) (by omega), fun j hj => m3 j (by omega) (by omega) (by omega) (by omega) (by omega), p', q', k', ⟨⟨⟨q, hN⟩, a2, m2, ?_, ?_⟩, ?_⟩, hN.1.1⟩
  · rw [a3 3 (by omega) (by omega) (by omega) (by omega), h3]
  · rw [m3 9 (by omega) (by omega) (by omega) (by omega) (by omega), h9]
  · rw [m3 12 (by omega) (by omega) (by omega) (by omega) (by omega), h12]
theorem p_adv (hX : tX b n V Vm) (hC : cOk V2) (h : rdS b n p q k T J Tm Jm) : ∃ T' J' Tm' Jm', f_X8_advance T J V V2 = some (T', J') ∧ f_X12_advance Tm Jm Vm = some (Tm', Jm') ∧ nexts b n q T Tm T' J' Tm' Jm' := p_adv0 hX hC h.1.le.2.2.1 h.1.2.2.2.1 h.1.2.1.2.2.1 h.1.2.2.2.2 h.1.2.2.1.2.2.1 h.2 J Jm
theorem p_must1 {Tm' : Nat → Int32} {Jm' : Int64} (h12 : Tm 12 = 0) (h : f_X12_advance Tm Jm Vm = some (Tm', Jm')) : f_X12_must Tm Jm Vm 1 = some (Tm', Jm') := by
  rw [f_X12_must, h12, if_pos (by decide), if_neg (by decide), h]; rfl
theorem p_blame (h : rdS b n p q k T J Tm Jm) {w : Nat} (hw : 1 ≤ w ∧ w ≤ 7) : ∃ T' Tm', f_X8_blame T (iN w) = some (0, T') ∧ f_X12_fail Tm (iN (if k = 4 then 1 else w)) (Tm 15) = some Tm' ∧ flS T' Tm' ∧ frM Tm Tm' := by
  have hl := h.1.le
  have h8 := h.1.2.1
  have hm := h.1.2.2.1
  have e2 : f_X12_fail Tm (iN (if k = 4 then 1 else w)) (Tm 15) = some (upd (upd Tm 12 (iN (if k = 4 then 1 else w))) 13 (iN p)) := by rw [f_X12_fail, h.2, if_pos (by decide), hm.2.1]
  have fin : ∀ (f : Nat), f = (if k = 4 then 1 else w) → 1 ≤ f → f ≤ 7 → flS (upd (upd T 9 (iN f)) 10 (iN p)) (upd (upd Tm 12 (iN (if k = 4 then 1 else w))) 13 (iN p)) := fun f hf h1 h7 => ⟨f, by rw [upd_n (by decide), upd_s], by rw [upd_n (by decide), upd_s, hf], by rw [upd_s, upd_s], h1, h7⟩
  have fr : frM Tm (upd (upd Tm 12 (iN (if k = 4 then 1 else w))) 13 (iN p)) := fun j hj => by rw [upd_n (by omega), upd_n (by omega)]
  by_cases e : k = 4
  · refine ⟨upd (upd T 9 (iN 1)) 10 (iN p), _, ?_, e2, fin 1 (by rw [if_pos e]) (by omega) (by omega), fr⟩
    rw [f_X8_blame, h8.1, if_pos (show iN k = (4 : Int32) from congrArg iN e), f_X8_blame_14, upd_n (show 5 ≠ 9 by decide), h8.2.1]; rfl
  · refine ⟨upd (upd T 9 (iN w)) 10 (iN p), _, ?_, e2, fin w (by rw [if_neg e]) (by omega) (by omega), fr⟩
    rw [f_X8_blame, h8.1, if_neg (show ¬ iN k = (4 : Int32) from iN_ne (by omega) (by decide) e), f_X8_blame_14, upd_n (show 5 ≠ 9 by decide), h8.2.1]
theorem p_fail (h : rdS b n p q k T J Tm Jm) {w : Nat} (hw : 1 ≤ w ∧ w ≤ 7) (hk : ¬ k = 4) : ∃ T' Tm', f_X8_blame T (iN w) = some (0, T') ∧ f_X12_fail Tm (iN w) (Tm 15) = some Tm' ∧ flS T' Tm' ∧ frM Tm Tm' := by
  have := p_blame h hw
  rw [if_neg hk] at this
  exact this
theorem p_amiss (h : rdS b n p q k T J Tm Jm) : ∃ T' Tm', f_X8_blame T 2 = some (0, T') ∧ f_X12_amiss Tm = some Tm' ∧ flS T' Tm' ∧ frM Tm Tm' := by
  obtain ⟨T', Tm', h1, h2, h3, h4⟩ := p_blame h (w := 2) (by decide)
  refine ⟨T', Tm', h1, ?_, h3, h4⟩
  have hl := h.1.le
  have hm := h.1.2.2.1
  rw [f_X12_amiss, hm.1, f_X12_amiss_14, f_X12_amiss_14]
  by_cases e : k = 4
  · rw [if_pos e] at h2
    rw [if_pos (show iN k = (4 : Int32) from congrArg iN e), show (1 : Int32) = iN 1 from rfl, h2]; rfl
  · rw [if_neg e] at h2
    rw [if_neg (show ¬ iN k = (4 : Int32) from iN_ne (by omega) (by decide) e), show (2 : Int32) = iN 2 from rfl, h2]; rfl
theorem p_must0 (h : rdS b n p q k T J Tm Jm) {Tm' : Nat → Int32} (h1 : f_X12_amiss Tm = some Tm') : f_X12_must Tm Jm Vm 0 = some (Tm', Jm) := by
  rw [f_X12_must, h.2, if_pos (by decide), if_pos rfl, h1]; rfl
theorem nvw_4 (h : rdS b n p q k T J Tm Jm) (hk : k = 2) : nvw b p (q - p) ≤ 9999 := by
  obtain ⟨w1, w2, w3, w4⟩ := h.1.num hk
  have h1 := nvw_lt (b := b) (p := p) (q - p) (fun j hj => w4 (p + j) (by omega) (by omega))
  have h2 : 10 ^ (q - p) ≤ 10 ^ 4 := Nat.pow_le_pow_right (by decide) w3
  omega
/-- a number that can be, or a fault -/
theorem p_num (hX : tX b n V Vm) (hC : cOk V2) (h : rdS b n p q k T J Tm Jm) (lo hi : Int32) : (∃ T' Tm', f_X8_isNumber T lo hi = some (0, T') ∧ f_X12_count Tm Jm Vm lo hi = some (0, Tm', Jm) ∧ flS T' Tm' ∧ frM Tm Tm') ∨ (∃ (v : Nat) (T' : Nat → Int32) (J' : Int64) (Tm' : Nat → Int32) (Jm' : Int64), k = 2 ∧ v ≤ 9999 ∧ (lo.toInt ≤ (v : Int) ∧ (v : Int) ≤ hi.toInt) ∧ f_X8_isNumber T lo hi = some (1, T) ∧ f_X8_number T = some (iN v) ∧ Tm 17 = iN v ∧ f_X8_advance T J V V2 = some (T', J') ∧ f_X12_advance Tm Jm Vm = some (Tm', Jm') ∧ f_X12_count Tm Jm Vm lo hi = some (iN v, Tm', Jm') ∧ nexts b n q T Tm T' J' Tm' Jm') := by
  have hl := h.1.le
  have h8 := h.1.2.1
  have hm := h.1.2.2.1
  by_cases hk : k = 2
  · have hv := nvw_4 h hk
    have t7 := h8.2.2.2.2.1 hk
    have m17 := hm.2.2.2.2.1 hk
    have hw := e_within_i (iN (nvw b p (q - p))) lo hi
    have hI := e_isIn_i (Int32.toInt64 (iN (nvw b p (q - p)))) (Int32.toInt64 lo) (Int32.toInt64 hi)
    rw [Int32.toInt_toInt64, Int32.toInt_toInt64, Int32.toInt_toInt64] at hI
    rw [iN_int (by omega)] at hw hI
    by_cases e : lo.toInt ≤ (nvw b p (q - p) : Int) ∧ (nvw b p (q - p) : Int) ≤ hi.toInt
    · rw [if_pos e] at hw hI
      obtain ⟨T', J', Tm', Jm', a1, a2, a3⟩ := p_adv hX hC h
      refine Or.inr ⟨nvw b p (q - p), T', J', Tm', Jm', hk, hv, e, ?_, ?_, m17, a1, a2, ?_, a3⟩
      · rw [f_X8_isNumber, h8.1, if_pos (show iN k = (2 : Int32) from congrArg iN hk), t7, hw, Option.bind_some, if_neg (by decide)]
      · rw [f_X8_number, h8.1, if_pos (show iN k = (2 : Int32) from congrArg iN hk), t7]
      · rw [f_X12_count, h.2, if_pos rfl, hm.1, if_pos (show iN k = (2 : Int32) from congrArg iN hk), f_X12_count_19, h.2, if_pos rfl, m17, hI, Option.bind_some, if_neg (by decide), f_X12_count_50, h.2, if_pos (by decide), a2, m17]; rfl
    · rw [if_neg e] at hw hI
      obtain ⟨T', Tm', b1, b2, b3, b4⟩ := p_fail h (w := 4) (by decide) (by omega)
      refine Or.inl ⟨T', Tm', ?_, ?_, b3, b4⟩
      · rw [f_X8_isNumber, h8.1, if_pos (show iN k = (2 : Int32) from congrArg iN hk), t7, hw, Option.bind_some, if_pos rfl, show (4 : Int32) = iN 4 from rfl, b1]; rfl
      · rw [f_X12_count, h.2, if_pos rfl, hm.1, if_pos (show iN k = (2 : Int32) from congrArg iN hk), f_X12_count_19, h.2, if_pos rfl, m17, hI, Option.bind_some, if_pos rfl, show (4 : Int32) = iN 4 from rfl, b2, Option.bind_some, f_X12_count_50, if_neg b3.b.le]
  · obtain ⟨T', Tm', b1, b2, b3, b4⟩ := p_amiss h
    refine Or.inl ⟨T', Tm', ?_, ?_, b3, b4⟩
    · rw [f_X8_isNumber, h8.1, if_neg (show ¬ iN k = (2 : Int32) from iN_ne (by omega) (by decide) hk), b1]; rfl
    · rw [f_X12_count, h.2, if_pos rfl, hm.1, if_neg (show ¬ iN k = (2 : Int32) from iN_ne (by omega) (by decide) hk), b2, Option.bind_some, f_X12_count_19, if_neg b3.b.ne, f_X12_count_50, if_neg b3.b.le]
theorem sgn_b : ∀ m, m < 256 → kd m = 3 → (m = 59 ∨ m = 60 ∨ m = 61 ∨ m = 62) := fun m _ h => by
  unfold kd at h
  split at h
  · omega
  · split at h
    · omega
    · split at h <;> omega
/-- a sign must stand here -/
theorem p_sign (hX : tX b n V Vm) (hC : cOk V2) (h : rdS b n p q k T J Tm Jm) : (∃ T' Tm' s, f_X8_passSign T J V V2 59 = some (0, T', J) ∧ f_X12_isSign Tm 59 = some s ∧ f_X12_must Tm Jm Vm s = some (Tm', Jm) ∧ flS T' Tm' ∧ frM Tm Tm') ∨ (∃ T' J' Tm' Jm' s, ¬ k = 0 ∧ f_X8_passSign T J V V2 59 = some (1, T', J') ∧ f_X12_isSign Tm 59 = some s ∧ f_X12_must Tm Jm Vm s = some (Tm', Jm') ∧ nexts b n q T Tm T' J' Tm' Jm') := by
  have hl := h.1.le
  have h8 := h.1.2.1
  have hm := h.1.2.2.1
  have hn := hX.1
  obtain ⟨T2, Tm2, b1, b2, b3, b4⟩ := p_amiss h
  have no : f_X8_passSign_16 V V2 59 T J = some (0, T2, J) := by rw [f_X8_passSign_16, b1]; rfl
  by_cases hk : k = 3
  · have hkd := h.1.sign hk
    have t7 := h8.2.2.2.2.2 hk
    have m17 := hm.2.2.2.2.2 hk
    have hp : p < n := by
      apply Classical.byContradiction
      intro h9
      have := hl.2.2.2.1
      omega
    have hb := (hX.2 p hp).1
    by_cases e : b p = 59
    · obtain ⟨T', J', Tm', Jm', a1, a2, a3⟩ := p_adv hX hC h
      refine Or.inr ⟨T', J', Tm', Jm', 1, by omega, ?_, ?_, p_must1 h.2 a2, a3⟩
      · rw [f_X8_passSign, h8.1, if_pos (show iN k = (3 : Int32) from congrArg iN hk), t7, if_pos (show iN (b p) = (59 : Int32) from congrArg iN e), a1]; rfl
      · rw [f_X12_isSign, hm.1, if_pos (show iN k = (3 : Int32) from congrArg iN hk), m17, if_pos (show iN (b p) = (59 : Int32) from congrArg iN e)]
    · refine Or.inl ⟨T2, Tm2, 0, ?_, ?_, p_must0 h b2, b3, b4⟩
      · rw [f_X8_passSign, h8.1, if_pos (show iN k = (3 : Int32) from congrArg iN hk), t7, if_neg (show ¬ iN (b p) = (59 : Int32) from iN_ne (by omega) (by decide) e), no]
      · rw [f_X12_isSign, hm.1, if_pos (show iN k = (3 : Int32) from congrArg iN hk), m17, if_neg (show ¬ iN (b p) = (59 : Int32) from iN_ne (by omega) (by decide) e)]
  · refine Or.inl ⟨T2, Tm2, 0, ?_, ?_, p_must0 h b2, b3, b4⟩
    · rw [f_X8_passSign, h8.1, if_neg (show ¬ iN k = (3 : Int32) from iN_ne (by omega) (by decide) hk), no]
    · rw [f_X12_isSign, hm.1, if_neg (show ¬ iN k = (3 : Int32) from iN_ne (by omega) (by decide) hk)]
end RD1
