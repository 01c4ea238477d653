/-! The years read: what a line and a step have to do with each other; the pieces of a step. -/
/-- a step that holds no others: its numbers g in the model, its line in the class -/
def ySmV (nc nt : Nat) (g : Nat → Int32) (e f s t : Int32) : Prop := (g 0 = iN 0 ∧ e = iN 12 ∧ ∃ k, k < nt ∧ f = iN k ∧ g 1 = iN k) ∨ (g 0 = iN 1 ∧ e = iN 13 ∧ ∃ k, k < nt ∧ f = iN k ∧ g 1 = iN k) ∨ (g 0 = iN 2 ∧ e = iN 6 ∧ ∃ k x q, k < nt ∧ x < nc ∧ q < 4 ∧ f = iN k ∧ g 1 = iN k ∧ s = iN x ∧ g 2 = iN x ∧ t = iN q ∧ g 3 = iN q) ∨ (g 0 = iN 3 ∧ e = iN 14 ∧ ∃ x, x < nc ∧ f = iN x ∧ g 2 = iN x) ∨ (g 0 = iN 4 ∧ e = iN 15) ∨ (g 0 = iN 7 ∧ e = iN 22)
/-- a when or loop -/
def yHdV (nc nt : Nat) (g : Nat → Int32) (e f s : Int32) : Prop := (g 0 = iN 5 ∧ ((e = iN 5 ∧ g 5 = iN 0 ∧ ∃ k, k < nt ∧ f = iN k ∧ g 1 = iN k) ∨ (e = iN 18 ∧ g 5 = iN 1 ∧ ∃ x, x < nc ∧ f = iN x ∧ g 1 = iN x) ∨ (e = iN 17 ∧ g 5 = iN 2 ∧ ∃ x q, x < nc ∧ q < 4 ∧ f = iN x ∧ g 1 = iN x ∧ s = iN q ∧ g 3 = iN q) ∨ (e = iN 19 ∧ g 5 = iN 3 ∧ ∃ z v, (z = 60 ∨ z = 61 ∨ z = 62) ∧ v ≤ 36 ∧ f = iN z - 61 ∧ g 7 = iN z ∧ s = iN v ∧ g 6 = iN v))) ∨ (g 0 = iN 6 ∧ e = iN 20 ∧ ∃ v, 1 ≤ v ∧ v ≤ 99 ∧ f = iN v ∧ g 1 = iN v)
section YR1
variable {b : Nat → Nat} {n p q k : Nat} {V Vm T Tm R : Nat → Int32} {J Jm : Int64} {V2 : Nat → Int64} {d : Nat → Nat} {Na W : Nat → Int64} {c Td : Nat → Int32}
theorem mRep.b0 {d : Nat → Nat} {c : Nat → Int32} (h : mRep d c) {i : Nat} (hi : i < 100) : c (372 * 0 + i) = iN (d i) := by rw [Nat.mul_zero, Nat.zero_add]; exact h i hi
theorem y_name (hX : tX b n V Vm) (hC : cOk V2) (h : rdS b n p q k T J Tm Jm) (hd : dInv d) (hT : tRep d Td) (hN : ∀ i, i < d 2 → Na i = W i) (hc : mRep d c) : (∃ R' T' Tm', f_X10_takeName R T J Td Na V V2 = some (0, R', T', J) ∧ f_X12_readTraveller Tm Jm Vm c W 0 = some (0, Tm', Jm) ∧ flS T' Tm' ∧ frM Tm Tm') ∨ (∃ (i : Nat) (T' : Nat → Int32) (J' : Int64) (Tm' : Nat → Int32) (Jm' : Int64), i < d 2 ∧ f_X10_takeName R T J Td Na V V2 = some (1, upd R 4 (iN i), T', J') ∧ f_X12_readTraveller Tm Jm Vm c W 0 = some (iN i, Tm', Jm') ∧ nexts b n q T Tm T' J' Tm' Jm') := by
  have hm := hd.many
  rcases p_trav hX hC h (Td := Td) (c := c) (Na := Na) (w := W) (W := W) (B := 0) (m := d 2) (by decide) (by omega) hT.2.2.2.2.1 (hc.b0 (by omega)) hN (fun i hi => by rw [Nat.mul_zero, Nat.zero_add]) with ⟨T', Tm', i1, i2, i3, i4, i5⟩ | ⟨T', Tm', i1, i2, i3, i4, i5, i6⟩ | ⟨i, T2, J2, Tm2, Jm2, hi, i1, i2, i3, i4, i5⟩
  · refine Or.inl ⟨R, T', Tm', ?_, i3, i4, i5⟩
    rw [f_X10_takeName, i1, Option.bind_some, if_pos rfl, i2]; rfl
  · refine Or.inl ⟨upd R 4 (-1), T', Tm', ?_, i4, i5, i6⟩
    rw [f_X10_takeName, i1, Option.bind_some, if_neg (show ¬ (1 : Int32) = 0 by decide), f_X8_nameCode, Option.bind_some, i2, Option.bind_some, if_pos upd_s, i3]; rfl
  · refine Or.inr ⟨i, T2, J2, Tm2, Jm2, hi, ?_, i4, i5⟩
    rw [f_X10_takeName, i1, Option.bind_some, if_neg (show ¬ (1 : Int32) = 0 by decide), f_X8_nameCode, Option.bind_some, i2, Option.bind_some, if_neg (by rw [upd_s]; exact iN_ne_m1 (by omega)), i3]; rfl
theorem y_cell (hX : tX b n V Vm) (hC : cOk V2) (h : rdS b n p q k T J Tm Jm) (hd : dInv d) (hT : tRep d Td) (hc : mRep d c) : (∃ R' T' J' Tm' Jm', f_X10_takeCell R T J Td V V2 = some (0, R', T', J') ∧ f_X12_cellHere Tm Jm c Vm 0 = some (0, Tm', Jm') ∧ flS T' Tm' ∧ frM Tm Tm') ∨ (∃ (x : Nat) (T' : Nat → Int32) (J' : Int64) (Tm' : Nat → Int32) (Jm' : Int64), x < cells d ∧ f_X10_takeCell R T J Td V V2 = some (1, upd R 5 (iN x), T', J') ∧ f_X12_cellHere Tm Jm c Vm 0 = some (iN x, Tm', Jm') ∧ nexts b n q T Tm T' J' Tm' Jm') := by
  have t0 : Td 0 = iN (d 0) := hT.1
  have t1 : Td 1 = iN (d 1) := hT.2.1
  rcases p_cell hX hC h (c := c) (B := 0) (by decide) hd.1.1 hd.1.2.1 (hc.b0 (i := 0) (by omega)) (hc.b0 (i := 1) (by omega)) with ⟨T', Tm', c1, c2, c3, c4⟩ | ⟨v, T2, J2, hv, c1, c2, c3, h2⟩
  · have c2' : f_X12_readCell Tm Jm c Vm 0 = some (0, Tm', Jm) := c2
    refine Or.inl ⟨R, T', J, Tm', Jm, ?_, ?_, c3, c4⟩
    · rw [f_X10_takeCell, t0, c1, Option.bind_some, if_pos rfl]
    · rw [f_X12_cellHere, c2', Option.bind_some]
      dsimp only
      rw [b_must c3.b]; rfl
  · rcases h2 with ⟨T', Tm', Jm', d1, d2, d3, d4⟩ | ⟨u, Tm2, Jm2, hu, d1, d2, d3, fr3, fr4, p2, q2, hS2, hp2⟩
    · have d2' : f_X12_readCell Tm Jm c Vm 0 = some (0, Tm', Jm') := d2
      refine Or.inl ⟨R, T', J2, Tm', Jm', ?_, ?_, d3, d4⟩
      · rw [f_X10_takeCell, t0, c1, Option.bind_some, if_neg (show ¬ (1 : Int32) = 0 by decide), c2, Option.bind_some, c3, Option.bind_some]
        dsimp only
        rw [t1, d1, Option.bind_some, if_pos rfl]
      · rw [f_X12_cellHere, d2', Option.bind_some]
        dsimp only
        rw [b_must d3.b]; rfl
    · have d3' : f_X12_readCell Tm Jm c Vm 0 = some (iN (v * d 1 + u), Tm2, Jm2) := d3
      obtain ⟨T3, J3, Tm3, Jm3, e1, e2, fr5, fr6, p3, q3, k3, hS3, hp3⟩ := p_adv hX hC hS2
      refine Or.inr ⟨v * d 1 + u, T3, J3, Tm3, Jm3, mul_lt hv hu, ?_, ?_, fr3.t fr5, fr4.t fr6, p3, q3, k3, hS3, by have := tkS_pq hS2.1; omega⟩
      · rw [f_X10_takeCell, t0, c1, Option.bind_some, if_neg (show ¬ (1 : Int32) = 0 by decide), c2, Option.bind_some, c3, Option.bind_some]
        dsimp only
        rw [t1, d1, Option.bind_some, if_neg (show ¬ (1 : Int32) = 0 by decide), d2, Option.bind_some, e1, Option.bind_some, iN_mul, iN_add]
      · rw [f_X12_cellHere, d3', Option.bind_some]
        dsimp only
        rw [p_must1 hS2.2 e2]; rfl
theorem y_feel (hX : tX b n V Vm) (hC : cOk V2) (h : rdS b n p q k T J Tm Jm) : (∃ R' T' Tm', f_X10_takeFeeling R T J V V2 = some (0, R', T', J) ∧ f_X12_readFeeling Tm Jm Vm = some (0, Tm', Jm) ∧ flS T' Tm' ∧ frM Tm Tm') ∨ (∃ (g : Nat) (T' : Nat → Int32) (J' : Int64) (Tm' : Nat → Int32) (Jm' : Int64), g < 4 ∧ f_X10_takeFeeling R T J V V2 = some (1, upd R 6 (iN g), T', J') ∧ f_X12_readFeeling Tm Jm Vm = some (iN g, Tm', Jm') ∧ nexts b n q T Tm T' J' Tm' Jm') := by
  rcases p_feel hX hC h with ⟨T', Tm', a1, a2, a3, a4, a5⟩ | ⟨g, T1, J1, Tm1, Jm1, hg, a1, a2, a3, a4⟩
  · refine Or.inl ⟨upd R 6 (-1), T', Tm', ?_, a3, a4, a5⟩
    rw [f_X10_takeFeeling, a1, Option.bind_some, if_pos upd_s, a2]; rfl
  · refine Or.inr ⟨g, T1, J1, Tm1, Jm1, hg, ?_, a3, a4⟩
    rw [f_X10_takeFeeling, a1, Option.bind_some, if_neg (by rw [upd_s]; exact iN_ne_m1 (by omega)), a2]; rfl
theorem y_num (hX : tX b n V Vm) (hC : cOk V2) (h : rdS b n p q k T J Tm Jm) (lo hi : Int32) : (∃ R' T' Tm', f_X10_takeNumber R T J V V2 lo hi = some (0, R', T', J) ∧ f_X12_count Tm Jm Vm lo hi = some (0, Tm', Jm) ∧ flS T' Tm' ∧ frM Tm Tm') ∨ (∃ (v : Nat) (T' : Nat → Int32) (J' : Int64) (Tm' : Nat → Int32) (Jm' : Int64), (lo.toInt ≤ (v : Int) ∧ (v : Int) ≤ hi.toInt) ∧ f_X10_takeNumber R T J V V2 lo hi = some (1, upd R 8 (iN v), T', J') ∧ f_X12_count Tm Jm Vm lo hi = some (iN v, Tm', Jm') ∧ nexts b n q T Tm T' J' Tm' Jm') := by
  rcases p_num hX hC h lo hi with ⟨T', Tm', u1, u2, u3, u4⟩ | ⟨v, T3, J3, Tm3, Jm3, hk3, hv, hr, u1, u2, u3, u4, u5, u6, u7⟩
  · refine Or.inl ⟨R, T', Tm', ?_, u2, u3, u4⟩
    rw [f_X10_takeNumber, u1, Option.bind_some, if_pos rfl]
  · refine Or.inr ⟨v, T3, J3, Tm3, Jm3, hr, ?_, u6, u7⟩
    rw [f_X10_takeNumber, u1, Option.bind_some, if_neg (show ¬ (1 : Int32) = 0 by decide), u2, Option.bind_some, u4]; rfl
/-- a step more in the almanac -/
theorem e0_addStep {T3 De Fi Se Th Pa : Nat → Int32} {ns ln : Nat} (h1 : T3 1 = iN ns) (h2 : T3 2 = iN ln) (hl : ln < 60) (e f s t : Int32) : f_X0_addStep T3 De Fi Se Th Pa e f s t = some (1, upd (upd T3 1 (iN (ns + 1))) 2 (iN (ln + 1)), upd De ln e, upd Fi ln f, upd Se ln s, upd Th ln t, upd Pa ln (iN ln)) := by
  rw [f_X0_addStep, h1, show (iN ns + 1 : Int32) = iN (ns + 1) from iN_add ns 1, f_X0_addLine, upd_n (show 2 ≠ 1 by decide), h2, if_pos (by rw [show (60 : Int32) = iN 60 from rfl, iN_lt (by omega) (by omega)]; exact hl), ck_iN (by omega) (by omega), ck_iN (by omega) (by omega), ck_iN (by omega) (by omega), ck_iN (by omega) (by omega), ck_iN (by omega) (by omega), iN_nn (by omega), show (iN ln + 1 : Int32) = iN (ln + 1) from iN_add ln 1]
  rfl
/-- what a step's own numbers may change in the model -/
def frS (o : Nat) (c c' : Nat → Int32) : Prop := ∀ j, ¬ (o < j ∧ j < o + 8) → c' j = c j
theorem frS.r (o : Nat) (c : Nat → Int32) : frS o c c := fun _ _ => rfl
theorem frS.u {o : Nat} {c c' : Nat → Int32} (h : frS o c c') {f : Nat} (hf : 0 < f ∧ f < 8) (v : Int32) : frS o c (upd c' (o + f) v) := fun j hj => by rw [upd_n (by omega)]; exact h j hj
theorem frS.m {o : Nat} {c c' : Nat → Int32} (h : frS o c c') (ho : 100 ≤ o) (hm : mRep d c) : mRep d c' := fun j hj => by rw [h j (by omega)]; exact hm j hj
/-- what comes of a step's rest: the line that is added, or a fault -/
def rsR (b : Nat → Nat) (n nc nt ns ln o q : Nat) (hd : Bool) (R T T3 De Fi Se Th Pa Tm c : Nat → Int32) (cl : Option (Int32 × (Nat → Int32) × (Nat → Int32) × Int64 × (Nat → Int32) × (Nat → Int32) × (Nat → Int32) × (Nat → Int32) × (Nat → Int32) × (Nat → Int32))) (md : Option ((Nat → Int32) × Int64 × (Nat → Int32))) : Prop := (∃ (R' T' : Nat → Int32) (J' : Int64) (T3' De' Fi' Se' Th' Pa' Tm' : Nat → Int32) (Jm' : Int64) (c' : Nat → Int32), cl = some (0, R', T', J', T3', De', Fi', Se', Th', Pa') ∧ md = some (Tm', Jm', c') ∧ flS T' Tm' ∧ frM Tm Tm' ∧ frS o c c') ∨ (∃ (R' T' : Nat → Int32) (J' : Int64) (e f s t : Int32) (Tm' : Nat → Int32) (Jm' : Int64) (c' : Nat → Int32), cl = some (1, R', T', J', upd (upd T3 1 (iN (ns + 1))) 2 (iN (ln + 1)), upd De ln e, upd Fi ln f, upd Se ln s, upd Th ln t, upd Pa ln (iN ln)) ∧ md = some (Tm', Jm', c') ∧ R' 3 = R 3 ∧ (if hd = true then yHdV nc nt (fun f => c' (o + f)) e f s else ySmV nc nt (fun f => c' (o + f)) e f s t) ∧ frS o c c' ∧ nexts b n q T Tm T' J' Tm' Jm')
end YR1
