/-! The years read: the class's loop, turn by turn; an end. -/
def yK (V : Nat → Int32) (V2 : Nat → Int64) (Td : Nat → Int32) (Na : Nat → Int64) (n i : Nat) (R T : Nat → Int32) (J : Int64) (T3 De Fi Se Th Pa Op : Nat → Int32) : Option (Int32 × (Nat → Int32) × (Nat → Int32) × Int64 × (Nat → Int32) × (Nat → Int32) × (Nat → Int32) × (Nat → Int32) × (Nat → Int32) × (Nat → Int32) × (Nat → Int32)) := iter (g_X10_take_18 Td V V2 Na (iN n)) (fun _ _ _ _ _ _ _ _ _ _ _ => none) (4000000 - i) (iN i) R T J T3 De Fi Se Th Pa Op
section YR7
variable {b : Nat → Nat} {n p q k i : Nat} {V Vm T Tm R : Nat → Int32} {J Jm : Int64} {V2 : Nat → Int64} {d : Nat → Nat} {Na W : Nat → Int64} {c Td T3 De Fi Se Th Pa Op : Nat → Int32} {ns ln o dd : Nat}
theorem yK_0 (h : rdS b n p q k T J Tm Jm) (hn : n ≤ 900) (hi : i ≤ p) (hk : k = 0) : yK V V2 Td Na n i R T J T3 De Fi Se Th Pa Op = f_X10_take_73 Td V V2 Na (iN n) R T J T3 De Fi Se Th Pa Op := by
  have hl := h.1.le
  unfold yK
  rw [show 4000000 - i = (4000000 - (i + 1)) + 1 by omega, iter_succ, g_X10_take_18]
  by_cases e : n ≤ i
  · rw [if_pos (by rw [iN_le (by omega) (by omega)]; exact e)]
  · rw [if_neg (by rw [iN_le (by omega) (by omega)]; exact e), f_X8_atEnd, if_pos (show T 4 = 0 by rw [h.1.2.1.1, hk]; rfl), Option.bind_some, if_neg (by decide)]
theorem yK_1 (h : rdS b n p q k T J Tm Jm) (hn : n ≤ 900) (hi : i ≤ p) (hk : ¬ k = 0) : yK V V2 Td Na n i R T J T3 De Fi Se Th Pa Op = if k = 1 ∧ wx b p q = 21 then (f_X10_takeEnd R T J Op T3 De Fi Se Th Pa V V2).bind (fun z53 => if z53.1 = 0 then some (0, z53.2.1, z53.2.2.1, z53.2.2.2.1, z53.2.2.2.2.1, z53.2.2.2.2.2.1, z53.2.2.2.2.2.2.1, z53.2.2.2.2.2.2.2.1, z53.2.2.2.2.2.2.2.2.1, z53.2.2.2.2.2.2.2.2.2, Op) else yK V V2 Td Na n (i + 1) z53.2.1 z53.2.2.1 z53.2.2.2.1 z53.2.2.2.2.1 z53.2.2.2.2.2.1 z53.2.2.2.2.2.2.1 z53.2.2.2.2.2.2.2.1 z53.2.2.2.2.2.2.2.2.1 z53.2.2.2.2.2.2.2.2.2 Op) else (f_X10_takeStep R T J T3 V V2 Td Na De Fi Se Th Pa Op).bind (fun z61 => if z61.1 = 0 then some (0, z61.2.1, z61.2.2.1, z61.2.2.2.1, z61.2.2.2.2.1, z61.2.2.2.2.2.1, z61.2.2.2.2.2.2.1, z61.2.2.2.2.2.2.2.1, z61.2.2.2.2.2.2.2.2.1, z61.2.2.2.2.2.2.2.2.2.1, z61.2.2.2.2.2.2.2.2.2.2) else yK V V2 Td Na n (i + 1) z61.2.1 z61.2.2.1 z61.2.2.2.1 z61.2.2.2.2.1 z61.2.2.2.2.2.1 z61.2.2.2.2.2.2.1 z61.2.2.2.2.2.2.2.1 z61.2.2.2.2.2.2.2.2.1 z61.2.2.2.2.2.2.2.2.2.1 z61.2.2.2.2.2.2.2.2.2.2) := by
  have hl := h.1.le
  have hw := e8_isWord h.1 (i := 21) (by decide)
  have hw' : f_X8_isWord T 21 = some (if k = 1 ∧ wx b p q = 21 then 1 else 0) := hw
  have hp : ¬ p = n := fun e => hk (hl.2.2.2.1.mpr e)
  have e1 : (iN i + 1 : Int32) = iN (i + 1) := iN_add i 1
  unfold yK
  rw [show 4000000 - i = (4000000 - (i + 1)) + 1 by omega, iter_succ, g_X10_take_18, if_neg (by rw [iN_le (by omega) (by omega)]; omega), f_X8_atEnd, if_neg (show ¬ T 4 = 0 by rw [h.1.2.1.1]; exact iN_ne (b := 0) (by omega) (by decide) hk), Option.bind_some, if_pos rfl, hw', Option.bind_some]
  by_cases e : k = 1 ∧ wx b p q = 21
  · rw [if_pos e, if_pos e, if_neg (show ¬ (1 : Int32) = 0 by decide)]
    refine congrArg (Option.bind _) (funext fun z => ?_)
    rw [f_X10_take_58, e1]
  · rw [if_neg e, if_neg e, if_pos rfl]
    refine congrArg (Option.bind _) (funext fun z => ?_)
    rw [f_X10_take_58, e1]
theorem y_end (hX : tX b n V Vm) (hC : cOk V2) (h : rdS b n p q k T J Tm Jm) (he : k = 1 ∧ wx b p q = 21) (hR : R 3 = iN (dd + 1)) (hdd : dd + 1 ≤ 3) {l0 r : Nat} (hO : Op dd = iN l0) (h2 : T3 2 = iN r) (h0 : l0 < r) (hr : r < 60) (ho : o + 8 < 1860) (rec : (Nat → Int32) → Int64 → (Nat → Int32) → (Nat → Int32) → (Nat → Int64) → Int32 → Option ((Nat → Int32) × Int64 × (Nat → Int32))) (y : Int32) : (∃ (R' T' : Nat → Int32) (J' : Int64) (T3' De' Fi' Se' Th' Pa' Tm' : Nat → Int32) (Jm' : Int64), f_X10_takeEnd R T J Op T3 De Fi Se Th Pa V V2 = some (0, R', T', J', T3', De', Fi', Se', Th', Pa') ∧ f_X12_readStep_169 rec Vm W y 1 (iN o) Tm Jm c = some (Tm', Jm', upd c (o + 8) (Tm' 26)) ∧ flS T' Tm' ∧ frM Tm Tm') ∨ (∃ (T' : Nat → Int32) (J' : Int64) (Tm' : Nat → Int32) (Jm' : Int64), f_X10_takeEnd R T J Op T3 De Fi Se Th Pa V V2 = some (1, upd R 3 (iN dd), T', J', upd T3 2 (iN (r + 1)), upd De r 21, upd Fi r 0, upd Se r 0, upd Th r 0, upd (upd (upd Pa r (iN r)) r (iN l0)) l0 (iN r)) ∧ f_X12_readStep_169 rec Vm W y 1 (iN o) Tm Jm c = some (Tm', Jm', upd c (o + 8) (Tm' 26)) ∧ nexts b n q T Tm T' J' Tm' Jm') := by
  have hme := e12_isEnd h.1
  rw [if_pos he] at hme
  have ed : ((iN (dd + 1) : Int32) - 1) = iN dd := by
    rw [show (iN (dd + 1) : Int32) = iN dd + 1 from (iN_add dd 1).symm, Int32.add_sub_cancel]
  have e8 : (iN o + 8 : Int32) = iN (o + 8) := iN_add o 8
  obtain ⟨T1, J1, Tm1, Jm1, a1, a2, fr1, fr2, p1, q1, k1, hS1, hp1⟩ := p_adv hX hC h
  have kk : f_X10_takeEnd R T J Op T3 De Fi Se Th Pa V V2 = (f_X8_passSign T1 J1 V V2 59).bind (fun z58 => ck (bz z58.1) (some (z58.1, upd R 3 (iN dd), z58.2.1, z58.2.2, upd T3 2 (iN (r + 1)), upd De r 21, upd Fi r 0, upd Se r 0, upd Th r 0, upd (upd (upd Pa r (iN r)) r (iN l0)) l0 (iN r)))) := by
    rw [f_X10_takeEnd, hR, if_neg (by rw [show (0 : Int32) = iN 0 from rfl, iN_le (by omega) (by omega)]; omega), if_pos (by rw [show (3 : Int32) = iN 3 from rfl, iN_le (by omega) (by omega)]; omega), ed, upd_s, ck_iN (by omega) (by omega), iN_nn (by omega), hO, e0_addEnd h2 hr h0, Option.bind_some, a1, Option.bind_some]
  have mm : f_X12_readStep_169 rec Vm W y 1 (iN o) Tm Jm c = (f_X12_isSign Tm1 59).bind (fun z185 => (f_X12_must Tm1 Jm1 Vm z185).bind (fun z188 => some (z188.1, z188.2, upd c (o + 8) (z188.1 26)))) := by
    rw [f_X12_readStep_169, if_neg (by decide), hme, Option.bind_some, p_must1 h.2 a2, Option.bind_some]
    refine congrArg (Option.bind _) (funext fun z => congrArg (Option.bind _) (funext fun z2 => ?_))
    rw [f_X12_readStep_191, e8, ck_iN (by omega) (by omega), iN_nn (by omega)]
  rcases p_sign hX hC hS1 with ⟨T', Tm', z, g1, g2, g3, g4, g5⟩ | ⟨T', J', Tm', Jm', z, g0, g1, g2, g3, g4⟩
  · refine Or.inl ⟨upd R 3 (iN dd), T', J1, upd T3 2 (iN (r + 1)), upd De r 21, upd Fi r 0, upd Se r 0, upd Th r 0, upd (upd (upd Pa r (iN r)) r (iN l0)) l0 (iN r), Tm', Jm1, ?_, ?_, g4, fr2.t g5⟩
    · rw [kk, g1]; rfl
    · rw [mm, g2, Option.bind_some, g3]; rfl
  · refine Or.inr ⟨T', J', Tm', Jm', ?_, ?_, nx_t fr1 fr2 hS1 hp1 g4⟩
    · rw [kk, g1]; rfl
    · rw [mm, g2, Option.bind_some, g3]; rfl
end YR7
