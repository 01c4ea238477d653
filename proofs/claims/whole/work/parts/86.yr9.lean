/-! The years read: every depth. -/
section YR9
variable {b : Nat → Nat} {n : Nat} {V Vm : Nat → Int32} {V2 : Nat → Int64} {d : Nat → Nat} {Na W : Nat → Int64} {Td : Nat → Int32}
theorem y_none {p q k : Nat} {T Tm : Nat → Int32} {J Jm : Int64} {c : Nat → Int32} (h : rdS b n p q k T J Tm Jm) (hs : stW (kx k (wx b p q)) = none) (rec : (Nat → Int32) → Int64 → (Nat → Int32) → (Nat → Int32) → (Nat → Int64) → Int32 → Option ((Nat → Int32) × Int64 × (Nat → Int32))) (y : Int32) : ∃ T' Tm', f_X8_blame T 2 = some (0, T') ∧ o_X12_readStep rec Tm Jm Vm c W y = some (Tm', Jm, c) ∧ flS T' Tm' ∧ frM Tm Tm' := by
  have ms := e12_step h.1
  rw [hs] at ms
  obtain ⟨T', Tm', g1, g2, g3, g4⟩ := p_amiss h
  refine ⟨T', Tm', g1, ?_, g3, g4⟩
  rw [o_X12_readStep, ms, Option.bind_some, if_neg (show ¬ oN none = 5 by decide), if_neg (show ¬ oN none = 6 by decide), f_X12_readStep_21, if_neg (show ¬ 0 ≤ oN none by decide), g2, Option.bind_some, f_X12_readStep_30, if_neg g3.b.ne, f_X12_readStep_56, if_neg g3.b.ne, f_X12_readStep_82, if_neg g3.b.le]
theorem y_stepD (hX : tX b n V Vm) (hC : cOk V2) (hn : n ≤ 900) (hd : dInv d) (hT : tRep d Td) (hN : ∀ i, i < d 2 → Na i = W i) {D dd : Nat} (hD : dd + D = 3) (hin : ∀ D', D = D' + 1 → yPst b n V Vm V2 Td Na W d D' (dd + 1)) : yPst b n V Vm V2 Td Na W d D dd := by
  intro p q k i R T J T3 De Fi Se Th Pa Op Tm Jm c ns ln h hi hR hI hc hk0 hk21
  have hl := h.1.le
  have md : r_X12_readStep (D + 2) Tm Jm Vm c W (iN dd) = o_X12_readStep (r_X12_readStep (D + 1)) Tm Jm Vm c W (iN dd) := rfl
  rw [md]
  by_cases hk : k = 0
  · obtain ⟨T', Tm', g1, g2, g3, g4⟩ := y_none (Vm := Vm) (W := W) (c := c) h (by rw [hk]; exact (show stW 23 = none by decide)) (r_X12_readStep (D + 1)) (iN dd)
    refine Or.inl ⟨R, T', J, T3, De, Fi, Se, Th, Pa, Op, Tm', Jm, c, ?_, g2, g3, g4.y, fun _ _ => rfl⟩
    have := hk0 hk
    rw [yK_0 h hn hi hk, f_X10_take_73, if_neg (by rw [hR, show (0 : Int32) = iN 0 from rfl, iN_le (by omega) (by omega)]; omega), g1]; rfl
  · rw [yK_1 h hn hi hk]
    by_cases e : k = 1 ∧ wx b p q = 21
    · have hdd := hk21 e
      obtain ⟨T', Tm', g1, g2, g3, g4⟩ := y_none (Vm := Vm) (W := W) (c := c) h (by rw [e.1, e.2]; decide) (r_X12_readStep (D + 1)) (iN dd)
      refine Or.inl ⟨R, T', J, T3, De, Fi, Se, Th, Pa, Op, Tm', Jm, c, ?_, g2, g3, g4.y, fun _ _ => rfl⟩
      rw [if_pos e, f_X10_takeEnd, if_pos (by rw [hR, hdd]; decide), f_X10_takeEnd_19, g1]; rfl
    · rw [if_neg e]
      have hq := hl.2.2.2.2 hk
      rcases y_head (De := De) (Fi := Fi) (Se := Se) (Th := Th) (Pa := Pa) hX hC h hd hT hN hc hI.1 hI.2.1 hI.2.2.1 hR (by omega) hI.2.2.2.1 hI.2.2.2.2 (r_X12_readStep (D + 1)) Op with ⟨R', T', J', T3', De', Fi', Se', Th', Pa', Op', Tm', Jm', c', a1, a2, a3, a4, a5⟩ | ⟨bl, R', T', J', e1, f1, s1, t1, Op', Tm', Jm', c', h30, a1, a2, a3, a4, a5, a6, a7, p', q', k', hS, hp⟩
      · refine Or.inl ⟨R', T', J', T3', De', Fi', Se', Th', Pa', Op', Tm', Jm', c', ?_, a2, a3, a4, a5.lo (by omega)⟩
        rw [a1]; rfl
      · rw [a1, Option.bind_some, if_neg (show ¬ (1 : Int32) = 0 by decide), a3]
        dsimp only
        cases bl with
        | false =>
          rw [if_neg (by decide)] at a2
          obtain ⟨b1, b2, b3⟩ := a2
          subst b2
          have e8 : (iN (1590 + 9 * ns) + 8 : Int32) = iN (1590 + 9 * ns + 8) := iN_add _ 8
          refine Or.inr ⟨i + 1, R', T', J', upd (upd T3 1 (iN (ns + 1))) 2 (iN (ln + 1)), upd De ln e1, upd Fi ln f1, upd Se ln s1, upd Th ln t1, upd Pa ln (iN ln), Op', Tm', Jm', upd c' (1590 + 9 * ns + 8) (Tm' 26), p', q', k', ns + 1, ln + 1, ⟨rfl, ?_, hS, by omega, by omega⟩, ⟨b1, ⟨(upd_n (by decide)).trans upd_s, upd_s, a5, by omega, by omega⟩⟩, ⟨a6, a7, a4.t (blo.u _ _ (by omega))⟩, ⟨blo.u _ _ (Nat.le_refl _), blo.u _ _ (Nat.le_refl _), blo.u _ _ (Nat.le_refl _), blo.u _ _ (Nat.le_refl _), blo.u _ _ (Nat.le_refl _), fun _ _ => rfl⟩, 0, Or.inl ⟨rfl, rfl, ?_, ?_⟩⟩
          · rw [if_neg (by decide), f_X12_readStep_141, show xF = 3999999 + 1 from rfl, iter_succ, g_X12_readStep_141, if_pos rfl, f_X12_readStep_169, if_pos rfl, f_X12_readStep_191, e8, ck_iN (by omega) (by omega), iN_nn (by omega)]
          · rw [upd_s, upd_s, upd_s, upd_s]
            exact b3.cg (fun j hj => upd_n (by omega))
          · exact upd_s.trans a5
        | true =>
          rw [if_pos rfl] at a2
          obtain ⟨b0, b1, b2, b3⟩ := a2
          subst b2
          obtain ⟨D', rfl⟩ : ∃ D', D = D' + 1 := ⟨D - 1, by omega⟩
          have hc' : mRep d c' := fun j hj => by rw [a4 j (by omega)]; exact hc j hj
          have fu : xF = (4000000 - (n + 2)) + (n + 1) + 1 := by
            show 4000000 = _
            omega
          rw [if_pos rfl, fu]
          rcases y_inner hX hC hn (hin D' rfl) (by omega) (n + 1) p' q' k' (i + 1) (4000000 - (n + 2)) R' T' J' (upd (upd T3 1 (iN (ns + 1))) 2 (iN (ln + 1))) (upd De ln e1) (upd Fi ln f1) (upd Se ln s1) (upd Th ln t1) (upd Pa ln (iN ln)) (upd Op dd (iN ln)) Tm' Jm' c' (ns + 1) (ln + 1) (1590 + 9 * ns) ln (by omega) hS (by omega) b1 ⟨(upd_n (by decide)).trans upd_s, upd_s, a5, by omega, by omega⟩ hc' upd_s (by omega) (by omega) with ⟨R2, T2, J2, T32, De2, Fi2, Se2, Th2, Pa2, Op2, Tm2, Jm2, c2, x1, x2, x3, x4, x5⟩ | ⟨i2, R2, T2, J2, T32, De2, Fi2, Se2, Th2, Pa2, Op2, Tm2, Jm2, c2, p2, q2, k2, ns2, r2, ⟨x1, x2, x3, x4, x5⟩, ⟨y1, y2⟩, ⟨z1, z2, z3, z4⟩, ⟨w1, w2, w3, w4, w5, w6, w7, w8, w9⟩, f2, hf2⟩
          · exact Or.inl ⟨R2, T2, J2, T32, De2, Fi2, Se2, Th2, Pa2, Op2, Tm2, Jm2, c2, x1, x2, x3, a7.t x4, (a4.lo (by omega)).t x5⟩
          · refine Or.inr ⟨i2, R2, T2, J2, T32, De2, Fi2, Se2, Th2, Pa2, Op2, Tm2, Jm2, c2, p2, q2, k2, ns2, r2 + 1, ⟨x1, x2, x3, x4, by omega⟩, ⟨y1, y2⟩, ⟨a6.t z1, a7.t z2, fun j hj => (z3 j (by omega) (by omega)).trans (a4 j hj)⟩, ⟨(blo.u De e1 (Nat.le_refl _)).t (w1.lo (by omega)), (blo.u Fi f1 (Nat.le_refl _)).t (w2.lo (by omega)), (blo.u Se s1 (Nat.le_refl _)).t (w3.lo (by omega)), (blo.u Th t1 (Nat.le_refl _)).t (w4.lo (by omega)), fun j hj => (w5 j (by omega) (by omega)).trans (upd_n (by omega)), (blo.u Op (iN ln) (Nat.le_refl _)).t w9⟩, f2, Or.inr ⟨D', r2, rfl, rfl, ?_, z4, w8, w7, w6, hf2⟩⟩
            rw [(w1 ln (by omega)).trans upd_s, (w2 ln (by omega)).trans upd_s, (w3 ln (by omega)).trans upd_s]
            exact b3.cg (fun j hj => z3 _ (by omega) (by omega))
theorem y_step (hX : tX b n V Vm) (hC : cOk V2) (hn : n ≤ 900) (hd : dInv d) (hT : tRep d Td) (hN : ∀ i, i < d 2 → Na i = W i) : ∀ (D dd : Nat), dd + D = 3 → yPst b n V Vm V2 Td Na W d D dd := by
  intro D
  induction D with
  | zero =>
    intro dd hD
    exact y_stepD hX hC hn hd hT hN (D := 0) (dd := dd) hD (fun D' h => absurd h (by omega))
  | succ D ih =>
    intro dd hD
    exact y_stepD hX hC hn hd hT hN (D := D + 1) (dd := dd) hD (fun D' h => by
      have e : D' = D := by omega
      rw [e]
      exact ih (dd + 1) (by omega))
end YR9
