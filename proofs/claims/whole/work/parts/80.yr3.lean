/-! The years read: the rest of a step that is no when; a step's rest. -/
theorem stW_inv {x m : Nat} (h : stW x = some m) : (x = 12 ∧ m = 0) ∨ (x = 13 ∧ m = 1) ∨ (x = 6 ∧ m = 2) ∨ (x = 14 ∧ m = 3) ∨ (x = 15 ∧ m = 4) ∨ (x = 16 ∧ m = 5) ∨ (x = 20 ∧ m = 6) ∨ (x = 22 ∧ m = 7) := by
  unfold stW at h
  by_cases h1 : x = 12
  · rw [if_pos h1] at h; cases h; omega
  rw [if_neg h1] at h
  by_cases h2 : x = 13
  · rw [if_pos h2] at h; cases h; omega
  rw [if_neg h2] at h
  by_cases h3 : x = 6
  · rw [if_pos h3] at h; cases h; omega
  rw [if_neg h3] at h
  by_cases h4 : x = 14
  · rw [if_pos h4] at h; cases h; omega
  rw [if_neg h4] at h
  by_cases h5 : x = 15
  · rw [if_pos h5] at h; cases h; omega
  rw [if_neg h5] at h
  by_cases h6 : x = 16
  · rw [if_pos h6] at h; cases h; omega
  rw [if_neg h6] at h
  by_cases h7 : x = 20
  · rw [if_pos h7] at h; cases h; omega
  rw [if_neg h7] at h
  by_cases h8 : x = 22
  · rw [if_pos h8] at h; cases h; omega
  rw [if_neg h8] at h
  cases h
section YR3
variable {b : Nat → Nat} {n p q k : Nat} {V Vm T Tm R : Nat → Int32} {J Jm : Int64} {V2 : Nat → Int64} {d : Nat → Nat} {Na W : Nat → Int64} {c Td T3 De Fi Se Th Pa : Nat → Int32} {ns ln o : Nat}
theorem nx_p {q p T' Tm' J' Jm'} (h : nexts b n q T Tm T' J' Tm' Jm') (hpq : p ≤ q) : nexts b n p T Tm T' J' Tm' Jm' := by
  obtain ⟨a1, a2, p2, q2, k2, a3, a4⟩ := h
  exact ⟨a1, a2, p2, q2, k2, a3, by omega⟩
theorem rsR.lo {nc nt p hd cl md} (h : rsR b n nc nt ns ln o q hd R T T3 De Fi Se Th Pa Tm c cl md) (hpq : p ≤ q) : rsR b n nc nt ns ln o p hd R T T3 De Fi Se Th Pa Tm c cl md := by
  rcases h with h | ⟨R', T', J', e, f, s, t, Tm', Jm', c', a1, a2, a3, a4, a5, a6⟩
  · exact Or.inl h
  · exact Or.inr ⟨R', T', J', e, f, s, t, Tm', Jm', c', a1, a2, a3, a4, a5, nx_p a6 hpq⟩
/-- hear, forget -/
theorem y_restN (hX : tX b n V Vm) (hC : cOk V2) (h : rdS b n p q k T J Tm Jm) (hd : dInv d) (hT : tRep d Td) (hN : ∀ i, i < d 2 → Na i = W i) (hc : mRep d c) (h1 : T3 1 = iN ns) (h2 : T3 2 = iN ln) (hl : ln < 60) (ho : 1590 ≤ o ∧ o + 8 < 1860) {x m : Nat} (hx : (x = 12 ∧ m = 0) ∨ (x = 13 ∧ m = 1)) (hk : c o = iN m) : rsR b n (cells d) (d 2) ns ln o p false R T T3 De Fi Se Th Pa Tm c (f_X10_takeRest R T J Td Na V V2 T3 De Fi Se Th Pa (wI32 x)) (f_X12_readRest Tm Jm c Vm W (iN o)) := by
  have e1 : (iN o + 1 : Int32) = iN (o + 1) := iN_add o 1
  have one : ¬ (1 : Int32) = 0 := by decide
  have hpq := tkS_pq h.1
  have kk : f_X10_takeRest R T J Td Na V V2 T3 De Fi Se Th Pa (wI32 x) = f_X10_takeRest_76 Td Na V V2 (wI32 x) R T J T3 De Fi Se Th Pa := by
    rcases hx with ⟨rfl, -⟩ | ⟨rfl, -⟩
    · rw [f_X10_takeRest, if_neg (by decide), if_pos (by decide)]
    · rw [f_X10_takeRest, if_neg (by decide), if_neg (by decide), if_pos (by decide)]
  have mm : f_X12_readRest Tm Jm c Vm W (iN o) = (f_X12_readTraveller Tm Jm Vm c W 0).bind (fun z79 => ck (gd (iN (o + 1)) 1860) (some (z79.2.1, z79.2.2, upd c (o + 1) z79.1))) := by
    rw [f_X12_readRest, ck_iN (by omega) (by omega), iN_nn (by omega), hk, e1, iN_nn (by omega)]
    rcases hx with ⟨-, rfl⟩ | ⟨-, rfl⟩
    · rw [if_neg (by decide), if_neg (by decide), if_neg (by decide), if_neg (by decide)]
      rfl
    · rw [if_neg (by decide), if_neg (by decide), if_neg (by decide), if_neg (by decide)]
      rfl
  rw [kk, mm, f_X10_takeRest_76]
  have f1 : ∀ z, frS o c (upd c (o + 1) z) := fun z => (frS.r o c).u (by decide) z
  rcases y_name (R := R) hX hC h hd hT hN hc with ⟨R', T', Tm', y1, y2, y3, y4⟩ | ⟨i, T', J', Tm', Jm', hi, y1, y2, y3⟩
  · refine Or.inl ⟨R', T', J, T3, De, Fi, Se, Th, Pa, Tm', Jm, upd c (o + 1) 0, ?_, ?_, y3, y4, f1 _⟩
    · rw [y1]; rfl
    · rw [y2, Option.bind_some, ck_iN (by omega) (by omega)]
  · refine Or.inr ⟨upd R 4 (iN i), T', J', wI32 x, iN i, 0, 0, Tm', Jm', upd c (o + 1) (iN i), ?_, ?_, upd_n (by decide), ?_, f1 _, nx_p y3 (by omega)⟩
    · rw [y1, Option.bind_some, if_neg one]
      dsimp only
      rw [upd_s, e0_addStep h1 h2 hl, Option.bind_some, if_neg one]
    · rw [y2, Option.bind_some, ck_iN (by omega) (by omega)]
    · rw [if_neg (by decide)]
      have g0 : upd c (o + 1) (iN i) (o + 0) = iN m := (upd_n (by omega)).trans hk
      have g1 : upd c (o + 1) (iN i) (o + 1) = iN i := upd_s
      rcases hx with ⟨rfl, rfl⟩ | ⟨rfl, rfl⟩
      · exact Or.inl ⟨g0, by decide, i, hi, rfl, g1⟩
      · exact Or.inr (Or.inl ⟨g0, by decide, i, hi, rfl, g1⟩)
/-- told -/
theorem y_restT (hX : tX b n V Vm) (hC : cOk V2) (h : rdS b n p q k T J Tm Jm) (hd : dInv d) (hT : tRep d Td) (hN : ∀ i, i < d 2 → Na i = W i) (hc : mRep d c) (h1 : T3 1 = iN ns) (h2 : T3 2 = iN ln) (hl : ln < 60) (ho : 1590 ≤ o ∧ o + 8 < 1860) (hk : c o = iN 2) : rsR b n (cells d) (d 2) ns ln o p false R T T3 De Fi Se Th Pa Tm c (f_X10_takeRest R T J Td Na V V2 T3 De Fi Se Th Pa 6) (f_X12_readRest Tm Jm c Vm W (iN o)) := by
  have e1 : (iN o + 1 : Int32) = iN (o + 1) := iN_add o 1
  have e2 : (iN o + 2 : Int32) = iN (o + 2) := iN_add o 2
  have e3 : (iN o + 3 : Int32) = iN (o + 3) := iN_add o 3
  have one : ¬ (1 : Int32) = 0 := by decide
  have hpq := tkS_pq h.1
  have mm : f_X12_readRest Tm Jm c Vm W (iN o) = (f_X12_readTraveller Tm Jm Vm c W 0).bind (fun z79 => ck (gd (iN (o + 1)) 1860) ((f_X12_cellHere z79.2.1 z79.2.2 (upd c (o + 1) z79.1) Vm 0).bind (fun z98 => ck (gd (iN (o + 2)) 1860) ((f_X12_readFeeling z98.2.1 z98.2.2 Vm).bind (fun z110 => ck (gd (iN (o + 3)) 1860) (some (z110.2.1, z110.2.2, upd (upd (upd c (o + 1) z79.1) (o + 2) z98.1) (o + 3) z110.1))))))) := by
    rw [f_X12_readRest, ck_iN (by omega) (by omega), iN_nn (by omega), hk, e1, e2, e3, iN_nn (by omega), iN_nn (by omega), iN_nn (by omega)]
    rw [if_neg (by decide), if_neg (by decide), if_neg (by decide), if_neg (by decide)]
    rfl
  rw [mm, f_X10_takeRest, if_pos rfl]
  have f1 : ∀ z, frS o c (upd c (o + 1) z) := fun z => (frS.r o c).u (by decide) z
  rcases y_name (R := R) hX hC h hd hT hN hc with ⟨R', T', Tm', y1, y2, y3, y4⟩ | ⟨i, T1, J1, Tm1, Jm1, hi, y1, y2, fr1, fr2, p1, q1, k1, hS1, hp1⟩
  · refine Or.inl ⟨R', T', J, T3, De, Fi, Se, Th, Pa, Tm', Jm, upd (upd (upd c (o + 1) 0) (o + 2) 0) (o + 3) 0, ?_, ?_, y3, y4, ((f1 _).u (by decide) _).u (by decide) _⟩
    · rw [y1]; rfl
    · rw [y2, Option.bind_some, ck_iN (by omega) (by omega)]
      dsimp only
      rw [b_cellHere y3.b _ _ (by decide), Option.bind_some, ck_iN (by omega) (by omega)]
      dsimp only
      rw [b_readFeeling y3.b, Option.bind_some, ck_iN (by omega) (by omega)]
  · rcases y_cell (R := upd R 4 (iN i)) (c := upd c (o + 1) (iN i)) hX hC hS1 hd hT ((f1 _).m (by omega) hc) with ⟨R', T', J', Tm', Jm', z1, z2, z3, z4⟩ | ⟨y, T2, J2, Tm2, Jm2, hy, z1, z2, fr3, fr4, p2, q2, k2, hS2, hp2⟩
    · refine Or.inl ⟨R', T', J', T3, De, Fi, Se, Th, Pa, Tm', Jm', upd (upd (upd c (o + 1) (iN i)) (o + 2) 0) (o + 3) 0, ?_, ?_, z3, fr2.t z4, ((f1 _).u (by decide) _).u (by decide) _⟩
      · rw [y1, Option.bind_some, if_neg one]
        dsimp only
        rw [z1]; rfl
      · rw [y2, Option.bind_some, ck_iN (by omega) (by omega)]
        dsimp only
        rw [z2, Option.bind_some, ck_iN (by omega) (by omega)]
        dsimp only
        rw [b_readFeeling z3.b, Option.bind_some, ck_iN (by omega) (by omega)]
    · rcases y_feel (R := upd (upd R 4 (iN i)) 5 (iN y)) hX hC hS2 with ⟨R', T', Tm', w1, w2, w3, w4⟩ | ⟨g, T', J', Tm', Jm', hg, w1, w2, w3⟩
      · refine Or.inl ⟨R', T', J2, T3, De, Fi, Se, Th, Pa, Tm', Jm2, upd (upd (upd c (o + 1) (iN i)) (o + 2) (iN y)) (o + 3) 0, ?_, ?_, w3, (fr2.t fr4).t w4, ((f1 _).u (by decide) _).u (by decide) _⟩
        · rw [y1, Option.bind_some, if_neg one]
          dsimp only
          rw [z1, Option.bind_some, if_neg one]
          dsimp only
          rw [w1]; rfl
        · rw [y2, Option.bind_some, ck_iN (by omega) (by omega)]
          dsimp only
          rw [z2, Option.bind_some, ck_iN (by omega) (by omega)]
          dsimp only
          rw [w2, Option.bind_some, ck_iN (by omega) (by omega)]
      · have fS : frS o c (upd (upd (upd c (o + 1) (iN i)) (o + 2) (iN y)) (o + 3) (iN g)) := ((f1 _).u (by decide) _).u (by decide) _
        refine Or.inr ⟨upd (upd (upd R 4 (iN i)) 5 (iN y)) 6 (iN g), T', J', 6, iN i, iN y, iN g, Tm', Jm', upd (upd (upd c (o + 1) (iN i)) (o + 2) (iN y)) (o + 3) (iN g), ?_, ?_, by rw [upd_n (by decide), upd_n (by decide), upd_n (by decide)], ?_, fS, nx_p (nx_t fr1 fr2 hS1 hp1 (nx_t fr3 fr4 hS2 hp2 w3)) hpq⟩
        · rw [y1, Option.bind_some, if_neg one]
          dsimp only
          rw [z1, Option.bind_some, if_neg one]
          dsimp only
          rw [w1, Option.bind_some, if_neg one]
          dsimp only
          rw [upd_s, upd_n (show 4 ≠ 6 by decide), upd_n (show 4 ≠ 5 by decide), upd_s, upd_n (show 5 ≠ 6 by decide), upd_s, e0_addStep h1 h2 hl, Option.bind_some, if_neg one]
        · rw [y2, Option.bind_some, ck_iN (by omega) (by omega)]
          dsimp only
          rw [z2, Option.bind_some, ck_iN (by omega) (by omega)]
          dsimp only
          rw [w2, Option.bind_some, ck_iN (by omega) (by omega)]
        · rw [if_neg (by decide)]
          refine Or.inr (Or.inr (Or.inl ⟨?_, rfl, i, y, g, hi, hy, hg, rfl, ?_, rfl, ?_, rfl, upd_s⟩))
          · show upd _ _ _ (o + 0) = _
            exact (upd_n (by omega)).trans ((upd_n (by omega)).trans ((upd_n (by omega)).trans hk))
          · show upd _ _ _ (o + 1) = _
            rw [upd_n (by omega), upd_n (by omega), upd_s]
          · show upd _ _ _ (o + 2) = _
            rw [upd_n (by omega), upd_s]
/-- sail -/
theorem y_restS (hX : tX b n V Vm) (hC : cOk V2) (h : rdS b n p q k T J Tm Jm) (hd : dInv d) (hT : tRep d Td) (hc : mRep d c) (h1 : T3 1 = iN ns) (h2 : T3 2 = iN ln) (hl : ln < 60) (ho : 1590 ≤ o ∧ o + 8 < 1860) (hk : c o = iN 3) : rsR b n (cells d) (d 2) ns ln o p false R T T3 De Fi Se Th Pa Tm c (f_X10_takeRest R T J Td Na V V2 T3 De Fi Se Th Pa 14) (f_X12_readRest Tm Jm c Vm W (iN o)) := by
  have e2 : (iN o + 2 : Int32) = iN (o + 2) := iN_add o 2
  have one : ¬ (1 : Int32) = 0 := by decide
  have hpq := tkS_pq h.1
  have mm : f_X12_readRest Tm Jm c Vm W (iN o) = (f_X12_cellHere Tm Jm c Vm 0).bind (fun z58 => ck (gd (iN (o + 2)) 1860) (some (z58.2.1, z58.2.2, upd c (o + 2) z58.1))) := by
    rw [f_X12_readRest, ck_iN (by omega) (by omega), iN_nn (by omega), hk, e2, iN_nn (by omega)]
    rw [if_neg (by decide), if_neg (by decide), if_pos (by decide)]
  rw [mm, f_X10_takeRest, if_neg (by decide), if_neg (by decide), if_neg (by decide), if_pos rfl]
  have f1 : ∀ z, frS o c (upd c (o + 2) z) := fun z => (frS.r o c).u (by decide) z
  rcases y_cell (R := R) hX hC h hd hT hc with ⟨R', T', J', Tm', Jm', y1, y2, y3, y4⟩ | ⟨i, T', J', Tm', Jm', hi, y1, y2, y3⟩
  · refine Or.inl ⟨R', T', J', T3, De, Fi, Se, Th, Pa, Tm', Jm', upd c (o + 2) 0, ?_, ?_, y3, y4, f1 _⟩
    · rw [y1]; rfl
    · rw [y2, Option.bind_some, ck_iN (by omega) (by omega)]
  · refine Or.inr ⟨upd R 5 (iN i), T', J', 14, iN i, 0, 0, Tm', Jm', upd c (o + 2) (iN i), ?_, ?_, upd_n (by decide), ?_, f1 _, nx_p y3 (by omega)⟩
    · rw [y1, Option.bind_some, if_neg one]
      dsimp only
      rw [upd_s, e0_addStep h1 h2 hl, Option.bind_some, if_neg one]
    · rw [y2, Option.bind_some, ck_iN (by omega) (by omega)]
    · rw [if_neg (by decide)]
      have g0 : upd c (o + 2) (iN i) (o + 0) = iN 3 := (upd_n (by omega)).trans hk
      exact Or.inr (Or.inr (Or.inr (Or.inl ⟨g0, rfl, i, hi, rfl, upd_s⟩)))
/-- loop -/
theorem y_restL (hX : tX b n V Vm) (hC : cOk V2) (h : rdS b n p q k T J Tm Jm) (h1 : T3 1 = iN ns) (h2 : T3 2 = iN ln) (hl : ln < 60) (ho : 1590 ≤ o ∧ o + 8 < 1860) (hk : c o = iN 6) : rsR b n (cells d) (d 2) ns ln o p true R T T3 De Fi Se Th Pa Tm c (f_X10_takeRest R T J Td Na V V2 T3 De Fi Se Th Pa 20) (f_X12_readRest Tm Jm c Vm W (iN o)) := by
  have e1 : (iN o + 1 : Int32) = iN (o + 1) := iN_add o 1
  have one : ¬ (1 : Int32) = 0 := by decide
  have hpq := tkS_pq h.1
  have mm : f_X12_readRest Tm Jm c Vm W (iN o) = (f_X12_count Tm Jm Vm 1 99).bind (fun z24 => ck (gd (iN (o + 1)) 1860) (some (z24.2.1, z24.2.2, upd c (o + 1) z24.1))) := by
    rw [f_X12_readRest, ck_iN (by omega) (by omega), iN_nn (by omega), hk, e1, iN_nn (by omega)]
    rw [if_pos (by decide)]
  rw [mm, f_X10_takeRest, if_neg (by decide), if_neg (by decide), if_neg (by decide), if_neg (by decide), if_pos rfl]
  have f1 : ∀ z, frS o c (upd c (o + 1) z) := fun z => (frS.r o c).u (by decide) z
  rcases y_num (R := R) hX hC h 1 99 with ⟨R', T', Tm', y1, y2, y3, y4⟩ | ⟨v, T', J', Tm', Jm', hv, y1, y2, y3⟩
  · refine Or.inl ⟨R', T', J, T3, De, Fi, Se, Th, Pa, Tm', Jm, upd c (o + 1) 0, ?_, ?_, y3, y4, f1 _⟩
    · rw [y1]; rfl
    · rw [y2, Option.bind_some, ck_iN (by omega) (by omega)]
  · have hv2 : 1 ≤ v ∧ v ≤ 99 := by
      have := hv
      rw [show (99 : Int32).toInt = 99 from rfl, show (1 : Int32).toInt = 1 from rfl] at this
      omega
    refine Or.inr ⟨upd R 8 (iN v), T', J', 20, iN v, 0, 0, Tm', Jm', upd c (o + 1) (iN v), ?_, ?_, upd_n (by decide), ?_, f1 _, nx_p y3 (by omega)⟩
    · rw [y1, Option.bind_some, if_neg one]
      dsimp only
      rw [upd_s, e0_addStep h1 h2 hl, Option.bind_some, if_neg one]
    · rw [y2, Option.bind_some, ck_iN (by omega) (by omega)]
    · rw [if_pos rfl]
      have g0 : upd c (o + 1) (iN v) (o + 0) = iN 6 := (upd_n (by omega)).trans hk
      exact Or.inr ⟨g0, rfl, v, hv2.1, hv2.2, rfl, upd_s⟩
/-- any, stop -/
theorem y_restA (h : rdS b n p q k T J Tm Jm) (h1 : T3 1 = iN ns) (h2 : T3 2 = iN ln) (hl : ln < 60) (ho : 1590 ≤ o ∧ o + 8 < 1860) {x m : Nat} (hx : (x = 15 ∧ m = 4) ∨ (x = 22 ∧ m = 7)) (hk : c o = iN m) : rsR b n (cells d) (d 2) ns ln o p false R T T3 De Fi Se Th Pa Tm c (f_X10_takeRest R T J Td Na V V2 T3 De Fi Se Th Pa (wI32 x)) (f_X12_readRest Tm Jm c Vm W (iN o)) := by
  have kk : f_X10_takeRest R T J Td Na V V2 T3 De Fi Se Th Pa (wI32 x) = f_X10_takeRest_221 Td Na V V2 (wI32 x) R T J T3 De Fi Se Th Pa := by
    rcases hx with ⟨rfl, -⟩ | ⟨rfl, -⟩ <;> rw [f_X10_takeRest, if_neg (by decide), if_neg (by decide), if_neg (by decide), if_neg (by decide), if_neg (by decide)]
  have mm : f_X12_readRest Tm Jm c Vm W (iN o) = some (Tm, Jm, c) := by
    rw [f_X12_readRest, ck_iN (by omega) (by omega), iN_nn (by omega), hk]
    rcases hx with ⟨-, rfl⟩ | ⟨-, rfl⟩ <;> rw [if_neg (by decide), if_neg (by decide), if_neg (by decide), if_pos (by decide)]
  rw [kk, mm, f_X10_takeRest_221, e0_addStep h1 h2 hl, Option.bind_some]
  refine Or.inr ⟨R, T, J, wI32 x, 0, 0, 0, Tm, Jm, c, rfl, rfl, rfl, ?_, frS.r o c, fun _ _ => rfl, fun _ _ => rfl, p, q, k, h, Nat.le_refl _⟩
  rw [if_neg (by decide)]
  rcases hx with ⟨rfl, rfl⟩ | ⟨rfl, rfl⟩
  · exact Or.inr (Or.inr (Or.inr (Or.inr (Or.inl ⟨hk, by decide⟩))))
  · exact Or.inr (Or.inr (Or.inr (Or.inr (Or.inr ⟨hk, by decide⟩))))
end YR3
