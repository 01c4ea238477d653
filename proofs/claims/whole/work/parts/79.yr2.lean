/-! The years read: the rest of a step. -/
section YR2
variable {b : Nat → Nat} {n p q k : Nat} {V Vm T Tm R : Nat → Int32} {J Jm : Int64} {V2 : Nat → Int64} {d : Nat → Nat} {Na W : Nat → Int64} {c Td T3 De Fi Se Th Pa : Nat → Int32} {ns ln o : Nat}
theorem nx_t {q p1 q1 k1 : Nat} {T1 Tm1 T' Tm' : Nat → Int32} {J1 J' Jm1 Jm' : Int64} (f1 : frC T T1) (f2 : frM Tm Tm1) (h : rdS b n p1 q1 k1 T1 J1 Tm1 Jm1) (hq : q ≤ p1) (h2 : nexts b n q1 T1 Tm1 T' J' Tm' Jm') : nexts b n q T Tm T' J' Tm' Jm' := by
  obtain ⟨g1, g2, p2, q2, k2, g3, g4⟩ := h2
  exact ⟨f1.t g1, f2.t g2, p2, q2, k2, g3, by have := tkS_pq h.1; omega⟩
theorem y_cmp (hX : tX b n V Vm) (hC : cOk V2) (h : rdS b n p q k T J Tm Jm) (c : Nat → Int32) (W : Nat → Int64) (ho : o + 8 < 1860) : (∃ R' T' Tm' c', f_X10_takeComparison R T J V V2 = some (0, R', T', J) ∧ f_X12_readTest_82 Vm W (iN o) 3 Tm Jm c = some (Tm', Jm, c') ∧ flS T' Tm' ∧ frM Tm Tm' ∧ ∃ u v, c' = upd (upd c (o + 7) u) (o + 6) v) ∨ (∃ (z : Nat) (T' : Nat → Int32) (J' : Int64) (Tm' : Nat → Int32) (Jm' : Int64), (z = 60 ∨ z = 61 ∨ z = 62) ∧ f_X10_takeComparison R T J V V2 = some (1, upd R 7 (iN z - 61), T', J') ∧ f_X12_readTest_82 Vm W (iN o) 3 Tm Jm c = (f_X12_count Tm' Jm' Vm 0 36).bind (fun z168 => some (z168.2.1, z168.2.2, upd (upd c (o + 7) (iN z)) (o + 6) z168.1)) ∧ nexts b n q T Tm T' J' Tm' Jm') := by
  have hl := h.1.le
  have h8 := h.1.2.1
  have hm := h.1.2.2.1
  have hn := hX.1
  have e7 : (iN o + 7 : Int32) = iN (o + 7) := iN_add o 7
  have e6 : (iN o + 6 : Int32) = iN (o + 6) := iN_add o 6
  obtain ⟨T2, Tm2, b1, b2, b3, b4⟩ := p_amiss h
  have no : ∀ u, f_X12_readTest_153 Vm W (iN o) 0 Tm Jm (upd c (o + 7) u) = some (Tm2, Jm, upd (upd c (o + 7) u) (o + 6) 0) := fun u => by
    rw [f_X12_readTest_153, p_must0 h b2, Option.bind_some]
    dsimp only
    rw [b_count b3.b, Option.bind_some, e6, ck_iN (by omega) (by omega), iN_nn (by omega)]
  have st : ∀ s2, f_X12_readTest_119 Vm W (iN o) (iN (o + 7)) s2 Tm Jm c = (f_X12_isSign Tm 60).bind (fun z124 => if z124 = 0 then ((f_X12_isSign Tm 62).bind (fun z133 => if z133 = 0 then ((f_X12_isSign Tm 61).bind (fun z142 => if z142 = 0 then (f_X12_readTest_153 Vm W (iN o) 0 Tm Jm (upd c (o + 7) s2)) else (f_X12_readTest_148 Vm W (iN o) Tm Jm (upd c (o + 7) s2)))) else (f_X12_readTest_148 Vm W (iN o) Tm Jm (upd c (o + 7) s2)))) else (f_X12_readTest_148 Vm W (iN o) Tm Jm (upd c (o + 7) s2))) := fun s2 => by
    rw [f_X12_readTest_119, ck_iN (by omega) (by omega), iN_nn (by omega)]
  have nb : ¬ (0 : Int32) < Tm 12 := by rw [h.2]; decide
  by_cases hk : k = 3
  · have hkd := h.1.sign hk
    have hp : p < n := by
      apply Classical.byContradiction
      intro h9
      have := hl.2.2.2.1
      omega
    have hb := (hX.2 p hp).1
    have t7 := h8.2.2.2.2.2 hk
    have m17 := hm.2.2.2.2.2 hk
    have t4 : T 4 = 3 := by rw [h8.1, hk]; rfl
    have m14 : Tm 14 = 3 := by rw [hm.1, hk]; rfl
    have m82 : f_X12_readTest_82 Vm W (iN o) 3 Tm Jm c = f_X12_readTest_119 Vm W (iN o) (iN (o + 7)) (iN (b p)) Tm Jm c := by
      rw [f_X12_readTest_82, if_neg nb, if_pos rfl, if_pos m14, e7, m17]
    have isg : ∀ z, z < 256 → f_X12_isSign Tm (iN z) = some (if b p = z then 1 else 0) := fun z hz => by
      rw [f_X12_isSign, if_pos m14, m17]
      by_cases e : b p = z
      · rw [if_pos (congrArg iN e), if_pos e]
      · rw [if_neg (iN_ne (by omega) (by omega) e), if_neg e]
    have s60 : f_X12_isSign Tm 60 = some (if b p = 60 then 1 else 0) := isg 60 (by decide)
    have s62 : f_X12_isSign Tm 62 = some (if b p = 62 then 1 else 0) := isg 62 (by decide)
    have s61 : f_X12_isSign Tm 61 = some (if b p = 61 then 1 else 0) := isg 61 (by decide)
    rw [m82, st, s60, Option.bind_some, s62, Option.bind_some, s61, Option.bind_some, f_X12_readTest_148]
    obtain ⟨T', J', Tm', Jm', a1, a2, a3⟩ := p_adv hX hC h
    have yes : f_X12_readTest_153 Vm W (iN o) 1 Tm Jm (upd c (o + 7) (iN (b p))) = (f_X12_count Tm' Jm' Vm 0 36).bind (fun z168 => some (z168.2.1, z168.2.2, upd (upd c (o + 7) (iN (b p))) (o + 6) z168.1)) := by
      rw [f_X12_readTest_153, p_must1 h.2 a2, Option.bind_some]
      dsimp only
      rw [e6, iN_nn (by omega)]
      cases f_X12_count Tm' Jm' Vm 0 36 with
      | none => rfl
      | some z => exact ck_iN (by omega) (by omega)
    have ok : ∀ z, b p = z → (z = 60 ∨ z = 61 ∨ z = 62) → f_X10_takeComparison R T J V V2 = some (1, upd R 7 (iN z - 61), T', J') := fun z hz hz2 => by
      have hw : f_X11_within (iN z - 61) (-1) 1 = some 1 := by rcases hz2 with rfl | rfl | rfl <;> decide
      rw [f_X10_takeComparison, f_X8_comparison, if_pos t4, t7, hz, if_neg (show ¬ iN z = (59 : Int32) from iN_ne (b := 59) (by omega) (by decide) (by omega)), Option.bind_some, upd_s, hw, Option.bind_some, if_neg (by decide), a1]; rfl
    rcases sgn_b (b p) hb hkd with e | e | e | e
    · refine Or.inl ⟨upd R 7 2, T2, Tm2, _, ?_, ?_, b3, b4, iN (b p), 0, rfl⟩
      · rw [f_X10_takeComparison, f_X8_comparison, if_pos t4, t7, if_pos (show iN (b p) = (59 : Int32) from congrArg iN e), Option.bind_some, upd_s, show f_X11_within 2 (-1) 1 = some 0 by decide, Option.bind_some, if_pos rfl, b1]; rfl
      · rw [if_neg (show ¬ b p = 60 by omega), if_pos rfl, if_neg (show ¬ b p = 62 by omega), if_pos rfl, if_neg (show ¬ b p = 61 by omega), if_pos rfl, no]
    · refine Or.inr ⟨60, T', J', Tm', Jm', Or.inl rfl, ok 60 e (Or.inl rfl), ?_, a3⟩
      rw [if_pos e, if_neg (show ¬ (1 : Int32) = 0 by decide), yes, e]
    · refine Or.inr ⟨61, T', J', Tm', Jm', Or.inr (Or.inl rfl), ok 61 e (Or.inr (Or.inl rfl)), ?_, a3⟩
      rw [if_neg (show ¬ b p = 60 by omega), if_pos rfl, if_neg (show ¬ b p = 62 by omega), if_pos rfl, if_pos e, if_neg (show ¬ (1 : Int32) = 0 by decide), yes, e]
    · refine Or.inr ⟨62, T', J', Tm', Jm', Or.inr (Or.inr rfl), ok 62 e (Or.inr (Or.inr rfl)), ?_, a3⟩
      rw [if_neg (show ¬ b p = 60 by omega), if_pos rfl, if_pos e, if_neg (show ¬ (1 : Int32) = 0 by decide), yes, e]
  · have m14 : ¬ Tm 14 = 3 := by rw [hm.1]; exact iN_ne (b := 3) (by omega) (by decide) hk
    have t4 : ¬ T 4 = 3 := by rw [h8.1]; exact iN_ne (b := 3) (by omega) (by decide) hk
    have isg : ∀ z, f_X12_isSign Tm z = some 0 := fun z => by rw [f_X12_isSign, if_neg m14]
    refine Or.inl ⟨upd R 7 2, T2, Tm2, _, ?_, ?_, b3, b4, 0, 0, rfl⟩
    · rw [f_X10_takeComparison, f_X8_comparison, if_neg t4, Option.bind_some, upd_s, show f_X11_within 2 (-1) 1 = some 0 by decide, Option.bind_some, if_pos rfl, b1]; rfl
    · rw [f_X12_readTest_82, if_neg nb, if_pos rfl, if_neg m14, e7, st, isg, Option.bind_some, if_pos rfl, isg, Option.bind_some, if_pos rfl, isg, Option.bind_some, if_pos rfl, no]
theorem y_test (hX : tX b n V Vm) (hC : cOk V2) (h : rdS b n p q k T J Tm Jm) (hd : dInv d) (hT : tRep d Td) (hN : ∀ i, i < d 2 → Na i = W i) (hc : mRep d c) (h1 : T3 1 = iN ns) (h2 : T3 2 = iN ln) (hl : ln < 60) (ho : 1590 ≤ o ∧ o + 8 < 1860) (hk5 : c o = iN 5) : rsR b n (cells d) (d 2) ns ln o q true R T T3 De Fi Se Th Pa Tm c (f_X10_takeTest R T J V V2 Td Na T3 De Fi Se Th Pa) (f_X12_readTest Tm Jm Vm c W (iN o)) := by
  have e1 : (iN o + 1 : Int32) = iN (o + 1) := iN_add o 1
  have e3 : (iN o + 3 : Int32) = iN (o + 3) := iN_add o 3
  have e5 : (iN o + 5 : Int32) = iN (o + 5) := iN_add o 5
  have one : ¬ (1 : Int32) = 0 := by decide
  have cw := e8_word h.1
  have mt := e12_test h.1
  have hxl := kx_le b p q k
  obtain ⟨x, hx⟩ : ∃ x, x = kx k (wx b p q) := ⟨_, rfl⟩
  rw [← hx] at cw mt hxl
  have w5 : (wI32 x = 5) = (x = 5) := wI_eq hxl (by decide)
  have w18 : (wI32 x = 18) = (x = 18) := wI_eq hxl (by decide)
  have w17 : (wI32 x = 17) = (x = 17) := wI_eq hxl (by decide)
  have w19 : (wI32 x = 19) = (x = 19) := wI_eq hxl (by decide)
  obtain ⟨T1, J1, Tm1, Jm1, a1, a2, fr1, fr2, p1, q1, k1, hS1, hp1⟩ := p_adv hX hC h
  have f1 : ∀ z, frS o c (upd c (o + 5) z) := fun z => (frS.r o c).u (by decide) z
  have m1 : ∀ z, mRep d (upd c (o + 5) z) := fun z => (f1 z).m (by omega) hc
  have dn : ∀ {B : Nat → Int32} {M : Nat → Int32} {JM : Int64}, bad M → f_X12_readTest_82 Vm W (iN o) 0 M JM B = some (M, JM, B) ∧ ∀ y, f_X12_readTest_82 Vm W (iN o) y M JM B = some (M, JM, B) := fun hb => ⟨by rw [f_X12_readTest_82, if_pos hb.lt], fun y => by rw [f_X12_readTest_82, if_pos hb.lt]⟩
  have st : ∀ y : Nat, y < 4 → teW x = some y → f_X12_readTest Tm Jm Vm c W (iN o) = (if iN y = 0 then ((f_X12_readTraveller Tm1 Jm1 Vm (upd c (o + 5) (iN y)) W 0).bind (fun z40 => ck (gd (iN (o + 1)) 1860) (f_X12_readTest_65 Vm W (iN o) (iN y) z40.2.1 z40.2.2 (upd (upd c (o + 5) (iN y)) (o + 1) z40.1)))) else (if 3 ≤ iN y then (f_X12_readTest_65 Vm W (iN o) (iN y) Tm1 Jm1 (upd c (o + 5) (iN y))) else ((f_X12_cellHere Tm1 Jm1 (upd c (o + 5) (iN y)) Vm 0).bind (fun z61 => ck (gd (iN (o + 1)) 1860) (f_X12_readTest_65 Vm W (iN o) (iN y) z61.2.1 z61.2.2 (upd (upd c (o + 5) (iN y)) (o + 1) z61.1)))))) := fun y hy hte => by
    rw [f_X12_readTest, mt, Option.bind_some, hte, oN, if_neg (by rw [show (0 : Int32) = iN 0 from rfl, iN_lt (by omega) (by omega)]; omega), f_X12_readTest_15, p_must1 h.2 a2, Option.bind_some]
    dsimp only
    rw [e5, ck_iN (by omega) (by omega), e1, iN_nn (by omega), iN_nn (by omega)]
  have g0 : ∀ {B : Nat → Int32}, frS o c B → B o = iN 5 := fun hB => by rw [hB o (by omega)]; exact hk5
  by_cases x5 : x = 5
  · have hte : teW x = some 0 := by rw [x5]; rfl
    have s5 := st 0 (by decide) hte
    rw [if_pos (show iN 0 = (0 : Int32) from rfl)] at s5
    have kk : f_X10_takeTest R T J V V2 Td Na T3 De Fi Se Th Pa = (f_X10_takeName R T1 J1 Td Na V V2).bind (fun z74 => if z74.1 = 0 then (some (0, z74.2.1, z74.2.2.1, z74.2.2.2, T3, De, Fi, Se, Th, Pa)) else ((f_X0_addStep T3 De Fi Se Th Pa (wI32 x) (z74.2.1 4) 0 0).bind (fun z91 => if z91.1 = 0 then (some (0, z74.2.1, z74.2.2.1, z74.2.2.2, z91.2.1, z91.2.2.1, z91.2.2.2.1, z91.2.2.2.2.1, z91.2.2.2.2.2.1, z91.2.2.2.2.2.2)) else (some (1, z74.2.1, z74.2.2.1, z74.2.2.2, z91.2.1, z91.2.2.1, z91.2.2.2.1, z91.2.2.2.2.1, z91.2.2.2.2.2.1, z91.2.2.2.2.2.2))))) := by
      rw [f_X10_takeTest, cw, Option.bind_some, if_pos (by rw [w5]; exact x5), f_X10_takeTest_39, a1, Option.bind_some, if_pos (by rw [w5]; exact x5)]
    rcases y_name (R := R) (c := upd c (o + 5) (iN 0)) hX hC hS1 hd hT hN (m1 _) with ⟨R', T', Tm', y1, y2, y3, y4⟩ | ⟨i, T', J', Tm', Jm', hi, y1, y2, y3⟩
    · refine Or.inl ⟨R', T', J1, T3, De, Fi, Se, Th, Pa, Tm', Jm1, upd (upd c (o + 5) (iN 0)) (o + 1) 0, ?_, ?_, y3, fr2.t y4, (f1 _).u (by decide) _⟩
      · rw [kk, y1]; rfl
      · rw [s5, y2, Option.bind_some, ck_iN (by omega) (by omega), f_X12_readTest_65, if_neg (by decide)]
        exact (dn y3.b).2 _
    · have fS : frS o c (upd (upd c (o + 5) (iN 0)) (o + 1) (iN i)) := (f1 _).u (by decide) _
      refine Or.inr ⟨upd R 4 (iN i), T', J', wI32 x, iN i, 0, 0, Tm', Jm', upd (upd c (o + 5) (iN 0)) (o + 1) (iN i), ?_, ?_, upd_n (by decide), ?_, fS, nx_t fr1 fr2 hS1 hp1 y3⟩
      · rw [kk, y1, Option.bind_some, if_neg one]
        dsimp only
        rw [upd_s, e0_addStep h1 h2 hl, Option.bind_some, if_neg one]
      · obtain ⟨-, -, p9, q9, k9, hS9, -⟩ := y3
        rw [s5, y2, Option.bind_some, ck_iN (by omega) (by omega), f_X12_readTest_65, if_neg (by decide)]
        dsimp only
        rw [f_X12_readTest_82, if_neg (by rw [hS9.2]; decide), if_neg (by decide)]
      · rw [if_pos rfl]
        refine Or.inl ⟨by rw [Nat.add_zero]; exact g0 fS, Or.inl ⟨by rw [x5]; rfl, ?_, i, hi, rfl, upd_s⟩⟩
        show upd _ _ _ (o + 5) = _
        rw [upd_n (by omega), upd_s]
  · by_cases x18 : x = 18
    · have hte : teW x = some 1 := by rw [x18]; rfl
      have s5 := st 1 (by decide) hte
      rw [if_neg (by decide), if_neg (by decide)] at s5
      have kk : f_X10_takeTest R T J V V2 Td Na T3 De Fi Se Th Pa = (f_X10_takeCell R T1 J1 Td V V2).bind (fun z105 => if z105.1 = 0 then (some (0, z105.2.1, z105.2.2.1, z105.2.2.2, T3, De, Fi, Se, Th, Pa)) else ((f_X0_addStep T3 De Fi Se Th Pa (wI32 x) (z105.2.1 5) 0 0).bind (fun z122 => if z122.1 = 0 then (some (0, z105.2.1, z105.2.2.1, z105.2.2.2, z122.2.1, z122.2.2.1, z122.2.2.2.1, z122.2.2.2.2.1, z122.2.2.2.2.2.1, z122.2.2.2.2.2.2)) else (some (1, z105.2.1, z105.2.2.1, z105.2.2.2, z122.2.1, z122.2.2.1, z122.2.2.2.1, z122.2.2.2.2.1, z122.2.2.2.2.2.1, z122.2.2.2.2.2.2))))) := by
        rw [f_X10_takeTest, cw, Option.bind_some, if_neg (by rw [w5]; exact x5), if_pos (by rw [w18]; exact x18), f_X10_takeTest_39, a1, Option.bind_some, if_neg (by rw [w5]; exact x5), if_neg (by rw [w17]; omega), if_pos (by rw [w18]; exact x18)]
      rcases y_cell (R := R) (c := upd c (o + 5) (iN 1)) hX hC hS1 hd hT (m1 _) with ⟨R', T', J', Tm', Jm', y1, y2, y3, y4⟩ | ⟨i, T', J', Tm', Jm', hi, y1, y2, y3⟩
      · refine Or.inl ⟨R', T', J', T3, De, Fi, Se, Th, Pa, Tm', Jm', upd (upd c (o + 5) (iN 1)) (o + 1) 0, ?_, ?_, y3, fr2.t y4, (f1 _).u (by decide) _⟩
        · rw [kk, y1]; rfl
        · rw [s5, y2, Option.bind_some, ck_iN (by omega) (by omega), f_X12_readTest_65, if_neg (by decide)]
          exact (dn y3.b).2 _
      · have fS : frS o c (upd (upd c (o + 5) (iN 1)) (o + 1) (iN i)) := (f1 _).u (by decide) _
        refine Or.inr ⟨upd R 5 (iN i), T', J', wI32 x, iN i, 0, 0, Tm', Jm', upd (upd c (o + 5) (iN 1)) (o + 1) (iN i), ?_, ?_, upd_n (by decide), ?_, fS, nx_t fr1 fr2 hS1 hp1 y3⟩
        · rw [kk, y1, Option.bind_some, if_neg one]
          dsimp only
          rw [upd_s, e0_addStep h1 h2 hl, Option.bind_some, if_neg one]
        · obtain ⟨-, -, p9, q9, k9, hS9, -⟩ := y3
          rw [s5, y2, Option.bind_some, ck_iN (by omega) (by omega), f_X12_readTest_65, if_neg (by decide)]
          dsimp only
          rw [f_X12_readTest_82, if_neg (by rw [hS9.2]; decide), if_neg (by decide)]
        · rw [if_pos rfl]
          refine Or.inl ⟨by rw [Nat.add_zero]; exact g0 fS, Or.inr (Or.inl ⟨by rw [x18]; rfl, ?_, i, hi, rfl, upd_s⟩)⟩
          show upd _ _ _ (o + 5) = _
          rw [upd_n (by omega), upd_s]
    · by_cases x17 : x = 17
      · have hte : teW x = some 2 := by rw [x17]; rfl
        have s5 := st 2 (by decide) hte
        rw [if_neg (by decide), if_neg (by decide)] at s5
        have kk : f_X10_takeTest R T J V V2 Td Na T3 De Fi Se Th Pa = (f_X10_takeCell R T1 J1 Td V V2).bind (fun z136 => if z136.1 = 0 then (some (0, z136.2.1, z136.2.2.1, z136.2.2.2, T3, De, Fi, Se, Th, Pa)) else ((f_X10_takeFeeling z136.2.1 z136.2.2.1 z136.2.2.2 V V2).bind (fun z144 => if z144.1 = 0 then (some (0, z144.2.1, z144.2.2.1, z144.2.2.2, T3, De, Fi, Se, Th, Pa)) else ((f_X0_addStep T3 De Fi Se Th Pa (wI32 x) (z144.2.1 5) (z144.2.1 6) 0).bind (fun z164 => if z164.1 = 0 then (some (0, z144.2.1, z144.2.2.1, z144.2.2.2, z164.2.1, z164.2.2.1, z164.2.2.2.1, z164.2.2.2.2.1, z164.2.2.2.2.2.1, z164.2.2.2.2.2.2)) else (some (1, z144.2.1, z144.2.2.1, z144.2.2.2, z164.2.1, z164.2.2.1, z164.2.2.2.1, z164.2.2.2.2.1, z164.2.2.2.2.2.1, z164.2.2.2.2.2.2))))))) := by
          rw [f_X10_takeTest, cw, Option.bind_some, if_neg (by rw [w5]; exact x5), if_neg (by rw [w18]; exact x18), if_pos (by rw [w17]; exact x17), f_X10_takeTest_39, a1, Option.bind_some, if_neg (by rw [w5]; exact x5), if_pos (by rw [w17]; exact x17)]
        rcases y_cell (R := R) (c := upd c (o + 5) (iN 2)) hX hC hS1 hd hT (m1 _) with ⟨R', T', J', Tm', Jm', y1, y2, y3, y4⟩ | ⟨i, T2, J2, Tm2, Jm2, hi, y1, y2, fr3, fr4, p2, q2, k2, hS2, hp2⟩
        · refine Or.inl ⟨R', T', J', T3, De, Fi, Se, Th, Pa, Tm', Jm', upd (upd (upd c (o + 5) (iN 2)) (o + 1) 0) (o + 3) 0, ?_, ?_, y3, fr2.t y4, ((f1 _).u (by decide) _).u (by decide) _⟩
          · rw [kk, y1]; rfl
          · rw [s5, y2, Option.bind_some, ck_iN (by omega) (by omega), f_X12_readTest_65, if_pos (show iN 2 = (2 : Int32) from rfl)]
            dsimp only
            rw [b_readFeeling y3.b, Option.bind_some, e3, ck_iN (by omega) (by omega), iN_nn (by omega)]
            exact (dn y3.b).2 _
        · rcases y_feel (R := upd R 5 (iN i)) hX hC hS2 with ⟨R', T', Tm', z1, z2, z3, z4⟩ | ⟨g, T', J', Tm', Jm', hg, z1, z2, z3⟩
          · refine Or.inl ⟨R', T', J2, T3, De, Fi, Se, Th, Pa, Tm', Jm2, upd (upd (upd c (o + 5) (iN 2)) (o + 1) (iN i)) (o + 3) 0, ?_, ?_, z3, (fr2.t fr4).t z4, ((f1 _).u (by decide) _).u (by decide) _⟩
            · rw [kk, y1, Option.bind_some, if_neg one]
              dsimp only
              rw [z1]; rfl
            · rw [s5, y2, Option.bind_some, ck_iN (by omega) (by omega), f_X12_readTest_65, if_pos (show iN 2 = (2 : Int32) from rfl)]
              dsimp only
              rw [z2, Option.bind_some, e3, ck_iN (by omega) (by omega), iN_nn (by omega)]
              exact (dn z3.b).2 _
          · have fS : frS o c (upd (upd (upd c (o + 5) (iN 2)) (o + 1) (iN i)) (o + 3) (iN g)) := ((f1 _).u (by decide) _).u (by decide) _
            refine Or.inr ⟨upd (upd R 5 (iN i)) 6 (iN g), T', J', wI32 x, iN i, iN g, 0, Tm', Jm', upd (upd (upd c (o + 5) (iN 2)) (o + 1) (iN i)) (o + 3) (iN g), ?_, ?_, by rw [upd_n (by decide), upd_n (by decide)], ?_, fS, nx_t fr1 fr2 hS1 hp1 (nx_t fr3 fr4 hS2 hp2 z3)⟩
            · rw [kk, y1, Option.bind_some, if_neg one]
              dsimp only
              rw [z1, Option.bind_some, if_neg one]
              dsimp only
              rw [upd_n (show 5 ≠ 6 by decide), upd_s, upd_s, e0_addStep h1 h2 hl, Option.bind_some, if_neg one]
            · obtain ⟨-, -, p9, q9, k9, hS9, -⟩ := z3
              rw [s5, y2, Option.bind_some, ck_iN (by omega) (by omega), f_X12_readTest_65, if_pos (show iN 2 = (2 : Int32) from rfl)]
              dsimp only
              rw [z2, Option.bind_some, e3, ck_iN (by omega) (by omega), iN_nn (by omega)]
              dsimp only
              rw [f_X12_readTest_82, if_neg (by rw [hS9.2]; decide), if_neg (by decide)]
            · rw [if_pos rfl]
              refine Or.inl ⟨by rw [Nat.add_zero]; exact g0 fS, Or.inr (Or.inr (Or.inl ⟨by rw [x17]; rfl, ?_, i, g, hi, hg, rfl, ?_, rfl, upd_s⟩))⟩
              · show upd _ _ _ (o + 5) = _
                rw [upd_n (by omega), upd_n (by omega), upd_s]
              · show upd _ _ _ (o + 1) = _
                rw [upd_n (by omega), upd_s]
      · by_cases x19 : x = 19
        · have hte : teW x = some 3 := by rw [x19]; rfl
          have s5 := st 3 (by decide) hte
          rw [if_neg (by decide), if_pos (by decide), f_X12_readTest_65, if_neg (by decide)] at s5
          have kk : f_X10_takeTest R T J V V2 Td Na T3 De Fi Se Th Pa = (f_X10_takeComparison R T1 J1 V V2).bind (fun z178 => if z178.1 = 0 then (some (0, z178.2.1, z178.2.2.1, z178.2.2.2, T3, De, Fi, Se, Th, Pa)) else ((f_X10_takeNumber z178.2.1 z178.2.2.1 z178.2.2.2 V V2 0 36).bind (fun z189 => if z189.1 = 0 then (some (0, z189.2.1, z189.2.2.1, z189.2.2.2, T3, De, Fi, Se, Th, Pa)) else ((f_X0_addStep T3 De Fi Se Th Pa (wI32 x) (z189.2.1 7) (z189.2.1 8) 0).bind (fun z209 => if z209.1 = 0 then (some (0, z189.2.1, z189.2.2.1, z189.2.2.2, z209.2.1, z209.2.2.1, z209.2.2.2.1, z209.2.2.2.2.1, z209.2.2.2.2.2.1, z209.2.2.2.2.2.2)) else (some (1, z189.2.1, z189.2.2.1, z189.2.2.2, z209.2.1, z209.2.2.1, z209.2.2.2.1, z209.2.2.2.2.1, z209.2.2.2.2.2.1, z209.2.2.2.2.2.2))))))) := by
            rw [f_X10_takeTest, cw, Option.bind_some, if_neg (by rw [w5]; exact x5), if_neg (by rw [w18]; exact x18), if_neg (by rw [w17]; exact x17), if_pos (by rw [w19]; exact x19), f_X10_takeTest_39, a1, Option.bind_some, if_neg (by rw [w5]; exact x5), if_neg (by rw [w17]; exact x17), if_neg (by rw [w18]; exact x18)]
          rcases y_cmp (R := R) (o := o) hX hC hS1 (upd c (o + 5) (iN 3)) W (by omega) with ⟨R', T', Tm', c', y1, y2, y3, y4, u, v, y5⟩ | ⟨z, T2, J2, Tm2, Jm2, hz, y1, y2, fr3, fr4, p2, q2, k2, hS2, hp2⟩
          · refine Or.inl ⟨R', T', J1, T3, De, Fi, Se, Th, Pa, Tm', Jm1, c', ?_, s5.trans y2, y3, fr2.t y4, by rw [y5]; exact ((f1 (iN 3)).u (f := 7) (by decide) u).u (f := 6) (by decide) v⟩
            rw [kk, y1]; rfl
          · rcases y_num (R := upd R 7 (iN z - 61)) hX hC hS2 0 36 with ⟨R', T', Tm', z1, z2, z3, z4⟩ | ⟨v, T', J', Tm', Jm', hv, z1, z2, z3⟩
            · refine Or.inl ⟨R', T', J2, T3, De, Fi, Se, Th, Pa, Tm', Jm2, upd (upd (upd c (o + 5) (iN 3)) (o + 7) (iN z)) (o + 6) 0, ?_, ?_, z3, (fr2.t fr4).t z4, ((f1 _).u (by decide) _).u (by decide) _⟩
              · rw [kk, y1, Option.bind_some, if_neg one]
                dsimp only
                rw [z1]; rfl
              · rw [s5]
                refine Eq.trans y2 ?_
                rw [z2]; rfl
            · have fS : frS o c (upd (upd (upd c (o + 5) (iN 3)) (o + 7) (iN z)) (o + 6) (iN v)) := ((f1 _).u (by decide) _).u (by decide) _
              have hv36 : v ≤ 36 := by
                have := hv.2
                rw [show (36 : Int32).toInt = 36 from rfl] at this
                omega
              refine Or.inr ⟨upd (upd R 7 (iN z - 61)) 8 (iN v), T', J', wI32 x, iN z - 61, iN v, 0, Tm', Jm', upd (upd (upd c (o + 5) (iN 3)) (o + 7) (iN z)) (o + 6) (iN v), ?_, ?_, by rw [upd_n (by decide), upd_n (by decide)], ?_, fS, nx_t fr1 fr2 hS1 hp1 (nx_t fr3 fr4 hS2 hp2 z3)⟩
              · rw [kk, y1, Option.bind_some, if_neg one]
                dsimp only
                rw [z1, Option.bind_some, if_neg one]
                dsimp only
                rw [upd_n (show 7 ≠ 8 by decide), upd_s, upd_s, e0_addStep h1 h2 hl, Option.bind_some, if_neg one]
              · rw [s5]
                refine Eq.trans y2 ?_
                rw [z2]; rfl
              · rw [if_pos rfl]
                refine Or.inl ⟨by rw [Nat.add_zero]; exact g0 fS, Or.inr (Or.inr (Or.inr ⟨by rw [x19]; rfl, ?_, z, v, hz, hv36, rfl, ?_, rfl, upd_s⟩))⟩
                · show upd _ _ _ (o + 5) = _
                  rw [upd_n (by omega), upd_n (by omega), upd_s]
                · show upd _ _ _ (o + 7) = _
                  rw [upd_n (by omega), upd_s]
        · have hte : teW x = none := by
            unfold teW
            rw [if_neg x5, if_neg x18, if_neg x17, if_neg x19]
          obtain ⟨T', Tm', b1, b2, b3, b4⟩ := p_amiss h
          refine Or.inl ⟨R, T', J, T3, De, Fi, Se, Th, Pa, Tm', Jm, upd (upd c (o + 5) (-1)) (o + 1) 0, ?_, ?_, b3, b4, (f1 _).u (by decide) _⟩
          · rw [f_X10_takeTest, cw, Option.bind_some, if_neg (by rw [w5]; exact x5), if_neg (by rw [w18]; exact x18), if_neg (by rw [w17]; exact x17), if_neg (by rw [w19]; exact x19), b1]; rfl
          · rw [f_X12_readTest, mt, Option.bind_some, hte, oN, if_pos (by decide), f_X12_readTest_15, p_must0 h b2, Option.bind_some]
            dsimp only
            rw [e5, ck_iN (by omega) (by omega), if_neg (by decide), if_neg (by decide), iN_nn (by omega), b_cellHere b3.b _ _ (by decide), Option.bind_some, e1, ck_iN (by omega) (by omega), iN_nn (by omega), f_X12_readTest_65, if_neg (by decide)]
            exact (dn b3.b).2 _
end YR2
