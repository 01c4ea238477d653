/-! The years read: a step up to its own sign, both sides. -/
section YR5
variable {b : Nat → Nat} {n p q k : Nat} {V Vm T Tm R : Nat → Int32} {J Jm : Int64} {V2 : Nat → Int64} {d : Nat → Nat} {Na W : Nat → Int64} {c Td T3 De Fi Se Th Pa : Nat → Int32} {ns ln dd x m : Nat}
theorem y_go (hX : tX b n V Vm) (hC : cOk V2) (h : rdS b n p q k T J Tm Jm) (hd : dInv d) (hT : tRep d Td) (hN : ∀ i, i < d 2 → Na i = W i) (hc : mRep d c) (h1 : T3 1 = iN ns) (h2 : T3 2 = iN ln) (hl : ln < 60) (hns : ns < 30) (h26 : Tm 26 = iN ns) (hs : stW x = some m) (rec : (Nat → Int32) → Int64 → (Nat → Int32) → (Nat → Int32) → (Nat → Int64) → Int32 → Option ((Nat → Int32) × Int64 × (Nat → Int32))) (y s : Int32) (Op : Nat → Int32) : (∃ (R' T' : Nat → Int32) (J' : Int64) (T3' De' Fi' Se' Th' Pa' Tm' : Nat → Int32) (Jm' : Int64) (c' : Nat → Int32), f_X10_takeStep_92 V V2 Td Na (wI32 x) R T J T3 De Fi Se Th Pa Op = some (0, R', T', J', T3', De', Fi', Se', Th', Pa', Op) ∧ f_X12_readStep_82 rec Vm W y (iN m) s Tm Jm c = some (Tm', Jm', c') ∧ flS T' Tm' ∧ frY Tm Tm' ∧ blo (1590 + 9 * ns) c c') ∨ (∃ (R' T' : Nat → Int32) (J' : Int64) (e f s2 t : Int32) (Tm' : Nat → Int32) (Jm' : Int64) (c' : Nat → Int32), f_X10_takeStep_92 V V2 Td Na (wI32 x) R T J T3 De Fi Se Th Pa Op = some (1, R', T', J', upd (upd T3 1 (iN (ns + 1))) 2 (iN (ln + 1)), upd De ln e, upd Fi ln f, upd Se ln s2, upd Th ln t, upd Pa ln (iN ln), Op) ∧ R' 3 = R 3 ∧ f_X12_readStep_82 rec Vm W y (iN m) s Tm Jm c = f_X12_readStep_141 rec Vm W y xF s (iN (1590 + 9 * ns)) Tm' Jm' c' ∧ (if (m == 5 || m == 6) = true then yHdV (cells d) (d 2) (fun f => c' (1590 + 9 * ns + f)) e f s2 else ySmV (cells d) (d 2) (fun f => c' (1590 + 9 * ns + f)) e f s2 t) ∧ blo (1590 + 9 * ns) c c' ∧ Tm' 26 = iN (ns + 1) ∧ frC T T' ∧ frY Tm Tm' ∧ ∃ p' q' k', rdS b n p' q' k' T' J' Tm' Jm' ∧ q ≤ p') := by
  obtain ⟨o, ho⟩ : ∃ o, o = 1590 + 9 * ns := ⟨_, rfl⟩
  rw [← ho]
  have eo : (1590 + 9 * Tm 26 : Int32) = iN o := by rw [h26, show (9 : Int32) = iN 9 from rfl, iN_mul, show (1590 : Int32) = iN 1590 from rfl, iN_add, ← ho]
  have e26 : (Tm 26 + 1 : Int32) = iN (ns + 1) := by rw [h26]; exact iN_add ns 1
  have hS0 := rdS_u h (i := 26) (iN (ns + 1)) (Or.inr (Or.inr rfl))
  obtain ⟨T1, J1, Tm1, Jm1, a1, a2, fr1, fr2, p1, q1, k1, hS1, hp1⟩ := p_adv hX hC hS0
  have hm8 := stW_lt hs
  have hc1 : mRep d (upd c o (iN m)) := fun j hj => by rw [upd_n (by omega)]; exact hc j hj
  have r := y_rst (R := R) (De := De) (Fi := Fi) (Se := Se) (Th := Th) (Pa := Pa) (c := upd c o (iN m)) (o := o) hX hC hS1 hd hT hN hc1 h1 h2 hl (by omega) hs upd_s
  have mm : f_X12_readStep_82 rec Vm W y (iN m) s Tm Jm c = (f_X12_readRest Tm1 Jm1 (upd c o (iN m)) Vm W (iN o)).bind (fun z128 => (f_X12_isSign z128.1 59).bind (fun z135 => (f_X12_must z128.1 z128.2.1 Vm z135).bind (fun z138 => f_X12_readStep_141 rec Vm W y xF s (iN o) z138.1 z138.2 z128.2.2))) := by
    rw [f_X12_readStep_82, if_pos (by rw [h.2]; decide), eo, e26, a2, Option.bind_some, ck_iN (by omega) (by omega), iN_nn (by omega)]
  have kk : f_X10_takeStep_92 V V2 Td Na (wI32 x) R T J T3 De Fi Se Th Pa Op = (if wI32 x = 16 then (f_X10_takeTest R T1 J1 V V2 Td Na T3 De Fi Se Th Pa) else (f_X10_takeRest R T1 J1 Td Na V V2 T3 De Fi Se Th Pa (wI32 x))).bind (fun z106 => f_X10_takeStep_122 V V2 Td Na z106.1 z106.2.1 z106.2.2.1 z106.2.2.2.1 z106.2.2.2.2.1 z106.2.2.2.2.2.1 z106.2.2.2.2.2.2.1 z106.2.2.2.2.2.2.2.1 z106.2.2.2.2.2.2.2.2.1 z106.2.2.2.2.2.2.2.2.2 Op) := by
    rw [f_X10_takeStep_92, a1, Option.bind_some]
    by_cases e : wI32 x = 16
    · rw [if_pos e, if_pos e]
    · rw [if_neg e, if_neg e]
  have fY : frY Tm Tm1 := (frY.u Tm _).t fr2.y
  have n26 : Tm1 26 = iN (ns + 1) := by rw [fr2 26 (by omega), upd_s]
  have out : ∀ (M : Nat → Int32) (JM : Int64) (B : Nat → Int32), bad M → f_X12_readStep_141 rec Vm W y xF s (iN o) M JM B = some (M, JM, upd B (o + 8) (M 26)) := fun M JM B hb => y_out rec hb (by omega) 3999999 s y JM B
  rcases r with ⟨R', T', J', T3', De', Fi', Se', Th', Pa', Tm', Jm', c', r1, r2, r3, r4, r5⟩ | ⟨R', T2, J2, e, f, s2, t, Tm2, Jm2, c', r1, r2, r3, r4, r5, fr3, fr4, p2, q2, k2, hS2, hp2⟩
  · have fb : blo o c c' := fun j hj => (r5 j (by omega)).trans (upd_n (by omega))
    obtain ⟨z, hz⟩ := t_isSign Tm' 59
    refine Or.inl ⟨R', T', J', T3', De', Fi', Se', Th', Pa', Tm', Jm', upd c' (o + 8) (Tm' 26), ?_, ?_, r3, fY.t r4.y, fb.t (blo.u _ _ (by omega))⟩
    · rw [kk, r1]; rfl
    · rw [mm, r2, Option.bind_some]
      dsimp only
      rw [hz, Option.bind_some, b_must r3.b, Option.bind_some, out _ _ _ r3.b]
  · have fb : blo o c c' := fun j hj => (r5 j (by omega)).trans (upd_n (by omega))
    rcases p_sign hX hC hS2 with ⟨T', Tm', z, g1, g2, g3, g4, g5⟩ | ⟨T', J', Tm', Jm', z, g0, g1, g2, g3, fr5, fr6, p3, q3, k3, hS3, hp3⟩
    · refine Or.inl ⟨R', T', J2, upd (upd T3 1 (iN (ns + 1))) 2 (iN (ln + 1)), upd De ln e, upd Fi ln f, upd Se ln s2, upd Th ln t, upd Pa ln (iN ln), Tm', Jm2, upd c' (o + 8) (Tm' 26), ?_, ?_, g4, (fY.t fr4.y).t g5.y, fb.t (blo.u _ _ (by omega))⟩
      · rw [kk, r1, Option.bind_some, f_X10_takeStep_122, if_neg (show ¬ (1 : Int32) = 0 by decide)]
        dsimp only
        rw [g1]; rfl
      · rw [mm, r2, Option.bind_some]
        dsimp only
        rw [g2, Option.bind_some, g3, Option.bind_some, out _ _ _ g4.b]
    · have := tkS_pq hS1.1
      have := tkS_pq hS2.1
      refine Or.inr ⟨R', T', J', e, f, s2, t, Tm', Jm', c', ?_, r3, ?_, r4, fb, ?_, (fr1.t fr3).t fr5, (fY.t fr4.y).t fr6.y, p3, q3, k3, hS3, by omega⟩
      · rw [kk, r1, Option.bind_some, f_X10_takeStep_122, if_neg (show ¬ (1 : Int32) = 0 by decide)]
        dsimp only
        rw [g1]; rfl
      · rw [mm, r2, Option.bind_some]
        dsimp only
        rw [g2, Option.bind_some, g3, Option.bind_some]
      · rw [fr6 26 (by omega), fr4 26 (by omega), n26]
theorem y_head (hX : tX b n V Vm) (hC : cOk V2) (h : rdS b n p q k T J Tm Jm) (hd : dInv d) (hT : tRep d Td) (hN : ∀ i, i < d 2 → Na i = W i) (hc : mRep d c) (h1 : T3 1 = iN ns) (h2 : T3 2 = iN ln) (h26 : Tm 26 = iN ns) (hR : R 3 = iN dd) (hdd : dd ≤ 3) (hns : ns ≤ 30) (hln : ln + dd ≤ 2 * ns) (rec : (Nat → Int32) → Int64 → (Nat → Int32) → (Nat → Int32) → (Nat → Int64) → Int32 → Option ((Nat → Int32) × Int64 × (Nat → Int32))) (Op : Nat → Int32) : (∃ (R' T' : Nat → Int32) (J' : Int64) (T3' De' Fi' Se' Th' Pa' Op' Tm' : Nat → Int32) (Jm' : Int64) (c' : Nat → Int32), f_X10_takeStep R T J T3 V V2 Td Na De Fi Se Th Pa Op = some (0, R', T', J', T3', De', Fi', Se', Th', Pa', Op') ∧ o_X12_readStep rec Tm Jm Vm c W (iN dd) = some (Tm', Jm', c') ∧ flS T' Tm' ∧ frY Tm Tm' ∧ blo (1590 + 9 * ns) c c') ∨ (∃ (bl : Bool) (R' T' : Nat → Int32) (J' : Int64) (e f s2 t : Int32) (Op' Tm' : Nat → Int32) (Jm' : Int64) (c' : Nat → Int32), ns < 30 ∧ f_X10_takeStep R T J T3 V V2 Td Na De Fi Se Th Pa Op = some (1, R', T', J', upd (upd T3 1 (iN (ns + 1))) 2 (iN (ln + 1)), upd De ln e, upd Fi ln f, upd Se ln s2, upd Th ln t, upd Pa ln (iN ln), Op') ∧ (if bl = true then dd < 3 ∧ R' 3 = iN (dd + 1) ∧ Op' = upd Op dd (iN ln) ∧ yHdV (cells d) (d 2) (fun f => c' (1590 + 9 * ns + f)) e f s2 else R' 3 = iN dd ∧ Op' = Op ∧ ySmV (cells d) (d 2) (fun f => c' (1590 + 9 * ns + f)) e f s2 t) ∧ o_X12_readStep rec Tm Jm Vm c W (iN dd) = f_X12_readStep_141 rec Vm W (iN dd) xF (if bl = true then 1 else 0) (iN (1590 + 9 * ns)) Tm' Jm' c' ∧ blo (1590 + 9 * ns) c c' ∧ Tm' 26 = iN (ns + 1) ∧ frC T T' ∧ frY Tm Tm' ∧ ∃ p' q' k', rdS b n p' q' k' T' J' Tm' Jm' ∧ q ≤ p') := by
  have cw := e8_word h.1
  have ms := e12_step h.1
  have hxl := kx_le b p q k
  obtain ⟨x, hx⟩ : ∃ x, x = kx k (wx b p q) := ⟨_, rfl⟩
  rw [← hx] at cw ms hxl
  have bg := e10_begins (x := x) (by omega)
  have b0 : blo (1590 + 9 * ns) c c := fun _ _ => rfl
  cases hs : stW x with
  | none =>
    rw [hs, if_pos rfl] at bg
    rw [hs] at ms
    obtain ⟨T', Tm', g1, g2, g3, g4⟩ := p_amiss h
    refine Or.inl ⟨R, T', J, T3, De, Fi, Se, Th, Pa, Op, Tm', Jm, c, ?_, ?_, g3, g4.y, b0⟩
    · rw [f_X10_takeStep, cw, Option.bind_some, bg, Option.bind_some, if_pos rfl, g1]; rfl
    · rw [o_X12_readStep, ms, Option.bind_some, if_neg (show ¬ oN none = 5 by decide), if_neg (show ¬ oN none = 6 by decide), f_X12_readStep_21, if_neg (show ¬ 0 ≤ oN none by decide), g2, Option.bind_some, f_X12_readStep_30, if_neg g3.b.ne, f_X12_readStep_56, if_neg g3.b.ne, f_X12_readStep_82, if_neg g3.b.le]
  | some m =>
    rw [hs, if_neg (fun e => by cases e)] at bg
    rw [hs] at ms
    have hm8 := stW_lt hs
    have ms2 : f_X12_stepWord Tm Jm = some (iN m) := ms
    have hk4 : ¬ k = 4 := by
      intro e
      have h9 : x = 23 := by rw [hx, e]; rfl
      rw [h9] at hs
      rw [show stW 23 = none by decide] at hs
      cases hs
    have w16 : (wI32 x = 16) = (x = 16) := wI_eq hxl (by decide)
    have w20 : (wI32 x = 20) = (x = 20) := wI_eq hxl (by decide)
    have mo : o_X12_readStep rec Tm Jm Vm c W (iN dd) = f_X12_readStep_30 rec Vm W (iN dd) (iN m) (if m = 5 ∨ m = 6 then 1 else 0) Tm Jm c := by
      have nn : (0 : Int32) ≤ iN m := by rw [show (0 : Int32) = iN 0 from rfl, iN_le (by omega) (by omega)]; omega
      rw [o_X12_readStep, ms2, Option.bind_some]
      by_cases e5 : m = 5
      · rw [if_pos (show iN m = (5 : Int32) from congrArg iN e5), f_X12_readStep_16, f_X12_readStep_21, if_pos nn, if_pos (Or.inl e5)]
      · rw [if_neg (show ¬ iN m = (5 : Int32) from iN_ne (b := 5) (by omega) (by decide) e5)]
        by_cases e6 : m = 6
        · rw [if_pos (show iN m = (6 : Int32) from congrArg iN e6), f_X12_readStep_16, f_X12_readStep_21, if_pos nn, if_pos (Or.inr e6)]
        · rw [if_neg (show ¬ iN m = (6 : Int32) from iN_ne (b := 6) (by omega) (by decide) e6), f_X12_readStep_21, if_pos nn, if_neg (by omega)]
    have out : ∀ {M : Nat → Int32} (s : Int32), bad M → f_X12_readStep_56 rec Vm W (iN dd) (iN m) s M Jm c = some (M, Jm, c) := fun s hb => by rw [f_X12_readStep_56, if_neg hb.ne, f_X12_readStep_82, if_neg hb.le]
    have ko : f_X10_takeStep R T J T3 V V2 Td Na De Fi Se Th Pa Op = if (T3 1) < 30 then (if wI32 x = 16 then (f_X10_takeStep_50 V V2 Td Na (wI32 x) R T J T3 De Fi Se Th Pa Op) else (if wI32 x = 20 then (f_X10_takeStep_50 V V2 Td Na (wI32 x) R T J T3 De Fi Se Th Pa Op) else (f_X10_takeStep_92 V V2 Td Na (wI32 x) R T J T3 De Fi Se Th Pa Op))) else ((f_X8_blame T 6).bind (fun z33 => ck (bz z33.1) (some (z33.1, R, z33.2, J, T3, De, Fi, Se, Th, Pa, Op)))) := by
      rw [f_X10_takeStep, cw, Option.bind_some, bg, Option.bind_some, if_neg (show ¬ (1 : Int32) = 0 by decide)]
    by_cases h30 : ns = 30
    · obtain ⟨T', Tm', g1, g2, g3, g4⟩ := p_fail h (w := 6) (by decide) hk4
      have g1' : f_X8_blame T 6 = some (0, T') := g1
      have g2' : f_X12_fail Tm 6 (Tm 15) = some Tm' := g2
      refine Or.inl ⟨R, T', J, T3, De, Fi, Se, Th, Pa, Op, Tm', Jm, c, ?_, ?_, g3, g4.y, b0⟩
      · rw [ko, if_neg (by rw [h1, show (30 : Int32) = iN 30 from rfl, iN_lt (by omega) (by omega)]; omega), g1']; rfl
      · rw [mo, f_X12_readStep_30, if_pos h.2, if_pos (by rw [h26, h30]; rfl), g2', Option.bind_some, out _ g3.b]
    · have m30 : ∀ s, f_X12_readStep_30 rec Vm W (iN dd) (iN m) s Tm Jm c = f_X12_readStep_56 rec Vm W (iN dd) (iN m) s Tm Jm c := fun s => by
        rw [f_X12_readStep_30, if_pos h.2, if_neg (by rw [h26]; exact iN_ne (b := 30) (by omega) (by decide) h30)]
      rw [if_pos (by rw [h1, show (30 : Int32) = iN 30 from rfl, iN_lt (by omega) (by omega)]; omega)] at ko
      rw [m30] at mo
      by_cases hb : m = 5 ∨ m = 6
      · rw [if_pos hb] at mo
        have kb : f_X10_takeStep R T J T3 V V2 Td Na De Fi Se Th Pa Op = f_X10_takeStep_50 V V2 Td Na (wI32 x) R T J T3 De Fi Se Th Pa Op := by
          rw [ko]
          rcases stW_inv hs with g | g | g | g | g | g | g | g
          any_goals omega
          · rw [if_pos (by rw [w16]; exact g.1)]
          · rw [if_neg (by rw [w16]; omega), if_pos (by rw [w20]; exact g.1)]
        by_cases h3 : dd = 3
        · obtain ⟨T', Tm', g1, g2, g3, g4⟩ := p_fail h (w := 7) (by decide) hk4
          have g1' : f_X8_blame T 7 = some (0, T') := g1
          have g2' : f_X12_fail Tm 7 (Tm 15) = some Tm' := g2
          refine Or.inl ⟨R, T', J, T3, De, Fi, Se, Th, Pa, Op, Tm', Jm, c, ?_, ?_, g3, g4.y, b0⟩
          · rw [kb, f_X10_takeStep_50, if_neg (by rw [hR, h3]; decide), g1']; rfl
          · rw [mo, f_X12_readStep_56, if_pos h.2, if_neg (by decide), if_pos (show iN dd = (3 : Int32) from congrArg iN h3), g2', Option.bind_some, f_X12_readStep_82, if_neg g3.b.le]
        · have hd3 : dd < 3 := by omega
          have km : f_X10_takeStep_50 V V2 Td Na (wI32 x) R T J T3 De Fi Se Th Pa Op = f_X10_takeStep_92 V V2 Td Na (wI32 x) (upd R 3 (iN (dd + 1))) T J T3 De Fi Se Th Pa (upd Op dd (iN ln)) := by
            rw [f_X10_takeStep_50, hR, h2, if_pos (by rw [show (3 : Int32) = iN 3 from rfl, iN_lt (by omega) (by omega)]; exact hd3), ck_iN (by omega) (by omega), iN_nn (by omega), show (iN dd + 1 : Int32) = iN (dd + 1) from iN_add dd 1]
          have mk : o_X12_readStep rec Tm Jm Vm c W (iN dd) = f_X12_readStep_82 rec Vm W (iN dd) (iN m) 1 Tm Jm c := by
            rw [mo, f_X12_readStep_56, if_pos h.2, if_neg (by decide), if_neg (show ¬ iN dd = (3 : Int32) from iN_ne (b := 3) (by omega) (by decide) h3)]
          rcases y_go (R := upd R 3 (iN (dd + 1))) (De := De) (Fi := Fi) (Se := Se) (Th := Th) (Pa := Pa) hX hC h hd hT hN hc h1 h2 (by omega) (by omega) h26 hs rec (iN dd) 1 (upd Op dd (iN ln)) with ⟨R', T', J', T3', De', Fi', Se', Th', Pa', Tm', Jm', c', r1, r2, r3, r4, r5⟩ | ⟨R', T', J', e, f, s2, t, Tm', Jm', c', r1, r2, r3, r4, r5, r6, r7, r8, r9⟩
          · exact Or.inl ⟨R', T', J', T3', De', Fi', Se', Th', Pa', _, Tm', Jm', c', (kb.trans km).trans r1, mk.trans r2, r3, r4, r5⟩
          · rw [if_pos (by rcases hb with rfl | rfl <;> rfl)] at r4
            refine Or.inr ⟨true, R', T', J', e, f, s2, t, upd Op dd (iN ln), Tm', Jm', c', by omega, (kb.trans km).trans r1, ?_, ?_, r5, r6, r7, r8, r9⟩
            · rw [if_pos rfl]
              exact ⟨hd3, r2.trans upd_s, rfl, r4⟩
            · rw [if_pos rfl]; exact mk.trans r3
      · rw [if_neg hb] at mo
        have kb : f_X10_takeStep R T J T3 V V2 Td Na De Fi Se Th Pa Op = f_X10_takeStep_92 V V2 Td Na (wI32 x) R T J T3 De Fi Se Th Pa Op := by
          rw [ko]
          rcases stW_inv hs with g | g | g | g | g | g | g | g
          any_goals omega
          all_goals rw [if_neg (by rw [w16]; omega), if_neg (by rw [w20]; omega)]
        have mk : o_X12_readStep rec Tm Jm Vm c W (iN dd) = f_X12_readStep_82 rec Vm W (iN dd) (iN m) 0 Tm Jm c := by
          rw [mo, f_X12_readStep_56, if_pos h.2, if_pos rfl]
        rcases y_go (R := R) (De := De) (Fi := Fi) (Se := Se) (Th := Th) (Pa := Pa) hX hC h hd hT hN hc h1 h2 (by omega) (by omega) h26 hs rec (iN dd) 0 Op with ⟨R', T', J', T3', De', Fi', Se', Th', Pa', Tm', Jm', c', r1, r2, r3, r4, r5⟩ | ⟨R', T', J', e, f, s2, t, Tm', Jm', c', r1, r2, r3, r4, r5, r6, r7, r8, r9⟩
        · exact Or.inl ⟨R', T', J', T3', De', Fi', Se', Th', Pa', _, Tm', Jm', c', kb.trans r1, mk.trans r2, r3, r4, r5⟩
        · rw [if_neg (show ¬ (m == 5 || m == 6) = true by rw [Bool.or_eq_true, beq_iff_eq, beq_iff_eq]; exact hb)] at r4
          refine Or.inr ⟨false, R', T', J', e, f, s2, t, Op, Tm', Jm', c', by omega, kb.trans r1, ?_, ?_, r5, r6, r7, r8, r9⟩
          · rw [if_neg (by decide)]
            exact ⟨r2.trans hR, rfl, r4⟩
          · rw [if_neg (by decide)]; exact mk.trans r3
end YR5
