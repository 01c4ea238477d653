/-! The years read: a step with all that it holds, by depth. -/
def yBad (Tm c : Nat → Int32) (cl : Option (Int32 × (Nat → Int32) × (Nat → Int32) × Int64 × (Nat → Int32) × (Nat → Int32) × (Nat → Int32) × (Nat → Int32) × (Nat → Int32) × (Nat → Int32) × (Nat → Int32))) (md : Option ((Nat → Int32) × Int64 × (Nat → Int32))) : Prop := ∃ (R' T' : Nat → Int32) (J' : Int64) (T3' De' Fi' Se' Th' Pa' Op' Tm' : Nat → Int32) (Jm' : Int64) (c' : Nat → Int32), cl = some (0, R', T', J', T3', De', Fi', Se', Th', Pa', Op') ∧ md = some (Tm', Jm', c') ∧ flS T' Tm' ∧ frY Tm Tm' ∧ blo 1590 c c'
def yOk (b : Nat → Nat) (n : Nat) (V : Nat → Int32) (V2 : Nat → Int64) (Td : Nat → Int32) (Na : Nat → Int64) (dd p ns ln : Nat) (T De Fi Se Th Pa Op Tm c : Nat → Int32) (cl : Option (Int32 × (Nat → Int32) × (Nat → Int32) × Int64 × (Nat → Int32) × (Nat → Int32) × (Nat → Int32) × (Nat → Int32) × (Nat → Int32) × (Nat → Int32) × (Nat → Int32))) (md : Option ((Nat → Int32) × Int64 × (Nat → Int32))) (SG : (Nat → Nat → Int32) → (Nat → Int32) → (Nat → Int32) → (Nat → Int32) → (Nat → Int32) → (Nat → Int32) → Nat → Nat → Prop) : Prop := ∃ (i' : Nat) (R' T' : Nat → Int32) (J' : Int64) (T3' De' Fi' Se' Th' Pa' Op' Tm' : Nat → Int32) (Jm' : Int64) (c' : Nat → Int32) (p' q' k' ns' ln' : Nat), (cl = yK V V2 Td Na n i' R' T' J' T3' De' Fi' Se' Th' Pa' Op' ∧ md = some (Tm', Jm', c') ∧ rdS b n p' q' k' T' J' Tm' Jm' ∧ i' ≤ p' ∧ p < p') ∧ (R' 3 = iN dd ∧ (T3' 1 = iN ns' ∧ T3' 2 = iN ln' ∧ Tm' 26 = iN ns' ∧ ns' ≤ 30 ∧ ln' + dd ≤ 2 * ns')) ∧ (frC T T' ∧ frY Tm Tm' ∧ blo (1590 + 9 * ns) c c') ∧ (blo ln De De' ∧ blo ln Fi Fi' ∧ blo ln Se Se' ∧ blo ln Th Th' ∧ blo ln Pa Pa' ∧ blo dd Op Op') ∧ SG (yG c' 1590) De' Fi' Se' Th' Pa' ns' ln'
/-- what the loop in a block comes to -/
def yIn (b : Nat → Nat) (n : Nat) (V : Nat → Int32) (V2 : Nat → Int64) (Td : Nat → Int32) (Na : Nat → Int64) (nc nt D dd p ns ln o l0 : Nat) (T De Fi Se Th Pa Op Tm c : Nat → Int32) (cl : Option (Int32 × (Nat → Int32) × (Nat → Int32) × Int64 × (Nat → Int32) × (Nat → Int32) × (Nat → Int32) × (Nat → Int32) × (Nat → Int32) × (Nat → Int32) × (Nat → Int32))) (md : Option ((Nat → Int32) × Int64 × (Nat → Int32))) : Prop := ∃ (i' : Nat) (R' T' : Nat → Int32) (J' : Int64) (T3' De' Fi' Se' Th' Pa' Op' Tm' : Nat → Int32) (Jm' : Int64) (c' : Nat → Int32) (p' q' k' ns' r : Nat), (cl = yK V V2 Td Na n i' R' T' J' T3' De' Fi' Se' Th' Pa' Op' ∧ md = some (Tm', Jm', c') ∧ rdS b n p' q' k' T' J' Tm' Jm' ∧ i' ≤ p' ∧ p ≤ p') ∧ (R' 3 = iN dd ∧ (T3' 1 = iN ns' ∧ T3' 2 = iN (r + 1) ∧ Tm' 26 = iN ns' ∧ ns' ≤ 30 ∧ r + 1 + dd ≤ 2 * ns')) ∧ (frC T T' ∧ frY Tm Tm' ∧ (∀ j, j < 1590 + 9 * ns → j ≠ o + 8 → c' j = c j) ∧ c' (o + 8) = iN ns') ∧ (blo ln De De' ∧ blo ln Fi Fi' ∧ blo ln Se Se' ∧ blo ln Th Th' ∧ (∀ j, j < ln → j ≠ l0 → Pa' j = Pa j) ∧ Pa' l0 = iN r ∧ Pa' r = iN l0 ∧ De' r = iN 21 ∧ blo dd Op Op') ∧ ∃ f, ySeg nc nt (yG c' 1590) De' Fi' Se' Th' Pa' f D ns ns' ln r
def yPst (b : Nat → Nat) (n : Nat) (V Vm : Nat → Int32) (V2 : Nat → Int64) (Td : Nat → Int32) (Na W : Nat → Int64) (d : Nat → Nat) (D dd : Nat) : Prop := ∀ (p q k i : Nat) (R T : Nat → Int32) (J : Int64) (T3 De Fi Se Th Pa Op Tm : Nat → Int32) (Jm : Int64) (c : Nat → Int32) (ns ln : Nat), rdS b n p q k T J Tm Jm → i ≤ p → R 3 = iN dd → (T3 1 = iN ns ∧ T3 2 = iN ln ∧ Tm 26 = iN ns ∧ ns ≤ 30 ∧ ln + dd ≤ 2 * ns) → mRep d c → (k = 0 → 0 < dd) → (k = 1 ∧ wx b p q = 21 → dd = 0) → yBad Tm c (yK V V2 Td Na n i R T J T3 De Fi Se Th Pa Op) (r_X12_readStep (D + 2) Tm Jm Vm c W (iN dd)) ∨ yOk b n V V2 Td Na dd p ns ln T De Fi Se Th Pa Op Tm c (yK V V2 Td Na n i R T J T3 De Fi Se Th Pa Op) (r_X12_readStep (D + 2) Tm Jm Vm c W (iN dd)) (fun G De' Fi' Se' Th' Pa' ns' ln' => ∃ f, yOneF (cells d) (d 2) G De' Fi' Se' Th' Pa' (ySeg (cells d) (d 2) G De' Fi' Se' Th' Pa' f) D ns ns' ln ln')
section YR8
variable {b : Nat → Nat} {n : Nat} {V Vm : Nat → Int32} {V2 : Nat → Int64} {d : Nat → Nat} {Na W : Nat → Int64} {Td : Nat → Int32} {dd D : Nat}
theorem y_inner (hX : tX b n V Vm) (hC : cOk V2) (hn : n ≤ 900) (hP : yPst b n V Vm V2 Td Na W d D (dd + 1)) (hdd : dd + 1 ≤ 3) : ∀ (j : Nat) (p q k i N : Nat) (R T : Nat → Int32) (J : Int64) (T3 De Fi Se Th Pa Op Tm : Nat → Int32) (Jm : Int64) (c : Nat → Int32) (ns ln o l0 : Nat), n - p < j → rdS b n p q k T J Tm Jm → i ≤ p → R 3 = iN (dd + 1) → (T3 1 = iN ns ∧ T3 2 = iN ln ∧ Tm 26 = iN ns ∧ ns ≤ 30 ∧ ln + (dd + 1) ≤ 2 * ns) → mRep d c → Op dd = iN l0 → l0 < ln → 1590 ≤ o ∧ o + 8 < 1590 + 9 * ns → yBad Tm c (yK V V2 Td Na n i R T J T3 De Fi Se Th Pa Op) (f_X12_readStep_141 (r_X12_readStep (D + 2)) Vm W (iN dd) (N + j + 1) 1 (iN o) Tm Jm c) ∨ yIn b n V V2 Td Na (cells d) (d 2) D dd p ns ln o l0 T De Fi Se Th Pa Op Tm c (yK V V2 Td Na n i R T J T3 De Fi Se Th Pa Op) (f_X12_readStep_141 (r_X12_readStep (D + 2)) Vm W (iN dd) (N + j + 1) 1 (iN o) Tm Jm c) := by
  intro j
  induction j with
  | zero => intro p q k i N R T J T3 De Fi Se Th Pa Op Tm Jm c ns ln o l0 hj; exact absurd hj (Nat.not_lt_zero _)
  | succ j ih =>
    intro p q k i N R T J T3 De Fi Se Th Pa Op Tm Jm c ns ln o l0 hj h hi hR hI hc hO h0 ho
    have hl := h.1.le
    have hme := e12_isEnd h.1
    have ml : f_X12_readStep_141 (r_X12_readStep (D + 2)) Vm W (iN dd) (N + (j + 1) + 1) 1 (iN o) Tm Jm c = if k = 1 ∧ wx b p q = 21 then f_X12_readStep_169 (r_X12_readStep (D + 2)) Vm W (iN dd) 1 (iN o) Tm Jm c else (r_X12_readStep (D + 2) Tm Jm Vm c W (iN (dd + 1))).bind (fun z163 => f_X12_readStep_141 (r_X12_readStep (D + 2)) Vm W (iN dd) (N + j + 1) 1 (iN o) z163.1 z163.2.1 z163.2.2) := by
      rw [f_X12_readStep_141, show N + (j + 1) + 1 = (N + j + 1) + 1 by omega, iter_succ, g_X12_readStep_141, if_neg (show ¬ (1 : Int32) = 0 by decide), if_pos h.2, hme, Option.bind_some, show (iN dd + 1 : Int32) = iN (dd + 1) from iN_add dd 1]
      by_cases e : k = 1 ∧ wx b p q = 21
      · rw [if_pos e, if_pos e, if_neg (show ¬ (1 : Int32) = 0 by decide)]
      · rw [if_neg e, if_neg e, if_pos rfl]
        rfl
    rw [ml]
    by_cases e : k = 1 ∧ wx b p q = 21
    · have hk : ¬ k = 0 := by omega
      rw [if_pos e, yK_1 h hn hi hk, if_pos e]
      rcases y_end (o := o) (R := R) (T3 := T3) (De := De) (Fi := Fi) (Se := Se) (Th := Th) (Pa := Pa) (c := c) (W := W) hX hC h e hR hdd hO hI.2.1 h0 (by omega) (by omega) (r_X12_readStep (D + 2)) (iN dd) with ⟨R', T', J', T3', De', Fi', Se', Th', Pa', Tm', Jm', a1, a2, a3, a4⟩ | ⟨T', J', Tm', Jm', a1, a2, fr1, fr2, p', q', k', hS, hp⟩
      · refine Or.inl ⟨R', T', J', T3', De', Fi', Se', Th', Pa', Op, Tm', Jm', upd c (o + 8) (Tm' 26), ?_, a2, a3, a4.y, blo.u _ _ (by omega)⟩
        rw [a1]; rfl
      · have hq := hl.2.2.2.2 hk
        have n26 : Tm' 26 = iN ns := by rw [fr2 26 (by omega)]; exact hI.2.2.1
        refine Or.inr ⟨i + 1, upd R 3 (iN dd), T', J', upd T3 2 (iN (ln + 1)), upd De ln 21, upd Fi ln 0, upd Se ln 0, upd Th ln 0, upd (upd (upd Pa ln (iN ln)) ln (iN l0)) l0 (iN ln), Op, Tm', Jm', upd c (o + 8) (Tm' 26), p', q', k', ns, ln, ⟨?_, a2, hS, by omega, by omega⟩, ⟨upd_s, (upd_n (by decide)).trans hI.1, upd_s, n26, hI.2.2.2.1, by omega⟩, ⟨fr1, fr2.y, fun j hj h9 => upd_n h9, upd_s.trans n26⟩, ⟨blo.u _ _ (Nat.le_refl _), blo.u _ _ (Nat.le_refl _), blo.u _ _ (Nat.le_refl _), blo.u _ _ (Nat.le_refl _), fun j hj h9 => ?_, upd_s, ?_, upd_s, fun _ _ => rfl⟩, 0, rfl, rfl⟩
        · rw [a1, Option.bind_some, if_neg (show ¬ (1 : Int32) = 0 by decide)]
        · rw [upd_n h9, upd_n (by omega), upd_n (by omega)]
        · rw [upd_n (by omega), upd_s]
    · rw [if_neg e]
      rcases hP p q k i R T J T3 De Fi Se Th Pa Op Tm Jm c ns ln h hi hR hI hc (fun _ => by omega) (fun g => absurd g e) with ⟨R', T', J', T3', De', Fi', Se', Th', Pa', Op', Tm', Jm', c', a1, a2, a3, a4, a5⟩ | ⟨i1, R1, T1, J1, T31, De1, Fi1, Se1, Th1, Pa1, Op1, Tm1, Jm1, c1, p1, q1, k1, ns1, ln1, ⟨a1, a2, a3, a4, a5⟩, ⟨b1, b2⟩, ⟨c1a, c2a, c3a⟩, ⟨d1, d2, d3, d4, d5, d6⟩, f1, hf1⟩
      · refine Or.inl ⟨R', T', J', T3', De', Fi', Se', Th', Pa', Op', Tm', Jm', _, a1, ?_, a3, a4, a5.t (blo.u c' (Tm' 26) (show 1590 ≤ o + 8 by omega))⟩
        rw [a2, Option.bind_some]
        exact y_out _ a3.b (by omega) (N + j) 1 _ Jm' c'
      · have ho1 := yOne.ord hf1
        have hl1 := a3.1.le
        have hp1 := hl1.2.1
        rw [a2, Option.bind_some, a1]
        dsimp only
        have hc1 : mRep d c1 := fun j hj => by rw [c3a j (by omega)]; exact hc j hj
        rcases ih p1 q1 k1 i1 N R1 T1 J1 T31 De1 Fi1 Se1 Th1 Pa1 Op1 Tm1 Jm1 c1 ns1 ln1 o l0 (by omega) a3 a4 b1 b2 hc1 (by rw [d6 dd (by omega)]; exact hO) (by omega) (by omega) with ⟨R', T', J', T3', De', Fi', Se', Th', Pa', Op', Tm', Jm', c', x1, x2, x3, x4, x5⟩ | ⟨i2, R2, T2, J2, T32, De2, Fi2, Se2, Th2, Pa2, Op2, Tm2, Jm2, c2, p2, q2, k2, ns2, r2, ⟨x1, x2, x3, x4, x5⟩, ⟨y1, y2⟩, ⟨z1, z2, z3, z4⟩, ⟨w1, w2, w3, w4, w5, w6, w7, w8, w9⟩, f2, hf2⟩
        · exact Or.inl ⟨R', T', J', T3', De', Fi', Se', Th', Pa', Op', Tm', Jm', c', x1, x2, x3, c2a.t x4, (c3a.lo (by omega)).t x5⟩
        · refine Or.inr ⟨i2, R2, T2, J2, T32, De2, Fi2, Se2, Th2, Pa2, Op2, Tm2, Jm2, c2, p2, q2, k2, ns2, r2, ⟨x1, x2, x3, x4, by omega⟩, ⟨y1, y2⟩, ⟨c1a.t z1, c2a.t z2, fun j hj h9 => (z3 j (by omega) h9).trans (c3a j hj), z4⟩, ⟨d1.t (w1.lo (by omega)), d2.t (w2.lo (by omega)), d3.t (w3.lo (by omega)), d4.t (w4.lo (by omega)), fun j hj h9 => (w5 j (by omega) h9).trans (d5 j hj), w6, w7, w8, (d6.lo (by omega)).t w9⟩, f1 + f2 + 1, ?_⟩
          refine ySeg.cons (yOne.tr hf1 (fun t ht ht2 jj hjj => ?_) (fun jj hj1 hj2 => ⟨w1 jj hj2, w2 jj hj2, w3 jj hj2, w4 jj hj2, w5 jj hj2 (by omega)⟩)) hf2
          show c2 _ = c1 _
          exact z3 _ (by omega) (by omega)
theorem ySmV.cg {nc nt : Nat} {g g' : Nat → Int32} {e f s t : Int32} (h : ySmV nc nt g e f s t) (hg : ∀ j, j < 8 → g' j = g j) : ySmV nc nt g' e f s t := by
  unfold ySmV
  rw [hg 0 (by decide), hg 1 (by decide), hg 2 (by decide), hg 3 (by decide)]
  exact h
theorem yHdV.cg {nc nt : Nat} {g g' : Nat → Int32} {e f s : Int32} (h : yHdV nc nt g e f s) (hg : ∀ j, j < 8 → g' j = g j) : yHdV nc nt g' e f s := by
  unfold yHdV
  rw [hg 0 (by decide), hg 1 (by decide), hg 3 (by decide), hg 5 (by decide), hg 6 (by decide), hg 7 (by decide)]
  exact h
end YR8
