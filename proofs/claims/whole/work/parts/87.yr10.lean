/-! The years read: the whole text; the model's copy. -/
section YR10
variable {b : Nat → Nat} {n : Nat} {V Vm : Nat → Int32} {V2 : Nat → Int64} {d : Nat → Nat} {Na W : Nat → Int64} {Td : Nat → Int32}
theorem y_top (hX : tX b n V Vm) (hC : cOk V2) (hn : n ≤ 900) (hd : dInv d) (hT : tRep d Td) (hN : ∀ i, i < d 2 → Na i = W i) (x : Int32) : ∀ (j : Nat) (p q k i N : Nat) (R T : Nat → Int32) (J : Int64) (T3 De Fi Se Th Pa Op Tm : Nat → Int32) (Jm : Int64) (c : Nat → Int32) (ns ln : Nat), n - p < j → rdS b n p q k T J Tm Jm → i ≤ p → R 3 = iN 0 → (T3 1 = iN ns ∧ T3 2 = iN ln ∧ Tm 26 = iN ns ∧ ns ≤ 30 ∧ ln + 0 ≤ 2 * ns) → mRep d c → ∃ (ok : Int32) (R' T' : Nat → Int32) (J' : Int64) (T3' De' Fi' Se' Th' Pa' Op' Tm' : Nat → Int32) (Jm' : Int64) (c' : Nat → Int32), yK V V2 Td Na n i R T J T3 De Fi Se Th Pa Op = some (ok, R', T', J', T3', De', Fi', Se', Th', Pa', Op') ∧ iter (g_X12_years_28 Vm W x) (fun _ _ _ => none) (N + j + 1) Tm Jm c = f_X12_years_50 Vm W x Tm' Jm' c' ∧ frY Tm Tm' ∧ blo 1590 c c' ∧ ((ok = 0 ∧ flS T' Tm') ∨ (ok = 1 ∧ frC T T' ∧ Tm' 12 = 0 ∧ ∃ ns' ln' f, T3' 0 = 1 ∧ T3' 1 = iN ns' ∧ T3' 2 = iN ln' ∧ Tm' 26 = iN ns' ∧ ns' ≤ 30 ∧ ln' ≤ 2 * ns' ∧ blo (1590 + 9 * ns) c c' ∧ (blo ln De De' ∧ blo ln Fi Fi' ∧ blo ln Se Se' ∧ blo ln Th Th' ∧ blo ln Pa Pa') ∧ ySeg (cells d) (d 2) (yG c' 1590) De' Fi' Se' Th' Pa' f 3 ns ns' ln ln')) := by
  intro j
  induction j with
  | zero => intro p q k i N R T J T3 De Fi Se Th Pa Op Tm Jm c ns ln hj; exact absurd hj (Nat.not_lt_zero _)
  | succ j ih =>
    intro p q k i N R T J T3 De Fi Se Th Pa Op Tm Jm c ns ln hj h hi hR hI hc
    have hl := h.1.le
    rw [show N + (j + 1) + 1 = (N + j + 1) + 1 by omega, iter_succ, g_X12_years_28, if_pos h.2]
    by_cases hk : k = 0
    · refine ⟨1, R, T, J, upd T3 0 1, De, Fi, Se, Th, Pa, Op, Tm, Jm, c, ?_, ?_, fun _ _ _ => rfl, fun _ _ => rfl, Or.inr ⟨rfl, frC.r T, h.2, ns, ln, 0, upd_s, (upd_n (by decide)).trans hI.1, (upd_n (by decide)).trans hI.2.1, hI.2.2.1, hI.2.2.2.1, hI.2.2.2.2, fun _ _ => rfl, ⟨fun _ _ => rfl, fun _ _ => rfl, fun _ _ => rfl, fun _ _ => rfl, fun _ _ => rfl⟩, rfl, rfl⟩⟩
      · rw [yK_0 h hn hi hk, f_X10_take_73, if_pos (by rw [hR]; decide)]
      · rw [if_pos (show Tm 14 = 0 by rw [h.1.2.2.1.1, hk]; rfl)]
    · rw [if_neg (show ¬ Tm 14 = 0 by rw [h.1.2.2.1.1]; exact iN_ne (b := 0) (by omega) (by decide) hk)]
      have st := y_step (Na := Na) (W := W) hX hC hn hd hT hN 3 0 rfl p q k i R T J T3 De Fi Se Th Pa Op Tm Jm c ns ln h hi hR hI hc (fun e => absurd e hk) (fun _ => rfl)
      have rs : f_X12_readStep Tm Jm Vm c W 0 = r_X12_readStep (3 + 2) Tm Jm Vm c W (iN 0) := rfl
      rw [rs]
      rcases st with ⟨R', T', J', T3', De', Fi', Se', Th', Pa', Op', Tm', Jm', c', a1, a2, a3, a4, a5⟩ | ⟨i1, R1, T1, J1, T31, De1, Fi1, Se1, Th1, Pa1, Op1, Tm1, Jm1, c1, p1, q1, k1, ns1, ln1, ⟨a1, a2, a3, a4, a5⟩, ⟨b1, b2⟩, ⟨c1a, c2a, c3a⟩, ⟨d1, d2, d3, d4, d5, d6⟩, f1, hf1⟩
      · refine ⟨0, R', T', J', T3', De', Fi', Se', Th', Pa', Op', Tm', Jm', c', a1, ?_, a4, a5, Or.inl ⟨rfl, a3⟩⟩
        rw [a2, Option.bind_some, iter_succ, g_X12_years_28, if_neg a3.b.ne]
      · have ho1 := yOne.ord hf1
        have hl1 := a3.1.le
        have hp1 := hl1.2.1
        rw [a2, Option.bind_some, a1]
        dsimp only
        have hc1 : mRep d c1 := fun j hj => by rw [c3a j (by omega)]; exact hc j hj
        obtain ⟨ok, R2, T2, J2, T32, De2, Fi2, Se2, Th2, Pa2, Op2, Tm2, Jm2, c2, x1, x2, x3, x4, x5⟩ := ih p1 q1 k1 i1 N R1 T1 J1 T31 De1 Fi1 Se1 Th1 Pa1 Op1 Tm1 Jm1 c1 ns1 ln1 (by omega) a3 a4 b1 b2 hc1
        refine ⟨ok, R2, T2, J2, T32, De2, Fi2, Se2, Th2, Pa2, Op2, Tm2, Jm2, c2, x1, x2, c2a.t x3, (c3a.lo (by omega)).t x4, ?_⟩
        rcases x5 with x5 | ⟨y1, y2, y3, ns2, ln2, f2, z1, z2, z3, z4, z5, z6, z7, ⟨w1, w2, w3, w4, w5⟩, hf2⟩
        · exact Or.inl x5
        · refine Or.inr ⟨y1, c1a.t y2, y3, ns2, ln2, f1 + f2 + 1, z1, z2, z3, z4, z5, z6, c3a.t (z7.lo (by omega)), ⟨d1.t (w1.lo (by omega)), d2.t (w2.lo (by omega)), d3.t (w3.lo (by omega)), d4.t (w4.lo (by omega)), d5.t (w5.lo (by omega))⟩, ?_⟩
          refine ySeg.cons (yOne.tr hf1 (fun t ht ht2 jj hjj => ?_) (fun jj hj1 hj2 => ⟨w1 jj hj2, w2 jj hj2, w3 jj hj2, w4 jj hj2, w5 jj hj2⟩)) hf2
          show c2 _ = c1 _
          exact z7 _ (by omega)
theorem y_copy {Tm c : Nat → Int32} {Jm : Int64} {ns : Nat} (h26 : Tm 26 = iN ns) (hns : ns ≤ 30) (x : Int32) : ∃ c', f_X12_years_80 Vm W x xF 0 Tm Jm c = some (iN ns, Tm, Jm, c') ∧ (∀ j, j < 9 * ns → c' (102 + j) = c (1590 + j)) ∧ ∀ j, ¬ (102 ≤ j ∧ j < 372) → c' j = c j := by
  have e9 : (9 * Tm 26 : Int32) = iN (9 * ns) := by rw [h26, show (9 : Int32) = iN 9 from rfl, iN_mul]
  have l := iter_run (g := g_X12_years_80 Vm W x) (z := fun _ _ _ _ => none) (9 * ns) (fun i (φ : Int32 → (Nat → Int32) → Int64 → (Nat → Int32) → Option (Int32 × (Nat → Int32) × Int64 × (Nat → Int32))) => ∀ c1, (∀ k, k < i → c1 (102 + k) = c (1590 + k)) → (∀ j, ¬ (102 ≤ j ∧ j < 372) → c1 j = c j) → ∃ c', φ (iN i) Tm Jm c1 = some (iN ns, Tm, Jm, c') ∧ (∀ j, j < 9 * ns → c' (102 + j) = c (1590 + j)) ∧ ∀ j, ¬ (102 ≤ j ∧ j < 372) → c' j = c j) (by omega) (fun i F hi ih => fun c1 h1 h2 => ?_) (fun F => fun c1 h1 h2 => ?_)
  · exact l c (fun k hk => by omega) (fun _ _ => rfl)
  · have e1 : (1590 + iN i : Int32) = iN (1590 + i) := by rw [show (1590 : Int32) = iN 1590 from rfl, iN_add]
    have e2 : (102 + iN i : Int32) = iN (102 + i) := by rw [show (102 : Int32) = iN 102 from rfl, iN_add]
    rw [g_X12_years_80, e9, if_neg (by rw [iN_le (by omega) (by omega)]; omega), e1, e2, ck_iN (by omega) (by omega), ck_iN (by omega) (by omega), iN_nn (by omega), iN_nn (by omega), show (iN i + 1 : Int32) = iN (i + 1) from iN_add i 1]
    refine ih _ (fun k hk => ?_) (fun j hj => by rw [upd_n (by omega)]; exact h2 j hj)
    by_cases e : k = i
    · rw [e, upd_s]; exact h2 _ (by omega)
    · rw [upd_n (by omega)]; exact h1 k (by omega)
  · exact ⟨c1, by rw [g_X12_years_80, e9, if_pos (Int32.le_refl _), h26], h1, h2⟩
end YR10
/-- the years that stand: the almanac and the model's numbers -/
def yRel (d : Nat → Nat) (c Ta De Fi Se Th Pa : Nat → Int32) : Prop := (c 100 = 0 ∧ Ta 0 = 0 ∧ Ta 2 = 0) ∨ (c 100 = 1 ∧ Ta 0 = 1 ∧ ∃ ns ln f, ns ≤ 30 ∧ ln ≤ 2 * ns ∧ c 101 = iN ns ∧ Ta 1 = iN ns ∧ Ta 2 = iN ln ∧ ySeg (cells d) (d 2) (yG c 102) De Fi Se Th Pa f 3 0 ns 0 ln)
