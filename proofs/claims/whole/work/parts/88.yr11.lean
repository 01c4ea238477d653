/-! Calls: years. -/
section YR11
variable {V Vm T8 T0 Tm Rr Td Ta De Fi Se Th Pa Op c : Nat → Int32} {V2 Na W : Nat → Int64} {L : Nat} {K : Int32 × Int32} {J Jm : Int64} {d : Nat → Nat}
theorem q_years (hC : cOk V2) (hL : T8 2 = iN L) (hL9 : L ≤ 900) (hb : bRep L V Vm) (ho : bOk L V) (hs : sR T0 Tm (T8 2) K) (hd : dInv d) (hT : tRep d Td) (hN : ∀ i, i < d 2 → Na i = W i) (hc : mRep d c) (a4 a14 : Nat) (x : Int32) : (∃ U Um, f_X11_years T0 a4 T8 J Rr Td a14 Ta V V2 Na De Fi Se Th Pa Op x = some (-1, U, a4, T8, J, Rr, a14, Ta, De, Fi, Se, Th, Pa, Op) ∧ f_X12_years Tm Jm Vm c W x = some (-1, Um, Jm, c) ∧ sR U Um (T8 2) K) ∨ (∃ (U T8' : Nat → Int32) (J' : Int64) (Rr' Ta' De' Fi' Se' Th' Pa' Op' Um : Nat → Int32) (Jm' : Int64) (c' : Nat → Int32), f_X11_years T0 a4 T8 J Rr Td a14 Ta V V2 Na De Fi Se Th Pa Op x = some (-1, U, a4, T8', J', Rr', a14, Ta', De', Fi', Se', Th', Pa', Op') ∧ f_X12_years Tm Jm Vm c W x = some (-1, Um, Jm', c') ∧ T8' 2 = 0 ∧ sR U Um (T8' 2) K ∧ blo 1590 c c') ∨ (∃ (v : Int32) (U T8' : Nat → Int32) (J' : Int64) (Rr' Ta' De' Fi' Se' Th' Pa' Op' Um : Nat → Int32) (Jm' : Int64) (c' : Nat → Int32), f_X11_years T0 a4 T8 J Rr Td a14 Ta V V2 Na De Fi Se Th Pa Op x = some (v, U, a14, T8', J', Rr', a4, Ta', De', Fi', Se', Th', Pa', Op') ∧ f_X12_years Tm Jm Vm c W x = some (v, Um, Jm', c') ∧ T8' 2 = 0 ∧ sR U Um (T8' 2) K ∧ (∀ j, j < 1590 → ¬ (100 ≤ j ∧ j < 372) → c' j = c j) ∧ yRel d c' Ta' De' Fi' Se' Th' Pa') := by
  have h8 : Tm 8 = iN L := hs.2.2.2.2.1.trans hL
  have hw := e_within_l x (min L 300) (by omega)
  have ew : (if (300 : Int32) < iN L then 300 else iN L : Int32) = iN (min L 300) := by
    by_cases e : 300 < L
    · rw [if_pos (by rw [show (300 : Int32) = iN 300 from rfl, iN_lt (by omega) (by omega)]; exact e), show min L 300 = 300 by omega]; rfl
    · rw [if_neg (by rw [show (300 : Int32) = iN 300 from rfl, iN_lt (by omega) (by omega)]; exact e), show min L 300 = L by omega]
  by_cases hx : inR x (min L 300 + 1)
  · rw [if_pos hx] at hw
    obtain ⟨n, hn, rfl⟩ := hx.eq (by omega)
    obtain ⟨b, hX⟩ := tX_ex (show n ≤ L by omega) hL9 hb ho
    obtain ⟨T1, J1, Tm1, Jm1, a1, a2, a3', a4', a5, a6, p, q, k, hS⟩ := p_begin (m := 300) (Tm := upd (upd Tm 1 0) 0 0) hX hC hL (show n ≤ L by omega) hL9 (show n ≤ 300 by omega) (by decide) (by rw [upd_n (by decide), upd_n (by decide)]; exact h8) J Jm
    obtain ⟨ok, R9, T9, J9, Ta9, De9, Fi9, Se9, Th9, Pa9, Op9, Tm9, Jm9, c9, x1, x2, x3, x4, x6⟩ := y_top (W := W) hX hC (by omega) hd hT hN (iN n) (n + 1) p q k 0 (4000000 - (n + 2)) (upd Rr 3 0) T1 J1 (upd (upd (upd Ta 0 0) 1 0) 2 0) De Fi Se Th Pa Op (upd Tm1 26 0) Jm1 c 0 0 (by omega) (rdS_u hS 0 (Or.inr (Or.inr rfl))) (Nat.zero_le _) upd_s ⟨rfl, rfl, rfl, by decide, by decide⟩ hc
    have f2 : 4000000 - (n + 2) + (n + 1) + 1 = xF := by
      show _ = 4000000
      omega
    rw [f2] at x2
    have kk : f_X10_take Rr T8 J Td Ta V V2 Na De Fi Se Th Pa Op (iN n) = some (ok, R9, T9, J9, Ta9, De9, Fi9, Se9, Th9, Pa9, Op9) := by
      rw [f_X10_take, f_X0_clear, Option.bind_some, a1, Option.bind_some]
      exact x1
    have mm : f_X12_years Tm Jm Vm c W (iN n) = f_X12_years_50 Vm W (iN n) Tm9 Jm9 c9 := by
      have a2' : f_X12_starts (upd (upd Tm 1 0) 0 0) Jm Vm (iN n) 300 = some (1, Tm1, Jm1) := a2
      rw [f_X12_years, a2', Option.bind_some, if_neg (show ¬ (1 : Int32) = 0 by decide)]
      exact x2
    have nn : ∀ j, (j < 8 ∨ (19 ≤ j ∧ j < 26) ∨ 27 ≤ j) → j ≠ 0 → j ≠ 1 → Tm9 j = Tm j := fun j hj h0 h1 => by
      rw [x3 j (by omega) (by omega), upd_n (by omega), a6 j (by omega), upd_n h0, upd_n h1]
    have n0 : Tm9 0 = 0 := by rw [x3 0 (by omega) (by omega), upd_n (by omega), a6 0 (by omega), upd_s]
    have n8 : Tm9 8 = 0 := by rw [x3 8 (by omega) (by omega), upd_n (by omega), a5]
    have cl : ∀ R, f_X11_years T0 a4 T8 J Rr Td a14 Ta V V2 Na De Fi Se Th Pa Op (iN n) = R ↔ ((f_X11_endReading T0 T9).bind (fun z49 => if ok = 0 then ((f_X11_refused z49.1 10).bind (fun z59 => some (z59.1, z59.2, a4, z49.2, J9, R9, a14, Ta9, De9, Fi9, Se9, Th9, Pa9, Op9))) else ((f_X11_answer z49.1 (Ta9 1)).bind (fun z98 => some (z98.1, z98.2, a14, z49.2, J9, R9, a4, Ta9, De9, Fi9, Se9, Th9, Pa9, Op9))))) = R := fun R => by
      rw [f_X11_years, f_X8_length, hL, Option.bind_some, letv, ew, hw, Option.bind_some, if_neg (show ¬ (1 : Int32) = 0 by decide), kk, Option.bind_some]
    rcases x6 with ⟨y1, y2⟩ | ⟨y1, y2, y3, ns, ln, f, z1, z2, z3, z4, z5, z6, z7, z8, hf⟩
    · subst y1
      refine Or.inr (Or.inl ⟨upd (upd (upd T0 17 (T9 9)) 18 (T9 10)) 14 10, upd T9 2 0, J9, R9, Ta9, De9, Fi9, Se9, Th9, Pa9, Op9, upd (upd (upd Tm9 10 (Tm9 12)) 11 (Tm9 13)) 0 10, Jm9, c9, ?_, ?_, upd_s, ?_, x4⟩)
      · rw [cl]; rfl
      · rw [mm, f_X12_years_50, e12_isWell_b y2.b]; rfl
      · obtain ⟨f, g1, g2, g3, -, -⟩ := y2
        refine sR_rd hs (s := 10) upd_s upd_s ?_ ?_ ?_ ?_ ?_ ?_
        · rw [upd_n (by decide), upd_n (by decide), upd_s, upd_n (by decide), upd_n (by decide), upd_s, g1, g2]
        · rw [upd_n (by decide), upd_s, upd_n (by decide), upd_s, g3]
        · rw [upd_n (by decide), upd_n (by decide), upd_n (by decide)]
        · rw [upd_n (by decide), upd_n (by decide), upd_n (by decide), nn 23 (by omega) (by omega) (by omega)]
        · rw [upd_n (by decide), upd_n (by decide), upd_n (by decide), n8, upd_s]
        · rw [upd_n (by decide), upd_n (by decide), upd_n (by decide), nn 33 (by omega) (by omega) (by omega)]
    · subst y1
      obtain ⟨c2, s1, s2, s3⟩ := y_copy (Vm := Vm) (W := W) (Tm := upd (upd Tm9 10 0) 11 (-1)) (c := upd (upd c9 100 1) 101 (iN ns)) (Jm := Jm9) (ns := ns) (by rw [upd_n (by decide), upd_n (by decide)]; exact z4) z5 (iN n)
      have g : ∀ t, t < ns → ∀ j, j ≤ 8 → yG c2 102 t j = yG c9 1590 t j := fun t ht j hj => by
        show c2 (102 + 9 * t + j) = c9 (1590 + 9 * t + j)
        rw [Nat.add_assoc, s2 (9 * t + j) (by omega), upd_n (by omega), upd_n (by omega), Nat.add_assoc]
      refine Or.inr (Or.inr ⟨iN ns, upd (upd (upd T0 17 (T9 9)) 18 (T9 10)) 14 0, upd T9 2 0, J9, R9, Ta9, De9, Fi9, Se9, Th9, Pa9, Op9, upd (upd Tm9 10 0) 11 (-1), Jm9, c2, ?_, ?_, upd_s, ?_, fun j h1 h2 => ?_, Or.inr ⟨?_, z1, ns, ln, f, z5, z6, ?_, z2, z3, ySeg.tr f hf (fun t _ ht j hj => g t ht j hj) (fun j _ _ => ⟨rfl, rfl, rfl, rfl, rfl⟩)⟩⟩)
      · rw [cl, show f_X11_endReading T0 T9 = some (upd (upd T0 17 (T9 9)) 18 (T9 10), upd T9 2 0) from rfl, Option.bind_some, if_neg (show ¬ (1 : Int32) = 0 by decide), z2]; rfl
      · rw [mm, f_X12_years_50, e12_isWell_0 y3, Option.bind_some, if_neg (show ¬ (1 : Int32) = 0 by decide)]
        dsimp only
        rw [upd_n (show 26 ≠ 11 by decide), upd_n (show 26 ≠ 10 by decide), z4]
        exact s1
      · refine sR_rd hs (s := 0) upd_s ?_ ?_ ?_ ?_ ?_ ?_ ?_
        · rw [upd_n (by decide), upd_n (by decide), n0]
        · rw [upd_n (by decide), upd_n (by decide), upd_s, upd_n (by decide), upd_s, y2 9 (by omega), a3']
        · rw [upd_n (by decide), upd_s, upd_s, y2 10 (by omega), a4']
        · rw [upd_n (by decide), upd_n (by decide), upd_n (by decide)]
        · rw [upd_n (by decide), upd_n (by decide), nn 23 (by omega) (by omega) (by omega)]
        · rw [upd_n (by decide), upd_n (by decide), n8, upd_s]
        · rw [upd_n (by decide), upd_n (by decide), nn 33 (by omega) (by omega) (by omega)]
      · rw [s3 j (by omega), upd_n (by omega), upd_n (by omega)]
        exact x4 j h1
      · rw [s3 100 (by omega), upd_n (by decide), upd_s]
      · rw [s3 101 (by omega), upd_s]
  · rw [if_neg hx] at hw
    refine Or.inl ⟨upd T0 14 5, upd (upd (upd Tm 1 0) 0 0) 0 5, ?_, ?_, sR_no hs⟩
    · rw [f_X11_years, f_X8_length, hL, Option.bind_some, letv, ew, hw]; rfl
    · have h9 := e_no (T := upd (upd Tm 1 0) 0 0) (J := Jm) (V := Vm) (m := 300) hL9 (by rw [upd_n (by decide), upd_n (by decide)]; exact h8) (by decide) hx
      have h9' : f_X12_starts (upd (upd Tm 1 0) 0 0) Jm Vm x 300 = some (0, upd (upd (upd Tm 1 0) 0 0) 0 5, Jm) := h9
      rw [f_X12_years, h9']; rfl
end YR11
