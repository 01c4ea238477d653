/-! Lives: sailing; anyone telling. -/
section LIF2
variable {d : Nat → Nat} {w : Nat → Int64} {Na : Nat → Int64} {T0 T S Li By Of Fe Mi V Tm c : Nat → Int32} {D : Nat}
theorem lOut.pre {z : Int32} {T0a Tma T0' T' By' Of' Fe' Mi' V' Tm' c' : Nat → Int32} (h0 : ∀ j, j ≠ 6 → T0a j = T0 j) (h1 : frL Tm Tma) (h : lOut d w S Li Na T0a Tma c z T0' T' By' Of' Fe' Mi' V' Tm' c') : lOut d w S Li Na T0 Tm c z T0' T' By' Of' Fe' Mi' V' Tm' c' := by
  obtain ⟨d', D', a1, a2, a3, a4, a5, a6, a7, a8, a9⟩ := h
  exact ⟨d', D', a1, a2, a3, a4, a5, a6, fun j hj => (a7 j hj).trans (h1 j hj), fun j hj => (a8 j hj).trans (h0 j hj), a9⟩
theorem lA.sail {V1 T1 : Nat → Int32} {s : Int32} (h : lA D 1 T0 V Tm) (hV : V1 = upd (upd V 2 (V 2 + 1)) 3 (V 3 + s)) (hT : T1 = upd (upd Tm 39 (Tm 39 + 1)) 40 (Tm 40 + s)) : lA D 1 T0 V1 T1 ∧ frL Tm T1 := by
  obtain ⟨g1, g2, g3, g4, g5, g6, g7, g8⟩ := h
  subst hV
  subst hT
  refine ⟨⟨g1, g2, ?_, ?_, ?_, ?_, ?_, ?_⟩, fun j hj => ?_⟩
  · rw [upd_n (by decide), upd_n (by decide)]; exact g3
  · rw [upd_n (by decide), upd_n (by decide), upd_n (by decide), upd_n (by decide)]; exact g4
  · rw [upd_n (by decide), upd_n (by decide), upd_n (by decide), upd_n (by decide)]; exact g5
  · rw [upd_n (by decide), upd_s, upd_n (by decide), upd_s, g6]
  · rw [upd_s, upd_s, g7]
  · rw [upd_n (by decide), upd_n (by decide), upd_n (by decide), upd_n (by decide)]; exact g8
  · rw [upd_n (by omega), upd_n (by omega)]
theorem l_sail (hd : dInv d) (hc : mRep d c) (hk : kRep d w T S Li Na By Of Fe Mi) (hL : lA D 1 T0 V Tm) {t : Nat} (ht : t < cells d) (V3 T7 V8 V9 V10 B2 B3 : Nat → Int32) : ∃ z W' T9 P9 A9 E9 V' Tm' B2' B3', f_X5_sailTo T V3 Of Fe By T7 V8 V9 V10 V S (iN t) = some (W', T9, P9, A9, E9, V') ∧ f_X12_isSailed Tm c B2 B3 (iN t) = some (z, Tm', B2', B3') ∧ lOut d w S Li Na T0 Tm c z T0 T By Of Fe Mi V' Tm' c := by
  have h36 := hd.c36
  obtain ⟨W, eW, tW⟩ := e7_take hd hk.1 hk.2.2.2.2.2.1 hk.2.2.2.2.2.2.1 hk.2.2.2.2.1 V3 (hset_lt hd)
  have eW' : f_X7_take T V3 Of Fe By (T 5) = some W := by rw [hk.1.2.2.2.2.2.1]; exact eW
  rcases e_way hd hc hk.1 tW ht T7 V8 V9 V10 B2 B3 with ⟨T9, P9, A9, E9, B9, C9, f1, f2⟩ | ⟨r, k, P, T9, P9, A9, E9, B9, C9, g1, g2, g3, g4, f1, g5, g6, g7, g8, f2, g9, g10⟩
  · refine ⟨0, W, T9, P9, A9, E9, upd V 0 (V 0 + 1), Tm, B9, C9, ?_, ?_, d, D, hd, hc, hk, dGr.r d, fun _ _ => rfl, hL.no.2, fun _ _ => rfl, fun _ _ => rfl, Or.inl rfl⟩
    · rw [f_X5_sailTo, eW', Option.bind_some, f1, Option.bind_some, hL.no.1, Option.bind_some, if_pos rfl]
    · rw [f_X12_isSailed, f_X12_sails, f2]; rfl
  · have hl := slE_lt (d := d) g4 k
    have h4 := hd.2.1 (slE d P k k) (by omega)
    have ms : f_X12_sails c B2 B3 (iN t) = some (iN (slE d P k k), B9, C9) := by
      rw [f_X12_sails, f2, Option.bind_some, if_neg (ne9 g1 g2), ck_y (show gd 5 1860 = true by decide), show (5 : Int32).toNatClampNeg = 5 by decide, hc 5 (by omega), e12_sailing hd hc t g1 g2 g3 g4 g10]
    obtain ⟨s, hs⟩ : ∃ s : Int32, s = if 0 < k ∧ d (6 + slE d P k k) = 1 then 1 else 0 := ⟨_, rfl⟩
    obtain ⟨B8, C8, mw⟩ : ∃ B8 C8, f_X12_isWrecked c B9 C9 (iN t) (iN (slE d P k k)) = some (s, B8, C8) := by
      rcases e_way hd hc hk.1 tW ht T7 V8 V9 V10 B9 C9 with ⟨T9', P9', A9', E9', B8, C8, k1, k2⟩ | ⟨r2, k', P', T9', P9', A9', E9', B8, C8, j1, j2, j3, j4, k1, j5, j6, j7, j8, k2, j9, j10⟩
      · rw [f1] at k1
        cases k1
      · rw [f1] at k1
        cases k1
        have ek : k = k' := by
          rw [g5, iN_eq (by omega) (by omega)] at j5
          exact j5
        subst ek
        refine ⟨B8, C8, ?_⟩
        rw [f_X12_isWrecked, k2, Option.bind_some]
        dsimp only
        by_cases e : k = 0
        · have e2 : r2 = 0 := by omega
          rw [if_pos (by rw [e, e2]; decide), hs, if_neg (by omega)]
        · rw [if_neg (by rw [show (0 : Int32) = iN 0 from rfl, iN_le (by omega) (by omega)]; omega), show (6 + iN (slE d P k k) : Int32) = iN (6 + slE d P k k) from iN_add 6 _, ck_iN (by omega) (by omega), iN_nn (by omega), hc _ (by omega)]
          by_cases e3 : d (6 + slE d P k k) = 1
          · rw [if_pos (show iN (d (6 + slE d P k k)) = (1 : Int32) from congrArg iN e3), hs, if_pos ⟨by omega, e3⟩]
          · rw [if_neg (show ¬ iN (d (6 + slE d P k k)) = (1 : Int32) from iN_ne (b := 1) (by omega) (by decide) e3), hs, if_neg (by omega)]
    obtain ⟨q1, q2⟩ := hL.sail (s := s) rfl rfl
    refine ⟨1, W, T9, P9, A9, E9, _, _, B8, C8, ?_, ?_, d, D, hd, hc, hk, dGr.r d, fun _ _ => rfl, q1, q2, fun _ _ => rfl, Or.inr rfl⟩
    · have k3 : upd V 2 (V 2 + 1) 3 = V 3 := upd_n (by decide)
      have fin : ∀ s', f_X5_sailTo_95 T Of Fe By S (iN t) 3 (upd V 2 (V 2 + 1) 3) s' W T9 P9 A9 E9 (upd V 2 (V 2 + 1)) = some (W, T9, P9, A9, E9, upd (upd V 2 (V 2 + 1)) 3 (V 3 + s')) := fun s' => by
        rw [f_X5_sailTo_95, k3]; rfl
      have f76 : ∀ s0 : Int32, f_X5_sailTo_76 T Of Fe By S (iN t) s0 W T9 P9 A9 E9 (upd V 2 (V 2 + 1)) = some (W, T9, P9, A9, E9, upd (upd V 2 (V 2 + 1)) 3 (V 3 + (if s0 = 0 then 0 else 1))) := fun s0 => by
        rw [f_X5_sailTo_76, ck_y (by decide), show (3 : Int32).toNatClampNeg = 3 by decide]
        by_cases e : s0 = 0
        · rw [if_pos e, if_pos e, fin]
        · rw [if_neg e, if_neg e, fin]
      have cc : f_X5_sailTo T V3 Of Fe By T7 V8 V9 V10 V S (iN t) = if T9 5 ≤ 0 then f_X5_sailTo_75 T Of Fe By S (iN t) W T9 P9 A9 E9 (upd V 2 (V 2 + 1)) else (f_X6_sailedTo T9 P9 S).bind (fun z61 => (f_X3_kindAt S z61).bind (fun z64 => if z64 = 1 then f_X5_sailTo_76 T Of Fe By S (iN t) 1 W T9 P9 A9 E9 (upd V 2 (V 2 + 1)) else f_X5_sailTo_75 T Of Fe By S (iN t) W T9 P9 A9 E9 (upd V 2 (V 2 + 1)))) := by
        rw [f_X5_sailTo, eW', Option.bind_some, f1, Option.bind_some, show f_X5_count V 1 = some V from rfl, Option.bind_some, if_neg (show ¬ (1 : Int32) = 0 by decide), ck_y (by decide), ck_y (by decide), f_X6_cells, Option.bind_some]
        rfl
      rw [cc, g5]
      by_cases e : k = 0
      · rw [if_pos (by rw [e]; decide), f_X5_sailTo_75, f76, if_pos rfl, hs, if_neg (by omega)]
      · rw [if_neg (by rw [show (0 : Int32) = iN 0 from rfl, iN_le (by omega) (by omega)]; omega), e6_sailedTo hd hk g2 g4 g5 g7, Option.bind_some, e3_kindAt hk.2.1 hl (by omega), Option.bind_some]
        by_cases e3 : d (6 + slE d P k k) = 1
        · rw [if_pos (show iN (d (6 + slE d P k k)) = (1 : Int32) from congrArg iN e3), f76, if_neg (by decide), hs, if_pos ⟨by omega, e3⟩]
        · rw [if_neg (show ¬ iN (d (6 + slE d P k k)) = (1 : Int32) from iN_ne (b := 1) (by omega) (by decide) e3), f_X5_sailTo_75, f76, if_pos rfl, hs, if_neg (by omega)]
    · have k3 : upd Tm 39 (Tm 39 + 1) 40 = Tm 40 := upd_n (by decide)
      rw [f_X12_isSailed, ms, Option.bind_some, if_pos (by rw [show (0 : Int32) = iN 0 from rfl, iN_le (by omega) (by omega)]; omega), mw, Option.bind_some]
      dsimp only
      rw [k3]
      by_cases e : 0 < k ∧ d (6 + slE d P k k) = 1
      · rw [hs, if_pos e, if_neg (by decide), f_X12_isSailed_41]
      · rw [hs, if_neg e, if_pos rfl, f_X12_isSailed_41]
end LIF2
