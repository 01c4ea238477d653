section LIF14
variable {d : Nat → Nat} {w : Nat → Int64} {Na : Nat → Int64} {S Li Ta De Fi Se Th Pa T0 T V Of By Fe Mi W R P A E Rl Tl Tm c V2 B2 B3 W2 : Nat → Int32} {L : Int32} {K : Int32 × Int32} {J J' M M' : Int64}
theorem q_mean (hd : dInv d) (hc : mRep d c) (hk : kRep d w T S Li Na By Of Fe Mi) (hy : yRel d c Ta De Fi Se Th Pa) (hs : sR T0 Tm L K) (hJ : J = M ∧ J' = M') (x y : Int32) : ∃ v U p q T' Tl' V' Of' By' Fe' Mi' W' R' P' A' E' Rl' W2' Um V2' B2' B3', f_X11_mean T0 J J' T Ta Tl V De Fi Se Th Of By Fe Mi W R P A E S Li Rl Pa W2 x y = some (v, U, p, q, T', Tl', V', Of', By', Fe', Mi', W', R', P', A', E', Rl', W2') ∧ f_X12_mean Tm M M' c V2 B2 B3 x y = some (v, Um, p, q, c, V2', B2', B3') ∧ sR U Um L K ∧ kRep d w T' S Li Na By' Of' Fe' Mi' ∧ (∀ j, j ≠ 6 → Tl' j = Tl j) := by
  obtain ⟨rfl, rfl⟩ := hJ
  have e1 := e_within_20 y
  have e2 := e_isIn_20 y
  have h100 : c (Int32.toNatClampNeg 100) = c 100 := rfl
  have no5 : ∃ v U p q T' Tl' V' Of' By' Fe' Mi' W' R' P' A' E' Rl' W2' Um V2' B2' B3', f_X11_mean_25 Ta De Fi Se Th S Li Pa x y T0 J J' T Tl V Of By Fe Mi W R P A E Rl W2 = some (v, U, p, q, T', Tl', V', Of', By', Fe', Mi', W', R', P', A', E', Rl', W2') ∧ f_X12_mean_37 x y (upd (upd Tm 1 0) 0 0) J J' c V2 B2 B3 = some (v, Um, p, q, c, V2', B2', B3') ∧ sR U Um L K ∧ kRep d w T' S Li Na By' Of' Fe' Mi' ∧ (∀ j, j ≠ 6 → Tl' j = Tl j) := ⟨0, upd T0 14 5, J, J', T, Tl, V, Of, By, Fe, Mi, W, R, P, A, E, Rl, W2, upd (upd (upd Tm 1 0) 0 0) 0 5, V2, B2, B3, rfl, rfl, sR_no hs, hk, fun _ _ => rfl⟩
  by_cases hy1 : inR y 21 ∧ ¬ y = 0
  · rw [if_pos hy1] at e1 e2
    obtain ⟨n, hn, rfl⟩ := hy1.1.eq (by decide)
    have hn1 : 1 ≤ n := by
      rcases Nat.eq_zero_or_pos n with h | h
      · exact absurd (congrArg iN h) hy1.2
      · exact h
    have g1 : ((9999 : Int32) - iN n + 1) = iN (10000 - n) := by
      rw [show (9999 : Int32) = iN 9999 from rfl, iN_sub (by omega), show (1 : Int32) = iN 1 from rfl, iN_add, show 9999 - n + 1 = 10000 - n by omega]
    have g2 : ((10000 : Int32) - iN n) = iN (10000 - n) := by
      rw [show (10000 : Int32) = iN 10000 from rfl, iN_sub (by omega)]
    have a1 := e_within_l x (10000 - n) (by omega)
    have a2 : f_X12_isIn (Int32.toInt64 x) 0 (jN (10000 - n)) = _ := e_isIn_l x (10000 - n) (by omega)
    by_cases hx : inR x (10000 - n + 1)
    · rw [if_pos hx] at a1 a2
      obtain ⟨a, ha, rfl⟩ := hx.eq (by omega)
      by_cases h0 : c 100 = 0
      · have t0 : Ta 0 = 0 := by
          rcases hy with ⟨-, q, -⟩ | ⟨q, -⟩
          · exact q
          · rw [h0] at q; exact absurd q (by decide)
        refine ⟨0, upd T0 14 8, J, J', T, Tl, V, Of, By, Fe, Mi, W, R, P, A, E, Rl, W2, upd (upd (upd Tm 1 0) 0 0) 0 8, V2, B2, B3, ?_, ?_, sR_no hs, hk, fun _ _ => rfl⟩
        · rw [f_X11_mean, e1, Option.bind_some, if_neg (show ¬ (1 : Int32) = 0 by decide), g1, a1, Option.bind_some, if_neg (show ¬ (1 : Int32) = 0 by decide), if_pos t0]; rfl
        · rw [f_X12_mean, e2, Option.bind_some, if_neg (show ¬ (1 : Int32) = 0 by decide), g2, jN_i (n := 10000 - n) (by omega), a2, Option.bind_some, if_neg (show ¬ (1 : Int32) = 0 by decide), ck_y (by decide), h100, if_pos h0]; rfl
      · have t0 : ¬ Ta 0 = 0 := by
          rcases hy with ⟨q, -⟩ | ⟨-, q, -⟩
          · exact absurd q h0
          · rw [q]; decide
        obtain ⟨p, q, T9, Tl9, V9, Of9, By9, Fe9, Mi9, W9, R9, P9, A9, E9, Rl9, X9, Tm9, B29, B39, g3, g4, g5, g6, g7⟩ := m_rounds (T0 := T0) (V2 := cpU V2 c 100) hd hc hy h0 (fun j hj => if_pos hj) (show 1 ≤ n ∧ n ≤ 20 by omega) (show a ≤ 10000 - n by omega) J J' J J' n 0 xF xF 0 T Tl V Of By Fe Mi W R P A E Rl W2 (upd (upd Tm 1 0) 0 0) B2 B3 (by omega) (xF_lt (by omega)) (xF_lt (by omega)) (by omega) hk
        refine ⟨1, upd T0 14 0, p, q, T9, Tl9, V9, Of9, By9, Fe9, Mi9, W9, R9, P9, A9, E9, Rl9, X9, Tm9, cpU V2 c 100, B29, B39, ?_, ?_, ?_, g5, g7⟩
        · rw [f_X11_mean, e1, Option.bind_some, if_neg (show ¬ (1 : Int32) = 0 by decide), g1, a1, Option.bind_some, if_neg (show ¬ (1 : Int32) = 0 by decide), if_neg t0, f_X11_mean_74, hk.1.2.2.2.2.2.1, hk.1.2.2.2.2.2.2]
          exact g3
        · rw [f_X12_mean, e2, Option.bind_some, if_neg (show ¬ (1 : Int32) = 0 by decide), g2, jN_i (n := 10000 - n) (by omega), a2, Option.bind_some, if_neg (show ¬ (1 : Int32) = 0 by decide), ck_y (by decide), h100, if_neg h0, e12_m62, f_X12_mean_91]
          exact g4
        · exact ⟨(g6 0 (by decide)).symm, (hs.2.1).trans (g6 10 (by decide)).symm, (hs.2.2.1).trans (g6 11 (by decide)).symm, ⟨(hs.2.2.2.1.1).trans (g6 23 (by decide)).symm, (g6 23 (by decide)).trans hs.2.2.2.1.2⟩, (g6 8 (by decide)).trans hs.2.2.2.2.1, (g6 33 (by decide)).trans hs.2.2.2.2.2⟩
    · rw [if_neg hx] at a1 a2
      rw [f_X11_mean, e1, Option.bind_some, if_neg (show ¬ (1 : Int32) = 0 by decide), g1, a1, Option.bind_some, if_pos rfl, f_X12_mean, e2, Option.bind_some, if_neg (show ¬ (1 : Int32) = 0 by decide), g2, jN_i (n := 10000 - n) (by omega), a2, Option.bind_some, if_pos rfl]
      exact no5
  · rw [if_neg hy1] at e1 e2
    rw [f_X11_mean, e1, Option.bind_some, if_pos rfl, f_X12_mean, e2, Option.bind_some, if_pos rfl]
    exact no5
end LIF14
