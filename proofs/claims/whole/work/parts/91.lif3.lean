/-! Lives: anyone telling. -/
section LIF3
variable {d : Nat → Nat} {w : Nat → Int64} {Na : Nat → Int64} {T0 T S Li By Of Fe Mi V Tm c : Nat → Int32} {D : Nat}
theorem lA.dr {z : Int32} (h : lA D z T0 V Tm) : lA (nd D) z (upd T0 6 (iN (nd D))) V (upd Tm 35 (iN (nd D))) := by
  obtain ⟨g1, g2, g3, g4, g5, g6, g7, g8⟩ := h
  refine ⟨nd_lt D, upd_s, upd_s, ?_, ?_, ?_, ?_, ?_⟩
  · rw [upd_n (by decide)]; exact g4
  · rw [upd_n (by decide)]; exact g5
  · rw [upd_n (by decide)]; exact g6
  · rw [upd_n (by decide)]; exact g7
  · rw [upd_n (by decide)]; exact g8
theorem lA.cls {z : Int32} (h : lA D z T0 V Tm) {m : Nat} (hm : 1 ≤ m ∧ m < 65536) : f_X5_draw T0 (iN m) = some (iN (nd D / 8 % m), upd T0 6 (iN (nd D))) := l_draw5 h.1 h.2.1 hm
theorem lA.mod {z : Int32} (h : lA D z T0 V Tm) {m : Nat} (hm : 1 ≤ m ∧ m < 65536) : f_X12_draw Tm (iN m) = some (iN (nd D / 8 % m), upd Tm 35 (iN (nd D))) := l_draw12 h.1 h.2.2.1 hm
theorem frL.dw (Tm : Nat → Int32) (v : Int32) : frL Tm (upd Tm 35 v) := fun j hj => upd_n (by omega)
theorem frL.t {A B C : Nat → Int32} (h : frL A B) (h2 : frL B C) : frL A C := fun j hj => (h2 j hj).trans (h j hj)
theorem l_any (hd : dInv d) (hc : mRep d c) (hk : kRep d w T S Li Na By Of Fe Mi) (hL : lA D 1 T0 V Tm) : ∃ z T0' T' By' Of' Fe' Mi' V' Tm' c', f_X5_anyTells T0 T S Li Of By Fe Mi V = some (T0', T', Of', By', Fe', Mi', V') ∧ f_X12_isAny Tm c = some (z, Tm', c') ∧ lOut d w S Li Na T0 Tm c z T0' T' By' Of' Fe' Mi' V' Tm' c' := by
  have h36 := hd.c36
  have hm5 := hd.many
  have t4 : T 4 = iN (d 2) := hk.1.2.2.2.2.1
  have c2 : c 2 = iN (d 2) := hc 2 (by omega)
  have none : f_X5_anyTells_14 S Li T0 T Of By Fe Mi V = some (T0, T, Of, By, Fe, Mi, upd V 0 (V 0 + 1)) := by
    rw [f_X5_anyTells_14, hL.no.1]; rfl
  by_cases e2 : d 2 = 0
  · refine ⟨0, T0, T, By, Of, Fe, Mi, upd V 0 (V 0 + 1), Tm, c, ?_, ?_, d, D, hd, hc, hk, dGr.r d, fun _ _ => rfl, hL.no.2, fun _ _ => rfl, fun _ _ => rfl, Or.inl rfl⟩
    · rw [f_X5_anyTells, if_pos (by rw [t4, e2]; rfl), none]
    · rw [f_X12_isAny, ck_y (by decide), show (2 : Int32).toNatClampNeg = 2 by decide, if_pos (by rw [c2, e2]; rfl)]
  · have n4 : ¬ T 4 = 0 := by rw [t4]; exact iN_ne (b := 0) (by omega) (by decide) e2
    have n2 : ¬ c 2 = 0 := by rw [c2]; exact iN_ne (b := 0) (by omega) (by decide) e2
    by_cases e3 : cells d = 0
    · refine ⟨0, T0, T, By, Of, Fe, Mi, upd V 0 (V 0 + 1), Tm, c, ?_, ?_, d, D, hd, hc, hk, dGr.r d, fun _ _ => rfl, hL.no.2, fun _ _ => rfl, fun _ _ => rfl, Or.inl rfl⟩
      · rw [f_X5_anyTells, if_neg n4, e3_cells hk.1, Option.bind_some, if_pos (show iN (cells d) = (0 : Int32) from congrArg iN e3), none]
      · rw [f_X12_isAny, ck_y (by decide), show (2 : Int32).toNatClampNeg = 2 by decide, if_neg n2, e12_cells hd hc, Option.bind_some, if_pos (show iN (cells d) = (0 : Int32) from congrArg iN e3)]
    · have m1 : 1 ≤ d 2 ∧ d 2 < 65536 := by omega
      have m2 : 1 ≤ cells d ∧ cells d < 65536 := by omega
      have m3 : 1 ≤ 16 ∧ 16 < 65536 := by decide
      have m4 : 1 ≤ 3 ∧ 3 < 65536 := by decide
      have L1 := hL.dr
      have L2 := L1.dr
      have L3 := L2.dr
      have L4 := L3.dr
      obtain ⟨i, hi⟩ : ∃ i, i = nd D / 8 % d 2 := ⟨_, rfl⟩
      obtain ⟨x, hx⟩ : ∃ x, x = nd (nd D) / 8 % cells d := ⟨_, rfl⟩
      obtain ⟨l, hl⟩ : ∃ l, l = nd (nd (nd D)) / 8 % 16 := ⟨_, rfl⟩
      obtain ⟨o, ho⟩ : ∃ o, o = nd (nd (nd (nd D))) / 8 % 3 := ⟨_, rfl⟩
      have hi2 : i < d 2 := by rw [hi]; exact Nat.mod_lt _ (by omega)
      have hx2 : x < cells d := by rw [hx]; exact Nat.mod_lt _ (by omega)
      have ho2 : o < 3 := by rw [ho]; exact Nat.mod_lt _ (by decide)
      have hq := hd.2.1 x (by omega)
      have k1 := hL.cls m1
      have k2 := L1.cls m2
      have k3 := L2.cls m3
      have k4 := L3.cls m4
      have g1 := hL.mod m1
      have g2 := L1.mod m2
      have g3 := L2.mod m3
      have g4 := L3.mod m4
      rw [← hi] at k1 g1
      rw [← hx] at k2 g2
      rw [← hl] at k3 g3
      rw [← ho] at k4 g4
      have k3' : f_X5_draw (upd (upd T0 6 (iN (nd D))) 6 (iN (nd (nd D)))) 16 = _ := k3
      have k4' : f_X5_draw (upd (upd (upd T0 6 (iN (nd D))) 6 (iN (nd (nd D)))) 6 (iN (nd (nd (nd D))))) 3 = _ := k4
      have g3' : f_X12_draw (upd (upd Tm 35 (iN (nd D))) 35 (iN (nd (nd D)))) 16 = _ := g3
      have g4' : f_X12_draw (upd (upd (upd Tm 35 (iN (nd D))) 35 (iN (nd (nd D)))) 35 (iN (nd (nd (nd D))))) 3 = _ := g4
      have f0 : ∀ j, j ≠ 6 → upd (upd (upd T0 6 (iN (nd D))) 6 (iN (nd (nd D)))) 6 (iN (nd (nd (nd D)))) j = T0 j := fun j hj => by rw [upd_n hj, upd_n hj, upd_n hj]
      have f1 : frL Tm (upd (upd (upd Tm 35 (iN (nd D))) 35 (iN (nd (nd D)))) 35 (iN (nd (nd (nd D))))) := ((frL.dw _ _).t (frL.dw _ _)).t (frL.dw _ _)
      have li : Li i = iN (d (42 + i)) := hk.2.2.1 i hi2
      have cl : f_X5_anyTells T0 T S Li Of By Fe Mi V = if Li i ≤ iN l then (f_X5_anyTells_97 S Li (iN i) (iN x) (iN (d (6 + x))) (upd (upd (upd T0 6 (iN (nd D))) 6 (iN (nd (nd D)))) 6 (iN (nd (nd (nd D))))) T Of By Fe Mi V) else if iN (d (6 + x)) ≤ iN o then (f_X5_anyTells_97 S Li (iN i) (iN x) (iN o + 1) (upd (upd (upd (upd T0 6 (iN (nd D))) 6 (iN (nd (nd D)))) 6 (iN (nd (nd (nd D))))) 6 (iN (nd (nd (nd (nd D)))))) T Of By Fe Mi V) else (f_X5_anyTells_97 S Li (iN i) (iN x) (iN o) (upd (upd (upd (upd T0 6 (iN (nd D))) 6 (iN (nd (nd D)))) 6 (iN (nd (nd (nd D))))) 6 (iN (nd (nd (nd (nd D)))))) T Of By Fe Mi V) := by
        rw [f_X5_anyTells, if_neg n4, e3_cells hk.1, Option.bind_some, if_neg (show ¬ iN (cells d) = (0 : Int32) from iN_ne (b := 0) (by omega) (by decide) e3), t4, k1, Option.bind_some, Option.bind_some, k2, Option.bind_some]
        dsimp only
        rw [e3_kindAt hk.2.1 hx2 (by omega), Option.bind_some, k3', Option.bind_some]
        dsimp only
        rw [e3_hasTraveller hd hk.1, if_pos (by rw [inR_iN (by omega)]; exact hi2), Option.bind_some, if_neg (show ¬ (1 : Int32) = 0 by decide), ck_iN (by omega) (by omega), iN_nn (by omega), k4']
        rfl
      have ml : f_X12_isAny Tm c = if c (42 + i) ≤ iN l then f_X12_isAny_61 (iN i) (iN x) 0 (upd (upd (upd Tm 35 (iN (nd D))) 35 (iN (nd (nd D)))) 35 (iN (nd (nd (nd D))))) c else f_X12_isAny_61 (iN i) (iN x) 1 (upd (upd (upd Tm 35 (iN (nd D))) 35 (iN (nd (nd D)))) 35 (iN (nd (nd (nd D))))) c := by
        rw [f_X12_isAny, ck_y (by decide), show (2 : Int32).toNatClampNeg = 2 by decide, if_neg n2, e12_cells hd hc, Option.bind_some, if_neg (show ¬ iN (cells d) = (0 : Int32) from iN_ne (b := 0) (by omega) (by decide) e3), ck_y (by decide), c2, g1, Option.bind_some, Option.bind_some, g2, Option.bind_some]
        dsimp only
        rw [g3', Option.bind_some]
        dsimp only
        rw [show (42 + iN i : Int32) = iN (42 + i) from iN_add 42 i, ck_iN (by omega) (by omega), iN_nn (by omega)]
      have e6 : (6 + iN x : Int32) = iN (6 + x) := iN_add 6 x
      have c42 : c (42 + i) = iN (d (42 + i)) := hc _ (by omega)
      have c6 : c (6 + x) = iN (d (6 + x)) := hc _ (by omega)
      rw [cl, ml, li, c42]
      have fin : ∀ (D9 q : Nat) (U U' : Nat → Int32), q < 4 → lA D9 1 U V U' → (∀ j, j ≠ 6 → U j = T0 j) → frL Tm U' → ∃ z T0' T' By' Of' Fe' Mi' V' Tm' c', f_X5_anyTells_97 S Li (iN i) (iN x) (iN q) U T Of By Fe Mi V = some (T0', T', Of', By', Fe', Mi', V') ∧ f_X12_isAny_102 (iN i) (iN x) (iN q) U' c = some (z, Tm', c') ∧ lOut d w S Li Na T0 Tm c z T0' T' By' Of' Fe' Mi' V' Tm' c' := fun D9 q U U' hq4 hA h0 h1 => by
        obtain ⟨z, T', By', Of', Fe', Mi', V', Tm', c', a1, a2, a3, a4⟩ := l_tell hd hc hk hA hi2 hx2 hq4
        refine ⟨z, U, T', By', Of', Fe', Mi', V', Tm', c', ?_, ?_, a4.pre h0 h1⟩
        · rw [f_X5_anyTells_97, a1, Option.bind_some, a2]; rfl
        · rw [f_X12_isAny_102, a3, Option.bind_some]
          obtain ⟨_, _, -, -, -, -, -, -, -, -, hz⟩ := a4
          rcases hz with rfl | rfl <;> rfl
      by_cases q1 : iN (d (42 + i)) ≤ iN l
      · rw [if_pos q1, if_pos q1, f_X12_isAny_61, e6, ck_iN (by omega) (by omega), if_pos rfl, iN_nn (by omega), c6]
        exact fin _ _ _ _ hq L3 f0 f1
      · rw [if_neg q1, if_neg q1, f_X12_isAny_61, e6, ck_iN (by omega) (by omega), if_neg (show ¬ (1 : Int32) = 0 by decide), iN_nn (by omega), c6, g4', Option.bind_some]
        dsimp only
        have f0' : ∀ j, j ≠ 6 → upd (upd (upd (upd T0 6 (iN (nd D))) 6 (iN (nd (nd D)))) 6 (iN (nd (nd (nd D))))) 6 (iN (nd (nd (nd (nd D))))) j = T0 j := fun j hj => by rw [upd_n hj]; exact f0 j hj
        by_cases q2 : iN (d (6 + x)) ≤ iN o
        · rw [if_pos q2, if_pos q2, f_X12_isAny_100, show (iN o + 1 : Int32) = iN (o + 1) from iN_add o 1]
          exact fin _ _ _ _ (by omega) L4 f0' (f1.t (frL.dw _ _))
        · rw [if_neg q2, if_neg q2, f_X12_isAny_100]
          exact fin _ _ _ _ (by omega) L4 f0' (f1.t (frL.dw _ _))
end LIF3
