/-! Lives: a step that holds no others. -/
section LIF6
variable {d : Nat → Nat} {w : Nat → Int64} {Na : Nat → Int64} {T0 T T2 S Li By Of Fe Mi V Tm De Fi Se Th Pa c : Nat → Int32} {ln l o D : Nat}
theorem l_does (hd : dInv d) (hc : mRep d c) (hk : kRep d w T S Li Na By Of Fe Mi) (hL : lA D 1 T0 V Tm) (h2 : T2 2 = iN ln) (hn : ln ≤ 60) (hl : l < ln) (ho : o + 8 < 1860) (h : ySmV (cells d) (d 2) (fun j => c (o + j)) (De l) (Fi l) (Se l) (Th l)) (h7 : ¬ c o = iN 7) (V13 T14 V15 V16 V17 V20 B2 B3 : Nat → Int32) : ∃ z T0' T' By' Of' Fe' Mi' V' W' R9 P9 A9 E9 Tm' c' B2' B3', f_X5_behindStep T0 T T2 De Fi Se Th Of By Fe Mi V V13 T14 V15 V16 V17 S Li V20 Pa (iN l) = some (iN (l + 1), T0', T', Of', By', Fe', Mi', V', W', R9, P9, A9, E9, V20) ∧ f_X12_does Tm c B2 B3 (iN o) = some (z, Tm', c', B2', B3') ∧ lOut d w S Li Na T0 Tm c z T0' T' By' Of' Fe' Mi' V' Tm' c' := by
  have e1 : (iN o + 1 : Int32) = iN (o + 1) := iN_add o 1
  have e2 : (iN o + 2 : Int32) = iN (o + 2) := iN_add o 2
  have e3 : (iN o + 3 : Int32) = iN (o + 3) := iN_add o 3
  have el : (iN l + 1 : Int32) = iN (l + 1) := iN_add l 1
  have bz1 : ∀ {z : Int32} {A : Type} (X : Option A), (z = 0 ∨ z = 1) → ck (bz z) X = X := fun X hz => by rcases hz with rfl | rfl <;> rfl
  have z1 : ∀ {z : Int32} {a1 a2 a3 a4 a5 a6 a7 a8 a9 : Nat → Int32}, lOut d w S Li Na T0 Tm c z a1 a2 a3 a4 a5 a6 a7 a8 a9 → (z = 0 ∨ z = 1) := fun h => by
    obtain ⟨_, _, -, -, -, -, -, -, -, -, hz⟩ := h
    exact hz
  rcases h with ⟨k0, a1, k, a3, a4, a5⟩ | ⟨k0, a1, k, a3, a4, a5⟩ | ⟨k0, a1, k, x, q, a3, b1, b2, a4, a5, a6, a7, a8, a9⟩ | ⟨k0, a1, x, a3, a4, a5⟩ | ⟨k0, a1⟩ | ⟨k0, a1⟩
  · obtain ⟨z, T', V', c', s1, s2, s3, s4⟩ := l_hear hd hc hk hL a3 (b := 1) (by decide)
    refine ⟨z, T0, T', By, Of, Fe, Mi, V', V13, T14, V15, V16, V17, Tm, c', B2, B3, ?_, ?_, s4⟩
    · have s1' : f_X3_setHeard T (iN k) 1 = some (z, T') := s1
      rw [f_X5_behindStep, e0_deed h2 hn hl, Option.bind_some, a1, if_neg (by decide), if_pos (by decide), e0_first h2 hn hl, Option.bind_some, a4, s1', Option.bind_some, s2, el]; rfl
    · have k0' : c o = iN 0 := k0
      have a5' : c (o + 1) = iN k := a5
      have s3' : f_X12_hears c (iN k) 1 = some (z, c') := s3
      rw [f_X12_does, e1, ck_iN (by omega) (by omega), ck_iN (by omega) (by omega), iN_nn (by omega), iN_nn (by omega), k0', if_pos (by decide), a5', s3', Option.bind_some, bz1 _ (z1 s4)]
  · obtain ⟨z, T', V', c', s1, s2, s3, s4⟩ := l_hear hd hc hk hL a3 (b := 0) (by decide)
    refine ⟨z, T0, T', By, Of, Fe, Mi, V', V13, T14, V15, V16, V17, Tm, c', B2, B3, ?_, ?_, s4⟩
    · have s1' : f_X3_setHeard T (iN k) 0 = some (z, T') := s1
      rw [f_X5_behindStep, e0_deed h2 hn hl, Option.bind_some, a1, if_neg (by decide), if_neg (by decide), if_pos (by decide), e0_first h2 hn hl, Option.bind_some, a4, s1', Option.bind_some, s2, el]; rfl
    · have k0' : c o = iN 1 := k0
      have a5' : c (o + 1) = iN k := a5
      have s3' : f_X12_hears c (iN k) 0 = some (z, c') := s3
      rw [f_X12_does, e1, ck_iN (by omega) (by omega), ck_iN (by omega) (by omega), iN_nn (by omega), iN_nn (by omega), k0', if_neg (by decide), if_pos (by decide), a5', s3', Option.bind_some, bz1 _ (z1 s4)]
  · obtain ⟨z, T', By', Of', Fe', Mi', V', Tm', c', s1, s2, s3, s4⟩ := l_tell hd hc hk hL a3 b1 b2
    refine ⟨z, T0, T', By', Of', Fe', Mi', V', V13, T14, V15, V16, V17, Tm', c', B2, B3, ?_, ?_, s4⟩
    · rw [f_X5_behindStep, e0_deed h2 hn hl, Option.bind_some, a1, if_pos (by decide), e0_first h2 hn hl, Option.bind_some, e0_second h2 hn hl, Option.bind_some, e0_third h2 hn hl, Option.bind_some, a4, a6, a8, s1, Option.bind_some, s2, el]; rfl
    · have k0' : c o = iN 2 := k0
      have a5' : c (o + 1) = iN k := a5
      have a7' : c (o + 2) = iN x := a7
      have a9' : c (o + 3) = iN q := a9
      rw [f_X12_does, e1, e2, e3, ck_iN (by omega) (by omega), ck_iN (by omega) (by omega), iN_nn (by omega), iN_nn (by omega), k0', if_neg (by decide), if_neg (by decide), if_pos (by decide), ck_iN (by omega) (by omega), ck_iN (by omega) (by omega), iN_nn (by omega), iN_nn (by omega), a5', a7', a9', s3, Option.bind_some, bz1 _ (z1 s4)]
  · obtain ⟨z, W', T9, P9, A9, E9, V', Tm', B2', B3', s1, s3, s4⟩ := l_sail hd hc hk hL a3 V13 T14 V15 V16 V17 B2 B3
    refine ⟨z, T0, T, By, Of, Fe, Mi, V', W', T9, P9, A9, E9, Tm', c, B2', B3', ?_, ?_, s4⟩
    · rw [f_X5_behindStep, e0_deed h2 hn hl, Option.bind_some, a1, if_neg (by decide), if_neg (by decide), if_neg (by decide), if_pos (by decide), e0_first h2 hn hl, Option.bind_some, a4, s1, el]; rfl
    · have k0' : c o = iN 3 := k0
      have a5' : c (o + 2) = iN x := a5
      rw [f_X12_does, e1, e2, ck_iN (by omega) (by omega), ck_iN (by omega) (by omega), iN_nn (by omega), k0', if_neg (by decide), if_neg (by decide), if_neg (by decide), if_pos (by decide), ck_iN (by omega) (by omega), iN_nn (by omega), a5', s3, Option.bind_some, bz1 _ (z1 s4)]
  · obtain ⟨z, T0', T', By', Of', Fe', Mi', V', Tm', c', s1, s3, s4⟩ := l_any hd hc hk hL
    refine ⟨z, T0', T', By', Of', Fe', Mi', V', V13, T14, V15, V16, V17, Tm', c', B2, B3, ?_, ?_, s4⟩
    · rw [f_X5_behindStep, e0_deed h2 hn hl, Option.bind_some, a1, if_neg (by decide), if_neg (by decide), if_neg (by decide), if_neg (by decide), if_pos (by decide), s1, el]; rfl
    · have k0' : c o = iN 4 := k0
      rw [f_X12_does, e1, ck_iN (by omega) (by omega), ck_iN (by omega) (by omega), iN_nn (by omega), k0', if_neg (by decide), if_neg (by decide), if_neg (by decide), if_neg (by decide), s3, Option.bind_some, bz1 _ (z1 s4)]
  · exact absurd k0 h7
end LIF6
