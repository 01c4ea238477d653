/-! Lives: where both stand. -/
def lSt (d : Nat → Nat) (w : Nat → Int64) (S Li : Nat → Int32) (Na : Nat → Int64) (T00 Tm0 c0 : Nat → Int32) (o : Int32) (st : Nat) (T0 T V Of By Fe Mi Tm c : Nat → Int32) : Prop := Tm 34 = o ∧ Tm 36 = iN st ∧ (∀ j, j < 34 ∨ 42 ≤ j → Tm j = Tm0 j) ∧ ∃ d' D', dInv d' ∧ mRep d' c ∧ kRep d' w T S Li Na By Of Fe Mi ∧ dGr d d' ∧ (∀ j, 100 ≤ j → c j = c0 j) ∧ lA D' 1 T0 V Tm ∧ (∀ j, j ≠ 6 → T0 j = T00 j)
theorem lA.fr {D : Nat} {z : Int32} {T0 V Tm Tm' : Nat → Int32} (h : lA D z T0 V Tm) (hf : ∀ j, 35 ≤ j → j ≤ 41 → j ≠ 36 → Tm' j = Tm j) : lA D z T0 V Tm' := by
  obtain ⟨g1, g2, g3, g4, g5, g6, g7, g8⟩ := h
  exact ⟨g1, g2, (hf 35 (by decide) (by decide) (by decide)).trans g3, g4.trans (by rw [hf 37 (by decide) (by decide) (by decide)]), g5.trans (hf 38 (by decide) (by decide) (by decide)).symm, g6.trans (hf 39 (by decide) (by decide) (by decide)).symm, g7.trans (hf 40 (by decide) (by decide) (by decide)).symm, g8.trans (hf 41 (by decide) (by decide) (by decide)).symm⟩
section LIF10
variable {d : Nat → Nat} {w : Nat → Int64} {Na : Nat → Int64} {S Li T00 Tm0 c0 T0 T V Of By Fe Mi Tm c : Nat → Int32} {o : Int32} {st : Nat}
theorem lSt.tick (h : lSt d w S Li Na T00 Tm0 c0 o st T0 T V Of By Fe Mi Tm c) : lSt d w S Li Na T00 Tm0 c0 o (st + 1) T0 T V Of By Fe Mi (upd Tm 36 (Tm 36 + 1)) c := by
  obtain ⟨a1, a2, a3, d', D', b1, b2, b3, b4, b5, b6, b7⟩ := h
  exact ⟨(upd_n (by decide)).trans a1, by rw [upd_s, a2]; exact iN_add st 1, fun j hj => (upd_n (by omega)).trans (a3 j hj), d', D', b1, b2, b3, b4, b5, b6.fr (fun j _ _ hj => upd_n hj), b7⟩
theorem lSt.over (h : lSt d w S Li Na T00 Tm0 c0 o st T0 T V Of By Fe Mi Tm c) : lSt d w S Li Na T00 Tm0 c0 1 st T0 T V Of By Fe Mi (upd Tm 34 1) c := by
  obtain ⟨a1, a2, a3, d', D', b1, b2, b3, b4, b5, b6, b7⟩ := h
  exact ⟨upd_s .., (upd_n (by decide)).trans a2, fun j hj => (upd_n (by omega)).trans (a3 j hj), d', D', b1, b2, b3, b4, b5, b6.fr (fun j _ _ hj => upd_n (by omega)), b7⟩
theorem lSt.tired (h : lSt d w S Li Na T00 Tm0 c0 o st T0 T V Of By Fe Mi Tm c) : lSt d w S Li Na T00 Tm0 c0 1 st T0 T (upd V 4 1) Of By Fe Mi (upd (upd Tm 34 1) 41 1) c := by
  obtain ⟨a1, a2, a3, d', D', b1, b2, b3, b4, b5, ⟨g1, g2, g3, g4, g5, g6, g7, g8⟩, b7⟩ := h
  refine ⟨(upd_n (by decide)).trans (upd_s ..), ?_, fun j hj => ?_, d', D', b1, b2, b3, b4, b5, ⟨g1, g2, ?_, ?_, ?_, ?_, ?_, ?_⟩, b7⟩
  · rw [upd_n (by decide), upd_n (by decide)]; exact a2
  · rw [upd_n (by omega), upd_n (by omega)]; exact a3 j hj
  · rw [upd_n (by decide), upd_n (by decide)]; exact g3
  · rw [upd_n (by decide), upd_n (by decide), upd_n (by decide)]; exact g4
  · rw [upd_n (by decide), upd_n (by decide), upd_n (by decide)]; exact g5
  · rw [upd_n (by decide), upd_n (by decide), upd_n (by decide)]; exact g6
  · rw [upd_n (by decide), upd_n (by decide), upd_n (by decide)]; exact g7
  · rw [upd_s, upd_s]
theorem lSt.g (h : lSt d w S Li Na T00 Tm0 c0 o st T0 T V Of By Fe Mi Tm c) (s : Nat) : (fun j => c (102 + 9 * s + j)) = yG c0 102 s := by
  obtain ⟨a1, a2, a3, d', D', b1, b2, b3, b4, b5, b6, b7⟩ := h
  funext j
  exact b5 _ (by omega)
theorem lS_does {rc : (Nat → Int32) → (Nat → Int32) → (Nat → Int32) → (Nat → Int32) → Int32 → Int32 → Option M4} {T2 De Fi Se Th Pa W R P A E Rl B2 B3 : Nat → Int32} {ln l s : Nat} (h : lSt d w S Li Na T00 Tm0 c0 0 st T0 T V Of By Fe Mi Tm c) (hst : st < 300) (h2 : T2 2 = iN ln) (hn : ln ≤ 60) (hl : l < ln) (hs : s < 30) (hy : ySmV (cells d) (d 2) (yG c0 102 s) (De l) (Fi l) (Se l) (Th l)) (h7 : ¬ yG c0 102 s 0 = iN 7) : ∃ T0' T' V' Of' By' Fe' Mi' W' R' P' A' E' Tm' c' B2' B3', f_X5_behindStep T0 T T2 De Fi Se Th Of By Fe Mi V W R P A E S Li Rl Pa (iN l) = some (iN (l + 1), T0', T', Of', By', Fe', Mi', V', W', R', P', A', E', Rl) ∧ o_X12_doOne rc Tm c B2 B3 (iN s) = some (Tm', c', B2', B3') ∧ lSt d w S Li Na T00 Tm0 c0 0 (st + 1) T0' T' V' Of' By' Fe' Mi' Tm' c' := by
  have hg := h.g s
  have ht := h.tick
  have a36 := h.2.1
  obtain ⟨a1, a2, a3, d', D', b1, b2, b3, b4, b5, b6, b7⟩ := ht
  have e36 : Tm 37 = upd Tm 36 (Tm 36 + 1) 37 := (upd_n (by decide)).symm
  have ec : cells d' = cells d := by rw [cells, cells, b4.le.1, b4.le.2.1]
  have hy' : ySmV (cells d') (d' 2) (fun j => c (102 + 9 * s + j)) (De l) (Fi l) (Se l) (Th l) := by rw [ec, b4.le.2.2, hg]; exact hy
  have h70 : ¬ c (102 + 9 * s) = iN 7 := by
    have this : c (102 + 9 * s) = yG c0 102 s 0 := congrFun hg 0
    rw [this]; exact h7
  have hk : ∃ k, k < 5 ∧ c (102 + 9 * s) = iN k := by
    rcases hy' with ⟨q, -⟩ | ⟨q, -⟩ | ⟨q, -⟩ | ⟨q, -⟩ | ⟨q, -⟩ | ⟨q, -⟩
    · exact ⟨0, by decide, q⟩
    · exact ⟨1, by decide, q⟩
    · exact ⟨2, by decide, q⟩
    · exact ⟨3, by decide, q⟩
    · exact ⟨4, by decide, q⟩
    · exact absurd q h70
  obtain ⟨k, hk5, hk⟩ := hk
  obtain ⟨z, T0', T', By', Of', Fe', Mi', V', W', R9, P9, A9, E9, Tm', c', B2', B3', e1, e2, d9, D9, f1, f2, f3, f4, f5, ⟨g1, g2, g3, g4, g5, g6, g7, g8⟩, f7, f8, f9⟩ := l_does (o := 102 + 9 * s) b1 b2 b3 b6 h2 hn hl (by omega) hy' h70 W R P A E Rl B2 B3
  refine ⟨T0', T', V', Of', By', Fe', Mi', W', R9, P9, A9, E9, _, c', B2', B3', e1, m1_does a36 hst hs hk hk5 e2, (upd_n (by decide)).trans ((f7 34 (by decide)).trans a1), (upd_n (by decide)).trans ((f7 36 (by decide)).trans a2), fun j hj => (upd_n (by omega)).trans ((f7 j (by omega)).trans (a3 j hj)), d9, D9, f1, f2, f3, b4.t f4, fun j hj => (f5 j hj).trans (b5 j hj), ⟨g1, g2, (upd_n (by decide)).trans g3, ?_, g5.trans (upd_n (by decide)).symm, g6.trans (upd_n (by decide)).symm, g7.trans (upd_n (by decide)).symm, g8.trans (upd_n (by decide)).symm⟩, fun j hj => (f8 j hj).trans (b7 j hj)⟩
  rw [upd_s, if_neg (show ¬ (1 : Int32) = 0 by decide), Int32.add_zero, g4, f7 37 (by decide), e36]
end LIF10
