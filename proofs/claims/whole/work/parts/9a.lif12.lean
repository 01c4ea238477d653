/-! Calls: live; a life as a whole. -/
theorem ySmV.nt {nc nt nt' : Nat} (h : nt ≤ nt') {g : Nat → Int32} {e f s t : Int32} (hs : ySmV nc nt g e f s t) : ySmV nc nt' g e f s t := by
  rcases hs with ⟨q1, q2, k, q3, q4⟩ | ⟨q1, q2, k, q3, q4⟩ | ⟨q1, q2, k, x, q, q3, q4⟩ | q | q | q
  · exact Or.inl ⟨q1, q2, k, by omega, q4⟩
  · exact Or.inr (Or.inl ⟨q1, q2, k, by omega, q4⟩)
  · exact Or.inr (Or.inr (Or.inl ⟨q1, q2, k, x, q, by omega, q4⟩))
  · exact Or.inr (Or.inr (Or.inr (Or.inl q)))
  · exact Or.inr (Or.inr (Or.inr (Or.inr (Or.inl q))))
  · exact Or.inr (Or.inr (Or.inr (Or.inr (Or.inr q))))
theorem yHdV.nt {nc nt nt' : Nat} (h : nt ≤ nt') {g : Nat → Int32} {e f s : Int32} (hs : yHdV nc nt g e f s) : yHdV nc nt' g e f s := by
  rcases hs with ⟨q0, ⟨q1, q2, k, q3, q4⟩ | q⟩ | q
  · exact Or.inl ⟨q0, Or.inl ⟨q1, q2, k, by omega, q4⟩⟩
  · exact Or.inl ⟨q0, Or.inr q⟩
  · exact Or.inr q
theorem ySeg.nt {nc nt nt' : Nat} (h : nt ≤ nt') {G : Nat → Nat → Int32} {De Fi Se Th Pa : Nat → Int32} : ∀ (f : Nat) {D s s' l l' : Nat}, ySeg nc nt G De Fi Se Th Pa f D s s' l l' → ySeg nc nt' G De Fi Se Th Pa f D s s' l l'
  | 0, _, _, _, _, _, h0 => h0
  | f + 1, _, _, _, _, _, h0 => by
    rcases h0 with h0 | ⟨e, m, h1, h2⟩
    · exact Or.inl h0
    · refine Or.inr ⟨e, m, ?_, ySeg.nt h f h2⟩
      rcases h1 with ⟨a1, a2, a3, a4⟩ | ⟨y, r, a1, a2, a3, a4, a5, a6, a7, a8⟩
      · exact Or.inl ⟨a1, a2, a3.nt h, a4⟩
      · exact Or.inr ⟨y, r, a1, a2, a3.nt h, a4, a5, a6, a7, ySeg.nt h f a8⟩
theorem yG.eq {c c' : Nat → Int32} (h : ∀ j, 100 ≤ j → c' j = c j) : yG c' 102 = yG c 102 := by
  funext s f
  exact h _ (by omega)
theorem yRel.le {d d' : Nat → Nat} {c c' Ta De Fi Se Th Pa : Nat → Int32} (h : yRel d c Ta De Fi Se Th Pa) (hd : dLe d d') (hc : ∀ j, 100 ≤ j → c' j = c j) : yRel d' c' Ta De Fi Se Th Pa := by
  unfold yRel
  rw [yG.eq hc, hc 100 (by decide), hc 101 (by decide), show cells d' = cells d by rw [cells, cells, hd.1, hd.2.1]]
  rcases h with h | ⟨h1, h2, ns, ln, f, h3, h4, h5, h6, h7, h8⟩
  · exact Or.inl h
  · exact Or.inr ⟨h1, h2, ns, ln, f, h3, h4, h5, h6, h7, h8.nt hd.2.2 f⟩
theorem dGr.dLe {d d' : Nat → Nat} (h : dGr d d') : dLe d d' := ⟨h.le.1, h.le.2.1, Nat.le_of_eq h.le.2.2.symm⟩
section LIF12
variable {d : Nat → Nat} {w : Nat → Int64} {Na : Nat → Int64} {S Li Ta De Fi Se Th Pa T0 T V Of By Fe Mi W R P A E Rl Tl Tm c B2 B3 Kd Vm : Nat → Int32} {L : Int32} {K : Int32 × Int32}
theorem l_all (hd : dInv d) (hc : mRep d c) (hk : kRep d w T S Li Na By Of Fe Mi) (hy : yRel d c Ta De Fi Se Th Pa) (h1 : ¬ c 100 = 0) {n : Nat} (hn : n < 65536) : ∃ (st : Nat) (T0' T' V' Of' By' Fe' Mi' W' R' P' A' E' Rl' Tm' c' B2' B3' : Nat → Int32), f_X5_pass Tl T V Ta De Fi Se Th Of By Fe Mi W R P A E S Li Rl Pa (iN n) = some (iN st, T0', T', V', Of', By', Fe', Mi', W', R', P', A', E', Rl') ∧ f_X12_runsYears Tm c B2 B3 (iN n) = some (Tm', c', B2', B3') ∧ Tm' 36 = iN st ∧ (∀ j, j < 34 ∨ 42 ≤ j → Tm' j = Tm j) ∧ (∀ j, j ≠ 6 → T0' j = Tl j) ∧ (∀ j, j < 5 → V' j = Tm' (37 + j)) ∧ (∀ j, 100 ≤ j → c' j = c j) ∧ ∃ d', dInv d' ∧ mRep d' c' ∧ kRep d' w T' S Li Na By' Of' Fe' Mi' ∧ dGr d d' := by
  rcases hy with ⟨q, -⟩ | ⟨-, -, ns, ln, f, h3, h4, h5, h6, h7, h8⟩
  · exact absurd q h1
  obtain ⟨V0, eV, zV⟩ := e7_fill 5 (by decide) V 0
  have hS : lSt d w S Li Na Tl Tm c 0 0 (upd Tl 6 (iN n)) T V0 Of By Fe Mi (upd (upd (upd (upd (upd (upd (upd (upd Tm 35 (iN n)) 36 0) 37 0) 38 0) 39 0) 40 0) 41 0) 34 0) c := by
    refine ⟨upd_s, rfl, fun j hj => ?_, d, n, hd, hc, hk, dGr.r d, fun _ _ => rfl, ⟨hn, upd_s, rfl, (zV 0 (by decide)).trans rfl, (zV 1 (by decide)).trans rfl, (zV 2 (by decide)).trans rfl, (zV 3 (by decide)).trans rfl, (zV 4 (by decide)).trans rfl⟩, fun j hj => upd_n hj⟩
    rw [upd_n (by omega), upd_n (by omega), upd_n (by omega), upd_n (by omega), upd_n (by omega), upd_n (by omega), upd_n (by omega), upd_n (by omega)]
  have ep : f_X5_pass Tl T V Ta De Fi Se Th Of By Fe Mi W R P A E S Li Rl Pa (iN n) = lK Ta De Fi Se Th S Li Pa (iN n) 0 0 (iN 0) (upd Tl 6 (iN n)) T V0 Of By Fe Mi W R P A E Rl := by
    have ex : xF = 4000000 - 0 := rfl
    rw [f_X5_pass, eV, Option.bind_some, f_X5_pass_27, ex, lK]
    rfl
  have em : f_X12_runsYears Tm c B2 B3 (iN n) = mA (r_X12_doAll (3 + 1)) 0 (iN ns) xF (iN 0) (upd (upd (upd (upd (upd (upd (upd (upd Tm 35 (iN n)) 36 0) 37 0) 38 0) 39 0) 40 0) 41 0) 34 0) c B2 B3 := by
    have e5 : ∀ T1, f_X12_doAll T1 c B2 B3 0 (c 101) = mA (r_X12_doAll (3 + 1)) 0 (iN ns) xF (iN 0) T1 c B2 B3 := fun T1 => by
      rw [f_X12_doAll, show r_X12_doAll 5 = r_X12_doAll (3 + 1 + 1) from rfl, r_eq, h5]; rfl
    rw [f_X12_runsYears, ck_y (by decide), show (101 : Int32).toNatClampNeg = 101 by decide, e5]
    cases mA (r_X12_doAll (3 + 1)) 0 (iN ns) xF (iN 0) (upd (upd (upd (upd (upd (upd (upd (upd Tm 35 (iN n)) 36 0) 37 0) 38 0) 39 0) 40 0) 41 0) 34 0) c B2 B3 <;> rfl
  obtain ⟨st', T0', T', V', Of', By', Fe', Mi', W', R', P', A', E', Rl', Tm', c', B2', B3', a1, a2, a3, a4⟩ := l_seg (d := d) (w := w) (Na := Na) (S := S) (Li := Li) (T00 := Tl) (Tm0 := Tm) (c0 := c) (x2 := iN n) h7 (show ln ≤ 60 by omega) f 3 0 ns 0 ln h8 h3 (Nat.le_refl _) 0 0 xF (upd Tl 6 (iN n)) T V0 Of By Fe Mi W R P A E Rl _ c B2 B3 0 hS (by decide) (by decide) (xF_lt (by omega))
  have fin : ∀ {o : Int32}, lSt d w S Li Na Tl Tm c o st' T0' T' V' Of' By' Fe' Mi' Tm' c' → lK Ta De Fi Se Th S Li Pa (iN n) 0 0 (iN 0) (upd Tl 6 (iN n)) T V0 Of By Fe Mi W R P A E Rl = some (iN st', T0', T', V', Of', By', Fe', Mi', W', R', P', A', E', Rl') → ∃ (st : Nat) (T0' T' V' Of' By' Fe' Mi' W' R' P' A' E' Rl' Tm' c' B2' B3' : Nat → Int32), f_X5_pass Tl T V Ta De Fi Se Th Of By Fe Mi W R P A E S Li Rl Pa (iN n) = some (iN st, T0', T', V', Of', By', Fe', Mi', W', R', P', A', E', Rl') ∧ f_X12_runsYears Tm c B2 B3 (iN n) = some (Tm', c', B2', B3') ∧ Tm' 36 = iN st ∧ (∀ j, j < 34 ∨ 42 ≤ j → Tm' j = Tm j) ∧ (∀ j, j ≠ 6 → T0' j = Tl j) ∧ (∀ j, j < 5 → V' j = Tm' (37 + j)) ∧ (∀ j, 100 ≤ j → c' j = c j) ∧ ∃ d', dInv d' ∧ mRep d' c' ∧ kRep d' w T' S Li Na By' Of' Fe' Mi' ∧ dGr d d' := fun hS hC => by
    obtain ⟨b1, b2, b3, d', D', c1, c2, c3, c4, c5, ⟨g1, g2, g3, g4, g5, g6, g7, g8⟩, c7⟩ := hS
    refine ⟨st', T0', T', V', Of', By', Fe', Mi', W', R', P', A', E', Rl', Tm', c', B2', B3', ep.trans hC, em.trans a3, b2, b3, c7, fun j hj => ?_, c5, d', c1, c2, c3, c4⟩
    rw [if_neg (show ¬ (1 : Int32) = 0 by decide), Int32.add_zero] at g4
    rcases (show j = 0 ∨ j = 1 ∨ j = 2 ∨ j = 3 ∨ j = 4 by omega) with rfl | rfl | rfl | rfl | rfl
    · exact g4
    · exact g5
    · exact g6
    · exact g7
    · exact g8
  rcases a4 with ⟨b1, ⟨i', b2, b3⟩, -⟩ | ⟨b1, b2⟩
  · exact fin b1 (b3.trans (lK_end h7 (by omega) (by omega)))
  · exact fin b1 b2
theorem q_live (hd : dInv d) (hc : mRep d c) (hk : kRep d w T S Li Na By Of Fe Mi) (hy : yRel d c Ta De Fi Se Th Pa) (hs : sR T0 Tm L K) (hK : Tl 2 = K.1) (hb : K.1 = 0 ∨ K.1 = 1) (hV : K.1 = 1 → ∀ k, k < 5 → Kd k = Vm k) (x : Int32) : ∃ v U T' Tl' V' Of' By' Fe' Mi' W' R' P' A' E' Rl' Kd' Um c' B2' B3' Vm', ∃ K' : Int32, f_X11_live T0 T Ta Tl V De Fi Se Th Of By Fe Mi W R P A E S Li Rl Pa Kd x = some (v, U, T', Tl', V', Of', By', Fe', Mi', W', R', P', A', E', Rl', Kd') ∧ f_X12_live Tm c B2 B3 Vm x = some (v, Um, c', B2', B3', Vm') ∧ sR U Um L (K', K.2) ∧ Tl' 2 = K' ∧ (K' = 0 ∨ K' = 1) ∧ (K' = 1 → ∀ k, k < 5 → Kd' k = Vm' k) ∧ (∀ j, 100 ≤ j → c' j = c j) ∧ ∃ d', dInv d' ∧ mRep d' c' ∧ kRep d' w T' S Li Na By' Of' Fe' Mi' ∧ dLe d d' := by
  have e1 := e_within_9999 x
  have e2 := e_isIn_9999 x
  have h100 : c (Int32.toNatClampNeg 100) = c 100 := rfl
  by_cases hx : inR x 10000
  · rw [if_pos hx] at e1 e2
    obtain ⟨n, hn, rfl⟩ := hx.eq (by decide)
    by_cases h0 : c 100 = 0
    · have t0 : Ta 0 = 0 := by
        rcases hy with ⟨-, q, -⟩ | ⟨q, -⟩
        · exact q
        · rw [h0] at q; exact absurd q (by decide)
      refine ⟨-1, upd T0 14 8, T, Tl, V, Of, By, Fe, Mi, W, R, P, A, E, Rl, Kd, upd (upd (upd Tm 1 0) 0 0) 0 8, c, B2, B3, Vm, K.1, ?_, ?_, sR_no hs, hK, hb, hV, fun _ _ => rfl, d, hd, hc, hk, rfl, rfl, Nat.le_refl _⟩
      · rw [f_X11_live, e1, Option.bind_some, if_neg (show ¬ (1 : Int32) = 0 by decide), if_pos t0]; rfl
      · rw [f_X12_live, e2, Option.bind_some, if_neg (show ¬ (1 : Int32) = 0 by decide), ck_y (by decide), h100, if_pos h0]; rfl
    · have t0 : ¬ Ta 0 = 0 := by
        rcases hy with ⟨q, -⟩ | ⟨-, q, -⟩
        · exact absurd q h0
        · rw [q]; decide
      obtain ⟨st, T0', T', V', Of', By', Fe', Mi', W', R', P', A', E', Rl', Tm', c', B2', B3', p1, p2, p3, p4, p5, p6, p7, d', p8, p9, p10, p11⟩ := l_all (Tl := Tl) (V := V) (W := W) (R := R) (P := P) (A := A) (E := E) (Rl := Rl) (B2 := B2) (B3 := B3) (Tm := upd (upd Tm 1 0) 0 0) hd hc hk hy h0 (show n < 65536 by omega)
      have kd : f_X5_keepDeeds T0' V' Kd = some (upd T0' 2 1, va_cpy V' Kd 0 0 5) := by
        rw [f_X5_keepDeeds, ck_y (by decide)]; rfl
      have e0 := p4 0 (by decide)
      have e8 := p4 8 (by decide)
      have e10 := p4 10 (by decide)
      have e11 := p4 11 (by decide)
      have e23 := p4 23 (by decide)
      refine ⟨iN st, upd T0 14 0, T', upd T0' 2 1, V', Of', By', Fe', Mi', W', R', P', A', E', Rl', va_cpy V' Kd 0 0 5, upd Tm' 33 1, c', B2', B3', upd (upd (upd (upd (upd Vm 0 (Tm' 37)) 1 (Tm' 38)) 2 (Tm' 39)) 3 (Tm' 40)) 4 (Tm' 41), 1, ?_, ?_, ?_, upd_s, Or.inr rfl, fun _ k hk => ?_, p7, d', p8, p9, p10, p11.dLe⟩
      · rw [f_X11_live, e1, Option.bind_some, if_neg (show ¬ (1 : Int32) = 0 by decide), if_neg t0, p1, Option.bind_some]
        dsimp only
        rw [kd, Option.bind_some]
        dsimp only
        rw [f_X11_answer, Option.bind_some]
      · rw [f_X12_live, e2, Option.bind_some, if_neg (show ¬ (1 : Int32) = 0 by decide), ck_y (by decide), h100, if_neg h0, p2, Option.bind_some, ck_y (by decide), ck_y (by decide), ck_y (by decide), ck_y (by decide), ck_y (by decide)]
        dsimp only
        rw [upd_n (by decide), p3]
        rfl
      · refine ⟨?_, ?_, ?_, ?_, ?_, upd_s⟩
        · rw [upd_s, upd_n (by decide), e0]; rfl
        · rw [upd_n (by decide), upd_n (by decide), e10]; exact hs.2.1
        · rw [upd_n (by decide), upd_n (by decide), e11]; exact hs.2.2.1
        · rw [upd_n (by decide), upd_n (by decide), e23]; exact hs.2.2.2.1
        · rw [upd_n (by decide), e8]; exact hs.2.2.2.2.1
      · have vk : va_cpy V' Kd 0 0 5 k = V' k := by
          unfold va_cpy
          rw [if_pos (by omega), Nat.sub_zero, Nat.zero_add]
        rw [vk, p6 k hk]
        rcases (show k = 0 ∨ k = 1 ∨ k = 2 ∨ k = 3 ∨ k = 4 by omega) with rfl | rfl | rfl | rfl | rfl <;> rfl
  · rw [if_neg hx] at e1 e2
    refine ⟨-1, upd T0 14 5, T, Tl, V, Of, By, Fe, Mi, W, R, P, A, E, Rl, Kd, upd (upd (upd Tm 1 0) 0 0) 0 5, c, B2, B3, Vm, K.1, ?_, ?_, sR_no hs, hK, hb, hV, fun _ _ => rfl, d, hd, hc, hk, rfl, rfl, Nat.le_refl _⟩
    · rw [f_X11_live, e1]; rfl
    · rw [f_X12_live, e2]; rfl
end LIF12
