/-! Lives: a step, a loop's rounds, and all. -/
def lRes (d : Nat → Nat) (w : Nat → Int64) (S Li : Nat → Int32) (Na : Nat → Int64) (T00 Tm0 c0 T3 De Fi Se Th Pa : Nat → Int32) (x2 : Int32) (i st l l' : Nat) (Rl : Nat → Int32) (Mo : Option M4) (Co : Option (Int32 × C13)) : Prop := ∃ (st' : Nat) (T0' T' V' Of' By' Fe' Mi' W' R' P' A' E' Rl' Tm' c' B2' B3' : Nat → Int32), st ≤ st' ∧ st' ≤ 300 ∧ Mo = some (Tm', c', B2', B3') ∧ ((lSt d w S Li Na T00 Tm0 c0 0 st' T0' T' V' Of' By' Fe' Mi' Tm' c' ∧ (∃ i', i' + 100 * st ≤ i + 100 * st' ∧ Co = lK T3 De Fi Se Th S Li Pa x2 i' st' (iN l') T0' T' V' Of' By' Fe' Mi' W' R' P' A' E' Rl') ∧ ∀ j, j < l ∨ l' ≤ j → Rl' j = Rl j) ∨ (lSt d w S Li Na T00 Tm0 c0 1 st' T0' T' V' Of' By' Fe' Mi' Tm' c' ∧ Co = some (iN st', T0', T', V', Of', By', Fe', Mi', W', R', P', A', E', Rl')))
def lP (d : Nat → Nat) (w : Nat → Int64) (S Li : Nat → Int32) (Na : Nat → Int64) (T00 Tm0 c0 T3 De Fi Se Th Pa : Nat → Int32) (x2 : Int32) (ln f : Nat) : Prop := ∀ D s s' l l', ySeg (cells d) (d 2) (yG c0 102) De Fi Se Th Pa f D s s' l l' → s' ≤ 30 → l' ≤ ln → ∀ (st i N : Nat) (T0 T V Of By Fe Mi W R P A E Rl Tm c B2 B3 : Nat → Int32) (x1 : Int32), lSt d w S Li Na T00 Tm0 c0 0 st T0 T V Of By Fe Mi Tm c → i ≤ 100 * st → st ≤ 300 → s' - s < N → lRes d w S Li Na T00 Tm0 c0 T3 De Fi Se Th Pa x2 i st l l' Rl (mA (r_X12_doAll (D + 1)) x1 (iN s') N (iN s) Tm c B2 B3) (lK T3 De Fi Se Th S Li Pa x2 i st (iN l) T0 T V Of By Fe Mi W R P A E Rl)
theorem r_eq (y : Nat) (Tm c B2 B3 : Nat → Int32) (x1 x2 : Int32) : r_X12_doAll (y + 1 + 1) Tm c B2 B3 x1 x2 = mA (r_X12_doAll (y + 1)) x1 x2 xF x1 Tm c B2 B3 := by
  rw [r_X12_doAll, iter_succ, o_X12_doAll, f_X12_doAll_2, mA, r_X12_doAll]
theorem ySmV.n21 {nc nt : Nat} {g : Nat → Int32} {e f s t : Int32} (h : ySmV nc nt g e f s t) : ¬ e = 21 := by
  rcases h with ⟨-, q, -⟩ | ⟨-, q, -⟩ | ⟨-, q, -⟩ | ⟨-, q, -⟩ | ⟨-, q⟩ | ⟨-, q⟩ <;> rw [q] <;> decide
theorem yHdV.n21 {nc nt : Nat} {g : Nat → Int32} {e f s : Int32} (h : yHdV nc nt g e f s) : ¬ e = 21 := by
  rcases h with ⟨-, h⟩ | ⟨-, q, -⟩
  · rcases h with ⟨q, -⟩ | ⟨q, -⟩ | ⟨q, -⟩ | ⟨q, -⟩ <;> rw [q] <;> decide
  · rw [q]; decide
theorem xF_lt {n : Nat} (h : n < 4000000) : n < xF := h
section LIF11
variable {d : Nat → Nat} {w : Nat → Int64} {Na : Nat → Int64} {S Li T00 Tm0 c0 T3 De Fi Se Th Pa T0 T V Of By Fe Mi W R P A E Rl Rl1 Tm c B2 B3 : Nat → Int32} {x2 : Int32} {st i ln f : Nat}
theorem lRes.mono {i1 st1 l1 l m : Nat} {Mo : Option M4} {Co : Option (Int32 × C13)} (h : lRes d w S Li Na T00 Tm0 c0 T3 De Fi Se Th Pa x2 i1 st1 l1 m Rl1 Mo Co) (hs : st ≤ st1) (hi : i1 + 100 * st ≤ i + 100 * st1) (hl : l ≤ l1) (hR : ∀ j, j < l ∨ m ≤ j → Rl1 j = Rl j) : lRes d w S Li Na T00 Tm0 c0 T3 De Fi Se Th Pa x2 i st l m Rl Mo Co := by
  obtain ⟨st', T0', T', V', Of', By', Fe', Mi', W', R', P', A', E', Rl', Tm', c', B2', B3', a1, a2, a3, a4⟩ := h
  refine ⟨st', T0', T', V', Of', By', Fe', Mi', W', R', P', A', E', Rl', Tm', c', B2', B3', by omega, a2, a3, ?_⟩
  rcases a4 with ⟨b1, ⟨i', b2, b3⟩, b4⟩ | b
  · exact Or.inl ⟨b1, ⟨i', by omega, b3⟩, fun j hj => (b4 j (by omega)).trans (hR j hj)⟩
  · exact Or.inr b
theorem lS_test {s l : Nat} {o : Int32} (h : lSt d w S Li Na T00 Tm0 c0 o st T0 T V Of By Fe Mi Tm c) (h2 : T3 2 = iN ln) (hn : ln ≤ 60) (hl : l < ln) (hs : s < 30) (hy : yHdV (cells d) (d 2) (yG c0 102 s) (De l) (Fi l) (Se l)) (h5 : yG c0 102 s 0 = iN 5) (W : Nat → Int32) : ∃ z W', f_X5_holds T T3 Fi Se W Of Fe By De (iN l) = some (z, W') ∧ f_X12_holds c (iN (102 + 9 * s)) = some z := by
  have hg := h.g s
  obtain ⟨a1, a2, a3, d', D', b1, b2, b3, b4, b5, b6, b7⟩ := h
  have ec : cells d' = cells d := by rw [cells, cells, b4.le.1, b4.le.2.1]
  have hy' : yHdV (cells d') (d' 2) (fun j => c (102 + 9 * s + j)) (De l) (Fi l) (Se l) := by rw [ec, b4.le.2.2, hg]; exact hy
  have h50 : c (102 + 9 * s) = iN 5 := by
    have this : c (102 + 9 * s) = yG c0 102 s 0 := congrFun hg 0
    rw [this]; exact h5
  obtain ⟨z, W', e1, e2, -⟩ := l_test (o := 102 + 9 * s) b1 b2 b3 h2 hn hl (by omega) hy' h50 W
  exact ⟨z, W', e1, e2⟩
theorem lSt.nm {o : Int32} (h : lSt d w S Li Na T00 Tm0 c0 o st T0 T V Of By Fe Mi Tm c) (s j : Nat) : c (102 + 9 * s + j) = yG c0 102 s j := congrFun (h.g s) j
theorem l_rounds (ih : lP d w S Li Na T00 Tm0 c0 T3 De Fi Se Th Pa x2 ln f) (h2 : T3 2 = iN ln) (hn : ln ≤ 60) {y s e l r v : Nat} (hg : ySeg (cells d) (d 2) (yG c0 102) De Fi Se Th Pa f y (s + 1) e (l + 1) r) (he : e ≤ 30) (hr : r < ln) (h20 : De l = 20) (h21 : De r = 21) (hPr : Pa r = iN l) (hv : yG c0 102 s 1 = iN v) (hv9 : v ≤ 99) (h8 : yG c0 102 s 8 = iN e) : ∀ (n k : Nat), k + n + 1 = v → ∀ (N st i : Nat) (T0 T V Of By Fe Mi W R P A E Rl Tm c B2 B3 : Nat → Int32), lSt d w S Li Na T00 Tm0 c0 0 st T0 T V Of By Fe Mi Tm c → i + n + 1 ≤ 100 * st → st ≤ 300 → n + 1 < N → Rl l = iN n → lRes d w S Li Na T00 Tm0 c0 T3 De Fi Se Th Pa x2 (i + n + 1) st l (r + 1) Rl (mW (r_X12_doAll (y + 1 + 1)) (iN s) N (iN (102 + 9 * s)) (iN k) Tm c B2 B3) (lK T3 De Fi Se Th S Li Pa x2 i st (iN (l + 1)) T0 T V Of By Fe Mi W R P A E Rl) := by
  have og := ySeg.ord f hg
  intro n
  induction n with
  | zero =>
    intro k hk N st i T0 T V Of By Fe Mi W R P A E Rl Tm c B2 B3 hS hi hst hN hR
    obtain ⟨M, rfl⟩ : ∃ M, N = M + 1 + 1 := ⟨N - 2, by omega⟩
    obtain ⟨st', T0', T', V', Of', By', Fe', Mi', W', R', P', A', E', Rl', Tm', c', B2', B3', a1, a2, a3, a4⟩ := ih y (s + 1) e (l + 1) r hg he (by omega) st i xF T0 T V Of By Fe Mi W R P A E Rl Tm c B2 B3 (iN (s + 1)) hS (by omega) hst (xF_lt (by omega))
    have st1 : mW (r_X12_doAll (y + 1 + 1)) (iN s) (M + 1 + 1) (iN (102 + 9 * s)) (iN k) Tm c B2 B3 = mW (r_X12_doAll (y + 1 + 1)) (iN s) (M + 1) (iN (102 + 9 * s)) (iN (k + 1)) Tm' c' B2' B3' := mW_step (by omega) hS.1 ((hS.nm s 1).trans hv) (by omega) (by omega) (by rw [show (iN s + 1 : Int32) = iN (s + 1) from iN_add s 1, hS.nm s 8, h8, r_eq, a3])
    rcases a4 with ⟨b1, ⟨i', b2, b3⟩, b4⟩ | ⟨b1, b2⟩
    · refine ⟨st', T0', T', V', Of', By', Fe', Mi', W', R', P', A', E', Rl', Tm', c', B2', B3', a1, a2, ?_, Or.inl ⟨b1, ⟨i' + 1, by omega, ?_⟩, fun j hj => b4 j (by omega)⟩⟩
      · rw [st1, show k + 1 = v by omega]
        exact mW_out (by omega) ((b1.nm s 1).trans hv) (by omega)
      · rw [b3, lK_close h2 hn hr (by omega) h21 hPr (by omega), if_neg (by rw [b4 l (by omega), hR]; exact fun h => h.2 (by decide))]
    · refine ⟨st', T0', T', V', Of', By', Fe', Mi', W', R', P', A', E', Rl', Tm', c', B2', B3', a1, a2, ?_, Or.inr ⟨b1, b2⟩⟩
      rw [st1]
      exact mW_over (by omega) b1.1
  | succ n hn2 =>
    intro k hk N st i T0 T V Of By Fe Mi W R P A E Rl Tm c B2 B3 hS hi hst hN hR
    obtain ⟨M, rfl⟩ : ∃ M, N = M + 1 + 1 := ⟨N - 2, by omega⟩
    obtain ⟨st', T0', T', V', Of', By', Fe', Mi', W', R', P', A', E', Rl', Tm', c', B2', B3', a1, a2, a3, a4⟩ := ih y (s + 1) e (l + 1) r hg he (by omega) st i xF T0 T V Of By Fe Mi W R P A E Rl Tm c B2 B3 (iN (s + 1)) hS (by omega) hst (xF_lt (by omega))
    have st1 : mW (r_X12_doAll (y + 1 + 1)) (iN s) (M + 1 + 1) (iN (102 + 9 * s)) (iN k) Tm c B2 B3 = mW (r_X12_doAll (y + 1 + 1)) (iN s) (M + 1) (iN (102 + 9 * s)) (iN (k + 1)) Tm' c' B2' B3' := mW_step (by omega) hS.1 ((hS.nm s 1).trans hv) (by omega) (by omega) (by rw [show (iN s + 1 : Int32) = iN (s + 1) from iN_add s 1, hS.nm s 8, h8, r_eq, a3])
    rcases a4 with ⟨b1, ⟨i', b2, b3⟩, b4⟩ | ⟨b1, b2⟩
    · have hR' : Rl' l = iN (n + 1) := (b4 l (by omega)).trans hR
      have nx := hn2 (k + 1) (by omega) (M + 1) st' (i' + 1) T0' T' V' Of' By' Fe' Mi' W' R' P' A' E' (upd Rl' l (Rl' l - 1)) Tm' c' B2' B3' b1 (by omega) a2 (by omega) (by rw [upd_s, hR']; exact iN_sub (a := n + 1) (b := 1) (by omega))
      rw [st1, b3, lK_close h2 hn hr (by omega) h21 hPr (by omega), if_pos ⟨h20, by rw [hR', show (0 : Int32) = iN 0 from rfl, iN_le (by omega) (by omega)]; omega⟩]
      exact nx.mono a1 (by omega) (Nat.le_refl _) (fun j hj => (upd_n (by omega)).trans (b4 j (by omega)))
    · refine ⟨st', T0', T', V', Of', By', Fe', Mi', W', R', P', A', E', Rl', Tm', c', B2', B3', a1, a2, ?_, Or.inr ⟨b1, b2⟩⟩
      rw [st1]
      exact mW_over (by omega) b1.1
theorem l_one (ih : lP d w S Li Na T00 Tm0 c0 T3 De Fi Se Th Pa x2 ln f) (h2 : T3 2 = iN ln) (hn : ln ≤ 60) {D s e l m : Nat} (h : yOneF (cells d) (d 2) (yG c0 102) De Fi Se Th Pa (ySeg (cells d) (d 2) (yG c0 102) De Fi Se Th Pa f) D s e l m) (he : e ≤ 30) (hm : m ≤ ln) (hS : lSt d w S Li Na T00 Tm0 c0 0 st T0 T V Of By Fe Mi Tm c) (hi : i ≤ 100 * st) (hst : st ≤ 300) : lRes d w S Li Na T00 Tm0 c0 T3 De Fi Se Th Pa x2 i st l m Rl (o_X12_doOne (r_X12_doAll (D + 1)) Tm c B2 B3 (iN s)) (lK T3 De Fi Se Th S Li Pa x2 i st (iN l) T0 T V Of By Fe Mi W R P A E Rl) := by
  have o1 := yOne.ord h
  have n21 : ¬ De l = 21 := by
    rcases h with ⟨-, -, q, -⟩ | ⟨y, r, -, -, q, -⟩
    · exact q.n21
    · exact q.n21
  by_cases e3 : st = 300
  · subst e3
    refine ⟨300, T0, T, upd V 4 1, Of, By, Fe, Mi, W, R, P, A, E, Rl, upd (upd Tm 34 1) 41 1, c, B2, B3, Nat.le_refl _, Nat.le_refl _, m1_300 hS.2.1, Or.inr ⟨hS.tired, lK_300 h2 hn (by omega) (by omega) n21⟩⟩
  have hst' : st < 300 := by omega
  have k0 : c (102 + 9 * s) = yG c0 102 s 0 := hS.nm s 0
  rcases h with ⟨q1, q2, q3, q4⟩ | ⟨y, r, q1, q2, q3, q4, q5, q6, q7, q8⟩
  · subst q1
    subst q2
    by_cases e7 : yG c0 102 s 0 = iN 7
    · have d22 : De l = iN 22 := by
        rcases q3 with ⟨q, -⟩ | ⟨q, -⟩ | ⟨q, -⟩ | ⟨q, -⟩ | ⟨q, -⟩ | ⟨-, q⟩
        · rw [e7] at q; exact absurd q (by decide)
        · rw [e7] at q; exact absurd q (by decide)
        · rw [e7] at q; exact absurd q (by decide)
        · rw [e7] at q; exact absurd q (by decide)
        · rw [e7] at q; exact absurd q (by decide)
        · exact q
      refine ⟨st + 1, T0, T, V, Of, By, Fe, Mi, W, R, P, A, E, Rl, _, c, B2, B3, by omega, by omega, m1_stop hS.2.1 hst' (by omega) (k0.trans e7), Or.inr ⟨hS.tick.over, ?_⟩⟩
      rw [lK_step h2 hn (by omega) (by omega) hst' n21, l_stop h2 hn (by omega) d22, Option.bind_some]
      exact lK_end h2 hn (by omega)
    · obtain ⟨T0', T', V', Of', By', Fe', Mi', W', R', P', A', E', Tm', c', B2', B3', e1, e2, e3⟩ := lS_does (rc := r_X12_doAll (D + 1)) (Pa := Pa) (W := W) (R := R) (P := P) (A := A) (E := E) (Rl := Rl) (B2 := B2) (B3 := B3) hS hst' h2 hn (show l < ln by omega) (show s < 30 by omega) q3 e7
      refine ⟨st + 1, T0', T', V', Of', By', Fe', Mi', W', R', P', A', E', Rl, Tm', c', B2', B3', by omega, by omega, e2, Or.inl ⟨e3, ⟨i + 1, by omega, ?_⟩, fun _ _ => rfl⟩⟩
      rw [lK_step h2 hn (by omega) (by omega) hst' n21, e1, Option.bind_some]
  · subst q1
    subst q2
    have og := ySeg.ord f q8
    have ck := lK_step (T0 := T0) (T1 := T) (V2 := V) (Of := Of) (By := By) (Fe := Fe) (Mi := Mi) (W := W) (R := R) (P := P) (A := A) (E := E) (Rl := Rl) (Fi := Fi) (Se := Se) (Th := Th) (S := S) (Li := Li) (Pa := Pa) (x2 := x2) h2 hn (show l < ln by omega) (show i < 1000000 by omega) hst' n21
    rcases q3 with ⟨k5, q3⟩ | ⟨k6, d20, v, v1, v2, v3, v4⟩
    · obtain ⟨z, W', t1, t2⟩ := lS_test hS h2 hn (show l < ln by omega) (show s < 30 by omega) (Or.inl ⟨k5, q3⟩) k5 W
      have hde : De l = iN 5 ∨ De l = iN 17 ∨ De l = iN 18 ∨ De l = iN 19 := by
        rcases q3 with ⟨q, -⟩ | ⟨q, -⟩ | ⟨q, -⟩ | ⟨q, -⟩
        · exact Or.inl q
        · exact Or.inr (Or.inr (Or.inl q))
        · exact Or.inr (Or.inl q)
        · exact Or.inr (Or.inr (Or.inr q))
      rw [ck, l_when h2 hn (by omega) hde q7 t1, Option.bind_some, m1_when hS.2.1 hst' (by omega) (k0.trans k5) t2]
      by_cases ez : z = 0
      · rw [if_pos ez]
        refine ⟨st + 1, T0, T, V, Of, By, Fe, Mi, W', R, P, A, E, Rl, _, c, B2, B3, by omega, by omega, rfl, Or.inl ⟨hS.tick, ⟨i + 1, by omega, ?_⟩, fun _ _ => rfl⟩⟩
        rw [if_pos ez]
      · rw [if_neg ez, if_neg ez, hS.nm s 8, q4, r_eq]
        obtain ⟨st', T0', T', V', Of', By', Fe', Mi', W', R', P', A', E', Rl', Tm', c', B2', B3', a1, a2, a3, a4⟩ := ih y (s + 1) e (l + 1) r q8 he (by omega) (st + 1) (i + 1) xF T0 T V Of By Fe Mi W' R P A E Rl _ c B2 B3 (iN (s + 1)) hS.tick (by omega) (by omega) (xF_lt (by omega))
        rcases a4 with ⟨b1, ⟨i', b2, b3⟩, b4⟩ | ⟨b1, b2⟩
        · refine ⟨st', T0', T', V', Of', By', Fe', Mi', W', R', P', A', E', Rl', Tm', c', B2', B3', by omega, a2, a3, Or.inl ⟨b1, ⟨i' + 1, by omega, ?_⟩, fun j hj => b4 j (by omega)⟩⟩
          have h20 : ¬ De l = 20 := by
            rcases hde with q | q | q | q <;> rw [q] <;> decide
          refine b3.trans ?_
          rw [lK_close h2 hn (show r < ln by omega) (by omega) q5 q6 (by omega), if_neg (fun h => h20 h.1)]
        · exact ⟨st', T0', T', V', Of', By', Fe', Mi', W', R', P', A', E', Rl', Tm', c', B2', B3', by omega, a2, a3, Or.inr ⟨b1, b2⟩⟩
    · rw [ck, l_loop h2 hn (by omega) d20, Option.bind_some, m1_loop hS.2.1 hst' (by omega) (k0.trans k6)]
      have nx := l_rounds ih h2 hn q8 he (show r < ln by omega) d20 q5 q6 v4 v2 q4 (v - 1) 0 (by omega) xF (st + 1) (i + 1) T0 T V Of By Fe Mi W R P A E (upd Rl l (Fi l - 1)) (upd Tm 36 (Tm 36 + 1)) c B2 B3 hS.tick (by omega) (by omega) (xF_lt (by omega)) (by rw [upd_s, v3]; exact iN_sub (b := 1) v1)
      exact nx.mono (by omega) (by omega) (Nat.le_refl _) (fun j hj => upd_n (by omega))
theorem l_seg (h2 : T3 2 = iN ln) (hn : ln ≤ 60) : ∀ f, lP d w S Li Na T00 Tm0 c0 T3 De Fi Se Th Pa x2 ln f
  | 0 => by
    intro D s s' l l' h hs' hl' st i N T0 T V Of By Fe Mi W R P A E Rl Tm c B2 B3 x1 hS hi hst hN
    obtain ⟨rfl, rfl⟩ := h
    obtain ⟨M, rfl⟩ : ∃ M, N = M + 1 := ⟨N - 1, by omega⟩
    exact ⟨st, T0, T, V, Of, By, Fe, Mi, W, R, P, A, E, Rl, Tm, c, B2, B3, Nat.le_refl _, hst, mA_out s, Or.inl ⟨hS, ⟨i, Nat.le_refl _, rfl⟩, fun _ _ => rfl⟩⟩
  | f + 1 => by
    intro D s s' l l' h hs' hl' st i N T0 T V Of By Fe Mi W R P A E Rl Tm c B2 B3 x1 hS hi hst hN
    obtain ⟨M, rfl⟩ : ∃ M, N = M + 1 := ⟨N - 1, by omega⟩
    rcases h with ⟨rfl, rfl⟩ | ⟨e, m, h1, h3⟩
    · exact ⟨st, T0, T, V, Of, By, Fe, Mi, W, R, P, A, E, Rl, Tm, c, B2, B3, Nat.le_refl _, hst, mA_out s, Or.inl ⟨hS, ⟨i, Nat.le_refl _, rfl⟩, fun _ _ => rfl⟩⟩
    · have o1 := yOne.ord h1
      have o3 := ySeg.ord f h3
      have g8 : yG c0 102 s 8 = iN e := by
        rcases h1 with ⟨-, -, -, q⟩ | ⟨y, r, -, -, -, q, -⟩ <;> exact q
      obtain ⟨st', T0', T', V', Of', By', Fe', Mi', W', R', P', A', E', Rl', Tm', c', B2', B3', a1, a2, a3, a4⟩ := l_one (W := W) (R := R) (P := P) (A := A) (E := E) (Rl := Rl) (B2 := B2) (B3 := B3) (x2 := x2) (l_seg h2 hn f) h2 hn h1 (by omega) (by omega) hS hi hst
      have sp := fun (x1 : Int32) (h8 : c' (102 + 9 * s + 8) = iN e) => (mA_step (N := M) (x1 := x1) hS.1 (show s < s' by omega) hs' a3).trans (by rw [h8])
      rcases a4 with ⟨b1, ⟨i', b2, b3⟩, b4⟩ | ⟨b1, b2⟩
      · rw [sp x1 ((b1.nm s 8).trans g8), b3]
        have nx := l_seg h2 hn f D e s' m l' h3 hs' hl' st' i' M T0' T' V' Of' By' Fe' Mi' W' R' P' A' E' Rl' Tm' c' B2' B3' x1 b1 (by omega) a2 (by omega)
        exact nx.mono a1 (by omega) (by omega) (fun j hj => b4 j (by omega))
      · refine ⟨st', T0', T', V', Of', By', Fe', Mi', W', R', P', A', E', Rl', Tm', c', B2', B3', a1, a2, ?_, Or.inr ⟨b1, b2⟩⟩
        rw [sp x1 ((b1.nm s 8).trans g8)]
        obtain ⟨M', rfl⟩ : ∃ M', M = M' + 1 := ⟨M - 1, by omega⟩
        exact mA_over b1.1
end LIF11
