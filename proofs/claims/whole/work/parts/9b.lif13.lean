/-! Calls: mean. -/
theorem e_within_20 (x : Int32) : f_X11_within x 1 20 = some (if inR x 21 ∧ ¬ x = 0 then 1 else 0) := by
  rw [e_within_i]
  refine congrArg some (ifc ?_)
  unfold inR
  rw [show (1 : Int32).toInt = 1 from rfl, show (20 : Int32).toInt = 20 from rfl, ← Int32.toInt_inj, show (0 : Int32).toInt = 0 from rfl]
  omega
theorem e_isIn_20 (x : Int32) : f_X12_isIn (Int32.toInt64 x) 1 20 = some (if inR x 21 ∧ ¬ x = 0 then 1 else 0) := by
  rw [e_isIn_i, Int32.toInt_toInt64]
  refine congrArg some (ifc ?_)
  unfold inR
  rw [show (1 : Int64).toInt = 1 from rfl, show (20 : Int64).toInt = 20 from rfl, ← Int32.toInt_inj, show (0 : Int32).toInt = 0 from rfl]
  omega
theorem sm_1 (N : Nat) (f : Nat → Nat) (h : ∀ k, f k ≤ 1) : sm N f ≤ N := by
  induction N with
  | zero => exact Nat.le_refl _
  | succ n ih =>
    have := h n
    show sm n f + f n ≤ n + 1
    omega
theorem rights_36 {d : Nat → Nat} (hd : dInv d) : rights d ≤ 36 := by
  have h36 := hd.c36
  have := sm_1 (cells d) (fun k => if drawn d k = d (6 + k) then 1 else 0) (fun k => by split <;> decide)
  unfold rights
  omega
def cpU (V U : Nat → Int32) (k : Nat) : Nat → Int32 := fun j => if j < k then U j else V j
theorem cpU_s (V U : Nat → Int32) (k : Nat) : upd (cpU V U k) k (U k) = cpU V U (k + 1) := by
  funext j
  unfold upd cpU
  by_cases e : j = k
  · rw [if_pos e, if_pos (by omega), e]
  · rw [if_neg e]
    by_cases e2 : j < k
    · rw [if_pos e2, if_pos (by omega)]
    · rw [if_neg e2, if_neg (by omega)]
theorem cpU_0 (V U : Nat → Int32) : cpU V U 0 = V := by
  funext j
  exact if_neg (Nat.not_lt_zero _)
theorem dGr.kR {d d' : Nat → Nat} {w Na : Nat → Int64} {T S Li By Of Fe Mi T' By' Of' Fe' Mi' : Nat → Int32} (h : dGr d d') (hd : dInv d) (hk : kRep d w T S Li Na By Of Fe Mi) (hk' : kRep d' w T' S Li Na By' Of' Fe' Mi') : kRep d w (upd (upd T' 5 (iN (hset d))) 6 (iN (d 3))) S Li Na By' Of' Fe' Mi' := by
  have h12 : d 3 ≤ 12 := by
    exact hd.many.2
  have g4 : d' 4 = d 4 := h.2 4 (by decide) (by decide) (by omega) (by omega) (by omega) (by omega)
  have g5 : d' 5 = d 5 := h.2 5 (by decide) (by decide) (by omega) (by omega) (by omega) (by omega)
  obtain ⟨⟨k0, k1, k2, k3, k4, k5, k6⟩, -, -, -, b1, b2, b3, b4⟩ := hk'
  refine ⟨⟨?_, ?_, ?_, ?_, ?_, ?_, ?_⟩, hk.2.1, hk.2.2.1, hk.2.2.2.1, fun k hk9 => ?_, fun k hk9 => ?_, fun k hk9 => ?_, fun k hk9 => ?_⟩
  · rw [upd_n (by decide), upd_n (by decide), k0, h.le.1]
  · rw [upd_n (by decide), upd_n (by decide), k1, h.le.2.1]
  · rw [upd_n (by decide), upd_n (by decide), k2, g4]
  · rw [upd_n (by decide), upd_n (by decide), k3, g5]
  · rw [upd_n (by decide), upd_n (by decide), k4, h.le.2.2]
  · rw [upd_n (by decide), upd_s]
  · rw [upd_s]
  · rw [b1 k (by have := h.1; omega), h.2 (52 + k) (by omega) (by omega) (by omega) (by omega) (by omega) (by omega)]
  · rw [b2 k (by have := h.1; omega), h.2 (64 + k) (by omega) (by omega) (by omega) (by omega) (by omega) (by omega)]
  · rw [b3 k (by have := h.1; omega), h.2 (76 + k) (by omega) (by omega) (by omega) (by omega) (by omega) (by omega)]
  · rw [b4 k (by have := h.1; omega), h.2 (88 + k) (by omega) (by omega) (by omega) (by omega) (by omega) (by omega)]
theorem e12_m116 (x1 x2 : Int32) (k91 : Int64 → Int32 → (Nat → Int32) → Int64 → Int64 → (Nat → Int32) → (Nat → Int32) → (Nat → Int32) → (Nat → Int32) → Option (Int32 × (Nat → Int32) × Int64 × Int64 × (Nat → Int32) × (Nat → Int32) × (Nat → Int32) × (Nat → Int32))) (x3 : Int64) (x5 : Int32) (T : Nat → Int32) (J J' : Int64) (c V2 B2 B3 : Nat → Int32) : f_X12_mean_116 x1 x2 k91 xF x3 x5 0 T J J' c V2 B2 B3 = k91 x3 (x5 + 1) T J J' (cpU c V2 100) V2 B2 B3 := by
  have h := iter_run (g := g_X12_mean_116 x1 x2 k91) (z := fun _ _ _ _ _ _ _ _ _ _ => none) 100 (fun k φ => φ x3 x5 (iN k) T J J' (cpU c V2 k) V2 B2 B3 = k91 x3 (x5 + 1) T J J' (cpU c V2 100) V2 B2 B3) (by decide) (fun k F hk h => ?_) (fun F => ?_)
  · rw [cpU_0] at h
    exact h
  · rw [g_X12_mean_116, if_neg (by rw [show (100 : Int32) = iN 100 from rfl, iN_le (by omega) (by omega)]; omega), ck_iN hk (by decide), ck_iN (by omega) (by decide), iN_nn (by omega), cpU_s, show (iN k + 1 : Int32) = iN (k + 1) from iN_add k 1]
    exact h
  · rw [g_X12_mean_116, if_pos (by decide)]
theorem e12_m62 (x1 x2 : Int32) (T : Nat → Int32) (J J' : Int64) (c V2 B2 B3 : Nat → Int32) : f_X12_mean_62 x1 x2 xF 0 T J J' c V2 B2 B3 = f_X12_mean_91 x1 x2 xF 0 0 T J J' c (cpU V2 c 100) B2 B3 := by
  have h := iter_run (g := g_X12_mean_62 x1 x2) (z := fun _ _ _ _ _ _ _ _ => none) 100 (fun k φ => φ (iN k) T J J' c (cpU V2 c k) B2 B3 = f_X12_mean_91 x1 x2 xF 0 0 T J J' c (cpU V2 c 100) B2 B3) (by decide) (fun k F hk h => ?_) (fun F => ?_)
  · rw [cpU_0] at h
    exact h
  · rw [g_X12_mean_62, if_neg (by rw [show (100 : Int32) = iN 100 from rfl, iN_le (by omega) (by omega)]; omega), ck_iN (by omega) (by decide), ck_iN hk (by decide), iN_nn (by omega), cpU_s, show (iN k + 1 : Int32) = iN (k + 1) from iN_add k 1]
    exact h
  · rw [g_X12_mean_62, if_pos (by decide)]
section LIF13
variable {d : Nat → Nat} {w : Nat → Int64} {Na : Nat → Int64} {S Li Ta De Fi Se Th Pa c V2 T0 : Nat → Int32}
theorem m_rounds (hd : dInv d) (hc : mRep d c) (hy : yRel d c Ta De Fi Se Th Pa) (h1 : ¬ c 100 = 0) (hV2 : ∀ j, j < 100 → V2 j = c j) {a n : Nat} (hn : 1 ≤ n ∧ n ≤ 20) (ha : a ≤ 10000 - n) (J J' M M' : Int64) : ∀ (r k N N2 s : Nat) (T Tl V Of By Fe Mi W R P A E Rl W2 Tm B2 B3 : Nat → Int32), k + r = n → r < N → r < N2 → s ≤ 36 * k → kRep d w T S Li Na By Of Fe Mi → ∃ p q T' Tl' V' Of' By' Fe' Mi' W' R' P' A' E' Rl' W2' Tm' B2' B3', iter (g_X11_mean_74 Ta De Fi Se Th S Li Pa (iN a) (iN n)) (fun _ _ _ _ _ _ _ _ _ _ _ _ _ _ _ _ _ _ _ _ _ => none) N (iN (hset d)) (iN (d 3)) (iN s) (iN k) T0 J J' T Tl V Of By Fe Mi W R P A E Rl W2 = some (1, upd T0 14 0, p, q, T', Tl', V', Of', By', Fe', Mi', W', R', P', A', E', Rl', W2') ∧ iter (g_X12_mean_91 (iN a) (iN n)) (fun _ _ _ _ _ _ _ _ _ => none) N2 (jN s) (iN k) Tm M M' c V2 B2 B3 = some (1, Tm', p, q, c, V2, B2', B3') ∧ kRep d w T' S Li Na By' Of' Fe' Mi' ∧ (∀ j, j < 34 ∨ 42 ≤ j → Tm' j = Tm j) ∧ (∀ j, j ≠ 6 → Tl' j = Tl j) := by
  intro r
  induction r with
  | zero =>
    intro k N N2 s T Tl V Of By Fe Mi W R P A E Rl W2 Tm B2 B3 hk hN hN2 hs hK
    obtain ⟨N, rfl⟩ : ∃ N', N = N' + 1 := ⟨N - 1, by omega⟩
    obtain ⟨N2, rfl⟩ : ∃ N', N2 = N' + 1 := ⟨N2 - 1, by omega⟩
    have ek : k = n := hk
    subst ek
    obtain ⟨p, q, f1, f2⟩ := q_frac (T := T0) (J := J) (J' := J') (K := M) (K' := M') (show s < 9223372036854775808 by omega) (show k < 9223372036854775808 by omega) (by omega)
    refine ⟨p, q, T, Tl, V, Of, By, Fe, Mi, W, R, P, A, E, Rl, W2, Tm, B2, B3, ?_, ?_, hK, fun _ _ => rfl, fun _ _ => rfl⟩
    · rw [iter_succ, g_X11_mean_74, if_pos (Int32.le_refl _), jN_i (by omega), jN_i (by omega), f1, Option.bind_some]
      rfl
    · rw [iter_succ, g_X12_mean_91, if_pos (Int32.le_refl _), jN_i (by omega), f2, Option.bind_some]
      rfl
  | succ r ih =>
    intro k N N2 s T Tl V Of By Fe Mi W R P A E Rl W2 Tm B2 B3 hk hN hN2 hs hK
    obtain ⟨N, rfl⟩ : ∃ N', N = N' + 1 := ⟨N - 1, by omega⟩
    obtain ⟨N2, rfl⟩ : ∃ N', N2 = N' + 1 := ⟨N2 - 1, by omega⟩
    obtain ⟨st, T0', T', V', Of', By', Fe', Mi', W', R', P', A', E', Rl', Tm', c', B2', B3', p1, p2, p3, p4, p5, p6, p7, d', p8, p9, p10, p11⟩ := l_all (Tl := Tl) (V := V) (W := W) (R := R) (P := P) (A := A) (E := E) (Rl := Rl) (B2 := B2) (B3 := B3) (Tm := Tm) hd hc hK hy h1 (show a + k < 65536 by omega)
    obtain ⟨X, eX, tX⟩ := e7_take p8 p10.1 p10.2.2.2.2.2.1 p10.2.2.2.2.2.2.1 p10.2.2.2.2.1 W2 (hset_lt p8)
    have eX' : f_X7_take T' W2 Of' Fe' By' (T' 5) = some X := by rw [p10.1.2.2.2.2.2.1]; exact eX
    have er := e7_rightCells p8 p10.1 tX p10.2.1
    rw [rightS_h p8] at er
    have em := e12_rights p8 p9
    have r36 := rights_36 p8
    have ec : cpU c' V2 100 = c := by
      funext j
      unfold cpU
      by_cases e : j < 100
      · rw [if_pos e]; exact hV2 j e
      · rw [if_neg e]; exact p7 j (by omega)
    obtain ⟨p, q, T9, Tl9, V9, Of9, By9, Fe9, Mi9, W9, R9, P9, A9, E9, Rl9, X9, Tm9, B29, B39, g1, g2, g3, g4, g5⟩ := ih (k + 1) N N2 (s + rights d') (upd (upd T' 5 (iN (hset d))) 6 (iN (d 3))) T0' V' Of' By' Fe' Mi' W' R' P' A' E' Rl' X Tm' B2' B3' (by omega) (by omega) (by omega) (by omega) (p11.kR hd hK p10)
    refine ⟨p, q, T9, Tl9, V9, Of9, By9, Fe9, Mi9, W9, R9, P9, A9, E9, Rl9, X9, Tm9, B29, B39, ?_, ?_, g3, fun j hj => (g4 j hj).trans (p4 j hj), fun j hj => (g5 j hj).trans (p5 j hj)⟩
    · rw [iter_succ, g_X11_mean_74, if_neg (by rw [iN_le (by omega) (by omega)]; omega), show (iN a + iN k : Int32) = iN (a + k) from iN_add a k, p1, Option.bind_some]
      dsimp only
      rw [eX', Option.bind_some, er, Option.bind_some, show (iN s + iN (rights d') : Int32) = iN (s + rights d') from iN_add _ _, show (iN k + 1 : Int32) = iN (k + 1) from iN_add k 1]
      exact g1
    · rw [iter_succ, g_X12_mean_91, if_neg (by rw [iN_le (by omega) (by omega)]; omega), show (iN a + iN k : Int32) = iN (a + k) from iN_add a k, p2, Option.bind_some]
      dsimp only
      rw [em, Option.bind_some, e12_m116, ec, jN_i (by omega), jN_add, show (iN k + 1 : Int32) = iN (k + 1) from iN_add k 1]
      exact g2
end LIF13
