/-! Calls: duchy. -/
theorem e12_copy {A B : Nat} (hA : A ≤ 4) (hB : B ≤ 4) (hAB : ¬ A = B) (c : Nat → Int32) (W : Nat → Int64) : ∃ c' W', f_X12_copy c W (iN A) (iN B) = some (c', W') ∧ (∀ k, k < 372 → c' (372 * B + k) = c (372 * A + k)) ∧ (∀ j, ¬ (372 * B ≤ j ∧ j < 372 * B + 372) → c' j = c j) ∧ (∀ k, k < 5 → W' (5 * B + k) = W (5 * A + k)) ∧ ∀ j, ¬ (5 * B ≤ j ∧ j < 5 * B + 5) → W' j = W j := by
  have b5 : ∀ B j : Nat, (5 * iN B + iN j : Int32) = iN (5 * B + j) := fun B j => by rw [show (5 : Int32) = iN 5 from rfl, iN_mul, iN_add]
  have l := iter_run (g := g_X12_copy_2 (iN A) (iN B)) (z := fun _ _ _ => none) 372 (fun i (φ : Int32 → (Nat → Int32) → (Nat → Int64) → Option ((Nat → Int32) × (Nat → Int64))) => ∀ c1, (∀ k, k < i → c1 (372 * B + k) = c (372 * A + k)) → (∀ j, ¬ (372 * B ≤ j ∧ j < 372 * B + i) → c1 j = c j) → ∃ c' W', φ (iN i) c1 W = some (c', W') ∧ (∀ k, k < 372 → c' (372 * B + k) = c (372 * A + k)) ∧ (∀ j, ¬ (372 * B ≤ j ∧ j < 372 * B + 372) → c' j = c j) ∧ (∀ k, k < 5 → W' (5 * B + k) = W (5 * A + k)) ∧ ∀ j, ¬ (5 * B ≤ j ∧ j < 5 * B + 5) → W' j = W j) (by omega) (fun i F hi ih => fun c1 h1 h2 => ?_) (fun F => fun c1 h1 h2 => ?_)
  · exact l c (fun k hk => by omega) (fun _ _ => rfl)
  · rw [g_X12_copy_2, if_neg (by rw [show (372 : Int32) = iN 372 from rfl, iN_le (by omega) (by omega)]; omega), blkN, blkN, ck_iN (by omega) (by omega), ck_iN (by omega) (by omega), iN_nn (by omega), iN_nn (by omega), show (iN i + 1 : Int32) = iN (i + 1) from iN_add i 1]
    refine ih _ (fun k hk => ?_) (fun j hj => by rw [upd_n (by omega)]; exact h2 j (by omega))
    by_cases e : k = i
    · rw [e, upd_s]; exact h2 _ (by omega)
    · rw [upd_n (by omega)]; exact h1 k (by omega)
  · have l2 := iter_run (g := g_X12_copy_41 (iN A) (iN B)) (z := fun _ _ _ => none) 5 (fun i (φ : Int32 → (Nat → Int32) → (Nat → Int64) → Option ((Nat → Int32) × (Nat → Int64))) => ∀ W1 : Nat → Int64, (∀ k, k < i → W1 (5 * B + k) = W (5 * A + k)) → (∀ j, ¬ (5 * B ≤ j ∧ j < 5 * B + i) → W1 j = W j) → ∃ W', φ (iN i) c1 W1 = some (c1, W') ∧ (∀ k, k < 5 → W' (5 * B + k) = W (5 * A + k)) ∧ ∀ j, ¬ (5 * B ≤ j ∧ j < 5 * B + 5) → W' j = W j) (by omega) (fun i G hi ih => fun W1 g1 g2 => ?_) (fun G => fun W1 g1 g2 => ?_)
    · obtain ⟨W', x1, x2, x3⟩ := l2 W (fun k hk => by omega) (fun _ _ => rfl)
      exact ⟨c1, W', by rw [g_X12_copy_2, if_pos (by decide)]; exact x1, h1, h2, x2, x3⟩
    · rw [g_X12_copy_41, if_neg (by rw [show (5 : Int32) = iN 5 from rfl, iN_le (by omega) (by omega)]; omega), b5, b5, ck_iN (by omega) (by omega), ck_iN (by omega) (by omega), iN_nn (by omega), iN_nn (by omega), show (iN i + 1 : Int32) = iN (i + 1) from iN_add i 1]
      refine ih _ (fun k hk => ?_) (fun j hj => ?_)
      · unfold vp_updL
        by_cases e : k = i
        · rw [if_pos (by omega), e]; exact g2 _ (by omega)
        · rw [if_neg (by omega)]; exact g1 k (by omega)
      · unfold vp_updL
        rw [if_neg (by omega)]; exact g2 j (by omega)
    · exact ⟨W1, by rw [g_X12_copy_41, if_pos (by decide)], g1, g2⟩
theorem e12_empties {B : Nat} (hB : B ≤ 4) (c : Nat → Int32) : ∃ c', f_X12_empties c (iN B) = some c' ∧ (∀ k, k < 372 → c' (372 * B + k) = if k = 4 then 4 else 0) ∧ ∀ j, ¬ (372 * B ≤ j ∧ j < 372 * B + 372) → c' j = c j := by
  have l := iter_run (g := g_X12_empties_2 (iN B)) (z := fun _ _ => none) 372 (fun i (φ : Int32 → (Nat → Int32) → Option (Nat → Int32)) => ∀ c1, (∀ k, k < i → c1 (372 * B + k) = 0) → (∀ j, ¬ (372 * B ≤ j ∧ j < 372 * B + i) → c1 j = c j) → ∃ c', φ (iN i) c1 = some c' ∧ (∀ k, k < 372 → c' (372 * B + k) = if k = 4 then 4 else 0) ∧ ∀ j, ¬ (372 * B ≤ j ∧ j < 372 * B + 372) → c' j = c j) (by omega) (fun i F hi ih => fun c1 h1 h2 => ?_) (fun F => fun c1 h1 h2 => ?_)
  · exact l c (fun k hk => by omega) (fun _ _ => rfl)
  · rw [g_X12_empties_2, if_neg (by rw [show (372 : Int32) = iN 372 from rfl, iN_le (by omega) (by omega)]; omega), blkN, ck_iN (by omega) (by omega), iN_nn (by omega), show (iN i + 1 : Int32) = iN (i + 1) from iN_add i 1]
    refine ih _ (fun k hk => ?_) (fun j hj => by rw [upd_n (by omega)]; exact h2 j (by omega))
    by_cases e : k = i
    · rw [e, upd_s]
    · rw [upd_n (by omega)]; exact h1 k (by omega)
  · refine ⟨upd c1 (372 * B + 4) 4, ?_, fun k hk => ?_, fun j hj => by rw [upd_n (by omega)]; exact h2 j hj⟩
    · rw [g_X12_empties_2, if_pos (by decide), show (372 * iN B + 4 : Int32) = iN (372 * B + 4) from blkN B 4, ck_iN (by omega) (by omega), iN_nn (by omega)]
    · by_cases e : k = 4
      · rw [e, upd_s, if_pos rfl]
      · rw [upd_n (by omega), if_neg e]; exact h1 k hk
theorem e12_isWell_0 {T : Nat → Int32} (h : T 12 = 0) : f_X12_isWell T = some (1, upd (upd T 10 0) 11 (-1)) := by
  rw [f_X12_isWell, upd_n (show 12 ≠ 10 by decide), h, if_pos rfl, f_X12_isWell_24, upd_n (show 12 ≠ 11 by decide), upd_n (show 12 ≠ 10 by decide), if_pos h]
theorem e12_isWell_b {T : Nat → Int32} (h : bad T) : f_X12_isWell T = some (0, upd (upd (upd T 10 (T 12)) 11 (T 13)) 0 10) := by
  rw [f_X12_isWell, upd_n (show 12 ≠ 10 by decide), if_neg h.ne, f_X12_isWell_24, upd_n (show 12 ≠ 11 by decide), upd_n (show 12 ≠ 10 by decide), if_neg h.ne, upd_n (show 13 ≠ 10 by decide)]; rfl
/-- both begin to read -/
theorem p_begin {V Vm T8 Tm : Nat → Int32} {V2 : Nat → Int64} {b : Nat → Nat} {n L m : Nat} (hX : tX b n V Vm) (hC : cOk V2) (hL : T8 2 = iN L) (hn : n ≤ L) (hL9 : L ≤ 900) (hm : n ≤ m) (hm9 : m ≤ 900) (h8 : Tm 8 = iN L) (J Jm : Int64) : ∃ T' J' Tm' Jm', f_X8_begin T8 J V V2 (iN n) = some (T', J') ∧ f_X12_starts Tm Jm Vm (iN n) (iN m) = some (1, Tm', Jm') ∧ T' 9 = 0 ∧ T' 10 = -1 ∧ Tm' 8 = 0 ∧ (∀ j, j < 8 ∨ (9 < j ∧ j < 12) ∨ 19 ≤ j → Tm' j = Tm j) ∧ ∃ p q k, rdS b n p q k T' J' Tm' Jm' := by
  obtain ⟨T0, hT0⟩ : ∃ T0, T0 = upd (upd (upd (upd T8 3 (iN n)) 6 0) 9 0) 10 (-1) := ⟨_, rfl⟩
  obtain ⟨M0, hM0⟩ : ∃ M0, M0 = upd (upd (upd (upd Tm 9 (iN n)) 8 0) 16 0) 12 0 := ⟨_, rfl⟩
  obtain ⟨T', J', Tm', Jm', a1, a2, fr1, fr2, p, q, k, hS, -⟩ := p_adv0 (T := T0) (Tm := M0) hX hC (Nat.zero_le n) (by rw [hT0, upd_n (by decide), upd_n (by decide), upd_n (by decide), upd_s]) (by rw [hT0, upd_n (by decide), upd_n (by decide), upd_s]; rfl) (by rw [hM0, upd_n (by decide), upd_n (by decide), upd_n (by decide), upd_s]) (by rw [hM0, upd_n (by decide), upd_s]; rfl) (by rw [hM0, upd_s]) J Jm
  refine ⟨T', J', Tm', Jm', ?_, ?_, ?_, ?_, ?_, fun j hj => ?_, p, q, k, hS⟩
  · have e1 : (if iN L < iN n then iN L else iN n : Int32) = iN n := by rw [if_neg (by rw [iN_lt (by omega) (by omega)]; omega)]
    have e2 : (if (0 : Int32) < iN n then iN n else 0) = iN n := by
      by_cases z : n = 0
      · rw [z]; rfl
      · rw [if_pos (by rw [show (0 : Int32) = iN 0 from rfl, iN_lt (by omega) (by omega)]; omega)]
    rw [f_X8_begin, hL, letv, e1, letv, e2, ← hT0, a1]; rfl
  · rw [f_X12_starts, if_neg (by rw [show (0 : Int32) = iN 0 from rfl, iN_lt (by omega) (by omega)]; omega), h8, if_neg (by rw [iN_lt (by omega) (by omega)]; omega), if_pos (by rw [iN_le (by omega) (by omega)]; omega), ← hM0, a2]; rfl
  · rw [fr1 9 (by omega), hT0, upd_n (by decide), upd_s]
  · rw [fr1 10 (by omega), hT0, upd_s]
  · rw [fr2 8 (by omega), hM0, upd_n (by decide), upd_n (by decide), upd_s]
  · rw [fr2 j (by omega), hM0, upd_n (by omega), upd_n (by omega), upd_n (by omega), upd_n (by omega)]
def d00 : Nat → Nat := fun j => if j = 4 then 4 else 0
theorem d00_inv : dInv d00 := by
  refine ⟨⟨by decide, by decide, by decide, by decide, by decide, Or.inl rfl⟩, fun k hk => ?_, fun k hk => ?_, fun t ht => ?_, fun x => Nat.zero_le _⟩
  · unfold d00; rw [if_neg (by omega)]; decide
  · unfold d00; rw [if_neg (by omega), if_neg (by omega)]; decide
  · exact absurd ht (Nat.not_lt_zero t)
theorem d00_k {T S Li By Of Fe Mi : Nat → Int32} {Na w : Nat → Int64} (h : T 0 = 0 ∧ T 1 = 0 ∧ T 2 = 4 ∧ T 3 = 0 ∧ T 4 = 0 ∧ T 5 = 0 ∧ T 6 = 0) : kRep d00 w T S Li Na By Of Fe Mi := ⟨h, fun k hk => absurd hk (Nat.not_lt_zero k), fun k hk => absurd hk (Nat.not_lt_zero k), fun k hk => absurd hk (Nat.not_lt_zero k), fun k hk => absurd hk (Nat.not_lt_zero k), fun k hk => absurd hk (Nat.not_lt_zero k), fun k hk => absurd hk (Nat.not_lt_zero k), fun k hk => absurd hk (Nat.not_lt_zero k)⟩
theorem e_no {T : Nat → Int32} {J : Int64} {V : Nat → Int32} {L m : Nat} {x : Int32} (hL : L ≤ 900) (h8 : T 8 = iN L) (hm : m ≤ 900) (hx : ¬ inR x (min L m + 1)) : f_X12_starts T J V x (iN m) = some (0, upd T 0 5, J) := by
  have h17 : ∀ y, f_X12_starts_17 V y (iN m) T J = some (0, upd T 0 5, J) := fun y => rfl
  rw [f_X12_starts, h17, h8]
  by_cases q : x < 0
  · rw [if_pos q]
  · rw [if_neg q]
    by_cases q2 : iN L < x
    · rw [if_pos q2]
    · rw [if_neg q2]
      by_cases q3 : x ≤ iN m
      · exfalso
        rw [Int32.lt_iff_toInt_lt] at q q2
        rw [Int32.le_iff_toInt_le, iN_int (by omega)] at q3
        rw [iN_int (by omega)] at q2
        rw [show (0 : Int32).toInt = 0 from rfl] at q
        exact hx ⟨by omega, by omega⟩
      · rw [if_neg q3]
section DY6
variable {V Vm T8 T0 Tm Rr Td Ta S Li Of By Fe Mi c : Nat → Int32} {V2 Na W : Nat → Int64} {L : Nat} {K : Int32 × Int32} {J Jm : Int64}
theorem sR_rd {U M : Nat → Int32} (hs : sR T0 Tm (T8 2) K) {L' s : Int32} (h14 : U 14 = s) (h0 : M 0 = s) (h17 : U 17 = M 10) (h18 : U 18 = M 11) (h10 : U 10 = T0 10) (h23 : M 23 = Tm 23) (h8 : M 8 = L') (h33 : M 33 = Tm 33) : sR U M L' K := ⟨h14.trans h0.symm, h17, h18, by rw [h10, h23]; exact hs.2.2.2.1, h8, by rw [h33]; exact hs.2.2.2.2.2⟩
theorem q_duchy (hC : cOk V2) (hL : T8 2 = iN L) (hL9 : L ≤ 900) (hb : bRep L V Vm) (ho : bOk L V) (hs : sR T0 Tm (T8 2) K) (a14 a3 : Nat) (x : Int32) : (∃ U Um, f_X11_duchy T0 a14 a3 T8 J Rr Td Ta V V2 S Na Li Of By Fe Mi x = some (-1, U, a14, a3, T8, J, Rr, Td, Ta, S, Na, Li, Of, By, Fe, Mi) ∧ f_X12_duchy Tm Jm Vm c W x = some (-1, Um, Jm, c, W) ∧ sR U Um (T8 2) K) ∨ (∃ (U T8' : Nat → Int32) (J' : Int64) (Rr' Td' Ta' S' : Nat → Int32) (Na' : Nat → Int64) (Li' Of' By' Fe' Mi' Um : Nat → Int32) (Jm' : Int64) (c' : Nat → Int32) (W' : Nat → Int64), f_X11_duchy T0 a14 a3 T8 J Rr Td Ta V V2 S Na Li Of By Fe Mi x = some (-1, U, a14, a3, T8', J', Rr', Td', Ta', S', Na', Li', Of', By', Fe', Mi') ∧ f_X12_duchy Tm Jm Vm c W x = some (-1, Um, Jm', c', W') ∧ T8' 2 = 0 ∧ sR U Um (T8' 2) K ∧ (∀ j, j < 1488 → c' j = c j) ∧ frW W W') ∨ (∃ (v : Int32) (U T8' : Nat → Int32) (J' : Int64) (Rr' Td' Ta' S' : Nat → Int32) (Na' : Nat → Int64) (Li' Of' By' Fe' Mi' Um : Nat → Int32) (Jm' : Int64) (c' : Nat → Int32) (W' : Nat → Int64) (d' : Nat → Nat), f_X11_duchy T0 a14 a3 T8 J Rr Td Ta V V2 S Na Li Of By Fe Mi x = some (v, U, a3, a14, T8', J', Rr', Td', Ta', S', Na', Li', Of', By', Fe', Mi') ∧ f_X12_duchy Tm Jm Vm c W x = some (v, Um, Jm', c', W') ∧ T8' 2 = 0 ∧ sR U Um (T8' 2) K ∧ dInv d' ∧ mRep d' c' ∧ kRep d' W' Td' S' Li' Na' By' Of' Fe' Mi' ∧ Ta' 0 = 0 ∧ Ta' 2 = 0 ∧ c' 100 = 0 ∧ (∀ j, 372 ≤ j → j < 1488 → c' j = c j) ∧ ∀ j, 5 ≤ j → j < 20 → W' j = W j) := by
  have h8 : Tm 8 = iN L := hs.2.2.2.2.1.trans hL
  have hw := e_within_l x L (by omega)
  have mL : min L 900 = L := by omega
  by_cases hx : inR x (L + 1)
  · rw [if_pos hx] at hw
    obtain ⟨n, hn, rfl⟩ := hx.eq (by omega)
    obtain ⟨b, hX⟩ := tX_ex (show n ≤ L by omega) hL9 hb ho
    obtain ⟨T1, J1, Tm1, Jm1, a1, a2, a3', a4, a5, a6, p, q, k, hS⟩ := p_begin (Tm := upd (upd Tm 1 0) 0 0) hX hC hL (show n ≤ L by omega) hL9 (show n ≤ 900 by omega) (by decide) (by rw [upd_n (by decide), upd_n (by decide)]; exact h8) J Jm
    obtain ⟨c1, e1, e2, e3⟩ := e12_empties (B := 4) (by decide) c
    have bc : bB 1488 d00 c1 := fun k hk => by
      rw [show 1488 + k = 372 * 4 + k by omega, e2 k (by omega)]
      unfold d00
      split <;> rfl
    have H : dyS b n p q k (upd (upd Rr 1 0) 2 0) T1 J1 (upd (upd (upd (upd (upd (upd (upd Td 0 0) 1 0) 2 4) 3 0) 4 0) 5 0) 6 0) S Li Na By Of Fe Mi (upd (upd Tm1 24 0) 25 0) Jm1 c1 W d00 (fun _ => 0) := ⟨rdS_u (rdS_u hS 0 (Or.inl rfl)) 0 (Or.inr (Or.inl rfl)), ⟨rfl, rfl⟩, d00_inv, bc, d00_k ⟨rfl, rfl, rfl, rfl, rfl, rfl, rfl⟩, fun i hi => absurd hi (Nat.not_lt_zero i)⟩
    obtain ⟨ok, R9, T9, J9, Td9, S9, Na9, Li9, Of9, By9, Fe9, Mi9, Tm9, Jm9, c9, W9, x1, x2, x3, x4, x5, x6⟩ := d_loop hX hC (upd (upd (upd Ta 0 0) 1 0) 2 0) n p q k 0 (4000000 - (n + 1)) (4000000 - (n + 2)) _ _ _ _ _ _ _ _ _ _ _ _ _ _ _ _ _ (by omega) (Nat.zero_le _) H
    have f1 : 4000000 - (n + 1) + n + 1 = xF := by
      show _ = 4000000
      omega
    have f2 : 4000000 - (n + 2) + n + 2 = xF := by
      show _ = 4000000
      omega
    rw [f1] at x1
    rw [f2] at x2
    have kk : f_X4_take Rr T8 J Td Ta V V2 S Na Li Of By Fe Mi (iN n) = some (ok, R9, T9, J9, Td9, upd (upd (upd Ta 0 0) 1 0) 2 0, S9, Na9, Li9, Of9, By9, Fe9, Mi9) := by
      rw [f_X4_take, f_X3_clear, f_X0_clear, Option.bind_some, Option.bind_some, a1, Option.bind_some]
      exact x1
    have mm : f_X12_duchy Tm Jm Vm c W (iN n) = f_X12_duchy_69 Vm (iN n) Tm9 Jm9 c9 W9 := by
      have a2' : f_X12_starts (upd (upd Tm 1 0) 0 0) Jm Vm (iN n) 900 = some (1, Tm1, Jm1) := a2
      have e1' : f_X12_empties c 4 = some c1 := e1
      rw [f_X12_duchy, a2', Option.bind_some, if_neg (show ¬ (1 : Int32) = 0 by decide), e1', Option.bind_some]
      exact x2
    have nn : ∀ j, (j < 8 ∨ (19 ≤ j ∧ j < 24) ∨ 27 ≤ j) → j ≠ 0 → j ≠ 1 → Tm9 j = Tm j := fun j hj h0 h1 => by
      rw [x3 j (by omega), upd_n (by omega), upd_n (by omega), a6 j (by omega), upd_n h0, upd_n h1]
    have n0 : Tm9 0 = 0 := by rw [x3 0 (by omega), upd_n (by omega), upd_n (by omega), a6 0 (by omega), upd_s]
    have n8 : Tm9 8 = 0 := by rw [x3 8 (by omega), upd_n (by omega), upd_n (by omega), a5]
    have c9o : ∀ j, j < 1488 → c9 j = c j := fun j hj => by rw [x4 j (by omega), e3 j (by omega)]
    rcases x6 with ⟨y1, y2⟩ | ⟨y1, y2, y3, d', w', z1, z2, z3, z4⟩
    · subst y1
      refine Or.inr (Or.inl ⟨upd (upd (upd T0 17 (T9 9)) 18 (T9 10)) 14 10, upd T9 2 0, J9, R9, Td9, upd (upd (upd Ta 0 0) 1 0) 2 0, S9, Na9, Li9, Of9, By9, Fe9, Mi9, upd (upd (upd Tm9 10 (Tm9 12)) 11 (Tm9 13)) 0 10, Jm9, c9, W9, ?_, ?_, upd_s, ?_, c9o, x5⟩)
      · rw [f_X11_duchy, f_X8_length, hL, Option.bind_some, hw, Option.bind_some, if_neg (by decide), kk, Option.bind_some]; rfl
      · rw [mm, f_X12_duchy_69, e12_isWell_b y2.b]; rfl
      · obtain ⟨f, g1, g2, g3, -, -⟩ := y2
        refine sR_rd hs (s := 10) upd_s upd_s ?_ ?_ ?_ ?_ ?_ ?_
        · rw [upd_n (by decide), upd_n (by decide), upd_s, upd_n (by decide), upd_n (by decide), upd_s, g1, g2]
        · rw [upd_n (by decide), upd_s, upd_n (by decide), upd_s, g3]
        · rw [upd_n (by decide), upd_n (by decide), upd_n (by decide)]
        · rw [upd_n (by decide), upd_n (by decide), upd_n (by decide), nn 23 (by omega) (by omega) (by omega)]
        · rw [upd_n (by decide), upd_n (by decide), upd_n (by decide), n8, upd_s]
        · rw [upd_n (by decide), upd_n (by decide), upd_n (by decide), nn 33 (by omega) (by omega) (by omega)]
    · subst y1
      obtain ⟨c2, W2, s1, s2, s3, s4, s5⟩ := e12_copy (A := 4) (B := 0) (by decide) (by decide) (by decide) c9 W9
      have mr : mRep d' c2 := fun j hj => by
        have := s2 j (by omega)
        rw [Nat.mul_zero, Nat.zero_add] at this
        rw [this]
        exact z2 j hj
      have hm5 := z1.many
      have kr : kRep d' W2 Td9 S9 Li9 Na9 By9 Of9 Fe9 Mi9 := ⟨z3.1, z3.2.1, z3.2.2.1, fun i hi => by
        have := s4 i (by omega)
        rw [Nat.mul_zero, Nat.zero_add] at this
        rw [this, z3.2.2.2.1 i hi, ← z4 i hi], z3.2.2.2.2⟩
      refine Or.inr (Or.inr ⟨iN (cells d'), upd (upd (upd T0 17 (T9 9)) 18 (T9 10)) 14 0, upd T9 2 0, J9, R9, Td9, upd (upd (upd Ta 0 0) 1 0) 2 0, S9, Na9, Li9, Of9, By9, Fe9, Mi9, upd (upd Tm9 10 0) 11 (-1), Jm9, c2, W2, d', ?_, ?_, upd_s, ?_, z1, mr, kr, rfl, rfl, ?_, fun j h1 h2 => ?_, fun j h1 h2 => ?_⟩)
      · rw [f_X11_duchy, f_X8_length, hL, Option.bind_some, hw, Option.bind_some, if_neg (by decide), kk, Option.bind_some]
        dsimp only
        rw [show f_X11_endReading T0 T9 = some (upd (upd T0 17 (T9 9)) 18 (T9 10), upd T9 2 0) from rfl, Option.bind_some, if_neg (show ¬ (1 : Int32) = 0 by decide), e3_cells z3.1]; rfl
      · have s1' : f_X12_copy c9 W9 4 0 = some (c2, W2) := s1
        rw [mm, f_X12_duchy_69, e12_isWell_0 y3, Option.bind_some, if_neg (show ¬ (1 : Int32) = 0 by decide), s1', Option.bind_some]
        dsimp only
        rw [e12_cells z1 mr]; rfl
      · refine sR_rd hs (s := 0) upd_s ?_ ?_ ?_ ?_ ?_ ?_ ?_
        · rw [upd_n (by decide), upd_n (by decide), n0]
        · rw [upd_n (by decide), upd_n (by decide), upd_s, upd_n (by decide), upd_s, y2 9 (by omega), a3']
        · rw [upd_n (by decide), upd_s, upd_s, y2 10 (by omega), a4]
        · rw [upd_n (by decide), upd_n (by decide), upd_n (by decide)]
        · rw [upd_n (by decide), upd_n (by decide), nn 23 (by omega) (by omega) (by omega)]
        · rw [upd_n (by decide), upd_n (by decide), n8, upd_s]
        · rw [upd_n (by decide), upd_n (by decide), nn 33 (by omega) (by omega) (by omega)]
      · have := s2 100 (by decide)
        rw [show 372 * 0 + 100 = 100 by decide, show 372 * 4 + 100 = 1588 by decide] at this
        rw [this, x4 1588 (by omega)]
        have := e2 100 (by decide)
        rw [show 372 * 4 + 100 = 1588 by decide] at this
        rw [this]; rfl
      · rw [s3 j (by omega)]; exact c9o j h2
      · rw [s5 j (by omega)]; exact x5 j (by omega)
  · rw [if_neg hx] at hw
    refine Or.inl ⟨upd T0 14 5, upd (upd (upd Tm 1 0) 0 0) 0 5, ?_, ?_, sR_no hs⟩
    · rw [f_X11_duchy, f_X8_length, hL, Option.bind_some, hw]; rfl
    · have h9 := e_no (T := upd (upd Tm 1 0) 0 0) (J := Jm) (V := Vm) (m := 900) hL9 (by rw [upd_n (by decide), upd_n (by decide)]; exact h8) (by decide) (by rw [mL]; exact hx)
      have h9' : f_X12_starts (upd (upd Tm 1 0) 0 0) Jm Vm x 900 = some (0, upd (upd (upd Tm 1 0) 0 0) 0 5, Jm) := h9
      rw [f_X12_duchy, h9']; rfl
end DY6
