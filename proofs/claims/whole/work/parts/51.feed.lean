/-! Calls: feed. -/
def byt (x : Int32) (i : Nat) : Int32 := vp_nar .byte (Int8.toInt32 (Int32.toInt8 (x >>> iN (24 - 8 * i))))
def c8 : Nat → Int32
  | 0 => 24
  | 1 => 16
  | 2 => 8
  | 3 => 0
  | _ => -8
def c1 : Nat → Int32
  | 0 => 3
  | 1 => 2
  | 2 => 1
  | 3 => 0
  | _ => -1
theorem c8_tab : ∀ k, k < 4 → ¬ c8 k < 0 ∧ (c8 k &&& 31) = iN (24 - 8 * k) ∧ c8 k + (-8) = c8 (k + 1) := by decide +kernel
theorem c1_tab : ∀ k, k < 4 → ¬ c1 k < 0 ∧ ((8 * c1 k) &&& 31) = iN (24 - 8 * k) ∧ c1 k + (-1) = c1 (k + 1) := by decide +kernel
/-- the tape: n bytes alike -/
def bRep (n : Nat) (V Vm : Nat → Int32) : Prop := ∀ k, k < n → V k = Vm k
/-- a byte as a machine int -/
def sb (m : Nat) : Int32 := if m < 128 then iN m else iN m - iN 256
def bOk (n : Nat) (V : Nat → Int32) : Prop := ∀ k, k < n → ∃ m, m < 256 ∧ V k = sb m
theorem sb_tab : ∀ m, m < 256 → vp_nar .byte (Int8.toInt32 (Int8.ofNat m)) = sb m := by decide +kernel
theorem byt_sb (x : Int32) (i : Nat) : ∃ m, m < 256 ∧ byt x i = sb m := by
  unfold byt
  generalize Int32.toInt8 (x >>> iN (24 - 8 * i)) = y
  refine ⟨y.toBitVec.toNat, y.toBitVec.isLt, ?_⟩
  rw [← sb_tab _ y.toBitVec.isLt]
  congr 2
  apply Int8.toBitVec_inj.mp
  simp
/-- four more bytes lie behind the first n -/
def four (n : Nat) (x : Int32) (V V' : Nat → Int32) : Prop := (∀ j, j < n → V' j = V j) ∧ ∀ i, i < 4 → V' (n + i) = byt x i
theorem e8_add {T V : Nat → Int32} {n : Nat} (x : Int32) (hT : T 2 = iN n) (hn : n + 4 ≤ 900) : ∃ T' V', f_X8_add T V x = some (T', V') ∧ T' 2 = iN (n + 4) ∧ four n x V V' := by
  have l := iter_run (g := g_X8_add_3 x) (z := fun _ _ _ => none) 4 (fun k (φ : Int32 → (Nat → Int32) → (Nat → Int32) → Option ((Nat → Int32) × (Nat → Int32))) => ∀ U B, U 2 = iN (n + k) → (∀ j, j < n → B j = V j) → (∀ i, i < k → B (n + i) = byt x i) → ∃ T' V', φ (c8 k) U B = some (T', V') ∧ T' 2 = iN (n + 4) ∧ four n x V V') (by omega) (fun k F hk h => fun U B h1 h2 h3 => ?_) (fun F => fun U B h1 h2 h3 => ?_)
  · exact l T V hT (fun _ _ => rfl) (fun i hi => by omega)
  · obtain ⟨t1, t2, t3⟩ := c8_tab k hk
    have h := h (upd U 2 (iN (n + k + 1))) (upd B (n + k) (byt x k)) upd_s (fun j hj => by rw [upd_n (by omega)]; exact h2 j hj) (fun i hi => by
      by_cases e : i = k
      · subst e; exact upd_s
      · rw [upd_n (by omega)]; exact h3 i (by omega))
    rw [g_X8_add_3, if_neg t1, h1, if_neg (by rw [show (900 : Int32) = iN 900 from rfl, iN_le (by omega) (by omega)]; omega), ck_iN (by omega) (by omega), iN_nn (by omega), t2, t3, show (iN (n + k) + 1 : Int32) = iN (n + k + 1) from iN_add (n + k) 1]
    exact h
  · exact ⟨U, B, by rw [g_X8_add_3, if_pos (by decide)], h1, h2, h3⟩
theorem e12_lay4 {T V : Nat → Int32} {n : Nat} (x : Int32) (hT : T 8 = iN n) (hn : n + 4 ≤ 900) : ∃ T' V', f_X12_lay T V x = some (T', V') ∧ T' 8 = iN (n + 4) ∧ (∀ j, j ≠ 8 → T' j = T j) ∧ four n x V V' := by
  have l := iter_run (g := g_X12_lay_2 x) (z := fun _ _ _ => none) 4 (fun k (φ : Int32 → (Nat → Int32) → (Nat → Int32) → Option ((Nat → Int32) × (Nat → Int32))) => ∀ U B, U 8 = iN (n + k) → (∀ j, j ≠ 8 → U j = T j) → (∀ j, j < n → B j = V j) → (∀ i, i < k → B (n + i) = byt x i) → ∃ T' V', φ (c1 k) U B = some (T', V') ∧ T' 8 = iN (n + 4) ∧ (∀ j, j ≠ 8 → T' j = T j) ∧ four n x V V') (by omega) (fun k F hk h => fun U B h1 h0 h2 h3 => ?_) (fun F => fun U B h1 h0 h2 h3 => ?_)
  · exact l T V hT (fun _ _ => rfl) (fun _ _ => rfl) (fun i hi => by omega)
  · obtain ⟨t1, t2, t3⟩ := c1_tab k hk
    have h := h (upd U 8 (iN (n + k + 1))) (upd B (n + k) (byt x k)) upd_s (fun j hj => by rw [upd_n hj]; exact h0 j hj) (fun j hj => by rw [upd_n (by omega)]; exact h2 j hj) (fun i hi => by
      by_cases e : i = k
      · subst e; exact upd_s
      · rw [upd_n (by omega)]; exact h3 i (by omega))
    rw [g_X12_lay_2, if_neg t1, h1, ck_iN (by omega) (by omega), iN_nn (by omega), t2, t3, show (iN (n + k) + 1 : Int32) = iN (n + k + 1) from iN_add (n + k) 1]
    exact h
  · exact ⟨U, B, by rw [g_X12_lay_2, if_pos (by decide)], h1, h0, h2, h3⟩
theorem four_b {n : Nat} {x : Int32} {V V' Vm Vm' : Nat → Int32} (h : bRep n V Vm) (h1 : four n x V V') (h2 : four n x Vm Vm') : bRep (n + 4) V' Vm' := fun k hk => by
  by_cases e : k < n
  · rw [h1.1 k e, h2.1 k e]; exact h k e
  · have e1 := h1.2 (k - n) (by omega)
    have e2 := h2.2 (k - n) (by omega)
    rw [show n + (k - n) = k by omega] at e1 e2
    rw [e1, e2]
theorem four_o {n : Nat} {x : Int32} {V V' : Nat → Int32} (h : bOk n V) (h1 : four n x V V') : bOk (n + 4) V' := fun k hk => by
  by_cases e : k < n
  · rw [h1.1 k e]; exact h k e
  · have e1 := h1.2 (k - n) (by omega)
    rw [show n + (k - n) = k by omega] at e1
    rw [e1]; exact byt_sb x _
theorem q_feed {T0 Tm T8 V Vm : Nat → Int32} {K : Int32 × Int32} {n : Nat} (hT : T8 2 = iN n) (hn : n ≤ 900) (hb : bRep n V Vm) (ho : bOk n V) (hs : sR T0 Tm (T8 2) K) (x1 x2 x3 x4 x5 : Int32) : ∃ v T8' V' Um Vm' n', f_X11_feed T8 V x1 x2 x3 x4 x5 = some (v, T8', V') ∧ f_X12_feed Tm Vm x1 x2 x3 x4 x5 = some (v, Um, Vm') ∧ T8' 2 = iN n' ∧ n' ≤ 900 ∧ bRep n' V' Vm' ∧ bOk n' V' ∧ sR T0 Um (T8' 2) K := by
  have h8 : Tm 8 = iN n := hs.2.2.2.2.1.trans hT
  by_cases hr : n + 20 ≤ 900
  · obtain ⟨A1, B1, a1, a2, a3⟩ := e8_add (V := V) x1 hT (by omega)
    obtain ⟨A2, B2, b1, b2, b3⟩ := e8_add (V := B1) x2 a2 (by omega)
    obtain ⟨A3, B3, c1, c2, c3⟩ := e8_add (V := B2) x3 b2 (by omega)
    obtain ⟨A4, B4, d1, d2, d3⟩ := e8_add (V := B3) x4 c2 (by omega)
    obtain ⟨A5, B5, e1, e2, e3⟩ := e8_add (V := B4) x5 d2 (by omega)
    obtain ⟨P1, Q1, p1, p2, p3, p4⟩ := e12_lay4 (T := upd Tm 1 0) (V := Vm) x1 (by rw [upd_n (by decide)]; exact h8) (show n + 4 ≤ 900 by omega)
    obtain ⟨P2, Q2, q1, q2, q3, q4⟩ := e12_lay4 (V := Q1) x2 p2 (by omega)
    obtain ⟨P3, Q3, r1, r2, r3, r4⟩ := e12_lay4 (V := Q2) x3 q2 (by omega)
    obtain ⟨P4, Q4, s1, s2, s3, s4⟩ := e12_lay4 (V := Q3) x4 r2 (by omega)
    obtain ⟨P5, Q5, t1, t2, t3, t4⟩ := e12_lay4 (V := Q4) x5 s2 (by omega)
    have hP : ∀ j, j ≠ 8 → j ≠ 1 → P5 j = Tm j := fun j hj hj1 => by
      rw [t3 j hj, s3 j hj, r3 j hj, q3 j hj, p3 j hj, upd_n hj1]
    refine ⟨iN (n + 4 + 4 + 4 + 4 + 4), A5, B5, P5, Q5, n + 4 + 4 + 4 + 4 + 4, ?_, ?_, e2, by omega, four_b (four_b (four_b (four_b (four_b hb a3 p4) b3 q4) c3 r4) d3 s4) e3 t4, four_o (four_o (four_o (four_o (four_o ho a3) b3) c3) d3) e3, ?_⟩
    · rw [f_X11_feed, f_X8_hasRoom, hT, if_neg (by rw [show (iN n + 20 : Int32) = iN (n + 20) from iN_add n 20, show (900 : Int32) = iN 900 from rfl, iN_lt (by omega) (by omega)]; omega), Option.bind_some, if_neg (by decide), a1, Option.bind_some, b1, Option.bind_some, c1, Option.bind_some, d1, Option.bind_some, e1, Option.bind_some, f_X8_length]
      exact congrArg (fun v => some (v, A5, B5)) e2
    · rw [f_X12_feed, upd_n (by decide), h8, if_pos (by rw [show (iN n + 20 : Int32) = iN (n + 20) from iN_add n 20, show (900 : Int32) = iN 900 from rfl, iN_le (by omega) (by omega)]; omega), p1, Option.bind_some, q1, Option.bind_some, r1, Option.bind_some, s1, Option.bind_some, t1, Option.bind_some]
      exact congrArg (fun v => some (v, P5, Q5)) t2
    · refine ⟨?_, ?_, ?_, ?_, t2.trans e2.symm, ?_⟩
      · rw [hP 0 (by decide) (by decide)]; exact hs.1
      · rw [hP 10 (by decide) (by decide)]; exact hs.2.1
      · rw [hP 11 (by decide) (by decide)]; exact hs.2.2.1
      · rw [hP 23 (by decide) (by decide)]; exact hs.2.2.2.1
      · rw [hP 33 (by decide) (by decide)]; exact hs.2.2.2.2.2
  · refine ⟨-1, T8, V, upd Tm 1 0, Vm, n, ?_, ?_, hT, hn, hb, ho, sR_lk hs⟩
    · rw [f_X11_feed, f_X8_hasRoom, hT, if_pos (by rw [show (iN n + 20 : Int32) = iN (n + 20) from iN_add n 20, show (900 : Int32) = iN 900 from rfl, iN_lt (by omega) (by omega)]; omega)]; rfl
    · rw [f_X12_feed, upd_n (by decide), h8, if_neg (by rw [show (iN n + 20 : Int32) = iN (n + 20) from iN_add n 20, show (900 : Int32) = iN 900 from rfl, iN_le (by omega) (by omega)]; omega)]
