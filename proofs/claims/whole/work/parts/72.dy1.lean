/-! The duchy read: odds, the harbour. -/
def bB (o : Nat) (d : Nat → Nat) (c : Nat → Int32) : Prop := ∀ k, k < 100 → c (o + k) = iN (d k)
def frN (Tm Tm' : Nat → Int32) : Prop := ∀ j, (j < 12 ∨ (19 ≤ j ∧ j < 24) ∨ 27 ≤ j) → Tm' j = Tm j
def frB (c c' : Nat → Int32) : Prop := ∀ j, j < 1488 ∨ 1588 ≤ j → c' j = c j
def frW (W W' : Nat → Int64) : Prop := ∀ j, j < 20 → W' j = W j
theorem frM.n {A B : Nat → Int32} (h : frM A B) : frN A B := fun j hj => h j (by omega)
theorem frN.t {A B C : Nat → Int32} (h : frN A B) (h2 : frN B C) : frN A C := fun j hj => (h2 j hj).trans (h j hj)
theorem frB.r (c : Nat → Int32) : frB c c := fun _ _ => rfl
theorem frB.t {A B C : Nat → Int32} (h : frB A B) (h2 : frB B C) : frB A C := fun j hj => (h2 j hj).trans (h j hj)
theorem frW.r (W : Nat → Int64) : frW W W := fun _ _ => rfl
theorem frW.t {A B C : Nat → Int64} (h : frW A B) (h2 : frW B C) : frW A C := fun j hj => (h2 j hj).trans (h j hj)
theorem frN_u (T : Nat → Int32) {i : Nat} (v : Int32) (hi : i = 24 ∨ i = 25 ∨ i = 26) : frN T (upd T i v) := fun j hj => upd_n (by omega)
theorem bB_upd {o : Nat} {d : Nat → Nat} {c : Nat → Int32} (h : bB o d c) (i v : Nat) : bB o (updN d i v) (upd c (o + i) (iN v)) := fun j hj => by
  unfold updN upd
  by_cases e : j = i
  · rw [if_pos e, if_pos (by omega)]
  · rw [if_neg e, if_neg (by omega)]; exact h j hj
theorem frB_u (c : Nat → Int32) {i : Nat} (v : Int32) (hi : 1488 ≤ i ∧ i < 1588) : frB c (upd c i v) := fun j hj => upd_n (by omega)
theorem rdS_u {b : Nat → Nat} {n p q k : Nat} {T Tm : Nat → Int32} {J Jm : Int64} (h : rdS b n p q k T J Tm Jm) {i : Nat} (v : Int32) (hi : i = 24 ∨ i = 25 ∨ i = 26) : rdS b n p q k T J (upd Tm i v) Jm := by
  obtain ⟨⟨h1, h2, ⟨m1, m2, m3, m4, m5, m6⟩, h4, h5⟩, h6⟩ := h
  refine ⟨⟨h1, h2, ⟨?_, ?_, ?_, fun hk => ?_, fun hk => ?_, fun hk => ?_⟩, h4, ?_⟩, ?_⟩
  · rw [upd_n (by omega)]; exact m1
  · rw [upd_n (by omega)]; exact m2
  · rw [upd_n (by omega)]; exact m3
  · rw [upd_n (by omega)]; exact m4 hk
  · rw [upd_n (by omega)]; exact m5 hk
  · rw [upd_n (by omega)]; exact m6 hk
  · rw [upd_n (by omega)]; exact h5
  · rw [upd_n (by omega)]; exact h6
theorem flS_u {T Tm : Nat → Int32} (h : flS T Tm) {i : Nat} (v : Int32) (hi : i = 24 ∨ i = 25 ∨ i = 26) : flS T (upd Tm i v) := by
  obtain ⟨f, h1, h2, h3, h4⟩ := h
  exact ⟨f, h1, by rw [upd_n (by omega)]; exact h2, by rw [upd_n (by omega)]; exact h3, h4⟩
/-- both read one duchy, as far as they are -/
def dyS (b : Nat → Nat) (n p q k : Nat) (Rr T : Nat → Int32) (J : Int64) (Td S Li : Nat → Int32) (Na : Nat → Int64) (By Of Fe Mi Tm : Nat → Int32) (Jm : Int64) (c : Nat → Int32) (W : Nat → Int64) (d : Nat → Nat) (w : Nat → Int64) : Prop := rdS b n p q k T J Tm Jm ∧ (Rr 1 = Tm 24 ∧ Rr 2 = Tm 25) ∧ dInv d ∧ bB 1488 d c ∧ kRep d w Td S Li Na By Of Fe Mi ∧ ∀ i, i < d 2 → W (20 + i) = w i
theorem mul_lt {v u R C : Nat} (hv : v < R) (hu : u < C) : v * C + u < R * C := by
  have h : (v + 1) * C ≤ R * C := Nat.mul_le_mul_right C hv
  rw [Nat.add_mul] at h
  omega
theorem tkS_pq {b : Nat → Nat} {n p q k : Nat} {T Tm : Nat → Int32} {J Jm : Int64} (h : tkS b n p q k T J Tm Jm) : p ≤ q := by
  obtain ⟨⟨q0, n1, n4⟩, -⟩ := h
  rcases n4 with ⟨e1, e2, e3⟩ | ⟨e1, e2, e3, e4, e5⟩ <;> omega
section DY1
variable {b : Nat → Nat} {n p q k : Nat} {V Vm T Tm : Nat → Int32} {J Jm : Int64} {V2 : Nat → Int64} {d : Nat → Nat} {w Na W : Nat → Int64} {c Rr Td S Li By Of Fe Mi : Nat → Int32}
theorem d_odds (hX : tX b n V Vm) (hC : cOk V2) (H : dyS b n p q k Rr T J Td S Li Na By Of Fe Mi Tm Jm c W d w) (hk : ¬ k = 4) : (∃ Rr' T' J' Td' Tm' Jm' c', f_X4_takeOdds Rr T J V V2 Td = some (0, Rr', T', J', Td') ∧ f_X12_readOdds Tm Jm Vm c = some (Tm', Jm', c') ∧ flS T' Tm' ∧ frN Tm Tm' ∧ frB c c') ∨ (∃ (Rr' T' : Nat → Int32) (J' : Int64) (Td' Tm' : Nat → Int32) (Jm' : Int64) (c' : Nat → Int32) (d' : Nat → Nat), f_X4_takeOdds Rr T J V V2 Td = some (1, Rr', T', J', Td') ∧ f_X12_readOdds Tm Jm Vm c = some (Tm', Jm', c') ∧ frC T T' ∧ frN Tm Tm' ∧ frB c c' ∧ ∃ p' q' k', dyS b n p' q' k' Rr' T' J' Td' S Li Na By Of Fe Mi Tm' Jm' c' W d' w ∧ q ≤ p') := by
  obtain ⟨hS, ⟨hf1, hf2⟩, hd, hc, hkr, hw⟩ := H
  by_cases q0 : Rr 1 = 0
  · have hS' := rdS_u hS (i := 24) 1 (Or.inl rfl)
    obtain ⟨T1, J1, Tm1, Jm1, a1, a2, fr1, fr2, p1, q1, k1, hS1, hp1⟩ := p_adv hX hC hS'
    have m24 : Tm1 24 = 1 := by rw [fr2 24 (by omega), upd_s]
    have m25 : Tm1 25 = Tm 25 := by rw [fr2 25 (by omega), upd_n (by decide)]
    have hl1 := hS1.1.le
    have st : f_X12_readOdds Tm Jm Vm c = (f_X12_count Tm1 Jm1 Vm 0 16).bind (fun z30 => if (z30.2.1 12) = 0 then (ck (gd 1492 1860) (some (z30.2.1, z30.2.2, upd c (Int32.toNatClampNeg 1492) z30.1))) else (some (z30.2.1, z30.2.2, c))) := by
      rw [f_X12_readOdds, ← hf1, if_pos q0, f_X12_readOdds_16, p_must1 hS'.2 a2]; rfl
    have nf : frN Tm Tm1 := (frN_u Tm 1 (Or.inl rfl)).t fr2.n
    rcases p_num hX hC hS1 0 16 with ⟨T', Tm', c1, c2, c3, c4⟩ | ⟨v, T2, J2, Tm2, Jm2, hk2, hv, hr, c1, c2, c3, c4, c5, c6, gr1, gr2, p2, q2, k2, hS2, hp2⟩
    · refine Or.inl ⟨Rr, T', J1, Td, Tm', Jm1, c, ?_, ?_, c3, nf.t c4.n, frB.r c⟩
      · rw [f_X4_takeOdds, if_pos q0, a1, Option.bind_some]
        dsimp only
        rw [c1, Option.bind_some, if_pos rfl]
      · rw [st, c2, Option.bind_some, if_neg c3.b.ne]
    · have hv16 : v ≤ 16 := by
        have := hr.2
        rw [show (16 : Int32).toInt = 16 from rfl] at this
        omega
      refine Or.inr ⟨upd Rr 1 1, T2, J2, upd Td 2 (iN v), Tm2, Jm2, upd c 1492 (iN v), updN d 4 v, ?_, ?_, fr1.t gr1, nf.t gr2.n, frB_u c _ (by decide), p2, q2, k2, ⟨hS2, ⟨?_, ?_⟩, dInv_o hd (Or.inl ⟨rfl, hv16⟩), bB_upd hc 4 v, kRep_o hkr (Or.inl rfl) ?_, ?_⟩, by have := hS1.1.le; omega⟩
      · rw [f_X4_takeOdds, if_pos q0, a1, Option.bind_some]
        dsimp only
        rw [c1, Option.bind_some, if_neg (show ¬ (1 : Int32) = 0 by decide), c2, Option.bind_some, c4]; rfl
      · rw [st, c6, Option.bind_some, if_pos hS2.2]; rfl
      · rw [upd_s, gr2 24 (by omega), m24]
      · rw [upd_n (by decide), gr2 25 (by omega), m25, hf2]
      · unfold tRep
        rw [hset_o (Or.inl rfl), updN_s, updN_n (by omega), updN_n (by omega), updN_n (by omega), updN_n (by omega), updN_n (by omega), upd_s, upd_n (by omega), upd_n (by omega), upd_n (by omega), upd_n (by omega), upd_n (by omega), upd_n (by omega)]
        have ht := hkr.1
        exact ⟨ht.1, ht.2.1, rfl, ht.2.2.2⟩
      · rw [updN_n (by omega)]; exact hw
  · obtain ⟨T', Tm', b1, b2, b3, b4⟩ := p_fail hS (w := 5) (by decide) hk
    have b3' := flS_u b3 1 (i := 24) (Or.inl rfl)
    refine Or.inl ⟨Rr, T', J, Td, upd Tm' 24 1, Jm, c, ?_, ?_, b3', b4.n.t (frN_u _ _ (Or.inl rfl)), frB.r c⟩
    · rw [f_X4_takeOdds, if_neg q0, show (5 : Int32) = iN 5 from rfl, b1]; rfl
    · rw [f_X12_readOdds, ← hf1, if_neg q0, show (5 : Int32) = iN 5 from rfl, b2, Option.bind_some, f_X12_readOdds_16, b_must b3'.b, Option.bind_some, b_count b3'.b, Option.bind_some, if_neg b3'.b.ne]
theorem d_harbour (hX : tX b n V Vm) (hC : cOk V2) (H : dyS b n p q k Rr T J Td S Li Na By Of Fe Mi Tm Jm c W d w) (hk : ¬ k = 4) : (∃ Rr' T' J' Td' Tm' Jm' c', f_X4_takeHarbour Rr T J V V2 Td = some (0, Rr', T', J', Td') ∧ f_X12_readHarbour Tm Jm Vm c = some (Tm', Jm', c') ∧ flS T' Tm' ∧ frN Tm Tm' ∧ frB c c') ∨ (∃ (Rr' T' : Nat → Int32) (J' : Int64) (Td' Tm' : Nat → Int32) (Jm' : Int64) (c' : Nat → Int32) (d' : Nat → Nat), f_X4_takeHarbour Rr T J V V2 Td = some (1, Rr', T', J', Td') ∧ f_X12_readHarbour Tm Jm Vm c = some (Tm', Jm', c') ∧ frC T T' ∧ frN Tm Tm' ∧ frB c c' ∧ ∃ p' q' k', dyS b n p' q' k' Rr' T' J' Td' S Li Na By Of Fe Mi Tm' Jm' c' W d' w ∧ q ≤ p') := by
  obtain ⟨hS, ⟨hf1, hf2⟩, hd, hc, hkr, hw⟩ := H
  have g0 : gd (372 * 4) 1860 = true := by decide
  by_cases q0 : Rr 2 = 0
  · have hS' := rdS_u hS (i := 25) 1 (Or.inr (Or.inl rfl))
    obtain ⟨T1, J1, Tm1, Jm1, a1, a2, fr1, fr2, p1, q1, k1, hS1, hp1⟩ := p_adv hX hC hS'
    have m24 : Tm1 24 = Tm 24 := by rw [fr2 24 (by omega), upd_n (by decide)]
    have m25 : Tm1 25 = 1 := by rw [fr2 25 (by omega), upd_s]
    have hl1 := hS1.1.le
    have st : f_X12_readHarbour Tm Jm Vm c = (f_X12_cellHere Tm1 Jm1 c Vm 4).bind (fun z28 => if (z28.2.1 12) = 0 then (ck (gd 1493 1860) (some (z28.2.1, z28.2.2, upd c (Int32.toNatClampNeg 1493) z28.1))) else (some (z28.2.1, z28.2.2, c))) := by
      rw [f_X12_readHarbour, ← hf2, if_pos q0, f_X12_readHarbour_16, p_must1 hS'.2 a2]; rfl
    have nf : frN Tm Tm1 := (frN_u Tm 1 (Or.inr (Or.inl rfl))).t fr2.n
    have t0 : Td 0 = iN (d 0) := hkr.1.1
    have t1 : Td 1 = iN (d 1) := hkr.1.2.1
    rcases p_cell hX hC hS1 (c := c) (B := 4) (by decide) hd.1.1 hd.1.2.1 (hc 0 (by omega)) (hc 1 (by omega)) with ⟨T', Tm', c1, c2, c3, c4⟩ | ⟨v, T2, J2, hv, c1, c2, c3, h2⟩
    · have c2' : f_X12_readCell Tm1 Jm1 c Vm 4 = some (0, Tm', Jm1) := c2
      refine Or.inl ⟨Rr, T', J1, Td, Tm', Jm1, c, ?_, ?_, c3, nf.t c4.n, frB.r c⟩
      · rw [f_X4_takeHarbour, if_pos q0, a1, Option.bind_some]
        dsimp only
        rw [t0, c1, Option.bind_some, if_pos rfl]
      · rw [st, f_X12_cellHere, c2', Option.bind_some]
        dsimp only
        rw [b_must c3.b, Option.bind_some, Option.bind_some, if_neg c3.b.ne]
    · rcases h2 with ⟨T', Tm', Jm', d1, d2, d3, d4⟩ | ⟨u, Tm2, Jm2, hu, d1, d2, d3, fr3, fr4, p2, q2, hS2, hp2⟩
      · have d2' : f_X12_readCell Tm1 Jm1 c Vm 4 = some (0, Tm', Jm') := d2
        refine Or.inl ⟨Rr, T', J2, Td, Tm', Jm', c, ?_, ?_, d3, nf.t d4.n, frB.r c⟩
        · rw [f_X4_takeHarbour, if_pos q0, a1, Option.bind_some]
          dsimp only
          rw [t0, c1, Option.bind_some, if_neg (show ¬ (1 : Int32) = 0 by decide), c2, Option.bind_some, c3, Option.bind_some]
          dsimp only
          rw [t1, d1, Option.bind_some, if_pos rfl]
        · rw [st, f_X12_cellHere, d2', Option.bind_some]
          dsimp only
          rw [b_must d3.b, Option.bind_some, Option.bind_some, if_neg d3.b.ne]
      · have d3' : f_X12_readCell Tm1 Jm1 c Vm 4 = some (iN (v * d 1 + u), Tm2, Jm2) := d3
        obtain ⟨T3, J3, Tm3, Jm3, e1, e2, fr5, fr6, p3, q3, k3, hS3, hp3⟩ := p_adv hX hC hS2
        have hl2 := hS2.1.le
        have hcell : v * d 1 + u < cells d := mul_lt hv hu
        refine Or.inr ⟨upd Rr 2 1, T3, J3, upd Td 3 (iN (v * d 1 + u)), Tm3, Jm3, upd c 1493 (iN (v * d 1 + u)), updN d 5 (v * d 1 + u), ?_, ?_, (fr1.t fr3).t fr5, (nf.t fr4.n).t fr6.n, frB_u c _ (by decide), p3, q3, k3, ⟨hS3, ⟨?_, ?_⟩, dInv_o hd (Or.inr ⟨rfl, hcell⟩), bB_upd hc 5 _, kRep_o hkr (Or.inr rfl) ?_, ?_⟩, by have := tkS_pq hS1.1; have := tkS_pq hS2.1; omega⟩
        · rw [f_X4_takeHarbour, if_pos q0, a1, Option.bind_some]
          dsimp only
          rw [t0, c1, Option.bind_some, if_neg (show ¬ (1 : Int32) = 0 by decide), c2, Option.bind_some, c3, Option.bind_some]
          dsimp only
          rw [t1, d1, Option.bind_some, if_neg (show ¬ (1 : Int32) = 0 by decide), d2, Option.bind_some, e1, Option.bind_some, iN_mul, iN_add]
        · rw [st, f_X12_cellHere, d3', Option.bind_some]
          dsimp only
          rw [p_must1 hS2.2 e2, Option.bind_some, Option.bind_some, if_pos hS3.2]; rfl
        · rw [upd_n (by decide), fr6 24 (by omega), fr4 24 (by omega), m24, hf1]
        · rw [upd_s, fr6 25 (by omega), fr4 25 (by omega), m25]
        · unfold tRep
          rw [hset_o (Or.inr rfl), updN_s, updN_n (by omega), updN_n (by omega), updN_n (by omega), updN_n (by omega), updN_n (by omega), upd_s, upd_n (by omega), upd_n (by omega), upd_n (by omega), upd_n (by omega), upd_n (by omega), upd_n (by omega)]
          have ht := hkr.1
          exact ⟨ht.1, ht.2.1, ht.2.2.1, rfl, ht.2.2.2.2⟩
        · rw [updN_n (by omega)]; exact hw
  · obtain ⟨T', Tm', b1, b2, b3, b4⟩ := p_fail hS (w := 5) (by decide) hk
    have b3' := flS_u b3 1 (i := 25) (Or.inr (Or.inl rfl))
    refine Or.inl ⟨Rr, T', J, Td, upd Tm' 25 1, Jm, c, ?_, ?_, b3', b4.n.t (frN_u _ _ (Or.inr (Or.inl rfl))), frB.r c⟩
    · rw [f_X4_takeHarbour, if_neg q0, show (5 : Int32) = iN 5 from rfl, b1]; rfl
    · rw [f_X12_readHarbour, ← hf2, if_neg q0, show (5 : Int32) = iN 5 from rfl, b2, Option.bind_some, f_X12_readHarbour_16, b_must b3'.b, Option.bind_some]
      dsimp only
      rw [b_cellHere b3'.b _ _ g0, Option.bind_some, if_neg b3'.b.ne]
end DY1
