/-! Ways: the path, cell by cell. -/
theorem iN_m100 {r k : Nat} (hr : r ≤ 100000) (hk : k < 100) : iN (100 * r + k) - iN (100 * r + k) / 100 * 100 = iN k := by
  rw [show (100 : Int32) = iN 100 from rfl, iN_div (by omega) (by omega), iN_mul, iN_sub (by omega)]
  congr 1
  omega
theorem Wk_end {A : Nat → Nat → Prop} {R : Nat → Nat} {t N u I : Nat} (hA : wA A R N u I) : ∀ k a r, Wk A R t (k + 1) a r → t < N ∧ R t ≤ 15
  | 0, a, r, h => by
    obtain ⟨b, s, h1, h2, h3⟩ := h
    have h4 := hA.1 a b h1
    rw [h2.1] at h4
    exact h4.2
  | k + 1, a, r, h => by
    obtain ⟨b, s, h1, h2, h3⟩ := h
    exact Wk_end hA k b s h2
/-- b is the first cell from a on by which the costs are kept -/
def wNx (d V : Nat → Nat) (a b : Nat) : Prop := (wAr d a b ∧ V b < 1000000 ∧ 64 * risk d b + 1 + V b = V a) ∧ ∀ j, wAr d a j ∧ V j < 1000000 ∧ 64 * risk d j + 1 + V j = V a → b ≤ j
section WAY4
variable {d : Nat → Nat} {w Na : Nat → Int64} {c T S Li By Of Fe Mi : Nat → Int32}
theorem path_ex (hd : dInv d) {t : Nat} {V : Nat → Nat} (hF : wF (wAr d) (risk d) t (cells d) 64 1000000 V) : ∀ k a r, k ≤ cells d → a < cells d → Wk (wAr d) (risk d) t k a r → V a = 64 * r + k → ∃ P : Nat → Nat, P 0 = a ∧ P k = t ∧ (∀ i, i < k → wNx d V (P i) (P (i + 1))) ∧ ∀ i, i ≤ k → P i < cells d ∧ ∃ s, V (P i) = 64 * s + (k - i)
  | 0, a, r, _, ha, hw, he => ⟨fun _ => a, rfl, hw.1, fun i hi => by omega, fun i hi => ⟨ha, r, by dsimp only; omega⟩⟩
  | k + 1, a, r, hk, ha, hw, he => by
    have hA := wAr_64 hd
    have h36 := hd.c36
    obtain ⟨b0, s, h1, h2, h3⟩ := hw
    have hb0 := (hA.1 a b0 h1).2.1
    obtain ⟨g1, g2⟩ := (hF b0 hb0).2.2 k s h2
    have pred : wAr d a b0 ∧ V b0 < 1000000 ∧ 64 * risk d b0 + 1 + V b0 = V a := by
      refine ⟨h1, g2, ?_⟩
      obtain ⟨k3, r3, q1, q2, q3⟩ := (hF b0 hb0).2.1 g2
      have q4 := ((hF a ha).2.2 (k3 + 1) (risk d b0 + r3) ⟨b0, r3, h1, q2, rfl⟩).1
      omega
    obtain ⟨b, hb1, hb2⟩ := least_ex (fun j => wAr d a j ∧ V j < 1000000 ∧ 64 * risk d j + 1 + V j = V a) b0 pred
    have hbN := (hA.1 a b hb1.1).2.1
    have hbr := (hA.1 a b hb1.1).2.2
    obtain ⟨k4, r4, p1, p2, p3⟩ := (hF b hbN).2.1 hb1.2.1
    have e1 := hb1.2.2
    have ek : k4 = k := by omega
    subst ek
    obtain ⟨P, P0, P1, P2, P3⟩ := path_ex hd hF k4 b r4 (by omega) hbN p2 p3
    refine ⟨fun i => match i with | 0 => a | i + 1 => P i, rfl, P1, fun i hi => ?_, fun i hi => ?_⟩
    · cases i with
      | zero => show wNx d V a (P 0); rw [P0]; exact ⟨hb1, hb2⟩
      | succ i => exact P2 i (by omega)
    · cases i with
      | zero => exact ⟨ha, r, he⟩
      | succ i =>
        obtain ⟨q1, s4, q2⟩ := P3 i (by omega)
        exact ⟨q1, s4, by show V (P i) = _; omega⟩
/-- the class's next cell -/
theorem e6_step (hd : dInv d) {V : Nat → Nat} {A3 E : Nat → Int32} (hE : vRep (cells d) (ent d) E) (hV : vRep (cells d) V A3) {a b st : Nat} (hst : st < 37) (ha : a < cells d) (hVa : V a < 1000000) (hVI : ∀ j, j < cells d → V j ≤ 1000000) (hn : wNx d V a b) (T0 V1 : Nat → Int32) (h3 : T0 3 = iN (d 1)) (h4 : T0 4 = iN (cells d)) (x1 x2 : Int32) (G : Int32 → Int32 → (Nat → Int32) → (Nat → Int32) → Option (Int32 × (Nat → Int32) × (Nat → Int32))) : f_X6_follow_26 E A3 x1 x2 G xF (iN a) (iN st) (-1) 0 T0 V1 = G (iN b) (iN (st + 1)) (upd T0 5 (iN st)) (upd V1 st (iN b)) := by
  have h36 := hd.c36
  obtain ⟨⟨hw, hb1, hb2⟩, hb3⟩ := hn
  obtain ⟨-, hbN, hbb, hbr⟩ := hw
  obtain ⟨s9, hs9, hns⟩ := (nbr_bes hd ha hbN).mp hbb
  have e87 : f_X6_follow_87 E A3 x1 x2 G (iN st) (iN b) T0 V1 = G (iN b) (iN (st + 1)) (upd T0 5 (iN st)) (upd V1 st (iN b)) := by
    rw [f_X6_follow_87, if_neg (iN_ne_m1 (by omega)), ck_iN (by omega) (by omega), iN_nn (by omega), show (iN st + 1 : Int32) = iN (st + 1) from iN_add st 1]
  refine iter_run (g := g_X6_follow_26 E A3 x1 x2 G) (z := fun _ _ _ _ _ _ => none) (s9 + 1) (fun s (φ : Int32 → Int32 → Int32 → Int32 → (Nat → Int32) → (Nat → Int32) → Option (Int32 × (Nat → Int32) × (Nat → Int32))) => φ (iN a) (iN st) (if s ≤ s9 then -1 else iN b) (iN s) T0 V1 = G (iN b) (iN (st + 1)) (upd T0 5 (iN st)) (upd V1 st (iN b))) (by omega) (fun s F hs ih => ?_) (fun F => ?_)
  · rw [if_pos (by omega), g_X6_follow_26, if_neg (by rw [show (4 : Int32) = iN 4 from rfl, iN_le (by omega) (by omega)]; omega), if_pos rfl, e6_neighbour hd h3 h4 ha (by omega), Option.bind_some, show (iN s + 1 : Int32) = iN (s + 1) from iN_add s 1]
    cases hj : nbr (d 1) (cells d) a s with
    | none =>
      have hne : ¬ s = s9 := fun e => by rw [e, hns] at hj; cases hj
      rw [if_pos (by omega)] at ih
      rw [oN, if_pos rfl]
      exact ih
    | some j =>
      have hjN := nbr_lt (cells_pos ha).1 ha hj
      have hjb : bes (d 1) a j = true := (nbr_bes hd ha hjN).mpr ⟨s, by omega, hj⟩
      have vj := hVI j hjN
      have hr := risk_le d j
      have he : ent d j = if risk d j = 16 then 1000000 else 64 * risk d j + 1 := rfl
      have hel : ent d j ≤ 1000000 := by rw [he]; split <;> omega
      rw [oN, if_neg (iN_ne_m1 (by omega)), ck_iN (by omega) (by omega), ck_iN (by omega) (by omega), ck_iN (by omega) (by omega), iN_nn (by omega), iN_nn (by omega), hE j hjN, hV j hjN, hV a ha, iN_add]
      by_cases e : s = s9
      · rw [e, hns] at hj
        injection hj with hj
        subst hj
        rw [if_neg (by omega)] at ih
        rw [if_pos (by rw [iN_eq (by omega) (by omega), he, if_neg (by omega)]; omega)]
        exact ih
      · have hlt := nbr_mono (cells_pos ha).1 hj hns (by omega) hs9
        rw [if_pos (by omega)] at ih
        rw [if_neg (iN_ne (by omega) (by omega) (fun h9 => ?_))]
        · exact ih
        · by_cases q : risk d j = 16
          · rw [if_pos q] at he; omega
          · rw [if_neg q] at he
            have := hb3 j ⟨⟨ha, hjN, hjb, by omega⟩, by omega, by omega⟩
            omega
  · rw [if_neg (by omega), g_X6_follow_26]
    by_cases q : 4 ≤ s9 + 1
    · rw [if_pos (by rw [show (4 : Int32) = iN 4 from rfl, iN_le (by omega) (by omega)]; omega)]
      exact e87
    · rw [if_neg (by rw [show (4 : Int32) = iN 4 from rfl, iN_le (by omega) (by omega)]; omega), if_neg (iN_ne_m1 (by omega))]
      exact e87
/-- the class's path -/
theorem e6_follow (hd : dInv d) {V : Nat → Nat} {A3 E : Nat → Int32} (hE : vRep (cells d) (ent d) E) (hV : vRep (cells d) V A3) {t k : Nat} (hk : k ≤ 36) {P : Nat → Nat} (hVI : ∀ j, j < cells d → V j ≤ 1000000) (ht : t < cells d) (hVt : V t = 0) (hPk : P k = t) (hPn : ∀ i, i < k → wNx d V (P i) (P (i + 1))) (hPl : ∀ i, i ≤ k → P i < cells d ∧ ∃ s, s ≤ 1000 ∧ V (P i) = 64 * s + (k - i)) (T0 V1 : Nat → Int32) (h3 : T0 3 = iN (d 1)) (h4 : T0 4 = iN (cells d)) (h5 : T0 5 = 0) (h1 : V1 0 = iN (P 0)) : ∃ T9 V9, f_X6_follow T0 V1 E A3 (iN (P 0)) (iN t) = some (1, T9, V9) ∧ T9 5 = iN k ∧ T9 4 = iN (cells d) ∧ ∀ i, i ≤ k → V9 i = iN (P i) := by
  have h36 := hd.c36
  have e118 : ∀ T V, f_X6_follow_118 E A3 (iN (P 0)) (iN t) (iN (P k)) T V = some (1, T, V) := fun T V => by
    rw [f_X6_follow_118, if_pos (congrArg iN hPk)]
  have l := iter_run (g := g_X6_follow_5 E A3 (iN (P 0)) (iN t)) (z := fun _ _ _ _ => none) k (fun i (φ : Int32 → Int32 → (Nat → Int32) → (Nat → Int32) → Option (Int32 × (Nat → Int32) × (Nat → Int32))) => ∀ T V1, T 3 = iN (d 1) → T 4 = iN (cells d) → T 5 = iN i → (∀ j, j ≤ i → V1 j = iN (P j)) → ∃ T9 V9, φ (iN (P i)) (iN (i + 1)) T V1 = some (1, T9, V9) ∧ T9 5 = iN k ∧ T9 4 = iN (cells d) ∧ ∀ i, i ≤ k → V9 i = iN (P i)) (by omega) (fun i F hi ih => fun T V1 t3 t4 t5 hv => ?_) (fun F => fun T V1 t3 t4 t5 hv => ?_)
  · exact l T0 V1 h3 h4 h5 (fun j hj => by obtain rfl : j = 0 := by omega
                                           exact h1)
  · obtain ⟨q1, s, q0, q2⟩ := hPl i (by omega)
    have hne : ¬ P i = t := fun e => by rw [e, hVt] at q2; omega
    rw [g_X6_follow_5, if_neg (by rw [show (37 : Int32) = iN 37 from rfl, iN_le (by omega) (by omega)]; omega), if_neg (iN_ne (by omega) (by omega) hne), e6_step hd hE hV (by omega) q1 (by omega) hVI (hPn i hi) T V1 t3 t4]
    refine ih _ _ ?_ ?_ upd_s (fun j hj => ?_)
    · rw [upd_n (by decide)]; exact t3
    · rw [upd_n (by decide)]; exact t4
    · by_cases e : j = i + 1
      · rw [e, upd_s]
      · rw [upd_n e]; exact hv j (by omega)
  · refine ⟨T, V1, ?_, t5, t4, hv⟩
    rw [g_X6_follow_5]
    by_cases q : 37 ≤ k + 1
    · rw [if_pos (by rw [show (37 : Int32) = iN 37 from rfl, iN_le (by omega) (by omega)]; omega), e118]
    · rw [if_neg (by rw [show (37 : Int32) = iN 37 from rfl, iN_le (by omega) (by omega)]; omega), if_pos (congrArg iN hPk), e118]
/-- the model's next cell -/
theorem e12_next (hd : dInv d) (hc : mRep d c) {A2 A3 : Nat → Int32} {V W : Nat → Nat} {t : Nat} (h2 : vRep (cells d) (risk d) A2) (h3 : vRep (cells d) W A3) (hV : wF (wAr d) (risk d) t (cells d) 64 1000000 V) (hW : wF (wAr d) (risk d) t (cells d) 100 99999999 W) {a b : Nat} (ha : a < cells d) (hVa : V a < 1000000) (hn : wNx d V a b) : f_X12_nextOn c A2 A3 (iN a) = some (iN b) := by
  have h36 := hd.c36
  have hA := wAr_64 hd
  obtain ⟨⟨hw, hb1, hb2⟩, hb3⟩ := hn
  have two : ∀ j, j < cells d → (V j = 1000000 ∧ W j = 99999999) ∨ ∃ k r, k ≤ 36 ∧ V j = 64 * r + k ∧ W j = 100 * r + k ∧ r ≤ 540 := fun j hj => by
    rcases wF_two hA h36 (by decide) (by decide) hV hW hj with q | ⟨k, r, q1, q2, q3, q4, -, -⟩
    · exact Or.inl q
    · have := Wk_le hA k j r q2
      exact Or.inr ⟨k, r, by omega, q3, q4, by omega⟩
  obtain ⟨ka, ra, v1, v2, v3, v4⟩ : ∃ k r, k ≤ 36 ∧ V a = 64 * r + k ∧ W a = 100 * r + k ∧ r ≤ 540 := by
    rcases two a ha with ⟨g1, g2⟩ | h
    · omega
    · exact h
  have hi : W a ≤ 99999999 := (hW a ha).1
  refine iter_run (g := g_X12_nextOn_2 c A2 A3 (iN a)) (z := fun _ => none) b (fun j (φ : Int32 → Option Int32) => φ (iN j) = some (iN b)) (by have := hw.2.1; omega) (fun j F hj ih => ?_) (fun F => ?_)
  · have hbN := hw.2.1
    have tj := two j (by omega)
    have hwj : W j ≤ 99999999 := (hW j (by omega)).1
    have hr := risk_le d j
    rw [g_X12_nextOn_2, e12_cells hd hc, Option.bind_some, if_neg (by rw [iN_le (by omega) (by omega)]; omega), e12_beside hd hc ha (by omega), Option.bind_some, show (iN j + 1 : Int32) = iN (j + 1) from iN_add j 1]
    by_cases q1 : bes (d 1) a j = true
    · rw [if_pos q1, if_neg (by decide), ck_iN (by omega) (by omega), iN_nn (by omega), h2 j (by omega)]
      by_cases q2 : 16 ≤ risk d j
      · rw [if_pos (by rw [show (16 : Int32) = iN 16 from rfl, iN_le (by omega) (by omega)]; exact q2)]; exact ih
      · rw [if_neg (by rw [show (16 : Int32) = iN 16 from rfl, iN_le (by omega) (by omega)]; exact q2), ck_iN (by omega) (by omega), h3 j (by omega)]
        by_cases q3 : 99999999 ≤ W j
        · rw [if_pos (by rw [show (99999999 : Int32) = iN 99999999 from rfl, iN_le (by omega) (by omega)]; exact q3)]; exact ih
        · rw [if_neg (by rw [show (99999999 : Int32) = iN 99999999 from rfl, iN_le (by omega) (by omega)]; exact q3), e12_costOf hd h2 (by omega), Option.bind_some, ck_iN (by omega) (by omega), ck_iN (by omega) (by omega), iN_nn (by omega), h3 a ha, iN_add, if_neg (iN_ne (by omega) (by omega) (fun h9 => ?_))]
          · exact ih
          · rcases tj with ⟨g1, g2⟩ | ⟨kj, rj, u1, u2, u3, u4⟩
            · omega
            · have := hb3 j ⟨⟨ha, by omega, q1, by omega⟩, by omega, by omega⟩
              omega
    · rw [if_neg q1, if_pos rfl]; exact ih
  · have hbN := hw.2.1
    obtain ⟨kb, rb, u1, u2, u3, u4⟩ : ∃ k r, k ≤ 36 ∧ V b = 64 * r + k ∧ W b = 100 * r + k ∧ r ≤ 540 := by
      rcases two b (by omega) with ⟨g1, g2⟩ | h
      · omega
      · exact h
    have hwj : W b ≤ 99999999 := (hW b (by omega)).1
    have hr := hw.2.2.2
    rw [g_X12_nextOn_2, e12_cells hd hc, Option.bind_some, if_neg (by rw [iN_le (by omega) (by omega)]; omega), e12_beside hd hc ha (by omega), Option.bind_some, if_pos hw.2.2.1, if_neg (by decide), ck_iN (by omega) (by omega), iN_nn (by omega), h2 b (by omega), if_neg (by rw [show (16 : Int32) = iN 16 from rfl, iN_le (by omega) (by omega)]; omega), ck_iN (by omega) (by omega), h3 b (by omega), if_neg (by rw [show (99999999 : Int32) = iN 99999999 from rfl, iN_le (by omega) (by omega)]; omega), e12_costOf hd h2 (by omega), Option.bind_some, ck_iN (by omega) (by omega), ck_iN (by omega) (by omega), iN_nn (by omega), h3 a ha, iN_add, if_pos (by rw [iN_eq (by omega) (by omega)]; omega)]
/-- both sides of a way -/
theorem e_way (hd : dInv d) (hc : mRep d c) (hT : tRep d T) {W : Nat → Int32} (hW : talR (votesS d (hset d)) W) {t : Nat} (ht : t < cells d) (T0 P0 A3 E B2 B3 : Nat → Int32) : (∃ T9 P9 A9 E9 B9 C9, f_X6_find T0 T P0 A3 W E (iN t) = some (0, T9, P9, A9, E9) ∧ f_X12_wayCost c B2 B3 (iN t) = some (99999999, B9, C9)) ∨ (∃ (r k : Nat) (P : Nat → Nat) (T9 P9 A9 E9 B9 C9 : Nat → Int32), r ≤ 15 * k ∧ k ≤ 36 ∧ P 0 = d 5 ∧ (∀ i, i ≤ k → P i < cells d) ∧ f_X6_find T0 T P0 A3 W E (iN t) = some (1, T9, P9, A9, E9) ∧ T9 5 = iN k ∧ T9 4 = iN (cells d) ∧ (∀ i, i ≤ k → P9 i = iN (P i)) ∧ A9 (d 5) = iN (64 * r + k) ∧ f_X12_wayCost c B2 B3 (iN t) = some (iN (100 * r + k), B9, C9) ∧ vRep (cells d) (risk d) B9 ∧ ∀ i, i < k → f_X12_nextOn c B9 C9 (iN (P i)) = some (iN (P (i + 1)))) := by
  have h36 := hd.c36
  have hA := wAr_64 hd
  have hA2 := wAr_100 hd
  have h5 : d 5 < cells d := by
    have := hd.1.2.2.2.2.2
    omega
  obtain ⟨T9, P9, A4, E4, V4, f1, t3, t4, t5, p0, hE4, hV4, hF⟩ := e6_costs hd hT hW ht T0 P0 A3 E
  obtain ⟨B9, C9, W4, m1, m2, m3, m4⟩ := e12_lays hd hc ht B2 B3
  have m5 : f_X12_wayCost c B2 B3 (iN t) = some (iN (W4 (d 5)), B9, C9) := by
    rw [f_X12_wayCost, m1, Option.bind_some, ck_y (show gd 5 1860 = true by decide), show (5 : Int32).toNatClampNeg = 5 by decide, hc 5 (by omega), ck_iN (by omega) (by omega), iN_nn (by omega)]
    show some (C9 (d 5), B9, C9) = _
    rw [m3 (d 5) h5]
  have hVI : ∀ j, j < cells d → V4 j ≤ 1000000 := fun j hj => (hF j hj).1
  have hfail : ¬ V4 (d 5) < 1000000 → f_X6_find T0 T P0 A3 W E (iN t) = some (0, T9, P9, A4, E4) := fun q => by
    have := hVI _ h5
    rw [f1, f_X6_find_163, hT.2.2.2.1, ck_iN (by omega) (by omega), iN_nn (by omega), hV4 _ h5, if_pos (by rw [show (1000000 : Int32) = iN 1000000 from rfl, iN_le (by omega) (by omega)]; omega)]
  by_cases e : risk d t < 16 ∨ t = d 5
  · have ew : wt d t = t := if_pos e
    rw [ew] at m4
    rcases wF_two hA h36 (by decide) (by decide) hF m4 h5 with ⟨q1, q2⟩ | ⟨k, r, q1, q2, q3, q4, q5, q6⟩
    · refine Or.inl ⟨T9, P9, A4, E4, B9, C9, hfail (by omega), ?_⟩
      rw [m5, q2]; rfl
    · obtain ⟨P, g0, g1, g2, g3⟩ := path_ex hd hF k (d 5) r q1 h5 q2 q3
      have hr := Wk_le hA k (d 5) r q2
      have hVt : V4 t = 0 := by
        have := ((hF t ht).2.2 0 0 ⟨rfl, rfl⟩).1
        omega
      have g4 : ∀ i, i ≤ k → P i < cells d ∧ ∃ s, s ≤ 1000 ∧ V4 (P i) = 64 * s + (k - i) := fun i hi => by
        obtain ⟨u1, s, u2⟩ := g3 i hi
        refine ⟨u1, s, ?_, u2⟩
        -- costs fall along the path
        have key : ∀ i, i ≤ k → V4 (P i) ≤ 64 * r + k := by
          intro i
          induction i with
          | zero => intro _; rw [g0]; omega
          | succ i ih =>
            intro hi
            have h1 := ih (by omega)
            have h2 := (g2 i (by omega)).1.2.2
            omega
        have := key i hi
        omega
      rw [← g0] at h5
      obtain ⟨T8, P8, w1, w2, w3, w4⟩ := e6_follow hd hE4 hV4 (by omega) hVI ht hVt g1 g2 g4 T9 P9 t3 t4 t5 (by rw [p0, g0])
      refine Or.inr ⟨r, k, P, T8, P8, A4, E4, B9, C9, hr, by omega, g0, fun i hi => (g3 i hi).1, ?_, w2, w3, w4, ?_, ?_, m2, fun i hi => ?_⟩
      · rw [f1, f_X6_find_163, hT.2.2.2.1, ← g0, ck_iN (by omega) (by omega), iN_nn (by omega), hV4 _ h5, g0, if_neg (by rw [show (1000000 : Int32) = iN 1000000 from rfl, iN_le (by omega) (by omega)]; omega), ← g0, w1, Option.bind_some, if_neg (show ¬ (1 : Int32) = 0 by decide)]
      · rw [← g0, hV4 _ h5, g0, q3]
      · rw [m5, q4]
      · have hVi : V4 (P i) < 1000000 := by
          obtain ⟨u1, s, u2, u3⟩ := g4 i (by omega)
          omega
        exact e12_next hd hc m2 m3 hF m4 (g3 i (by omega)).1 hVi (g2 i hi)
  · have ew : wt d t = cells d := if_neg e
    have hr := risk_le d t
    refine Or.inl ⟨T9, P9, A4, E4, B9, C9, hfail (fun q => ?_), ?_⟩
    · obtain ⟨k, r, q1, q2, q3⟩ := (hF _ h5).2.1 q
      cases k with
      | zero => exact e (Or.inr q2.1.symm)
      | succ k =>
        have := (Wk_end hA k _ r q2).2
        omega
    · rw [m5]
      have : ¬ W4 (d 5) < 99999999 := fun q => by
        obtain ⟨k, r, q1, q2, q3⟩ := (m4 _ h5).2.1 q
        rw [ew] at q2
        cases k with
        | zero => have := q2.1; omega
        | succ k =>
          have := (Wk_end hA2 k _ r q2).1
          omega
      have h9 := (m4 _ h5).1
      rw [show W4 (d 5) = 99999999 by omega]; rfl
end WAY4
