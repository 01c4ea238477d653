/-! Tokens: which word it is, on both sides. -/
theorem wix_p {c : Nat} : ∀ n, wix c n < n → wcd (wix c n) = c
  | 0, h => by omega
  | n + 1, h => by
    rw [wix] at h ⊢
    by_cases q : wix c n < n
    · rw [if_pos q]; exact wix_p n q
    · rw [if_neg q] at h ⊢
      by_cases q2 : wcd n = c
      · rw [if_pos q2]; exact q2
      · rw [if_neg q2] at h; omega
theorem wix_m {c : Nat} : ∀ n, ¬ wix c n < n → ∀ i, i < n → ¬ wcd i = c
  | 0, _, i, hi => by omega
  | n + 1, h, i, hi => by
    rw [wix] at h
    by_cases q : wix c n < n
    · rw [if_pos q] at h; omega
    · rw [if_neg q] at h
      by_cases q2 : wcd n = c
      · rw [if_pos q2] at h; omega
      · by_cases e : i = n
        · rw [e]; exact q2
        · exact wix_m n q i (by omega)
theorem wcd_inj : ∀ i, i < 23 → ∀ j, j < 23 → (wcd i == wcd j) = (i == j) := by decide +kernel
theorem wix_eq {c i : Nat} (hi : i < 23) : wix c 23 = i ↔ wcd i = c := by
  constructor
  · intro h
    have := wix_p (c := c) 23 (by omega)
    rw [h] at this
    exact this
  · intro h
    have h1 : wix c 23 < 23 := by
      apply Classical.byContradiction
      intro h2
      exact wix_m 23 h2 i hi h
    have h3 := wix_p (c := c) 23 h1
    have h4 := wcd_inj (wix c 23) h1 i hi
    rw [h3, h, beq_self_eq_true] at h4
    exact beq_iff_eq.mp h4.symm
theorem wcd_b : ∀ i, i < 23 → 0 < wcd i ∧ (i ≠ 3 → wcd i < 1099511627776) := by decide +kernel
theorem cdw_ge {b : Nat → Nat} {p : Nat} : ∀ i, (∀ j, j < i + 1 → kd (b (p + j)) = 1) → 32 ^ i ≤ cdw b p (i + 1)
  | 0, h => by
    have h2 := kd_1.mp (h 0 (by omega))
    rw [cdw, cdw]
    show 1 ≤ _
    omega
  | i + 1, h => by
    have h1 := cdw_ge (b := b) (p := p) i (fun j hj => h j (by omega))
    rw [cdw, Nat.pow_succ]
    omega
/-- the word's number, 23 if it is none of the language -/
def wx (b : Nat → Nat) (p q : Nat) : Nat := wix (ccd b p q) 23
theorem wx_le (b : Nat → Nat) (p q : Nat) : wx b p q ≤ 23 := wix_le _ 23
/-- the same token stands on both sides -/
def tkS (b : Nat → Nat) (n p q k : Nat) (T : Nat → Int32) (J : Int64) (Tm : Nat → Int32) (Jm : Int64) : Prop := (∃ q0, nxT b n q0 p q k) ∧ k8 b p q k T J ∧ k12 b p q k Tm Jm ∧ T 3 = iN n ∧ Tm 9 = iN n
section TOK4
variable {b : Nat → Nat} {n p q k : Nat} {V Vm T Tm : Nat → Int32} {J Jm : Int64}
theorem tkS.word (h : tkS b n p q k T J Tm Jm) (hk : k = 1) : p < q ∧ q ≤ n ∧ ∀ i, p ≤ i → i < q → kd (b i) = 1 := by
  obtain ⟨⟨q0, -, n4⟩, -⟩ := h
  rcases n4 with ⟨e1, e2, e3⟩ | ⟨e1, e2, e3, e4, e5⟩
  · omega
  · rcases e5 with ⟨g1, g2, g3, g4⟩ | ⟨g1, g2, g3, g4⟩ | ⟨g1, g2, g3⟩
    · exact ⟨e3, e4, g3⟩
    · rw [hk] at g2; split at g2 <;> omega
    · omega
theorem tkS.num (h : tkS b n p q k T J Tm Jm) (hk : k = 2) : p < q ∧ q ≤ n ∧ q - p ≤ 4 ∧ ∀ i, p ≤ i → i < q → kd (b i) = 2 := by
  obtain ⟨⟨q0, -, n4⟩, -⟩ := h
  rcases n4 with ⟨e1, e2, e3⟩ | ⟨e1, e2, e3, e4, e5⟩
  · omega
  · rcases e5 with ⟨g1, g2, g3, g4⟩ | ⟨g1, g2, g3, g4⟩ | ⟨g1, g2, g3⟩
    · omega
    · rw [hk] at g2
      split at g2
      · exact ⟨e3, e4, by assumption, g3⟩
      · omega
    · omega
theorem tkS.le (h : tkS b n p q k T J Tm Jm) : k ≤ 4 ∧ p ≤ n ∧ q ≤ n ∧ (k = 0 ↔ p = n) ∧ (¬ k = 0 → p < q) := by
  obtain ⟨⟨q0, n1, n4⟩, -⟩ := h
  rcases n4 with ⟨e1, e2, e3⟩ | ⟨e1, e2, e3, e4, e5⟩
  · exact ⟨by omega, by omega, by omega, by omega, fun h => absurd e2 h⟩
  · have hkr := kd_r (b p)
    rcases e5 with ⟨g1, g2, g3, g4⟩ | ⟨g1, g2, g3, g4⟩ | ⟨g1, g2, g3⟩
    · exact ⟨by omega, by omega, e4, by omega, fun _ => e3⟩
    · refine ⟨by rw [g2]; split <;> omega, by omega, e4, ?_, fun _ => e3⟩
      rw [g2]; split <;> omega
    · exact ⟨by omega, by omega, e4, by omega, fun _ => e3⟩
theorem tkS.sign (h : tkS b n p q k T J Tm Jm) (hk : k = 3) : kd (b p) = 3 := by
  obtain ⟨⟨q0, n1, n4⟩, -⟩ := h
  rcases n4 with ⟨e1, e2, e3⟩ | ⟨e1, e2, e3, e4, e5⟩
  · omega
  · rcases e5 with ⟨g1, g2, g3, g4⟩ | ⟨g1, g2, g3, g4⟩ | ⟨g1, g2, g3⟩
    · omega
    · rw [hk] at g2; split at g2 <;> omega
    · omega
theorem long_no (hr : ∀ i, p ≤ i → i < q → kd (b i) = 1) (h8 : 8 < q - p) {i : Nat} (hi : i < 23) (h3 : i ≠ 3) : ¬ wx b p q = i := fun h => by
  have h1 := (wix_eq hi).mp h
  have h2 := wcd_b i hi
  have h4 := h2.2 h3
  unfold ccd at h1
  by_cases q12 : q - p ≤ 12
  · rw [if_pos q12] at h1
    obtain ⟨m, hm⟩ : ∃ m, q - p = m + 1 := ⟨q - p - 1, by omega⟩
    have h5 := cdw_ge (b := b) (p := p) m (fun j hj => hr (p + j) (by omega) (by omega))
    have h6 : 32 ^ 8 ≤ 32 ^ m := Nat.pow_le_pow_right (by decide) (by omega)
    rw [hm] at h1
    omega
  · rw [if_neg q12] at h1
    omega
theorem jN_m1 {a : Nat} (h : a < 9223372036854775808) : ¬ (-1 : Int64) = jN a := fun e => by
  have h1 := congrArg Int64.toInt e
  rw [jN_int h, show (-1 : Int64).toInt = -1 from rfl] at h1
  omega
theorem e12_isWord (h : tkS b n p q k T J Tm Jm) {i : Nat} (hi : i < 23) (h3 : i ≠ 3) : f_X12_isWord Tm Jm (jN (wcd i)) = some (if k = 1 ∧ wx b p q = i then 1 else 0) := by
  have hl := h.le
  have hm := h.2.2.1
  rw [f_X12_isWord, hm.1]
  by_cases hk : k = 1
  · rw [if_pos (show iN k = (1 : Int32) from congrArg iN hk), (hm.2.2.2.1 hk).2]
    obtain ⟨w1, w2, w3⟩ := h.word hk
    have hb := wcd_lt i hi
    by_cases q8 : q - p ≤ 8
    · rw [if_pos q8]
      have hc := cdw_lt (b := b) (p := p) (q - p) (fun j hj => w3 (p + j) (by omega) (by omega))
      have h32 : 32 ^ (q - p) ≤ 32 ^ 8 := Nat.pow_le_pow_right (by decide) q8
      have ec : ccd b p q = cdw b p (q - p) := if_pos (by omega)
      have hw : wx b p q = i ↔ cdw b p (q - p) = wcd i := by
        rw [← ec]
        exact (wix_eq hi).trans eq_comm
      by_cases e : cdw b p (q - p) = wcd i
      · rw [if_pos (by rw [lg_cmp_eq, e]), if_pos ⟨hk, hw.mpr e⟩]
      · rw [if_neg (by rw [lg_cmp_eq, jN_eq (by omega) (by omega)]; exact e), if_neg (fun h9 => e (hw.mp h9.2))]
    · rw [if_neg q8, if_neg (by rw [lg_cmp_eq]; exact jN_m1 (by omega)), if_neg (fun h9 => long_no w3 (by omega) hi h3 h9.2)]
  · rw [if_neg (show ¬ iN k = (1 : Int32) from iN_ne (by omega) (by decide) hk), if_neg (fun h9 => hk h9.1)]
theorem is_1 {α : Type} {p : Prop} [Decidable p] {f : Int32 → Option α} : Option.bind (some (if p then (1 : Int32) else 0)) f = f (if p then 1 else 0) := rfl
theorem e12_isRow (h : tkS b n p q k T J Tm Jm) : f_X12_isRow Tm Jm = some (if k = 1 ∧ wx b p q = 0 then 1 else 0) := by
  rw [f_X12_isRow, show f_X12_spelled 114 111 119 0 0 0 = some (jN (wcd 0)) by decide +kernel, Option.bind_some, e12_isWord h (by decide) (by decide), Option.bind_some, ck_bz]
theorem e12_isOdds (h : tkS b n p q k T J Tm Jm) : f_X12_isOdds Tm Jm = some (if k = 1 ∧ wx b p q = 1 then 1 else 0) := by
  rw [f_X12_isOdds, show f_X12_spelled 111 100 100 115 0 0 = some (jN (wcd 1)) by decide +kernel, Option.bind_some, e12_isWord h (by decide) (by decide), Option.bind_some, ck_bz]
theorem e12_isHarbour (h : tkS b n p q k T J Tm Jm) : f_X12_isHarbour Tm Jm = some (if k = 1 ∧ wx b p q = 2 then 1 else 0) := by
  rw [f_X12_isHarbour, show f_X12_spelled 104 97 114 98 111 117 = some (jN 270076405) by decide +kernel, Option.bind_some, show (jN 270076405 * 32 + 18 : Int64) = jN (wcd 2) by decide +kernel, e12_isWord h (by decide) (by decide), Option.bind_some, ck_bz]
theorem e12_isLies (h : tkS b n p q k T J Tm Jm) : f_X12_isLies Tm Jm = some (if k = 1 ∧ wx b p q = 4 then 1 else 0) := by
  rw [f_X12_isLies, show f_X12_spelled 108 105 101 115 0 0 = some (jN (wcd 4)) by decide +kernel, Option.bind_some, e12_isWord h (by decide) (by decide), Option.bind_some, ck_bz]
theorem e12_isHeard (h : tkS b n p q k T J Tm Jm) : f_X12_isHeard Tm Jm = some (if k = 1 ∧ wx b p q = 5 then 1 else 0) := by
  rw [f_X12_isHeard, show f_X12_spelled 104 101 97 114 100 0 = some (jN (wcd 5)) by decide +kernel, Option.bind_some, e12_isWord h (by decide) (by decide), Option.bind_some, ck_bz]
theorem e12_isTold (h : tkS b n p q k T J Tm Jm) : f_X12_isTold Tm Jm = some (if k = 1 ∧ wx b p q = 6 then 1 else 0) := by
  rw [f_X12_isTold, show f_X12_spelled 116 111 108 100 0 0 = some (jN (wcd 6)) by decide +kernel, Option.bind_some, e12_isWord h (by decide) (by decide), Option.bind_some, ck_bz]
theorem e12_isMissed (h : tkS b n p q k T J Tm Jm) : f_X12_isMissed Tm Jm = some (if k = 1 ∧ wx b p q = 7 then 1 else 0) := by
  rw [f_X12_isMissed, show f_X12_spelled 109 105 115 115 101 100 = some (jN (wcd 7)) by decide +kernel, Option.bind_some, e12_isWord h (by decide) (by decide), Option.bind_some, ck_bz]
theorem e12_isEnd (h : tkS b n p q k T J Tm Jm) : f_X12_isEnd Tm Jm = some (if k = 1 ∧ wx b p q = 21 then 1 else 0) := by
  rw [f_X12_isEnd, show f_X12_spelled 101 110 100 0 0 0 = some (jN (wcd 21)) by decide +kernel, Option.bind_some, e12_isWord h (by decide) (by decide), Option.bind_some, ck_bz]
/-- words by number, as steps, tests, feelings -/
def feW (x : Nat) : Option Nat := if 8 ≤ x ∧ x ≤ 11 then some (x - 8) else none
def stW (x : Nat) : Option Nat := if x = 12 then some 0 else if x = 13 then some 1 else if x = 6 then some 2 else if x = 14 then some 3 else if x = 15 then some 4 else if x = 16 then some 5 else if x = 20 then some 6 else if x = 22 then some 7 else none
def teW (x : Nat) : Option Nat := if x = 5 then some 0 else if x = 18 then some 1 else if x = 17 then some 2 else if x = 19 then some 3 else none
def kx (k x : Nat) : Nat := if k = 1 then x else 23
theorem kx_eq {k x i : Nat} (hi : i < 23) : (k = 1 ∧ x = i) ↔ kx k x = i := by
  unfold kx
  constructor
  · rintro ⟨h1, h2⟩; rw [if_pos h1]; exact h2
  · intro h
    split at h
    · exact ⟨by assumption, h⟩
    · omega
theorem e12_isWordK (h : tkS b n p q k T J Tm Jm) {i : Nat} (hi : i < 23) (h3 : i ≠ 3) : f_X12_isWord Tm Jm (jN (wcd i)) = some (if kx k (wx b p q) = i then 1 else 0) := by
  rw [e12_isWord h hi h3]
  exact congrArg some (ifc (kx_eq hi))
theorem e12_feeling (h : tkS b n p q k T J Tm Jm) : f_X12_feelingWord Tm Jm = some (oN (feW (kx k (wx b p q)))) := by
  rw [f_X12_feelingWord, show f_X12_spelled 99 97 108 109 0 0 = some (jN (wcd 8)) by decide +kernel, Option.bind_some, e12_isWordK h (by decide) (by decide), Option.bind_some, show f_X12_spelled 102 101 97 114 0 0 = some (jN (wcd 9)) by decide +kernel, Option.bind_some, e12_isWordK h (by decide) (by decide), Option.bind_some, show f_X12_spelled 116 101 97 114 115 0 = some (jN (wcd 10)) by decide +kernel, Option.bind_some, e12_isWordK h (by decide) (by decide), Option.bind_some, show f_X12_spelled 115 105 103 104 0 0 = some (jN (wcd 11)) by decide +kernel, Option.bind_some, e12_isWordK h (by decide) (by decide), Option.bind_some]
  generalize kx k (wx b p q) = x
  unfold feW
  by_cases h8 : x = 8
  · rw [h8]; rfl
  · by_cases h9 : x = 9
    · rw [h9]; rfl
    · by_cases h10 : x = 10
      · rw [h10]; rfl
      · by_cases h11 : x = 11
        · rw [h11]; rfl
        · rw [if_neg h8, if_pos rfl, if_neg h9, if_pos rfl, if_neg h10, if_pos rfl, if_neg h11, if_pos rfl, if_neg (by omega)]; rfl
theorem e12_step (h : tkS b n p q k T J Tm Jm) : f_X12_stepWord Tm Jm = some (oN (stW (kx k (wx b p q)))) := by
  rw [f_X12_stepWord, show f_X12_spelled 104 101 97 114 0 0 = some (jN (wcd 12)) by decide +kernel, Option.bind_some, e12_isWordK h (by decide) (by decide), Option.bind_some, show f_X12_spelled 102 111 114 103 101 116 = some (jN (wcd 13)) by decide +kernel, Option.bind_some, e12_isWordK h (by decide) (by decide), Option.bind_some, e12_isTold h, show (if k = 1 ∧ wx b p q = 6 then (1 : Int32) else 0) = (if kx k (wx b p q) = 6 then 1 else 0) from ifc (kx_eq (by decide)), Option.bind_some, show f_X12_spelled 115 97 105 108 0 0 = some (jN (wcd 14)) by decide +kernel, Option.bind_some, e12_isWordK h (by decide) (by decide), Option.bind_some, show f_X12_spelled 97 110 121 0 0 0 = some (jN (wcd 15)) by decide +kernel, Option.bind_some, e12_isWordK h (by decide) (by decide), Option.bind_some, show f_X12_spelled 119 104 101 110 0 0 = some (jN (wcd 16)) by decide +kernel, Option.bind_some, e12_isWordK h (by decide) (by decide), Option.bind_some, show f_X12_spelled 108 111 111 112 0 0 = some (jN (wcd 20)) by decide +kernel, Option.bind_some, e12_isWordK h (by decide) (by decide), Option.bind_some, show f_X12_spelled 115 116 111 112 0 0 = some (jN (wcd 22)) by decide +kernel, Option.bind_some, e12_isWordK h (by decide) (by decide), Option.bind_some]
  generalize kx k (wx b p q) = x
  unfold stW
  by_cases h1 : x = 12
  · rw [h1]; rfl
  by_cases h2 : x = 13
  · rw [h2]; rfl
  by_cases h3 : x = 6
  · rw [h3]; rfl
  by_cases h4 : x = 14
  · rw [h4]; rfl
  by_cases h5 : x = 15
  · rw [h5]; rfl
  by_cases h6 : x = 16
  · rw [h6]; rfl
  by_cases h7 : x = 20
  · rw [h7]; rfl
  by_cases h8 : x = 22
  · rw [h8]; rfl
  simp only [h1, h2, h3, h4, h5, h6, h7, h8, reduceIte]
  rfl
theorem e12_test (h : tkS b n p q k T J Tm Jm) : f_X12_testWord Tm Jm = some (oN (teW (kx k (wx b p q)))) := by
  rw [f_X12_testWord, e12_isHeard h, show (if k = 1 ∧ wx b p q = 5 then (1 : Int32) else 0) = (if kx k (wx b p q) = 5 then 1 else 0) from ifc (kx_eq (by decide)), Option.bind_some, show f_X12_spelled 119 104 105 116 101 0 = some (jN (wcd 18)) by decide +kernel, Option.bind_some, e12_isWordK h (by decide) (by decide), Option.bind_some, show f_X12_spelled 100 114 97 119 110 0 = some (jN (wcd 17)) by decide +kernel, Option.bind_some, e12_isWordK h (by decide) (by decide), Option.bind_some, show f_X12_spelled 107 110 111 119 110 0 = some (jN (wcd 19)) by decide +kernel, Option.bind_some, e12_isWordK h (by decide) (by decide), Option.bind_some]
  generalize kx k (wx b p q) = x
  unfold teW
  by_cases h1 : x = 5
  · rw [h1]; rfl
  by_cases h2 : x = 18
  · rw [h2]; rfl
  by_cases h3 : x = 17
  · rw [h3]; rfl
  by_cases h4 : x = 19
  · rw [h4]; rfl
  simp only [h1, h2, h3, h4, reduceIte]
  rfl
theorem trav_9 (hr : ∀ i, p ≤ i → i < q → kd (b i) = 1) : wx b p q = 3 ↔ (q - p = 9 ∧ b p = 116 ∧ b (p + 1) = 114 ∧ b (p + 2) = 97 ∧ b (p + 3) = 118 ∧ b (p + 4) = 101 ∧ b (p + 5) = 108 ∧ b (p + 6) = 108 ∧ b (p + 7) = 101 ∧ b (p + 8) = 114) := by
  have hw : wx b p q = 3 ↔ wcd 3 = ccd b p q := wix_eq (by decide)
  rw [hw]
  unfold ccd
  constructor
  · intro h
    by_cases q12 : q - p ≤ 12
    · rw [if_pos q12] at h
      have h9 : q - p = 9 := by
        rcases Nat.lt_trichotomy (q - p) 9 with g | g | g
        · have hc := cdw_lt (b := b) (p := p) (q - p) (fun j hj => hr (p + j) (by omega) (by omega))
          have h32 : 32 ^ (q - p) ≤ 32 ^ 8 := Nat.pow_le_pow_right (by decide) (by omega)
          have : 1099511627776 ≤ wcd 3 := by decide
          omega
        · exact g
        · obtain ⟨m, hm⟩ : ∃ m, q - p = m + 1 := ⟨q - p - 1, by omega⟩
          have h5 := cdw_ge (b := b) (p := p) m (fun j hj => hr (p + j) (by omega) (by omega))
          have h6 : 32 ^ 9 ≤ 32 ^ m := Nat.pow_le_pow_right (by decide) (by omega)
          rw [hm] at h
          have : wcd 3 < 35184372088832 := by decide
          omega
      have k0 := kd_1.mp (hr (p + 0) (by omega) (by omega))
      have k1 := kd_1.mp (hr (p + 1) (by omega) (by omega))
      have k2 := kd_1.mp (hr (p + 2) (by omega) (by omega))
      have k3 := kd_1.mp (hr (p + 3) (by omega) (by omega))
      have k4 := kd_1.mp (hr (p + 4) (by omega) (by omega))
      have k5 := kd_1.mp (hr (p + 5) (by omega) (by omega))
      have k6 := kd_1.mp (hr (p + 6) (by omega) (by omega))
      have k7 := kd_1.mp (hr (p + 7) (by omega) (by omega))
      have k8 := kd_1.mp (hr (p + 8) (by omega) (by omega))
      rw [h9, show wcd 3 = 22610525434034 from rfl] at h
      have s8 : cdw b p 9 = cdw b p 8 * 32 + (b (p + 8) - 96) := rfl
      have s7 : cdw b p 8 = cdw b p 7 * 32 + (b (p + 7) - 96) := rfl
      have s6 : cdw b p 7 = cdw b p 6 * 32 + (b (p + 6) - 96) := rfl
      have s5 : cdw b p 6 = cdw b p 5 * 32 + (b (p + 5) - 96) := rfl
      have s4 : cdw b p 5 = cdw b p 4 * 32 + (b (p + 4) - 96) := rfl
      have s3 : cdw b p 4 = cdw b p 3 * 32 + (b (p + 3) - 96) := rfl
      have s2 : cdw b p 3 = cdw b p 2 * 32 + (b (p + 2) - 96) := rfl
      have s1 : cdw b p 2 = cdw b p 1 * 32 + (b (p + 1) - 96) := rfl
      have s0 : cdw b p 1 = 0 * 32 + (b (p + 0) - 96) := rfl
      rw [s8] at h
      obtain ⟨e8, h⟩ : b (p + 8) = 114 ∧ cdw b p 8 = 706578919813 := by omega
      rw [s7] at h
      obtain ⟨e7, h⟩ : b (p + 7) = 101 ∧ cdw b p 7 = 22080591244 := by omega
      rw [s6] at h
      obtain ⟨e6, h⟩ : b (p + 6) = 108 ∧ cdw b p 6 = 690018476 := by omega
      rw [s5] at h
      obtain ⟨e5, h⟩ : b (p + 5) = 108 ∧ cdw b p 5 = 21563077 := by omega
      rw [s4] at h
      obtain ⟨e4, h⟩ : b (p + 4) = 101 ∧ cdw b p 4 = 673846 := by omega
      rw [s3] at h
      obtain ⟨e3, h⟩ : b (p + 3) = 118 ∧ cdw b p 3 = 21057 := by omega
      rw [s2] at h
      obtain ⟨e2, h⟩ : b (p + 2) = 97 ∧ cdw b p 2 = 658 := by omega
      rw [s1] at h
      obtain ⟨e1, h⟩ : b (p + 1) = 114 ∧ cdw b p 1 = 20 := by omega
      rw [s0] at h
      rw [Nat.add_zero] at h k0
      exact ⟨h9, by omega, e1, e2, e3, e4, e5, e6, e7, e8⟩
    · rw [if_neg q12] at h
      exact absurd h (by decide)
  · rintro ⟨h9, e0, e1, e2, e3, e4, e5, e6, e7, e8⟩
    rw [if_pos (by omega), h9]
    simp only [cdw, Nat.add_zero, e0, e1, e2, e3, e4, e5, e6, e7, e8]
    decide
theorem e12_isTraveller (hX : tX b n V Vm) (h : tkS b n p q k T J Tm Jm) : f_X12_isTraveller Tm Vm = some (if k = 1 ∧ wx b p q = 3 then 1 else 0) := by
  have hl := h.le
  have hm := h.2.2.1
  have hn := hX.1
  have e80 : f_X12_isTraveller_80 Tm Vm 0 = some 0 := by rw [f_X12_isTraveller_80, if_pos rfl]
  rw [f_X12_isTraveller, hm.1]
  by_cases hk : k = 1
  · rw [if_pos (show iN k = (1 : Int32) from congrArg iN hk), (hm.2.2.2.1 hk).1]
    obtain ⟨w1, w2, w3⟩ := h.word hk
    have ht := trav_9 w3
    by_cases q9 : q - p = 9
    · rw [if_pos (show iN (q - p) = (9 : Int32) from congrArg iN q9), hm.2.1]
      have lo : ∀ j, j < 9 → f_X12_look2 Tm Vm (iN (p + j)) = some (iN (b (p + j))) := fun j hj => by
        rw [e12_look hX h.2.2.2.2 (by omega), show lk b n (p + j) = b (p + j) from if_pos (by omega)]
      have lo0 : f_X12_look2 Tm Vm (iN p) = some (iN (b p)) := lo 0 (by decide)
      have a1 : ∀ j : Nat, (iN p + iN j : Int32) = iN (p + j) := fun j => iN_add p j
      have kb : ∀ j, j < 9 → b (p + j) < 256 := fun j hj => (hX.2 _ (by omega)).1
      have kb0 := kb 0 (by decide)
      rw [Nat.add_zero] at kb0
      rw [lo0, Option.bind_some, f_X12_isTraveller_79, e80, f_X12_isTraveller_80, hm.2.1, show (iN p + 1 : Int32) = iN (p + 1) from a1 1, show (iN p + 2 : Int32) = iN (p + 2) from a1 2, show (iN p + 3 : Int32) = iN (p + 3) from a1 3, show (iN p + 4 : Int32) = iN (p + 4) from a1 4, show (iN p + 5 : Int32) = iN (p + 5) from a1 5, show (iN p + 6 : Int32) = iN (p + 6) from a1 6, show (iN p + 7 : Int32) = iN (p + 7) from a1 7, show (iN p + 8 : Int32) = iN (p + 8) from a1 8, lo 1 (by decide), lo 2 (by decide), lo 3 (by decide), lo 4 (by decide), lo 5 (by decide), lo 6 (by decide), lo 7 (by decide), lo 8 (by decide), Option.bind_some, Option.bind_some, Option.bind_some, Option.bind_some, Option.bind_some, Option.bind_some, Option.bind_some, Option.bind_some, if_neg (show ¬ (1 : Int32) = 0 by decide)]
      have lit : ∀ (j m : Nat), j < 9 → m < 256 → (iN (b (p + j)) = iN m) = (b (p + j) = m) := fun j m hj hm => by
        have := kb j hj
        rw [iN_eq (by omega) (by omega)]
      have y0 : (iN (b p) = (116 : Int32)) = (b p = 116) := lit 0 116 (by decide) (by decide)
      have y1 : (iN (b (p + 1)) = (114 : Int32)) = (b (p + 1) = 114) := lit 1 114 (by decide) (by decide)
      have y2 : (iN (b (p + 2)) = (97 : Int32)) = (b (p + 2) = 97) := lit 2 97 (by decide) (by decide)
      have y3 : (iN (b (p + 3)) = (118 : Int32)) = (b (p + 3) = 118) := lit 3 118 (by decide) (by decide)
      have y4 : (iN (b (p + 4)) = (101 : Int32)) = (b (p + 4) = 101) := lit 4 101 (by decide) (by decide)
      have y5 : (iN (b (p + 5)) = (108 : Int32)) = (b (p + 5) = 108) := lit 5 108 (by decide) (by decide)
      have y6 : (iN (b (p + 6)) = (108 : Int32)) = (b (p + 6) = 108) := lit 6 108 (by decide) (by decide)
      have y7 : (iN (b (p + 7)) = (101 : Int32)) = (b (p + 7) = 101) := lit 7 101 (by decide) (by decide)
      have y8 : (iN (b (p + 8)) = (114 : Int32)) = (b (p + 8) = 114) := lit 8 114 (by decide) (by decide)
      simp only [y0, y1, y2, y3, y4, y5, y6, y7, y8]
      have hc : (k = 1 ∧ wx b p q = 3) ↔ (b p = 116 ∧ b (p + 1) = 114 ∧ b (p + 2) = 97 ∧ b (p + 3) = 118 ∧ b (p + 4) = 101 ∧ b (p + 5) = 108 ∧ b (p + 6) = 108 ∧ b (p + 7) = 101 ∧ b (p + 8) = 114) := by
        rw [ht]
        exact ⟨fun h9 => h9.2.2, fun h9 => ⟨hk, q9, h9⟩⟩
      rw [show (if k = 1 ∧ wx b p q = 3 then (1 : Int32) else 0) = _ from ifc hc]
      repeat' split
      all_goals (first | rfl | (exfalso; simp_all) | simp_all)
    · rw [if_neg (show ¬ iN (q - p) = (9 : Int32) from iN_ne (by omega) (by decide) q9), f_X12_isTraveller_79, e80, if_neg (fun h9 => q9 (ht.mp h9.2).1)]
  · rw [if_neg (show ¬ iN k = (1 : Int32) from iN_ne (by omega) (by decide) hk), f_X12_isTraveller_79, e80, if_neg (fun h9 => hk h9.1)]
theorem oN_neg {o : Option Nat} (h : ∀ m, o = some m → m < 1000) : (oN o < 0) = (o = none) := by
  cases o with
  | none => exact propext ⟨fun _ => rfl, fun _ => by decide⟩
  | some m =>
    have := h m rfl
    refine propext ⟨fun h9 => ?_, fun h9 => (by cases h9)⟩
    rw [oN, show (0 : Int32) = iN 0 from rfl, iN_lt (by omega) (by omega)] at h9
    omega
theorem oN_pos {o : Option Nat} (h : ∀ m, o = some m → m < 1000) : (0 ≤ oN o) = ¬ (o = none) := by
  cases o with
  | none => exact propext ⟨fun h9 => absurd h9 (by decide), fun h9 => absurd rfl h9⟩
  | some m =>
    have := h m rfl
    refine propext ⟨fun h9 h8 => (by cases h8), fun h9 => ?_⟩
    rw [oN, show (0 : Int32) = iN 0 from rfl, iN_le (by omega) (by omega)]
    omega
theorem feW_lt {x m : Nat} (h : feW x = some m) : m < 4 ∧ x = m + 8 := by
  unfold feW at h
  split at h
  · injection h with h; omega
  · cases h
theorem stW_lt {x m : Nat} (h : stW x = some m) : m < 8 := by
  unfold stW at h
  repeat' split at h
  all_goals (first | (injection h with h; omega) | cases h)
theorem teW_lt {x m : Nat} (h : teW x = some m) : m < 4 := by
  unfold teW at h
  repeat' split at h
  all_goals (first | (injection h with h; omega) | cases h)
theorem e12_isKept (hX : tX b n V Vm) (h : tkS b n p q k T J Tm Jm) : f_X12_isKept Tm Jm Vm = some (if kx k (wx b p q) < 23 then 1 else 0) := by
  have hw := wx_le b p q
  have hkx : kx k (wx b p q) < 24 := by unfold kx; split <;> omega
  rw [f_X12_isKept, e12_isRow h, Option.bind_some, e12_isOdds h, Option.bind_some, e12_isHarbour h, Option.bind_some, e12_isTraveller hX h, Option.bind_some, e12_isLies h, Option.bind_some, e12_isMissed h, Option.bind_some, e12_feeling h, Option.bind_some, e12_step h, Option.bind_some, e12_test h, Option.bind_some, e12_isEnd h, Option.bind_some]
  simp only [kx_eq (show 0 < 23 by decide), kx_eq (show 1 < 23 by decide), kx_eq (show 2 < 23 by decide), kx_eq (show 3 < 23 by decide), kx_eq (show 4 < 23 by decide), kx_eq (show 7 < 23 by decide), kx_eq (show 21 < 23 by decide)]
  generalize kx k (wx b p q) = x at hkx ⊢
  rcases (show x = 0 ∨ x = 1 ∨ x = 2 ∨ x = 3 ∨ x = 4 ∨ x = 5 ∨ x = 6 ∨ x = 7 ∨ x = 8 ∨ x = 9 ∨ x = 10 ∨ x = 11 ∨ x = 12 ∨ x = 13 ∨ x = 14 ∨ x = 15 ∨ x = 16 ∨ x = 17 ∨ x = 18 ∨ x = 19 ∨ x = 20 ∨ x = 21 ∨ x = 22 ∨ x = 23 by omega) with rfl | rfl | rfl | rfl | rfl | rfl | rfl | rfl | rfl | rfl | rfl | rfl | rfl | rfl | rfl | rfl | rfl | rfl | rfl | rfl | rfl | rfl | rfl | rfl
  all_goals rfl
theorem e12_isName (hX : tX b n V Vm) (h : tkS b n p q k T J Tm Jm) : f_X12_isName Tm Jm Vm = some (if k = 1 ∧ wx b p q = 23 ∧ q - p ≤ 8 then 1 else 0) := by
  have hl := h.le
  have hm := h.2.2.1
  have hn := hX.1
  have hw := wx_le b p q
  rw [f_X12_isName, hm.1]
  by_cases hk : k = 1
  · rw [if_pos (show iN k = (1 : Int32) from congrArg iN hk), (hm.2.2.2.1 hk).1]
    by_cases q8 : q - p ≤ 8
    · rw [if_neg (by rw [show (8 : Int32) = iN 8 from rfl, iN_lt (by omega) (by omega)]; omega), e12_isKept hX h, Option.bind_some]
      have : kx k (wx b p q) = wx b p q := if_pos hk
      rw [this]
      by_cases e : wx b p q = 23
      · rw [show (if wx b p q < 23 then (1 : Int32) else 0) = 0 from if_neg (by omega), if_pos rfl, if_pos ⟨hk, e, q8⟩]
      · rw [show (if wx b p q < 23 then (1 : Int32) else 0) = 1 from if_pos (by omega), if_neg (show ¬ (1 : Int32) = 0 by decide), if_neg (fun h9 => e h9.2.1)]
    · rw [if_pos (by rw [show (8 : Int32) = iN 8 from rfl, iN_lt (by omega) (by omega)]; omega), if_neg (fun h9 => q8 h9.2.2)]
  · rw [if_neg (show ¬ iN k = (1 : Int32) from iN_ne (by omega) (by decide) hk), if_neg (fun h9 => hk h9.1)]
/-! the class's -/
theorem vw_eq (c i : Nat) (hi : i < 23) : (vw c = iN i) = (wix c 23 = i) := by
  have := wix_le c 23
  unfold vw
  by_cases q : wix c 23 < 23
  · rw [if_pos q, iN_eq (by omega) (by omega)]
  · rw [if_neg q]
    refine propext ⟨fun h => absurd h.symm (iN_ne_m1 (by omega)), fun h => by omega⟩
theorem vw_m1 (c : Nat) : (vw c = -1) = (wix c 23 = 23) := by
  have := wix_le c 23
  unfold vw
  by_cases q : wix c 23 < 23
  · rw [if_pos q]
    exact propext ⟨fun h => absurd h (iN_ne_m1 (by omega)), fun h => by omega⟩
  · rw [if_neg q]
    exact propext ⟨fun _ => by omega, fun _ => rfl⟩
theorem e8_isWord (h : tkS b n p q k T J Tm Jm) {i : Nat} (hi : i < 23) : f_X8_isWord T (iN i) = some (if k = 1 ∧ wx b p q = i then 1 else 0) := by
  have hl := h.le
  have h8 := h.2.1
  rw [f_X8_isWord, h8.1]
  by_cases hk : k = 1
  · rw [if_pos (show iN k = (1 : Int32) from congrArg iN hk), (h8.2.2.2.1 hk).2]
    by_cases e : wx b p q = i
    · rw [if_pos (by rw [vw_eq _ _ hi]; exact e), if_pos ⟨hk, e⟩]
    · rw [if_neg (by rw [vw_eq _ _ hi]; exact e), if_neg (fun h9 => e h9.2)]
  · rw [if_neg (show ¬ iN k = (1 : Int32) from iN_ne (by omega) (by decide) hk), if_neg (fun h9 => hk h9.1)]
def wI32 (x : Nat) : Int32 := if x < 23 then iN x else -1
theorem e8_word (h : tkS b n p q k T J Tm Jm) : f_X8_word T = some (wI32 (kx k (wx b p q))) := by
  have hl := h.le
  have h8 := h.2.1
  rw [f_X8_word, h8.1]
  unfold kx
  by_cases hk : k = 1
  · rw [if_pos (show iN k = (1 : Int32) from congrArg iN hk), if_pos hk, (h8.2.2.2.1 hk).2]; rfl
  · rw [if_neg (show ¬ iN k = (1 : Int32) from iN_ne (by omega) (by decide) hk), if_neg hk]; rfl
theorem e8_feeling (h : tkS b n p q k T J Tm Jm) : f_X8_feeling T = some (oN (feW (kx k (wx b p q)))) := by
  have hl := h.le
  have h8 := h.2.1
  have hw := wx_le b p q
  rw [f_X8_feeling, h8.1]
  unfold kx
  by_cases hk : k = 1
  · rw [if_pos (show iN k = (1 : Int32) from congrArg iN hk), if_pos hk, (h8.2.2.2.1 hk).2]
    show (f_X11_within (vw (ccd b p q)) (iN 8) (iN 11)).bind _ = _
    unfold vw feW
    rw [show wix (ccd b p q) 23 = wx b p q from rfl]
    by_cases e : wx b p q < 23
    · rw [if_pos e, e_within _ _ _ (by omega) (by decide) (by decide), Option.bind_some]
      by_cases e2 : 8 ≤ wx b p q ∧ wx b p q ≤ 11
      · rw [show (if 8 ≤ wx b p q ∧ wx b p q ≤ 11 then (1 : Int32) else 0) = 1 from if_pos e2, if_neg (show ¬ (1 : Int32) = 0 by decide), if_pos e2, show (8 : Int32) = iN 8 from rfl, iN_sub e2.1]; rfl
      · rw [show (if 8 ≤ wx b p q ∧ wx b p q ≤ 11 then (1 : Int32) else 0) = 0 from if_neg e2, if_pos rfl, if_neg e2]; rfl
    · rw [if_neg e, show f_X11_within (-1) (iN 8) (iN 11) = some 0 by decide, if_neg (by omega)]; rfl
  · rw [if_neg (show ¬ iN k = (1 : Int32) from iN_ne (by omega) (by decide) hk), if_neg hk]; rfl
theorem e8_letters (h : tkS b n p q k T J Tm Jm) (hk : k = 1) : f_X8_letters T = some (iN (q - p)) := by
  have h8 := h.2.1
  rw [f_X8_letters, h8.1, if_pos (show iN k = (1 : Int32) from congrArg iN hk), h8.2.1, h8.2.2.1, iN_sub (by have := h.word hk; omega)]
theorem e8_isName (hX : tX b n V Vm) (h : tkS b n p q k T J Tm Jm) : f_X8_isName T = some (if k = 1 ∧ wx b p q = 23 ∧ q - p ≤ 8 then 1 else 0) := by
  have hl := h.le
  have h8 := h.2.1
  have hn := hX.1
  rw [f_X8_isName, h8.1]
  by_cases hk : k = 1
  · rw [if_pos (show iN k = (1 : Int32) from congrArg iN hk), (h8.2.2.2.1 hk).2, e8_letters h hk, Option.bind_some]
    by_cases e : wx b p q = 23
    · rw [if_pos (by rw [vw_m1]; exact e)]
      by_cases q8 : q - p ≤ 8
      · rw [if_neg (by rw [show (8 : Int32) = iN 8 from rfl, iN_lt (by omega) (by omega)]; omega), if_pos ⟨hk, e, q8⟩]
      · rw [if_pos (by rw [show (8 : Int32) = iN 8 from rfl, iN_lt (by omega) (by omega)]; omega), if_neg (fun h9 => q8 h9.2.2)]
    · rw [if_neg (by rw [vw_m1]; exact e), if_neg (fun h9 => e h9.2.1)]
  · rw [if_neg (show ¬ iN k = (1 : Int32) from iN_ne (by omega) (by decide) hk), if_neg (fun h9 => hk h9.1)]
end TOK4
