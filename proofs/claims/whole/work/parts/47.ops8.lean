/-! Calls: liars, liarSet. -/
section OPS8
variable {d : Nat → Nat} {w Na : Nat → Int64} {c T T0 Tm S Li By Of Fe Mi : Nat → Int32} {L : Int32} {K : Int32 × Int32}
/-- b is the first of the smallest sets without clashes among those that P holds of -/
def lbest (d : Nat → Nat) (P : Nat → Prop) (b : Nat) : Prop := clash d b = 0 ∧ ∀ k, P k → clash d k = 0 → sz b ≤ sz k ∧ (sz k = sz b → b ≤ k)
theorem lfd_ok (d : Nat → Nat) : ∀ n, match lfd d n with
    | none => ∀ k, k < n → ¬ clash d k = 0
    | some b => b < n ∧ lbest d (fun k => k < n) b
  | 0 => fun k hk => by omega
  | n + 1 => by
    have ih := lfd_ok d n
    rw [lfd]
    cases hl : lfd d n with
    | none =>
      rw [hl] at ih
      by_cases h : clash d n = 0
      · dsimp only
        rw [if_pos h]
        refine ⟨by omega, h, fun k hk hc => ?_⟩
        by_cases e : k = n
        · subst e; exact ⟨Nat.le_refl _, fun _ => Nat.le_refl _⟩
        · exact absurd hc (ih k (by omega))
      · dsimp only
        rw [if_neg h]
        intro k hk
        by_cases e : k = n
        · subst e; exact h
        · exact ih k (by omega)
    | some b =>
      rw [hl] at ih
      obtain ⟨i1, i2, i3⟩ := ih
      by_cases h : sz n < sz b ∧ clash d n = 0
      · dsimp only
        rw [if_pos h]
        refine ⟨by omega, h.2, fun k hk hc => ?_⟩
        by_cases e : k = n
        · subst e; exact ⟨Nat.le_refl _, fun _ => Nat.le_refl _⟩
        · have := i3 k (by omega) hc
          exact ⟨by omega, fun _ => by omega⟩
      · dsimp only
        rw [if_neg h]
        refine ⟨by omega, i2, fun k hk hc => ?_⟩
        by_cases e : k = n
        · subst e
          have : ¬ sz k < sz b := fun q => h ⟨q, hc⟩
          exact ⟨by omega, fun _ => by omega⟩
        · exact i3 k (by omega) hc
theorem lfu_ok (d : Nat → Nat) {M : Nat} (hM : clash d M = 0) : ∀ n, n ≤ M + 1 → lfu d M n ≤ M ∧ lbest d (fun k => k ≤ M ∧ M < k + n) (lfu d M n) ∧ (lfu d M n = M ∨ M < lfu d M n + n)
  | 0, _ => ⟨Nat.le_refl _, ⟨hM, fun k hk => by omega⟩, Or.inl rfl⟩
  | n + 1, hn => by
    obtain ⟨i1, ⟨i2, i3⟩, i4⟩ := lfu_ok d hM n (by omega)
    rw [lfu]
    by_cases h : sz (M - n) ≤ sz (lfu d M n) ∧ clash d (M - n) = 0
    · rw [if_pos h]
      refine ⟨by omega, ⟨h.2, fun k hk hc => ?_⟩, Or.inr (by omega)⟩
      by_cases e : k = M - n
      · subst e; exact ⟨Nat.le_refl _, fun _ => Nat.le_refl _⟩
      · have := i3 k (by omega) hc
        exact ⟨by omega, fun _ => by omega⟩
    · rw [if_neg h]
      refine ⟨i1, ⟨i2, fun k hk hc => ?_⟩, by omega⟩
      by_cases e : k = M - n
      · subst e
        have : ¬ sz (M - n) ≤ sz (lfu d M n) := fun q => h ⟨q, hc⟩
        exact ⟨by omega, fun _ => by omega⟩
      · exact i3 k (by omega) hc
theorem lf_eq (d : Nat → Nat) {M : Nat} (hM : clash d M = 0) : lfd d (M + 1) = some (lfu d M (M + 1)) := by
  have h1 := lfd_ok d (M + 1)
  obtain ⟨u1, ⟨u2, u3⟩, -⟩ := lfu_ok d hM (M + 1) (Nat.le_refl _)
  cases hl : lfd d (M + 1) with
  | none =>
    rw [hl] at h1
    exact absurd hM (h1 M (by omega))
  | some b =>
    rw [hl] at h1
    obtain ⟨b1, b2, b3⟩ := h1
    have q1 := b3 _ (show lfu d M (M + 1) < M + 1 by omega) u2
    have q2 := u3 b (by omega) b2
    congr 1
    have e : sz b = sz (lfu d M (M + 1)) := by omega
    have := q1.2 e.symm
    have := q2.2 e
    omega
theorem lfd_lt (d : Nat → Nat) {n b : Nat} (h : lfd d n = some b) : b < n := by
  have h1 := lfd_ok d n
  rw [h] at h1
  exact h1.1
theorem pow_le {n : Nat} (h : n ≤ 5) : 2 ^ n ≤ 32 := Nat.pow_le_pow_right (n := 2) (by decide) h
def oN : Option Nat → Int32
  | none => -1
  | some b => iN b
theorem e12_liarsNow (hd : dInv d) (hc : mRep d c) : f_X12_liarsNow c = some (oN (lfd d (2 ^ d 2))) := by
  have hm := hd.many
  have h32 := pow_le hm.1
  have g2 : gd 2 1860 = true := by decide
  have n2 : (2 : Int32).toNatClampNeg = 2 := by decide
  refine iter_run (2 ^ d 2) (fun k (φ : Int32 → Int32 → Option Int32) => φ (oN (lfd d k)) (iN k) = some (oN (lfd d (2 ^ d 2)))) (by omega) (fun k F hk h => ?_) (fun F => ?_)
  · rw [g_X12_liarsNow_4, ck_y g2, n2, hc 2 (by omega), shl_tab _ (by omega), if_neg (by rw [iN_le (by omega) (by omega)]; omega)]
    have e31 : ∀ z, f_X12_liarsNow_31 c F z (iN k) = if clash d k = 0 then F (iN k) (iN (k + 1)) else F z (iN (k + 1)) := fun z => by
      have hcl : clash d k ≤ 12 * d 3 := sm_le (fun t ht => Nat.le_trans (sm_le_n (fun u _ => by unfold clp; split <;> omega)) (by omega))
      rw [f_X12_liarsNow_31, e12_clashes hd hc (by omega), Option.bind_some, show (iN k + 1 : Int32) = iN (k + 1) from iN_add k 1]
      exact ifc (by rw [show (0 : Int32) = iN 0 from rfl, iN_eq (by omega) (by omega)])
    rw [lfd] at h
    cases hl : lfd d k with
    | none =>
      rw [hl] at h
      rw [oN, if_pos (by decide), e31]
      dsimp only at h
      by_cases q : clash d k = 0
      · rw [if_pos q] at h ⊢; exact h
      · rw [if_neg q] at h ⊢; exact h
    | some b =>
      rw [hl] at h
      have hb := lfd_lt d hl
      have s1 := sz_le k
      have s2 := sz_le b
      rw [oN, if_neg (by rw [show (0 : Int32) = iN 0 from rfl, iN_lt (by omega) (by omega)]; omega), e12_sizeOf (by omega), Option.bind_some, e12_sizeOf (by omega), Option.bind_some, e31, show (iN k + 1 : Int32) = iN (k + 1) from iN_add k 1]
      dsimp only at h
      by_cases q : sz k < sz b ∧ clash d k = 0
      · rw [if_pos q] at h
        rw [if_neg (by rw [iN_le (by omega) (by omega)]; omega), if_pos q.2]; exact h
      · rw [if_neg q] at h
        by_cases q1 : sz k < sz b
        · rw [if_neg (by rw [iN_le (by omega) (by omega)]; omega), if_neg (fun q2 => q ⟨q1, q2⟩)]; exact h
        · rw [if_pos (by rw [iN_le (by omega) (by omega)]; omega)]; exact h
  · rw [g_X12_liarsNow_4, ck_y g2, n2, hc 2 (by omega), shl_tab _ (by omega), if_pos (by rw [iN_le (by omega) (by omega)]; omega)]
theorem e3_fewest (hd : dInv d) (hk : kRep d w T S Li Na By Of Fe Mi) : f_X3_fewestLiars T Of Fe By = some (iN (lfu d (2 ^ d 2 - 1) (2 ^ d 2))) := by
  have hm := hd.many
  have h32 := pow_le hm.1
  have hp : 0 < 2 ^ d 2 := Nat.two_pow_pos _
  have hall := clash_all hd
  generalize hM : 2 ^ d 2 - 1 = M at hall ⊢
  have eM : 2 ^ d 2 = M + 1 := by omega
  have es : f_X3_sets T = some (iN (M + 1)) := by
    rw [f_X3_sets, hk.1.2.2.2.2.1, shl_tab _ (by omega), eM]
  rw [f_X3_fewestLiars, es, Option.bind_some, Option.bind_some, show (iN (M + 1) - 1 : Int32) = iN M from (iN_sub (a := M + 1) (b := 1) (by omega)), eM]
  have step : ∀ n, n ≤ M → (iN (M - n) + (-1) : Int32) = if n = M then -1 else iN (M - (n + 1)) := fun n hn => by
    by_cases e : n = M
    · rw [if_pos e, e, Nat.sub_self]; rfl
    · rw [if_neg e, show (iN (M - n) + (-1) : Int32) = iN (M - n) - iN 1 from (Int32.sub_eq_add_neg ..).symm, iN_sub (by omega)]
      congr 1
  refine iter_run (M + 1) (fun n (φ : Int32 → Int32 → Option Int32) => φ (iN (lfu d M n)) (if n = M + 1 then -1 else iN (M - n)) = some (iN (lfu d M (M + 1)))) (by omega) (fun n F hn h => ?_) (fun F => ?_)
  · rw [if_neg (by omega)]
    obtain ⟨u1, -, -⟩ := lfu_ok d hall n (by omega)
    have s1 := sz_le (M - n)
    have s2 := sz_le (lfu d M n)
    rw [g_X3_fewestLiars_14, if_neg (by rw [show (0 : Int32) = iN 0 from rfl, iN_lt (by omega) (by omega)]; omega), bitc_tab _ (by omega), Option.bind_some, bitc_tab _ (by omega), Option.bind_some]
    have hcl : clash d (M - n) ≤ 12 * d 3 := sm_le (fun t ht => Nat.le_trans (sm_le_n (fun u _ => by unfold clp; split <;> omega)) (by omega))
    have e34 : ∀ b : Int32, f_X3_fewestLiars_34 T Of Fe By F (iN (lfu d M n)) (iN (M - n)) b = if b = 0 then F (iN (lfu d M n)) (if n = M then -1 else iN (M - (n + 1))) else (if clash d (M - n) = 0 then F (iN (M - n)) (if n = M then -1 else iN (M - (n + 1))) else F (iN (lfu d M n)) (if n = M then -1 else iN (M - (n + 1)))) := fun b => by
      rw [f_X3_fewestLiars_34, e3_clashes hd hk (by omega), Option.bind_some, step n (by omega)]
      by_cases hb : b = 0
      · rw [if_pos hb, if_pos hb]
      · rw [if_neg hb, if_neg hb]
        exact ifc (by rw [show (0 : Int32) = iN 0 from rfl, iN_eq (by omega) (by omega)])
    rw [e34, e34, if_pos rfl, if_neg (show ¬ (1 : Int32) = 0 by decide)]
    rw [lfu, show (if n + 1 = M + 1 then (-1 : Int32) else iN (M - (n + 1))) = (if n = M then -1 else iN (M - (n + 1))) from ifc (by omega)] at h
    by_cases q1 : sz (M - n) ≤ sz (lfu d M n)
    · rw [if_neg (by rw [iN_lt (by omega) (by omega)]; omega)]
      by_cases q2 : clash d (M - n) = 0
      · rw [if_pos q2]; rw [if_pos ⟨q1, q2⟩] at h; exact h
      · rw [if_neg q2]; rw [if_neg (fun q => q2 q.2)] at h; exact h
    · rw [if_pos (by rw [iN_lt (by omega) (by omega)]; omega)]
      rw [if_neg (fun q => q1 q.1)] at h; exact h
  · rw [if_pos rfl, g_X3_fewestLiars_14, if_pos (by decide)]
theorem e_liars (hd : dInv d) (hc : mRep d c) (hk : kRep d w T S Li Na By Of Fe Mi) : ∃ b, b < 32 ∧ f_X3_fewestLiars T Of Fe By = some (iN b) ∧ f_X12_liarsNow c = some (iN b) := by
  have hm := hd.many
  have h32 := pow_le hm.1
  have hp : 0 < 2 ^ d 2 := Nat.two_pow_pos _
  have hall := clash_all hd
  have e1 := e3_fewest hd hk
  have e2 := e12_liarsNow hd hc
  obtain ⟨u1, -, -⟩ := lfu_ok d hall (2 ^ d 2) (by omega)
  have e3 := lf_eq d hall
  rw [show 2 ^ d 2 - 1 + 1 = 2 ^ d 2 by omega] at e3
  rw [e3] at e2
  exact ⟨_, by omega, e1, e2⟩
theorem q_liars (hd : dInv d) (hc : mRep d c) (hk : kRep d w T S Li Na By Of Fe Mi) (hs : sR T0 Tm L K) : ∃ v U Um, f_X11_liars T0 T Of Fe By = some (v, U) ∧ f_X12_liars Tm c = some (v, Um) ∧ sR U Um L K := by
  obtain ⟨b, hb, e1, e2⟩ := e_liars hd hc hk
  refine ⟨iN (sz b), upd T0 14 0, upd (upd Tm 1 0) 0 0, ?_, ?_, sR_ok hs⟩
  · rw [f_X11_liars, e1, Option.bind_some, bitc_tab b hb]; rfl
  · rw [f_X12_liars, e2, Option.bind_some, e12_sizeOf hb]; rfl
theorem q_liarSet (hd : dInv d) (hc : mRep d c) (hk : kRep d w T S Li Na By Of Fe Mi) (hs : sR T0 Tm L K) : ∃ v U Um, f_X11_liarSet T0 T Of Fe By = some (v, U) ∧ f_X12_liarSet Tm c = some (v, Um) ∧ sR U Um L K := by
  obtain ⟨b, hb, e1, e2⟩ := e_liars hd hc hk
  refine ⟨iN b, upd T0 14 0, upd (upd Tm 1 0) 0 0, ?_, ?_, sR_ok hs⟩
  · rw [f_X11_liarSet, e1]; rfl
  · rw [f_X12_liarSet, e2]; rfl
end OPS8
