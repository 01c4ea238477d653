/-! Calls: oddsThat, likeliest, ask. -/
section BEL2
variable {d : Nat → Nat} {w Na : Nat → Int64} {c T T0 Tm S Li By Of Fe Mi : Nat → Int32} {L : Int32} {K : Int32 × Int32} {J J' M M' : Int64}
theorem e1_weightOf {x q : Nat} {V : Nat → Int64} (hV : wRep d x (d 3) V) (hq : q < 4) : f_X1_weightOf V (iN q) = some (jN (wN d x q (d 3))) := by
  have e := e_isKind (iN q)
  rw [if_pos (by rw [inR_iN (by omega)]; exact hq)] at e
  rw [f_X1_weightOf, e, Option.bind_some, if_neg (by decide), ck_iN hq (by decide), iN_nn (by omega), hV q hq]
theorem q_oddsThat (hd : dInv d) (hc : mRep d c) (hk : kRep d w T S Li Na By Of Fe Mi) (hs : sR T0 Tm L K) (hJ : J = M ∧ J' = M') (x y : Int32) (V : Nat → Int64) : ∃ v U p q W Um, f_X11_oddsThat T0 J J' T V By Of Li Fe x y = some (v, U, p, q, W) ∧ f_X12_oddsThat Tm M M' c x y = some (v, Um, p, q) ∧ sR U Um L K := by
  have h36 := hd.c36
  have e1 := e3_hasCell hd hk.1 x
  have e2 := e12_isCell hd hc x
  have k1 := e_isKind y
  have k2 := e12_isKind y
  obtain ⟨rfl, rfl⟩ := hJ
  by_cases hx : inR x (cells d)
  · rw [if_pos hx] at e1 e2
    obtain ⟨i, hi, rfl⟩ := hx.eq (by omega)
    by_cases hy : inR y 4
    · rw [if_pos hy] at k1 k2
      obtain ⟨q, hq, rfl⟩ := hy.eq (by omega)
      obtain ⟨W, eW, tW⟩ := e1_weigh hd hk (show i < 36 by omega) V
      have hb := wAll_b hd i
      have hb2 := wN_b hd i q
      by_cases h0 : wAll d i = 0
      · refine ⟨0, upd T0 14 9, J, J', W, upd (upd (upd Tm 1 0) 0 0) 0 9, ?_, ?_, sR_no hs⟩
        · rw [f_X11_oddsThat, e1, Option.bind_some, if_neg (by decide), k1, Option.bind_some, if_neg (by decide), eW, Option.bind_some, e1_sum tW, Option.bind_some, if_pos (by rw [lg_0 (by omega)]; exact h0)]; rfl
        · rw [f_X12_oddsThat, e2, Option.bind_some, if_neg (by decide), k2, Option.bind_some, if_neg (by decide), e12_likelyAll hd hc (by omega), Option.bind_some, if_pos (by rw [lg_0 (by omega)]; exact h0)]; rfl
      · obtain ⟨p, r, h1, h2⟩ := q_frac (T := T0) (J := J) (J' := J') (K := J) (K' := J') (a := wN d i q (d 3)) (b := wAll d i) (by omega) (by omega) (by omega)
        refine ⟨1, upd T0 14 0, p, r, W, upd (upd Tm 1 0) 0 0, ?_, ?_, sR_ok hs⟩
        · rw [f_X11_oddsThat, e1, Option.bind_some, if_neg (by decide), k1, Option.bind_some, if_neg (by decide), eW, Option.bind_some, e1_sum tW, Option.bind_some, if_neg (by rw [lg_0 (by omega)]; exact h0), e1_weightOf tW hq, Option.bind_some, Option.bind_some, h1]; rfl
        · rw [f_X12_oddsThat, e2, Option.bind_some, if_neg (by decide), k2, Option.bind_some, if_neg (by decide), e12_likelyAll hd hc (by omega), Option.bind_some, if_neg (by rw [lg_0 (by omega)]; exact h0), e12_likely hd hc (by omega) hq, Option.bind_some, h2]; rfl
    · rw [if_neg hy] at k1 k2
      refine ⟨0, upd T0 14 5, J, J', V, upd (upd (upd Tm 1 0) 0 0) 0 5, ?_, ?_, sR_no hs⟩
      · rw [f_X11_oddsThat, e1, Option.bind_some, if_neg (by decide), k1]; rfl
      · rw [f_X12_oddsThat, e2, Option.bind_some, if_neg (by decide), k2]; rfl
  · rw [if_neg hx] at e1 e2
    refine ⟨0, upd T0 14 2, J, J', V, upd (upd (upd Tm 1 0) 0 0) 0 2, ?_, ?_, sR_no hs⟩
    · rw [f_X11_oddsThat, e1]; rfl
    · rw [f_X12_oddsThat, e2]; rfl
theorem q_likeliest (hd : dInv d) (hc : mRep d c) (hk : kRep d w T S Li Na By Of Fe Mi) (hs : sR T0 Tm L K) (x : Int32) (V : Nat → Int64) : ∃ v U W Um, f_X11_likeliest T0 T V By Of Li Fe x = some (v, U, W) ∧ f_X12_likeliest Tm c x = some (v, Um) ∧ sR U Um L K := by
  have h36 := hd.c36
  have e1 := e3_hasCell hd hk.1 x
  have e2 := e12_isCell hd hc x
  by_cases hx : inR x (cells d)
  · rw [if_pos hx] at e1 e2
    obtain ⟨i, hi, rfl⟩ := hx.eq (by omega)
    obtain ⟨W, eW, tW⟩ := e1_weigh hd hk (show i < 36 by omega) V
    have hb := wAll_b hd i
    by_cases h0 : wAll d i = 0
    · refine ⟨-1, upd T0 14 9, W, upd (upd (upd Tm 1 0) 0 0) 0 9, ?_, ?_, sR_no hs⟩
      · rw [f_X11_likeliest, e1, Option.bind_some, if_neg (by decide), eW, Option.bind_some, e1_sum tW, Option.bind_some, if_pos (by rw [lg_0 (by omega)]; exact h0)]; rfl
      · rw [f_X12_likeliest, e2, Option.bind_some, if_neg (by decide), e12_likelyAll hd hc (by omega), Option.bind_some, if_pos (by rw [lg_0 (by omega)]; exact h0)]; rfl
    · refine ⟨iN (lkl (fun q => wN d i q (d 3)) 3), upd T0 14 0, W, upd (upd Tm 1 0) 0 0, ?_, ?_, sR_ok hs⟩
      · rw [f_X11_likeliest, e1, Option.bind_some, if_neg (by decide), eW, Option.bind_some, e1_sum tW, Option.bind_some, if_neg (by rw [lg_0 (by omega)]; exact h0), e1_likeliest hd tW]; rfl
      · rw [f_X12_likeliest, e2, Option.bind_some, if_neg (by decide), e12_likelyAll hd hc (by omega), Option.bind_some, if_neg (by rw [lg_0 (by omega)]; exact h0), e12_likeliestOf hd hc (by omega)]; rfl
  · rw [if_neg hx] at e1 e2
    refine ⟨-1, upd T0 14 2, V, upd (upd (upd Tm 1 0) 0 0) 0 2, ?_, ?_, sR_no hs⟩
    · rw [f_X11_likeliest, e1]; rfl
    · rw [f_X12_likeliest, e2]; rfl
/-- the cell to ask for among the first k: it, its weight, its sum -/
def asS (d : Nat → Nat) : Nat → Option (Nat × Nat × Nat)
  | 0 => none
  | k + 1 => if wAll d k = 0 then asS d k else match asS d k with
    | none => some (k, wN d k (lkl (fun q => wN d k q (d 3)) 3) (d 3), wAll d k)
    | some (b, t, m) => if wN d k (lkl (fun q => wN d k q (d 3)) 3) (d 3) * m < t * wAll d k then some (k, wN d k (lkl (fun q => wN d k q (d 3)) 3) (d 3), wAll d k) else some (b, t, m)
theorem asS_ok (hd : dInv d) : ∀ k b t m, asS d k = some (b, t, m) → b < k ∧ t ≤ 254803968 ∧ m ≤ 1019215872
  | 0, _, _, _, h => by cases h
  | k + 1, b, t, m, h => by
    have h1 := wN_b hd k (lkl (fun q => wN d k q (d 3)) 3)
    have h2 := wAll_b hd k
    rw [asS] at h
    by_cases h0 : wAll d k = 0
    · rw [if_pos h0] at h
      have := asS_ok hd k b t m h
      exact ⟨by omega, this.2⟩
    · rw [if_neg h0] at h
      cases hl : asS d k with
      | none =>
        rw [hl] at h
        cases h
        exact ⟨by omega, h1, h2⟩
      | some z =>
        obtain ⟨b', t', m'⟩ := z
        rw [hl] at h
        dsimp only at h
        have := asS_ok hd k b' t' m' hl
        split at h
        · cases h; exact ⟨by omega, h1, h2⟩
        · cases h; exact ⟨by omega, this.2⟩
end BEL2
