/-! Calls: top, bottom. -/
theorem q_top {T0 Tm : Nat → Int32} {L : Int32} {K : Int32 × Int32} {J M : Int64} (hs : sR T0 Tm L K) (h : J = M) : ∃ v Um, f_X11_top J = some v ∧ f_X12_top Tm M = some (v, Um) ∧ sR T0 Um L K := by
  subst h
  exact ⟨J, upd Tm 1 0, rfl, rfl, sR_lk hs⟩
theorem q_bottom {T0 Tm : Nat → Int32} {L : Int32} {K : Int32 × Int32} {J M : Int64} (hs : sR T0 Tm L K) (h : J = M) : ∃ v Um, f_X11_bottom J = some v ∧ f_X12_bottom Tm M = some (v, Um) ∧ sR T0 Um L K := by
  subst h
  exact ⟨J, upd Tm 1 0, rfl, rfl, sR_lk hs⟩
/-- the deeds that were kept: the class's row and its flag against the model's -/
theorem q_lived {T0 Tm T5 V Vm : Nat → Int32} {L : Int32} {K : Int32 × Int32} (hs : sR T0 Tm L K) (hK : T5 2 = K.1) (hb : K.1 = 0 ∨ K.1 = 1) (hV : K.1 = 1 → ∀ k, k < 5 → V k = Vm k) (x : Int32) : ∃ v U Um, f_X11_lived T0 T5 V x = some (v, U) ∧ f_X12_lived Tm Vm x = some (v, Um) ∧ sR U Um L K := by
  have e1 := e_within_4 x
  have e2 := e_isIn_4 x
  have h33 : (upd (upd Tm 1 0) 0 0) 33 = K.1 := by
    rw [upd_n (by decide), upd_n (by decide)]; exact hs.2.2.2.2.2
  have hh : f_X5_hasKept T5 = some K.1 := by
    rw [f_X5_hasKept, hK, ck_y (by rcases hb with h | h <;> rw [h] <;> decide)]
  by_cases hx : inR x 5
  · rw [if_pos hx] at e1 e2
    obtain ⟨i, hi, rfl⟩ := hx.eq (by decide)
    rcases hb with hb | hb
    · refine ⟨-1, upd T0 14 8, upd (upd (upd Tm 1 0) 0 0) 0 8, ?_, ?_, sR_no hs⟩
      · rw [f_X11_lived, e1, Option.bind_some, if_neg (by decide), hh, Option.bind_some, if_pos hb]; rfl
      · rw [f_X12_lived, e2, Option.bind_some, if_neg (by decide), h33, if_pos hb]; rfl
    · have hn : ¬ K.1 = 0 := by rw [hb]; decide
      refine ⟨V i, upd T0 14 0, upd (upd Tm 1 0) 0 0, ?_, ?_, sR_ok hs⟩
      · rw [f_X11_lived, e1, Option.bind_some, if_neg (by decide), hh, Option.bind_some, if_neg hn, f_X5_keptDeed, e1, Option.bind_some, if_neg (by decide), ck_iN hi (by decide), iN_nn (by omega)]; rfl
      · rw [f_X12_lived, e2, Option.bind_some, if_neg (by decide), h33, if_neg hn, ck_iN hi (by decide), iN_nn (by omega), hV hb i hi]
  · rw [if_neg hx] at e1 e2
    refine ⟨-1, upd T0 14 5, upd (upd (upd Tm 1 0) 0 0) 0 5, ?_, ?_, sR_no hs⟩
    · rw [f_X11_lived, e1]; rfl
    · rw [f_X12_lived, e2]; rfl
