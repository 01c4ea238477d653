/-! Calls: top, bottom. -/
theorem q_top {T0 Tm : Nat → Int32} {L K : Int32} {J M : Int64} (hs : sR T0 Tm L K) (h : J = M) : ∃ v Um, f_X11_top J = some v ∧ f_X12_top Tm M = some (v, Um) ∧ sR T0 Um L K := by
  subst h
  exact ⟨J, upd Tm 1 0, rfl, rfl, sR_lk hs⟩
theorem q_bottom {T0 Tm : Nat → Int32} {L K : Int32} {J M : Int64} (hs : sR T0 Tm L K) (h : J = M) : ∃ v Um, f_X11_bottom J = some v ∧ f_X12_bottom Tm M = some (v, Um) ∧ sR T0 Um L K := by
  subst h
  exact ⟨J, upd Tm 1 0, rfl, rfl, sR_lk hs⟩
