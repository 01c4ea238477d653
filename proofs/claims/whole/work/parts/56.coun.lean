/-! Whom to hear: what is known by each set. -/
theorem and_tab : ∀ s, s < 32 → ∀ h, h < 32 → (iN s &&& iN h) = iN (s &&& h) := by decide +kernel
section COUN
variable {d : Nat → Nat} {w Na : Nat → Int64} {c T T0 Tm S Li By Of Fe Mi : Nat → Int32} {L : Int32} {K : Int32 × Int32}
theorem e3_sets (hd : dInv d) (hT : tRep d T) : f_X3_sets T = some (iN (2 ^ d 2)) := by
  have hm := hd.many
  rw [f_X3_sets, hT.2.2.2.2.1, shl_tab _ (by omega)]
theorem hset_2 (hd : dInv d) : hset d < 2 ^ d 2 := hs_lt (f := fun k => d (47 + k)) (d 2) (fun k hk => (hd.trav (by have := hd.many; omega)).2)
/-- known by set, for the sets with all that are heard -/
def knR (d : Nat → Nat) (V : Nat → Int32) (n : Nat) : Prop := ∀ s, s < n → s &&& hset d = hset d → V s = iN (knownS d s)
theorem e2_weigh (hd : dInv d) (hk : kRep d w T S Li Na By Of Fe Mi) (V3 V7 : Nat → Int32) : ∃ W Y, f_X2_weigh T V3 Of Fe By V7 = some (W, Y) ∧ knR d Y (2 ^ d 2) := by
  have hm := hd.many
  have h32 := pow_le hm.1
  have hh := hset_2 hd
  have l := iter_run (g := g_X2_weigh_5 T Of Fe By) (z := fun _ _ _ => none) (2 ^ d 2 - hset d) (fun k (φ : Int32 → (Nat → Int32) → (Nat → Int32) → Option ((Nat → Int32) × (Nat → Int32))) => ∀ U Y, knR d Y (hset d + k) → ∃ W Y', φ (iN (hset d + k)) U Y = some (W, Y') ∧ knR d Y' (2 ^ d 2)) (by omega) (fun k F hk9 h => fun U Y hY => ?_) (fun F => fun U Y hY => ?_)
  · obtain ⟨W, Y, h1, h2⟩ := l V3 V7 (fun s hs he => by
      have := Nat.and_le_left (n := s) (m := hset d)
      omega)
    exact ⟨W, Y, by rw [f_X2_weigh, hk.1.2.2.2.2.2.1]; exact h1, h2⟩
  · rw [g_X2_weigh_5, e3_sets hd hk.1, Option.bind_some, if_neg (by rw [iN_le (by omega) (by omega)]; omega), if_neg (by rw [show (32 : Int32) = iN 32 from rfl, iN_le (by omega) (by omega)]; omega), hk.1.2.2.2.2.2.1, and_tab _ (by omega) _ (by omega), show (iN (hset d + k) + 1 : Int32) = iN (hset d + k + 1) from iN_add (hset d + k) 1]
    have hal := Nat.and_le_left (n := hset d + k) (m := hset d)
    by_cases e : (hset d + k) &&& hset d = hset d
    · obtain ⟨W, eW, tW⟩ := e7_take hd hk.1 hk.2.2.2.2.2.1 hk.2.2.2.2.2.2.1 hk.2.2.2.2.1 U (show hset d + k < 32 by omega)
      rw [if_pos (by rw [e]), eW, Option.bind_some, e7_knownCells hd hk.1 tW, Option.bind_some, ck_iN (by omega) (by omega), iN_nn (by omega)]
      refine h W _ (fun s hs he => ?_)
      by_cases e2 : s = hset d + k
      · rw [e2, upd_s]
      · rw [upd_n e2]; exact hY s (by omega) he
    · rw [if_neg (by rw [iN_eq (by omega) (by omega)]; exact e)]
      refine h U Y (fun s hs he => ?_)
      by_cases e2 : s = hset d + k
      · rw [e2] at he; exact absurd he e
      · exact hY s (by omega) he
  · refine ⟨U, Y, ?_, fun s hs he => hY s (by omega) he⟩
    rw [g_X2_weigh_5, e3_sets hd hk.1, Option.bind_some, if_pos (by rw [iN_le (by omega) (by omega)]; omega)]
end COUN
