/-! Lives: the class's loop, line by line. -/
def lK (T3 De Fi Se Th S Li Pa : Nat → Int32) (x2 : Int32) (i st : Nat) (x : Int32) (T0 T1 V2 Of By Fe Mi W R P A E Rl : Nat → Int32) : Option (Int32 × (Nat → Int32) × (Nat → Int32) × (Nat → Int32) × (Nat → Int32) × (Nat → Int32) × (Nat → Int32) × (Nat → Int32) × (Nat → Int32) × (Nat → Int32) × (Nat → Int32) × (Nat → Int32) × (Nat → Int32) × (Nat → Int32)) := iter (g_X5_pass_27 T3 De Fi Se Th S Li Pa x2) (fun _ _ _ _ _ _ _ _ _ _ _ _ _ _ _ _ => none) (4000000 - i) (iN st) x (iN i) T0 T1 V2 Of By Fe Mi W R P A E Rl
section LIF7
variable {T3 De Fi Se Th S Li Pa T0 T1 V2 Of By Fe Mi W R P A E Rl : Nat → Int32} {x2 : Int32} {i st l ln : Nat}
theorem lK_end (h2 : T3 2 = iN ln) (hn : ln ≤ 60) (hi : i < 1000000) : lK T3 De Fi Se Th S Li Pa x2 i st (iN ln) T0 T1 V2 Of By Fe Mi W R P A E Rl = some (iN st, T0, T1, V2, Of, By, Fe, Mi, W, R, P, A, E, Rl) := by
  unfold lK
  rw [show 4000000 - i = (4000000 - (i + 1)) + 1 by omega, iter_succ, g_X5_pass_27, if_neg (by rw [show (1000000 : Int32) = iN 1000000 from rfl, iN_le (by omega) (by omega)]; omega), e0_hasno h2 hn, Option.bind_some, if_pos rfl]
theorem lK_300 (h2 : T3 2 = iN ln) (hn : ln ≤ 60) (hl : l < ln) (hi : i < 1000000) (hd : ¬ De l = 21) : lK T3 De Fi Se Th S Li Pa x2 i 300 (iN l) T0 T1 V2 Of By Fe Mi W R P A E Rl = some (iN 300, T0, T1, upd V2 4 1, Of, By, Fe, Mi, W, R, P, A, E, Rl) := by
  unfold lK
  rw [show 4000000 - i = (4000000 - (i + 1)) + 1 by omega, iter_succ, g_X5_pass_27, if_neg (by rw [show (1000000 : Int32) = iN 1000000 from rfl, iN_le (by omega) (by omega)]; omega), e0_has h2 hn hl, Option.bind_some, if_neg (show ¬ (1 : Int32) = 0 by decide), e0_deed h2 hn hl, Option.bind_some, if_neg hd, if_pos (by decide), ck_y (by decide)]
  rfl
theorem lK_step (h2 : T3 2 = iN ln) (hn : ln ≤ 60) (hl : l < ln) (hi : i < 1000000) (hst : st < 300) (hd : ¬ De l = 21) : lK T3 De Fi Se Th S Li Pa x2 i st (iN l) T0 T1 V2 Of By Fe Mi W R P A E Rl = (f_X5_behindStep T0 T1 T3 De Fi Se Th Of By Fe Mi V2 W R P A E S Li Rl Pa (iN l)).bind (fun z82 => lK T3 De Fi Se Th S Li Pa x2 (i + 1) (st + 1) z82.1 z82.2.1 z82.2.2.1 z82.2.2.2.2.2.2.2.1 z82.2.2.2.1 z82.2.2.2.2.1 z82.2.2.2.2.2.1 z82.2.2.2.2.2.2.1 z82.2.2.2.2.2.2.2.2.1 z82.2.2.2.2.2.2.2.2.2.1 z82.2.2.2.2.2.2.2.2.2.2.1 z82.2.2.2.2.2.2.2.2.2.2.2.1 z82.2.2.2.2.2.2.2.2.2.2.2.2.1 z82.2.2.2.2.2.2.2.2.2.2.2.2.2) := by
  unfold lK
  rw [show 4000000 - i = (4000000 - (i + 1)) + 1 by omega, iter_succ, g_X5_pass_27, if_neg (by rw [show (1000000 : Int32) = iN 1000000 from rfl, iN_le (by omega) (by omega)]; omega), e0_has h2 hn hl, Option.bind_some, if_neg (show ¬ (1 : Int32) = 0 by decide), e0_deed h2 hn hl, Option.bind_some, if_neg hd, if_neg (by rw [show (300 : Int32) = iN 300 from rfl, iN_le (by omega) (by omega)]; omega), show (iN st + 1 : Int32) = iN (st + 1) from iN_add st 1, show (iN i + 1 : Int32) = iN (i + 1) from iN_add i 1]
theorem lK_close (h2 : T3 2 = iN ln) (hn : ln ≤ 60) (hl : l < ln) (hi : i < 1000000) (hd : De l = 21) {l0 : Nat} (hP : Pa l = iN l0) (h0 : l0 < ln) : lK T3 De Fi Se Th S Li Pa x2 i st (iN l) T0 T1 V2 Of By Fe Mi W R P A E Rl = if De l0 = 20 ∧ ¬ Rl l0 ≤ 0 then lK T3 De Fi Se Th S Li Pa x2 (i + 1) st (iN (l0 + 1)) T0 T1 V2 Of By Fe Mi W R P A E (upd Rl l0 (Rl l0 - 1)) else lK T3 De Fi Se Th S Li Pa x2 (i + 1) st (iN (l + 1)) T0 T1 V2 Of By Fe Mi W R P A E Rl := by
  have cb : f_X5_behindEnd T3 Pa De Rl (iN l) = if De l0 = 20 ∧ ¬ Rl l0 ≤ 0 then some (iN (l0 + 1), upd Rl l0 (Rl l0 - 1)) else some (iN (l + 1), Rl) := by
    have r66 : f_X5_behindEnd_66 T3 Pa De (iN l) Rl = some (iN (l + 1), Rl) := by rw [f_X5_behindEnd_66, show (iN l + 1 : Int32) = iN (l + 1) from iN_add l 1]
    rw [f_X5_behindEnd, e0_partner h2 hn hl, Option.bind_some, hP, e0_deed h2 hn h0, Option.bind_some]
    by_cases e : De l0 = 20
    · rw [if_pos e, show f_X11_within (iN l0) 0 (60 - 1) = _ from e_within_n (iN l0) (n := 60) (by decide), if_pos (by rw [inR_iN (by omega)]; omega), Option.bind_some, if_neg (show ¬ (1 : Int32) = 0 by decide), f_X5_behindEnd_36, if_neg (show ¬ (1 : Int32) = 0 by decide), ck_iN (by omega) (by omega), iN_nn (by omega)]
      by_cases e2 : Rl l0 ≤ 0
      · rw [if_pos e2, r66, if_neg (fun h => h.2 e2)]
      · rw [if_neg e2, if_pos ⟨e, e2⟩, ck_iN (by omega) (by omega), ck_iN (by omega) (by omega), show (iN l0 + 1 : Int32) = iN (l0 + 1) from iN_add l0 1]
    · rw [if_neg e, if_neg (fun h => e h.1), f_X5_behindEnd_35, f_X5_behindEnd_36, if_pos rfl, r66]
  unfold lK
  rw [show 4000000 - i = (4000000 - (i + 1)) + 1 by omega, iter_succ, g_X5_pass_27, if_neg (by rw [show (1000000 : Int32) = iN 1000000 from rfl, iN_le (by omega) (by omega)]; omega), e0_has h2 hn hl, Option.bind_some, if_neg (show ¬ (1 : Int32) = 0 by decide), e0_deed h2 hn hl, Option.bind_some, if_pos hd, cb, show (iN i + 1 : Int32) = iN (i + 1) from iN_add i 1]
  by_cases e : De l0 = 20 ∧ ¬ Rl l0 ≤ 0
  · rw [if_pos e, if_pos e]; rfl
  · rw [if_neg e, if_neg e]; rfl
end LIF7
