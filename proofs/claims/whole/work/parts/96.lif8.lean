/-! Lives: whens, loops, stops. -/
section LIF8
variable {T2 De Fi Se Th S Li Pa T0 T V Of By Fe Mi W R P A E Rl : Nat → Int32} {l ln r : Nat}
theorem l_when (h2 : T2 2 = iN ln) (hn : ln ≤ 60) (hl : l < ln) (hd : De l = iN 5 ∨ De l = iN 17 ∨ De l = iN 18 ∨ De l = iN 19) (hP : Pa l = iN r) {z : Int32} {W' : Nat → Int32} (h : f_X5_holds T T2 Fi Se W Of Fe By De (iN l) = some (z, W')) : f_X5_behindStep T0 T T2 De Fi Se Th Of By Fe Mi V W R P A E S Li Rl Pa (iN l) = some (iN (if z = 0 then r + 1 else l + 1), T0, T, Of, By, Fe, Mi, V, W', R, P, A, E, Rl) := by
  have k : f_X5_behindStep T0 T T2 De Fi Se Th Of By Fe Mi V W R P A E S Li Rl Pa (iN l) = f_X5_behindStep_212 T2 De Fi Se Th S Li Pa (iN l) T0 T Of By Fe Mi V W R P A E Rl := by
    rw [f_X5_behindStep, e0_deed h2 hn hl, Option.bind_some]
    rcases hd with e | e | e | e <;> rw [e, if_neg (by decide), if_neg (by decide), if_neg (by decide), if_neg (by decide), if_neg (by decide), if_neg (by decide), if_neg (by decide)]
  rw [k, f_X5_behindStep_212, h, Option.bind_some, e0_partner h2 hn hl, hP]
  by_cases e : z = 0
  · rw [if_pos e, if_pos e, Option.bind_some, show (iN r + 1 : Int32) = iN (r + 1) from iN_add r 1]
  · rw [if_neg e, if_neg e, show (iN l + 1 : Int32) = iN (l + 1) from iN_add l 1]
theorem l_loop (h2 : T2 2 = iN ln) (hn : ln ≤ 60) (hl : l < ln) (hd : De l = iN 20) : f_X5_behindStep T0 T T2 De Fi Se Th Of By Fe Mi V W R P A E S Li Rl Pa (iN l) = some (iN (l + 1), T0, T, Of, By, Fe, Mi, V, W, R, P, A, E, upd Rl l (Fi l - 1)) := by
  rw [f_X5_behindStep, e0_deed h2 hn hl, Option.bind_some, hd, if_neg (by decide), if_neg (by decide), if_neg (by decide), if_neg (by decide), if_neg (by decide), if_pos (by decide), show f_X11_within (iN l) 0 (60 - 1) = _ from e_within_n (iN l) (n := 60) (by decide), if_pos (by rw [inR_iN (by omega)]; omega), Option.bind_some, if_neg (show ¬ (1 : Int32) = 0 by decide), e0_first h2 hn hl, Option.bind_some, ck_iN (by omega) (by omega), iN_nn (by omega), f_X5_behindStep_203, show (iN l + 1 : Int32) = iN (l + 1) from iN_add l 1]
theorem l_stop (h2 : T2 2 = iN ln) (hn : ln ≤ 60) (hl : l < ln) (hd : De l = iN 22) : f_X5_behindStep T0 T T2 De Fi Se Th Of By Fe Mi V W R P A E S Li Rl Pa (iN l) = some (iN ln, T0, T, Of, By, Fe, Mi, V, W, R, P, A, E, Rl) := by
  rw [f_X5_behindStep, e0_deed h2 hn hl, Option.bind_some, hd, if_neg (by decide), if_neg (by decide), if_neg (by decide), if_neg (by decide), if_neg (by decide), if_neg (by decide), if_pos (by decide), h2]
end LIF8
