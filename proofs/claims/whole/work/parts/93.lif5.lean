/-! Lives: whether a test holds. -/
section LIF5
variable {d : Nat → Nat} {w : Nat → Int64} {Na : Nat → Int64} {T T2 S Li By Of Fe Mi De Fi Se c : Nat → Int32} {ln l o : Nat}
theorem l_test (hd : dInv d) (hc : mRep d c) (hk : kRep d w T S Li Na By Of Fe Mi) (h2 : T2 2 = iN ln) (hn : ln ≤ 60) (hl : l < ln) (ho : o + 8 < 1860) (h : yHdV (cells d) (d 2) (fun j => c (o + j)) (De l) (Fi l) (Se l)) (h5 : c o = iN 5) (W0 : Nat → Int32) : ∃ z W', f_X5_holds T T2 Fi Se W0 Of Fe By De (iN l) = some (z, W') ∧ f_X12_holds c (iN o) = some z ∧ (z = 0 ∨ z = 1) := by
  have h36 := hd.c36
  have hm5 := hd.many
  obtain ⟨W, eW, tW⟩ := e7_take hd hk.1 hk.2.2.2.2.2.1 hk.2.2.2.2.2.2.1 hk.2.2.2.2.1 W0 (hset_lt hd)
  have eW' : f_X7_take T W0 Of Fe By (T 5) = some W := by rw [hk.1.2.2.2.2.2.1]; exact eW
  have vl : ∀ x q, votesS d (hset d) x q ≤ 12 := fun x q => by rw [votesS_h hd]; exact votes_le hd x q
  have e1 : (iN o + 1 : Int32) = iN (o + 1) := iN_add o 1
  have e3 : (iN o + 3 : Int32) = iN (o + 3) := iN_add o 3
  have e5 : (iN o + 5 : Int32) = iN (o + 5) := iN_add o 5
  have e6 : (iN o + 6 : Int32) = iN (o + 6) := iN_add o 6
  have e7 : (iN o + 7 : Int32) = iN (o + 7) := iN_add o 7
  have mo : ∀ R, f_X12_holds c (iN o) = R ↔ (if c (o + 5) = 0 then (ck (gd (47 + c (o + 1)) 1860) (if c (Int32.toNatClampNeg (47 + c (o + 1))) = 1 then (some 1) else (some 0))) else (if 3 ≤ c (o + 5) then ((f_X12_knowns c).bind (fun z78 => if c (o + 7) = 60 then (if c (o + 6) ≤ z78 then (some 0) else (some 1)) else (if c (o + 7) = 62 then (if z78 ≤ c (o + 6) then (some 0) else (some 1)) else (if z78 = c (o + 6) then (some 1) else (some 0))))) else ((f_X12_drawn c (c (o + 1))).bind (fun z48 => if c (o + 5) = 1 then (f_X12_holds_68 c (iN o) z48 4) else (f_X12_holds_68 c (iN o) z48 (c (o + 3))))))) = R := fun R => by
    have g : ∀ {A : Type} {i : Nat} (hi : i ≤ 8) (X : Option A), ck (gd (iN (o + i)) 1860) X = X := fun hi X => ck_iN (by omega) (by omega)
    rw [f_X12_holds, e1, e3, e5, e6, e7]
    simp only [g (show 1 ≤ 8 by decide), g (show 3 ≤ 8 by decide), g (show 5 ≤ 8 by decide), g (show 6 ≤ 8 by decide), g (show 7 ≤ 8 by decide), iN_nn (show o + 1 < 2147483648 by omega), iN_nn (show o + 3 < 2147483648 by omega), iN_nn (show o + 5 < 2147483648 by omega), iN_nn (show o + 6 < 2147483648 by omega), iN_nn (show o + 7 < 2147483648 by omega)]
  have co : ∀ R, f_X5_holds T T2 Fi Se W0 Of Fe By De (iN l) = R ↔ (if De l = 5 then ((f_X3_isHeard T (Fi l)).bind (fun z67 => ck (bz z67) (some (z67, W)))) else (if De l = 17 then ((f_X7_drawnAs W (Fi l)).bind (fun z96 => if z96 = Se l then (some (1, W)) else (some (0, W)))) else (if De l = 18 then ((f_X7_drawnAs W (Fi l)).bind (fun z77 => if z77 = 4 then (some (1, W)) else (some (0, W)))) else ((f_X7_knownCells T W).bind (fun z115 => (f_J6_compare_7cf53 z115 (Se l)).bind (fun z120 => if z120 = Fi l then (some (1, W)) else (some (0, W)))))))) = R := fun R => by
    rw [f_X5_holds, e0_first h2 hn hl, Option.bind_some, e0_second h2 hn hl, Option.bind_some, eW', Option.bind_some, e0_deed h2 hn hl, Option.bind_some]
  rcases h with ⟨-, h⟩ | ⟨h, -⟩
  · rcases h with ⟨a1, a2, k, a3, a4, a5⟩ | ⟨a1, a2, x, a3, a4, a5⟩ | ⟨a1, a2, x, q, a3, a4, a5, a6, a7, a8⟩ | ⟨a1, a2, z, v, a3, a4, a5, a6, a7, a8⟩
    · have a2' : c (o + 5) = 0 := a2
      have a5' : c (o + 1) = iN k := a5
      refine ⟨if d (47 + k) = 1 then 1 else 0, W, (co _).mpr ?_, (mo _).mpr ?_, by split <;> simp⟩
      · rw [if_pos (show De l = 5 from a1), a4, e3_isHeard hd hk.1 a3, Option.bind_some]
        split <;> rfl
      · rw [if_pos a2', a5', show (47 + iN k : Int32) = iN (47 + k) from iN_add 47 k, ck_iN (by omega) (by omega), iN_nn (by omega), hc _ (by omega)]
        by_cases e : d (47 + k) = 1
        · rw [if_pos (show iN (d (47 + k)) = (1 : Int32) from congrArg iN e), if_pos e]
        · have := hd.2.2.1 k
          rw [if_neg e]
          split
          · rename_i e9
            exfalso
            have hh := e12_hears hd hc a3 (b := 1) (by decide)
            rw [if_neg e, f_X12_hears, show (47 + iN k : Int32) = iN (47 + k) from iN_add 47 k, ck_iN (by omega) (by omega), iN_nn (by omega), hc _ (by omega), if_pos (show iN (d (47 + k)) = iN 1 from e9)] at hh
            cases hh
          · rfl
    · have a2' : c (o + 5) = iN 1 := a2
      have a5' : c (o + 1) = iN x := a5
      refine ⟨if drawn d x = 4 then 1 else 0, W, (co _).mpr ?_, (mo _).mpr ?_, by split <;> simp⟩
      · rw [a1, if_neg (by decide), if_neg (by decide), if_pos (by decide), a4, e7_drawnAs tW vl (by omega), drawnF_h hd, Option.bind_some]
        by_cases e : drawn d x = 4
        · rw [if_pos (show iN (drawn d x) = (4 : Int32) from congrArg iN e), if_pos e]
        · rw [if_neg (show ¬ iN (drawn d x) = (4 : Int32) from iN_ne (b := 4) (by have := drawn_le hd x; omega) (by decide) e), if_neg e]
      · rw [a2', if_neg (by decide), if_neg (by decide), a5', e12_drawn hd hc (by omega), Option.bind_some, if_pos (show iN 1 = (1 : Int32) from rfl), f_X12_holds_68]
        by_cases e : drawn d x = 4
        · rw [if_pos (show iN (drawn d x) = (4 : Int32) from congrArg iN e), if_pos e]
        · rw [if_neg (show ¬ iN (drawn d x) = (4 : Int32) from iN_ne (b := 4) (by have := drawn_le hd x; omega) (by decide) e), if_neg e]
    · have a2' : c (o + 5) = iN 2 := a2
      have a6' : c (o + 1) = iN x := a6
      have a8' : c (o + 3) = iN q := a8
      refine ⟨if iN (drawn d x) = iN q then 1 else 0, W, (co _).mpr ?_, (mo _).mpr ?_, by split <;> simp⟩
      · rw [a1, if_neg (by decide), if_pos (by decide), a5, a7, e7_drawnAs tW vl (by omega), drawnF_h hd, Option.bind_some]
        split <;> rfl
      · rw [a2', if_neg (by decide), if_neg (by decide), a6', e12_drawn hd hc (by omega), Option.bind_some, if_neg (by decide), a8', f_X12_holds_68]
        split <;> rfl
    · have a2' : c (o + 5) = iN 3 := a2
      have a6' : c (o + 7) = iN z := a6
      have a8' : c (o + 6) = iN v := a8
      have kn : f_X7_knownCells T W = some (iN (cells d - whites d)) := by rw [e7_knownCells hd hk.1 tW, knownS_h hd]
      obtain ⟨K, hK⟩ : ∃ K, K = cells d - whites d := ⟨_, rfl⟩
      have km := e12_knowns hd hc
      rw [← hK] at kn km
      have t1 : (iN v ≤ iN K) = (v ≤ K) := iN_le (by omega) (by omega)
      have t2 : (iN K ≤ iN v) = (K ≤ v) := iN_le (by omega) (by omega)
      have t3 : (iN K = iN v) = (K = v) := iN_eq (by omega) (by omega)
      rcases Nat.lt_trichotomy K v with t | t | t
      · have cm : f_J6_compare_7cf53 (iN K) (iN v) = some (-1) := by rw [f_J6_compare_7cf53, if_neg (by rw [t1]; omega)]
        rcases a3 with rfl | rfl | rfl
        · refine ⟨1, W, (co _).mpr ?_, (mo _).mpr ?_, by decide⟩
          · rw [a1, if_neg (by decide), if_neg (by decide), if_neg (by decide), kn, Option.bind_some, a7, a5, cm, Option.bind_some, if_pos (by decide)]
          · rw [a2', if_neg (by decide), if_pos (by decide), km, Option.bind_some, a6', a8', if_pos (by decide), if_neg (by rw [t1]; omega)]
        · refine ⟨0, W, (co _).mpr ?_, (mo _).mpr ?_, by decide⟩
          · rw [a1, if_neg (by decide), if_neg (by decide), if_neg (by decide), kn, Option.bind_some, a7, a5, cm, Option.bind_some, if_neg (by decide)]
          · rw [a2', if_neg (by decide), if_pos (by decide), km, Option.bind_some, a6', a8', if_neg (by decide), if_neg (by decide), if_neg (by rw [t3]; omega)]
        · refine ⟨0, W, (co _).mpr ?_, (mo _).mpr ?_, by decide⟩
          · rw [a1, if_neg (by decide), if_neg (by decide), if_neg (by decide), kn, Option.bind_some, a7, a5, cm, Option.bind_some, if_neg (by decide)]
          · rw [a2', if_neg (by decide), if_pos (by decide), km, Option.bind_some, a6', a8', if_neg (by decide), if_pos (by decide), if_pos (by rw [t2]; omega)]
      · have cm : f_J6_compare_7cf53 (iN K) (iN v) = some (0) := by rw [f_J6_compare_7cf53, if_pos (by rw [t1]; omega), if_pos (by rw [t3]; omega)]
        rcases a3 with rfl | rfl | rfl
        · refine ⟨0, W, (co _).mpr ?_, (mo _).mpr ?_, by decide⟩
          · rw [a1, if_neg (by decide), if_neg (by decide), if_neg (by decide), kn, Option.bind_some, a7, a5, cm, Option.bind_some, if_neg (by decide)]
          · rw [a2', if_neg (by decide), if_pos (by decide), km, Option.bind_some, a6', a8', if_pos (by decide), if_pos (by rw [t1]; omega)]
        · refine ⟨1, W, (co _).mpr ?_, (mo _).mpr ?_, by decide⟩
          · rw [a1, if_neg (by decide), if_neg (by decide), if_neg (by decide), kn, Option.bind_some, a7, a5, cm, Option.bind_some, if_pos (by decide)]
          · rw [a2', if_neg (by decide), if_pos (by decide), km, Option.bind_some, a6', a8', if_neg (by decide), if_neg (by decide), if_pos (by rw [t3]; omega)]
        · refine ⟨0, W, (co _).mpr ?_, (mo _).mpr ?_, by decide⟩
          · rw [a1, if_neg (by decide), if_neg (by decide), if_neg (by decide), kn, Option.bind_some, a7, a5, cm, Option.bind_some, if_neg (by decide)]
          · rw [a2', if_neg (by decide), if_pos (by decide), km, Option.bind_some, a6', a8', if_neg (by decide), if_pos (by decide), if_pos (by rw [t2]; omega)]
      · have cm : f_J6_compare_7cf53 (iN K) (iN v) = some (1) := by rw [f_J6_compare_7cf53, if_pos (by rw [t1]; omega), if_neg (by rw [t3]; omega)]
        rcases a3 with rfl | rfl | rfl
        · refine ⟨0, W, (co _).mpr ?_, (mo _).mpr ?_, by decide⟩
          · rw [a1, if_neg (by decide), if_neg (by decide), if_neg (by decide), kn, Option.bind_some, a7, a5, cm, Option.bind_some, if_neg (by decide)]
          · rw [a2', if_neg (by decide), if_pos (by decide), km, Option.bind_some, a6', a8', if_pos (by decide), if_pos (by rw [t1]; omega)]
        · refine ⟨0, W, (co _).mpr ?_, (mo _).mpr ?_, by decide⟩
          · rw [a1, if_neg (by decide), if_neg (by decide), if_neg (by decide), kn, Option.bind_some, a7, a5, cm, Option.bind_some, if_neg (by decide)]
          · rw [a2', if_neg (by decide), if_pos (by decide), km, Option.bind_some, a6', a8', if_neg (by decide), if_neg (by decide), if_neg (by rw [t3]; omega)]
        · refine ⟨1, W, (co _).mpr ?_, (mo _).mpr ?_, by decide⟩
          · rw [a1, if_neg (by decide), if_neg (by decide), if_neg (by decide), kn, Option.bind_some, a7, a5, cm, Option.bind_some, if_pos (by decide)]
          · rw [a2', if_neg (by decide), if_pos (by decide), km, Option.bind_some, a6', a8', if_neg (by decide), if_pos (by decide), if_neg (by rw [t2]; omega)]
  · exact absurd (h5.symm.trans h) (by decide)
end LIF5
