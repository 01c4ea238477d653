/-! Lives: the model's steps, one by one. -/
abbrev M4 : Type := (Nat → Int32) × (Nat → Int32) × (Nat → Int32) × (Nat → Int32)
abbrev C13 : Type := (Nat → Int32) × (Nat → Int32) × (Nat → Int32) × (Nat → Int32) × (Nat → Int32) × (Nat → Int32) × (Nat → Int32) × (Nat → Int32) × (Nat → Int32) × (Nat → Int32) × (Nat → Int32) × (Nat → Int32) × (Nat → Int32)
def mA (rc : (Nat → Int32) → (Nat → Int32) → (Nat → Int32) → (Nat → Int32) → Int32 → Int32 → Option M4) (x1 x2 : Int32) (N : Nat) (x3 : Int32) (Tm c B2 B3 : Nat → Int32) : Option M4 := iter (g_X12_doAll_2 rc x1 x2) (fun _ _ _ _ _ => none) N x3 Tm c B2 B3
def mW (rc : (Nat → Int32) → (Nat → Int32) → (Nat → Int32) → (Nat → Int32) → Int32 → Int32 → Option M4) (x1 : Int32) (N : Nat) (x2 x4 : Int32) (Tm c B2 B3 : Nat → Int32) : Option M4 := iter (g_X12_doOne_117 rc x1) (fun _ _ _ _ _ _ => none) N x2 x4 Tm c B2 B3
section LIF9
variable {rc : (Nat → Int32) → (Nat → Int32) → (Nat → Int32) → (Nat → Int32) → Int32 → Int32 → Option M4} {x1 x2 : Int32} {N s e v k : Nat} {Tm c B2 B3 Tm' c' B2' B3' : Nat → Int32} {z : Int32}
theorem mo_eq (s : Nat) : (102 + 9 * iN s : Int32) = iN (102 + 9 * s) := (congrArg (fun a => (102 : Int32) + a) (iN_mul 9 s)).trans (iN_add 102 (9 * s))
theorem mo8_eq (s : Nat) : (102 + 9 * iN s + 8 : Int32) = iN (102 + 9 * s + 8) := (congrArg (fun a : Int32 => a + 8) (mo_eq s)).trans (iN_add (102 + 9 * s) 8)
theorem mA_out (s : Nat) : mA rc x1 (iN s) (N + 1) (iN s) Tm c B2 B3 = some (Tm, c, B2, B3) := by
  rw [mA, iter_succ, g_X12_doAll_2, if_pos (Int32.le_refl _)]
theorem mA_over (h : Tm 34 = 1) {x3 : Int32} : mA rc x1 x2 (N + 1) x3 Tm c B2 B3 = some (Tm, c, B2, B3) := by
  rw [mA, iter_succ, g_X12_doAll_2, h, if_neg (show ¬ (1 : Int32) = 0 by decide)]
  split <;> rfl
theorem mA_step (h : Tm 34 = 0) (hs : s < e) (he : e ≤ 30) (h1 : o_X12_doOne rc Tm c B2 B3 (iN s) = some (Tm', c', B2', B3')) : mA rc x1 (iN e) (N + 1) (iN s) Tm c B2 B3 = mA rc x1 (iN e) N (c' (102 + 9 * s + 8)) Tm' c' B2' B3' := by
  rw [mA, iter_succ, g_X12_doAll_2, if_neg (by rw [iN_le (by omega) (by omega)]; omega), if_pos h, h1, Option.bind_some, mo8_eq, ck_iN (by omega) (by omega), iN_nn (by omega)]
  rfl
theorem m1_300 (h : Tm 36 = iN 300) {x : Int32} : o_X12_doOne rc Tm c B2 B3 x = some (upd (upd Tm 34 1) 41 1, c, B2, B3) := by
  rw [o_X12_doOne, h, if_pos (show iN 300 = (300 : Int32) from rfl)]
theorem m1_in {st : Nat} (h : Tm 36 = iN st) (hst : st < 300) (hs : s < 30) : o_X12_doOne rc Tm c B2 B3 (iN s) = (if 5 ≤ c (102 + 9 * s) then (if c (102 + 9 * s) = 5 then ((f_X12_holds c (iN (102 + 9 * s))).bind (fun z83 => if z83 = 0 then (f_X12_doOne_108 rc (iN s) (iN (102 + 9 * s)) (c (102 + 9 * s)) (upd Tm 36 (Tm 36 + 1)) c B2 B3) else ((rc (upd Tm 36 (Tm 36 + 1)) c B2 B3 (iN s + 1) (c (102 + 9 * s + 8))).bind (fun z102 => some (z102.1, z102.2.1, z102.2.2.1, z102.2.2.2))))) else (f_X12_doOne_108 rc (iN s) (iN (102 + 9 * s)) (c (102 + 9 * s)) (upd Tm 36 (Tm 36 + 1)) c B2 B3)) else ((f_X12_does (upd Tm 36 (Tm 36 + 1)) c B2 B3 (iN (102 + 9 * s))).bind (fun z58 => if z58.1 = 0 then (f_X12_doOne_69 rc (iN s) (upd Tm 36 (Tm 36 + 1) 37) 1 z58.2.1 z58.2.2.1 z58.2.2.2.1 z58.2.2.2.2) else (f_X12_doOne_69 rc (iN s) (upd Tm 36 (Tm 36 + 1) 37) 0 z58.2.1 z58.2.2.1 z58.2.2.2.1 z58.2.2.2.2)))) := by
  rw [o_X12_doOne, if_neg (by rw [h]; exact iN_ne (b := 300) (by omega) (by decide) (by omega)), mo_eq, ck_iN (by omega) (by omega), iN_nn (by omega), show (iN (102 + 9 * s) + 8 : Int32) = iN (102 + 9 * s + 8) from iN_add _ 8, iN_nn (by omega)]
  have g : ∀ {A : Type} (X : Option A), ck (gd (iN (102 + 9 * s + 8)) 1860) X = X := fun X => ck_iN (by omega) (by omega)
  simp only [g]
theorem m1_does {st : Nat} (h : Tm 36 = iN st) (hst : st < 300) (hs : s < 30) (hk : c (102 + 9 * s) = iN k) (hk5 : k < 5) (hd : f_X12_does (upd Tm 36 (Tm 36 + 1)) c B2 B3 (iN (102 + 9 * s)) = some (z, Tm', c', B2', B3')) : o_X12_doOne rc Tm c B2 B3 (iN s) = some (upd Tm' 37 (Tm 37 + (if z = 0 then 1 else 0)), c', B2', B3') := by
  rw [m1_in h hst hs, hk, if_neg (by rw [show (5 : Int32) = iN 5 from rfl, iN_le (by omega) (by omega)]; omega), hd, Option.bind_some, upd_n (by decide)]
  by_cases e : z = 0
  · rw [if_pos e, if_pos e]; rfl
  · rw [if_neg e, if_neg e]; rfl
theorem m1_stop {st : Nat} (h : Tm 36 = iN st) (hst : st < 300) (hs : s < 30) (hk : c (102 + 9 * s) = iN 7) : o_X12_doOne rc Tm c B2 B3 (iN s) = some (upd (upd Tm 36 (Tm 36 + 1)) 34 1, c, B2, B3) := by
  rw [m1_in h hst hs, hk, if_pos (by decide), if_neg (by decide), f_X12_doOne_108, if_neg (by decide), if_neg (by decide)]
theorem m1_when {st : Nat} (h : Tm 36 = iN st) (hst : st < 300) (hs : s < 30) (hk : c (102 + 9 * s) = iN 5) (hd : f_X12_holds c (iN (102 + 9 * s)) = some z) : o_X12_doOne rc Tm c B2 B3 (iN s) = if z = 0 then some (upd Tm 36 (Tm 36 + 1), c, B2, B3) else rc (upd Tm 36 (Tm 36 + 1)) c B2 B3 (iN (s + 1)) (c (102 + 9 * s + 8)) := by
  rw [m1_in h hst hs, hk, if_pos (by decide), if_pos (by decide), hd, Option.bind_some]
  by_cases e : z = 0
  · rw [if_pos e, if_pos e, f_X12_doOne_108, if_neg (by decide), if_pos (by decide)]
  · rw [if_neg e, if_neg e, show (iN s + 1 : Int32) = iN (s + 1) from iN_add s 1]
    cases rc (upd Tm 36 (Tm 36 + 1)) c B2 B3 (iN (s + 1)) (c (102 + 9 * s + 8)) <;> rfl
theorem m1_loop {st : Nat} (h : Tm 36 = iN st) (hst : st < 300) (hs : s < 30) (hk : c (102 + 9 * s) = iN 6) : o_X12_doOne rc Tm c B2 B3 (iN s) = mW rc (iN s) xF (iN (102 + 9 * s)) (iN 0) (upd Tm 36 (Tm 36 + 1)) c B2 B3 := by
  rw [m1_in h hst hs, hk, if_pos (by decide), if_neg (by decide), f_X12_doOne_108, if_pos (by decide)]; rfl
theorem mW_out {o : Nat} (ho : o + 8 < 1860) (hv : c (o + 1) = iN v) (hv2 : v < 1000) : mW rc x1 (N + 1) (iN o) (iN v) Tm c B2 B3 = some (Tm, c, B2, B3) := by
  rw [mW, iter_succ, g_X12_doOne_117, show (iN o + 1 : Int32) = iN (o + 1) from iN_add o 1, ck_iN (by omega) (by omega), iN_nn (by omega), hv, if_pos (Int32.le_refl _)]
theorem mW_over {o : Nat} (ho : o + 8 < 1860) (h : Tm 34 = 1) {x4 : Int32} : mW rc x1 (N + 1) (iN o) x4 Tm c B2 B3 = some (Tm, c, B2, B3) := by
  rw [mW, iter_succ, g_X12_doOne_117, show (iN o + 1 : Int32) = iN (o + 1) from iN_add o 1, ck_iN (by omega) (by omega), h, if_neg (show ¬ (1 : Int32) = 0 by decide)]
  split <;> rfl
theorem mW_step {o : Nat} (ho : o + 8 < 1860) (h : Tm 34 = 0) (hv : c (o + 1) = iN v) (hv2 : v < 1000) (hk : k < v) (h1 : rc Tm c B2 B3 (x1 + 1) (c (o + 8)) = some (Tm', c', B2', B3')) : mW rc x1 (N + 1) (iN o) (iN k) Tm c B2 B3 = mW rc x1 N (iN o) (iN (k + 1)) Tm' c' B2' B3' := by
  rw [mW, iter_succ, g_X12_doOne_117, show (iN o + 1 : Int32) = iN (o + 1) from iN_add o 1, ck_iN (by omega) (by omega), iN_nn (by omega), hv, if_neg (by rw [iN_le (by omega) (by omega)]; omega), if_pos h, show (iN o + 8 : Int32) = iN (o + 8) from iN_add o 8, ck_iN (by omega) (by omega), iN_nn (by omega), h1, Option.bind_some, show (iN k + 1 : Int32) = iN (k + 1) from iN_add k 1]
  rfl
end LIF9
