/-! Longs; the two Euclids. -/
def jN (n : Nat) : Int64 := Int64.ofNat n
theorem jN_add (a b : Nat) : jN a + jN b = jN (a + b) := (Int64.ofNat_add a b).symm
theorem jN_mul (a b : Nat) : jN a * jN b = jN (a * b) := (Int64.ofNat_mul a b).symm
theorem jN_sub {a b : Nat} (h : b ≤ a) : jN a - jN b = jN (a - b) := by
  have e : jN a = jN (a - b) + jN b := by rw [jN_add, Nat.sub_add_cancel h]
  rw [e, Int64.add_sub_cancel]
theorem jN_int {a : Nat} (h : a < 9223372036854775808) : (jN a).toInt = (a : Int) := Int64.toInt_ofNat_of_lt h
theorem jN_eq {a b : Nat} (ha : a < 9223372036854775808) (hb : b < 9223372036854775808) : (jN a = jN b) = (a = b) := by
  apply propext
  constructor
  · intro h
    have h1 := congrArg Int64.toInt h
    rw [jN_int ha, jN_int hb] at h1
    exact Int.ofNat.inj h1
  · rintro rfl; rfl
theorem jN_lt {a b : Nat} (ha : a < 9223372036854775808) (hb : b < 9223372036854775808) : (jN a < jN b) = (a < b) := by
  rw [Int64.lt_iff_toInt_lt, jN_int ha, jN_int hb]; exact propext Int.ofNat_lt
theorem jN_le {a b : Nat} (ha : a < 9223372036854775808) (hb : b < 9223372036854775808) : (jN a ≤ jN b) = (a ≤ b) := by
  rw [Int64.le_iff_toInt_le, jN_int ha, jN_int hb]; exact propext Int.ofNat_le
theorem jN_div {a b : Nat} (ha : a < 9223372036854775808) (hb : b < 9223372036854775808) : jN a / jN b = jN (a / b) := by
  apply Int64.toInt_inj.mp
  have h1 : a / b < 9223372036854775808 := Nat.lt_of_le_of_lt (Nat.div_le_self a b) ha
  have hm : jN a ≠ Int64.minValue := fun h => by
    have h2 := congrArg Int64.toInt h
    rw [jN_int ha] at h2
    have h3 : Int64.minValue.toInt = -9223372036854775808 := by decide
    omega
  rw [Int64.toInt_div_of_ne_left _ _ hm, jN_int ha, jN_int hb, jN_int h1]
  rfl
theorem jN_mod {a b : Nat} (ha : a < 9223372036854775808) (hb : b < 9223372036854775808) : jN a - jN a / jN b * jN b = jN (a % b) := by
  have h := Nat.div_add_mod a b
  rw [Nat.mul_comm] at h
  rw [jN_div ha hb, jN_mul, jN_sub (by omega)]
  congr 1
  omega
theorem jN_i {n : Nat} (h : n < 2147483648) : Int32.toInt64 (iN n) = jN n := by
  apply Int64.toInt_inj.mp
  rw [Int32.toInt_toInt64, iN_int h, jN_int (by omega)]
theorem mod_half {y r : Nat} (h0 : 0 < r) (h : r ≤ y) : 2 * (y % r) < y := by
  have h1 := Nat.div_add_mod y r
  have h2 := Nat.mod_lt y h0
  have h3 : 1 ≤ y / r := (Nat.one_le_div_iff h0).mpr h
  have h4 : r * 1 ≤ r * (y / r) := Nat.mul_le_mul_left r h3
  omega
theorem lg_0 {y : Nat} (hy : y < 9223372036854775808) : (lg_cmp (jN y) 0 = 0) = (y = 0) := by
  rw [lg_cmp_eq, show (0 : Int64) = jN 0 from rfl, jN_eq hy (by decide)]
theorem euc11 (x1 x3 : Int64) : ∀ (n x y r m : Nat), x < 9223372036854775808 → y < 9223372036854775808 → y < 2 ^ n → r + (2 * n + 1) ≤ 200 → iter (g_X11_commonDivisor_9 x1 x3) (fun _ _ _ => none) (m + (2 * n + 1)) (jN x) (jN y) (iN r) = some (jN (Nat.gcd x y)) := by
  intro n
  induction n with
  | zero =>
    intro x y r m hx hy h1 h2
    have y0 : y = 0 := by omega
    subst y0
    rw [show m + (2 * 0 + 1) = m + 1 from rfl, iter_succ, g_X11_commonDivisor_9, if_neg (by rw [show (200 : Int32) = iN 200 from rfl, iN_le (by omega) (by omega)]; omega), if_pos (by rw [lg_0 hy]), Nat.gcd_zero_right]
  | succ n ih =>
    intro x y r m hx hy h1 h2
    rw [show m + (2 * (n + 1) + 1) = m + (2 * n + 1) + 1 + 1 by omega, iter_succ, g_X11_commonDivisor_9, if_neg (by rw [show (200 : Int32) = iN 200 from rfl, iN_le (by omega) (by omega)]; omega)]
    by_cases y0 : y = 0
    · subst y0
      rw [if_pos (by rw [lg_0 hy]), Nat.gcd_zero_right]
    · have hr := Nat.mod_lt x (show 0 < y by omega)
      rw [if_neg (by rw [lg_0 hy]; exact y0), ck_y (by rw [decide_eq_true_eq, show (0 : Int64) = jN 0 from rfl, jN_eq hy (by decide)]; exact y0), jN_mod hx hy, show (iN r + 1 : Int32) = iN (r + 1) from iN_add r 1, iter_succ, g_X11_commonDivisor_9, if_neg (by rw [show (200 : Int32) = iN 200 from rfl, iN_le (by omega) (by omega)]; omega)]
      by_cases r0 : x % y = 0
      · rw [if_pos (by rw [lg_0 (by omega)]; exact r0), Nat.gcd_comm, Nat.gcd_rec, r0, Nat.gcd_zero_left]
      · have hh := mod_half (show 0 < x % y by omega) (Nat.le_of_lt hr)
        rw [Nat.pow_succ] at h1
        rw [if_neg (by rw [lg_0 (by omega)]; exact r0), ck_y (by rw [decide_eq_true_eq, show (0 : Int64) = jN 0 from rfl, jN_eq (by omega) (by decide)]; exact r0), jN_mod hy (by omega), show (iN (r + 1) + 1 : Int32) = iN (r + 1 + 1) from iN_add (r + 1) 1, ih (x % y) (y % (x % y)) (r + 1 + 1) m (by omega) (by omega) (by omega) (by omega)]
        rw [Nat.gcd_comm x y, Nat.gcd_rec y x, Nat.gcd_comm (x % y) (y % (x % y)), ← Nat.gcd_rec (x % y) y]
theorem euc12 {a b : Nat} (ha : a < 9223372036854775808) (hb : b < 9223372036854775808) (J J' : Int64) : ∀ (n x y m : Nat), x < 9223372036854775808 → y < 9223372036854775808 → 0 < Nat.gcd x y → y < 2 ^ n → iter (g_X12_fraction_9 (jN a) (jN b)) (fun _ _ _ _ => none) (m + (2 * n + 1)) (jN x) (jN y) J J' = some (1, jN (a / Nat.gcd x y), jN (b / Nat.gcd x y)) := by
  have fin : ∀ g : Nat, g < 9223372036854775808 → 0 < g → ck (decide (¬ (jN g : Int64) = 0)) (ck (decide (¬ (jN g : Int64) = 0)) (some ((1 : Int32), jN a / jN g, jN b / jN g))) = some (1, jN (a / g), jN (b / g)) := fun g hg h0 => by
    have hn : decide (¬ (jN g : Int64) = 0) = true := by
      rw [decide_eq_true_eq, show (0 : Int64) = jN 0 from rfl, jN_eq hg (by decide)]; omega
    rw [ck_y hn, ck_y hn, jN_div ha hg, jN_div hb hg]
  intro n
  induction n with
  | zero =>
    intro x y m hx hy hg h1
    have y0 : y = 0 := by omega
    subst y0
    rw [Nat.gcd_zero_right] at hg ⊢
    rw [show m + (2 * 0 + 1) = m + 1 from rfl, iter_succ, g_X12_fraction_9, if_pos (by rw [lg_0 hy]), fin x hx hg]
  | succ n ih =>
    intro x y m hx hy hg h1
    rw [show m + (2 * (n + 1) + 1) = m + (2 * n + 1) + 1 + 1 by omega, iter_succ, g_X12_fraction_9]
    by_cases y0 : y = 0
    · subst y0
      rw [Nat.gcd_zero_right] at hg ⊢
      rw [if_pos (by rw [lg_0 hy]), fin x hx hg]
    · have hr := Nat.mod_lt x (show 0 < y by omega)
      have eg : Nat.gcd x y = Nat.gcd y (x % y) := by rw [Nat.gcd_comm x y, Nat.gcd_rec y x, Nat.gcd_comm]
      rw [if_neg (by rw [lg_0 hy]; exact y0), ck_y (by rw [decide_eq_true_eq, show (0 : Int64) = jN 0 from rfl, jN_eq hy (by decide)]; exact y0), jN_mod hx hy, iter_succ, g_X12_fraction_9, eg]
      rw [eg] at hg
      by_cases r0 : x % y = 0
      · rw [r0, Nat.gcd_zero_right]
        rw [if_pos (by rw [lg_0 (by decide)]), fin y hy (by omega)]
      · have hh := mod_half (show 0 < x % y by omega) (Nat.le_of_lt hr)
        have eg2 : Nat.gcd y (x % y) = Nat.gcd (x % y) (y % (x % y)) := by rw [Nat.gcd_comm y (x % y), Nat.gcd_rec (x % y) y, Nat.gcd_comm]
        rw [eg2] at hg ⊢
        rw [Nat.pow_succ] at h1
        rw [if_neg (by rw [lg_0 (by omega)]; exact r0), ck_y (by rw [decide_eq_true_eq, show (0 : Int64) = jN 0 from rfl, jN_eq (by omega) (by decide)]; exact r0), jN_mod hy (by omega), ih (x % y) (y % (x % y)) m (by omega) (by omega) hg (by omega)]
/-- both lower a fraction alike -/
theorem q_frac {T : Nat → Int32} {J J' K K' : Int64} {a b : Nat} (ha : a < 9223372036854775808) (hb : b < 9223372036854775808) (h0 : 0 < b) : ∃ p q, f_X11_toldFraction T J J' (jN a) (jN b) = some (1, upd T 14 0, p, q) ∧ f_X12_fraction K K' (jN a) (jN b) = some (1, p, q) := by
  have hg : 0 < Nat.gcd a b := Nat.gcd_pos_of_pos_right a h0
  have hg2 : Nat.gcd a b < 9223372036854775808 := Nat.lt_of_le_of_lt (Nat.gcd_le_right a h0) hb
  have e1 := euc11 (jN a) (jN b) 63 a b 0 (4000000 - 127) ha hb (by omega) (by decide)
  have e2 := euc12 ha hb K K' 63 a b (4000000 - 127) ha hb hg (by omega)
  have hn : decide (¬ (jN (Nat.gcd a b) : Int64) = 0) = true := by
    rw [decide_eq_true_eq, show (0 : Int64) = jN 0 from rfl, jN_eq hg2 (by decide)]; omega
  refine ⟨jN (a / Nat.gcd a b), jN (b / Nat.gcd a b), ?_, ?_⟩
  · have e3 : f_X11_commonDivisor (jN a) (jN b) = some (jN (Nat.gcd a b)) := e1
    rw [f_X11_toldFraction, e3, Option.bind_some, if_neg (by rw [lg_cmp_le, show (0 : Int64) = jN 0 from rfl, jN_le hg2 (by decide)]; omega), ck_y hn, ck_y hn, jN_div ha hg2, jN_div hb hg2]; rfl
  · have e4 : (if 0 < jN a then jN a else -jN a : Int64) = jN a := by
      by_cases h : a = 0
      · subst h; rfl
      · rw [if_pos (by rw [show (0 : Int64) = jN 0 from rfl, jN_lt (by decide) ha]; omega)]
    rw [f_X12_fraction, e4, letv]
    exact e2
