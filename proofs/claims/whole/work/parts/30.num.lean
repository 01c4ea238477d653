/-! Pure part: small numbers as machine ints; loops by their counters. -/
def iN (n : Nat) : Int32 := Int32.ofNat n
theorem iN_add (a b : Nat) : iN a + iN b = iN (a + b) := (Int32.ofNat_add a b).symm
theorem iN_mul (a b : Nat) : iN a * iN b = iN (a * b) := (Int32.ofNat_mul a b).symm
theorem iN_sub {a b : Nat} (h : b ≤ a) : iN a - iN b = iN (a - b) := by
  have e : iN a = iN (a - b) + iN b := by rw [iN_add, Nat.sub_add_cancel h]
  rw [e, Int32.add_sub_cancel]
theorem iN_lit (n : Nat) : (OfNat.ofNat n : Int32) = iN n := rfl
theorem iN_int {a : Nat} (h : a < 2147483648) : (iN a).toInt = (a : Int) := Int32.toInt_ofNat_of_lt h
theorem iN_nn {a : Nat} (h : a < 2147483648) : (iN a).toNatClampNeg = a := by
  show (iN a).toInt.toNat = a
  rw [iN_int h]; rfl
theorem iN_le {a b : Nat} (ha : a < 2147483648) (hb : b < 2147483648) : (iN a ≤ iN b) = (a ≤ b) := by
  rw [Int32.le_iff_toInt_le, iN_int ha, iN_int hb]; exact propext Int.ofNat_le
theorem iN_lt {a b : Nat} (ha : a < 2147483648) (hb : b < 2147483648) : (iN a < iN b) = (a < b) := by
  rw [Int32.lt_iff_toInt_lt, iN_int ha, iN_int hb]; exact propext Int.ofNat_lt
theorem iN_eq {a b : Nat} (ha : a < 2147483648) (hb : b < 2147483648) : (iN a = iN b) = (a = b) := by
  apply propext
  constructor
  · intro h
    have h1 := congrArg Int32.toInt h
    rw [iN_int ha, iN_int hb] at h1
    exact Int.ofNat.inj h1
  · rintro rfl; rfl
theorem iN_gd {a n : Nat} (h : a < n) (hn : n ≤ 2147483648) : gd (iN a) n = true := by
  unfold gd
  rw [iN_int (Nat.lt_of_lt_of_le h hn), Bool.and_eq_true, decide_eq_true_eq, decide_eq_true_eq]
  omega
theorem ck_y {α : Type} {b : Bool} {x : Option α} (h : b = true) : ck b x = x := by rw [h]; rfl
theorem ck_iN {α : Type} {a n : Nat} {x : Option α} (h : a < n) (hn : n ≤ 2147483648) : ck (gd (iN a) n) x = x := ck_y (iN_gd h hn)
theorem iter_run {α : Type} {g : α → α} {z : α} (N : Nat) (R : Nat → α → Prop) (hN : N < 4000000) (hs : ∀ (k : Nat) (F : α), k < N → R (k + 1) F → R k (g F)) (he : ∀ F : α, R N (g F)) : R 0 (iter g z xF) := by
  have key : ∀ (j m k : Nat), k + j = N → R k (iter g z (m + j + 1)) := by
    intro j
    induction j with
    | zero => intro m k h; rw [iter_succ]; rw [show k = N by omega]; exact he _
    | succ j ih => intro m k h; rw [iter_succ]; exact hs k _ (by omega) (ih m (k + 1) (by omega))
  have e : xF = (4000000 - (N + 1)) + N + 1 := by
    show 4000000 = _
    omega
  rw [e]
  exact key N _ 0 (by omega)
/-- how many, and how much, below N -/
def sm (N : Nat) (f : Nat → Nat) : Nat := match N with
  | 0 => 0
  | n + 1 => sm n f + f n
theorem sm_succ (n : Nat) (f : Nat → Nat) : sm (n + 1) f = sm n f + f n := rfl
theorem sm_zero (f : Nat → Nat) : sm 0 f = 0 := rfl
theorem sm_congr {N : Nat} {f g : Nat → Nat} (h : ∀ k, k < N → f k = g k) : sm N f = sm N g := by
  induction N with
  | zero => rfl
  | succ n ih => rw [sm_succ, sm_succ, ih (fun k hk => h k (by omega)), h n (by omega)]
theorem sm_le {N c : Nat} {f : Nat → Nat} (h : ∀ k, k < N → f k ≤ c) : sm N f ≤ c * N := by
  induction N with
  | zero => exact Nat.zero_le _
  | succ n ih => rw [sm_succ, Nat.mul_succ]; exact Nat.add_le_add (ih (fun k hk => h k (by omega))) (h n (by omega))
/-- one or nothing -/
def b1 (p : Bool) : Nat := if p then 1 else 0
/-! the abstract duchy d: its numbers by the offsets 0 rows 1 columns 2 travellers 3 tellings 4 odds 5 harbour 6.. sea 42.. lies 47.. heard 52.. by 64.. of 76.. felt 88.. missed -/
def cells (d : Nat → Nat) : Nat := d 0 * d 1
def hset (d : Nat → Nat) : Nat := sm (d 2) (fun k => d (47 + k) * 2 ^ k)
def tellOf (d : Nat → Nat) (x : Nat) : Nat := sm (d 3) (fun t => if d (64 + t) = x then 1 else 0)
def dInv (d : Nat → Nat) : Prop := (d 0 ≤ 6 ∧ d 1 ≤ 6 ∧ d 2 ≤ 5 ∧ d 3 ≤ 12 ∧ d 4 ≤ 16 ∧ (d 5 = 0 ∨ d 5 < cells d)) ∧ (∀ k, k < 36 → d (6 + k) < 4) ∧ (∀ k, k < 5 → d (42 + k) ≤ 16 ∧ d (47 + k) ≤ 1) ∧ (∀ t, t < d 3 → d (52 + t) < d 2 ∧ d (64 + t) < cells d ∧ d (76 + t) < 4 ∧ d (88 + t) ≤ 9) ∧ ∀ x, tellOf d x ≤ 5
/-- the model's block 0 -/
def mRep (d : Nat → Nat) (c : Nat → Int32) : Prop := ∀ k, k < 100 → c k = iN (d k)
