/-! Calls: swear. -/
/-- one more captain: how many of 16 ^ n as likely ways have i swear -/
def swW (o : Nat) : Nat → Nat → Nat
  | 0, i => if i = 0 then 1 else 0
  | n + 1, 0 => swW o n 0 * (16 - o)
  | n + 1, i + 1 => swW o n (i + 1) * (16 - o) + swW o n i * o
def swK (f : Nat → Nat) (k : Nat) : Nat → Nat
  | 0 => 0
  | n + 1 => swK f k n + f (k + n)
section SWR
variable {d : Nat → Nat} {w Na : Nat → Int64} {c T T0 Tm S Li By Of Fe Mi : Nat → Int32} {L : Int32} {K : Int32 × Int32} {J J' M M' : Int64}
theorem swW_sum (o : Nat) (ho : o ≤ 16) : ∀ n, ∀ m, sm m (swW o n) ≤ 16 ^ n
  | 0, m => by
    have h : ∀ m, sm m (swW o 0) ≤ 1 ∧ (m = 0 → sm m (swW o 0) = 0) := fun m => by
      induction m with
      | zero => exact ⟨Nat.zero_le _, fun _ => rfl⟩
      | succ m ih =>
        rw [sm_succ, swW]
        by_cases e : m = 0
        · rw [if_pos e, ih.2 e]; exact ⟨by omega, fun h => by omega⟩
        · rw [if_neg e]; exact ⟨by omega, fun h => by omega⟩
    exact (h m).1
  | n + 1, m => by
    have key : ∀ m, sm (m + 1) (swW o (n + 1)) = sm (m + 1) (swW o n) * (16 - o) + sm m (swW o n) * o := fun m => by
      induction m with
      | zero =>
        rw [sm_succ, sm_succ, sm_zero, sm_zero, swW, Nat.zero_add, Nat.zero_add, Nat.zero_mul, Nat.add_zero]
      | succ m ih =>
        rw [sm_succ, ih, sm_succ (m + 1) (swW o n), sm_succ m (swW o n), swW, Nat.add_mul, Nat.add_mul, Nat.add_mul]
        rw [Nat.add_mul]
        omega
    cases m with
    | zero => exact Nat.zero_le _
    | succ m =>
      have h1 := swW_sum o ho n (m + 1)
      have h2 := swW_sum o ho n m
      rw [key, Nat.pow_succ]
      have h3 := Nat.mul_le_mul_right (16 - o) h1
      have h4 := Nat.mul_le_mul_right o h2
      have h5 : 16 ^ n * (16 - o) + 16 ^ n * o = 16 ^ n * 16 := by
        rw [← Nat.mul_add]; congr 1; omega
      omega
theorem swK_le {f : Nat → Nat} {B : Nat} (k : Nat) (h : ∀ m, sm m f ≤ B) (n : Nat) : swK f k n ≤ B := by
  have e : ∀ n, sm k f + swK f k n = sm (k + n) f := fun n => by
    induction n with
    | zero => rfl
    | succ n ih => rw [swK, ← Nat.add_assoc, ih]; rfl
  have := e n
  have := h (k + n)
  omega
end SWR
