/-! Tokens: bytes, runs, the next token on both sides. -/
def kd (m : Nat) : Nat := if 97 ≤ m ∧ m ≤ 122 then 1 else if 48 ≤ m ∧ m ≤ 57 then 2 else if m = 59 ∨ m = 60 ∨ m = 61 ∨ m = 62 then 3 else 4
def blk (m : Nat) : Bool := m == 10 || m == 32
theorem kd_1 {m : Nat} : kd m = 1 ↔ 97 ≤ m ∧ m ≤ 122 := by
  unfold kd
  constructor
  · intro h
    split at h
    · assumption
    · split at h
      · omega
      · split at h <;> omega
  · intro h; rw [if_pos h]
theorem kd_2 {m : Nat} : kd m = 2 ↔ 48 ≤ m ∧ m ≤ 57 := by
  unfold kd
  constructor
  · intro h
    split at h
    · omega
    · split at h
      · assumption
      · split at h <;> omega
  · intro h; rw [if_neg (by omega), if_pos h]
theorem kd_r (m : Nat) : 1 ≤ kd m ∧ kd m ≤ 4 := by
  unfold kd
  repeat' split
  all_goals omega
theorem t8_blank : ∀ m, m < 256 → f_X8_isBlank (sb m) = some (if blk m = true then 1 else 0) := by decide +kernel
theorem t8_kind : ∀ m, m < 256 → f_X8_kindOf (sb m) = some (iN (kd m)) := by decide +kernel
theorem t_255 : ∀ m, m < 256 → (sb m &&& 255) = iN m := by decide +kernel
theorem t12_l : ∀ m, m < 256 → f_X12_isLetter (iN m) = some (if kd m = 1 then 1 else 0) := by decide +kernel
theorem t12_d : ∀ m, m < 256 → f_X12_isDigit (iN m) = some (if kd m = 2 then 1 else 0) := by decide +kernel
theorem t12_s : ∀ m, m < 256 → 3 ≤ kd m → f_X12_isSignByte (iN m) = some (if kd m = 3 then 1 else 0) := by decide +kernel
theorem sb_lo {m : Nat} (h : m < 128) : sb m = iN m := if_pos h
/-- the text: n bytes, as both sides have them -/
def tX (b : Nat → Nat) (n : Nat) (V Vm : Nat → Int32) : Prop := n ≤ 900 ∧ ∀ k, k < n → b k < 256 ∧ V k = sb (b k) ∧ Vm k = sb (b k)
theorem tX_ex {n m : Nat} {V Vm : Nat → Int32} (hm : m ≤ n) (hn : n ≤ 900) (h1 : bRep n V Vm) (h2 : bOk n V) : ∃ b, tX b m V Vm := by
  refine ⟨fun k => if h : k < n then (h2 k h).choose else 0, by omega, fun k hk => ?_⟩
  have hk2 : k < n := by omega
  dsimp only
  rw [dif_pos hk2]
  have h3 := (h2 k hk2).choose_spec
  exact ⟨h3.1, h3.2, by rw [← h1 k hk2]; exact h3.2⟩
/-- the longest run from p on -/
theorem run_ex (P : Nat → Prop) (n p : Nat) (hp : p ≤ n) : ∃ q, p ≤ q ∧ q ≤ n ∧ (∀ i, p ≤ i → i < q → P i) ∧ ¬ (q < n ∧ P q) := by
  obtain ⟨m, h1, h2⟩ := least_ex (fun q => p ≤ q ∧ ¬ (q < n ∧ P q)) n ⟨hp, fun h => by omega⟩
  have h3 := h2 n ⟨hp, fun h => by omega⟩
  refine ⟨m, h1.1, h3, fun i hi hl => ?_, h1.2⟩
  apply Classical.byContradiction
  intro h4
  have := h2 i ⟨hi, fun h => h4 h.2⟩
  omega
/-- a token from p to q of kind k, looked for from q0 on -/
def nxT (b : Nat → Nat) (n q0 p q k : Nat) : Prop := (q0 ≤ p ∧ p ≤ n ∧ ∀ i, q0 ≤ i → i < p → blk (b i) = true) ∧ ((p = n ∧ k = 0 ∧ q = n) ∨ (p < n ∧ ¬ blk (b p) = true ∧ p < q ∧ q ≤ n ∧ ((kd (b p) = 1 ∧ k = 1 ∧ (∀ i, p ≤ i → i < q → kd (b i) = 1) ∧ ¬ (q < n ∧ kd (b q) = 1)) ∨ (kd (b p) = 2 ∧ k = (if q - p ≤ 4 then 2 else 4) ∧ (∀ i, p ≤ i → i < q → kd (b i) = 2) ∧ ¬ (q < n ∧ kd (b q) = 2)) ∨ (3 ≤ kd (b p) ∧ k = kd (b p) ∧ q = p + 1))))
theorem nxT_ex (b : Nat → Nat) {n q0 : Nat} (h : q0 ≤ n) : ∃ p q k, nxT b n q0 p q k := by
  obtain ⟨p, p1, p2, p3, p4⟩ := run_ex (fun i => blk (b i) = true) n q0 h
  by_cases e : p = n
  · exact ⟨p, n, 0, ⟨p1, p2, p3⟩, Or.inl ⟨e, rfl, rfl⟩⟩
  · have hb : ¬ blk (b p) = true := fun h => p4 ⟨by omega, h⟩
    have hk := kd_r (b p)
    rcases (show kd (b p) = 1 ∨ kd (b p) = 2 ∨ 3 ≤ kd (b p) by omega) with g | g | g
    · obtain ⟨q, q1, q2, q3, q4⟩ := run_ex (fun i => kd (b i) = 1) n p p2
      have : ¬ p = q := fun e2 => q4 (by rw [← e2]; exact ⟨by omega, g⟩)
      exact ⟨p, q, 1, ⟨p1, p2, p3⟩, Or.inr ⟨by omega, hb, by omega, q2, Or.inl ⟨g, rfl, q3, q4⟩⟩⟩
    · obtain ⟨q, q1, q2, q3, q4⟩ := run_ex (fun i => kd (b i) = 2) n p p2
      have : ¬ p = q := fun e2 => q4 (by rw [← e2]; exact ⟨by omega, g⟩)
      exact ⟨p, q, _, ⟨p1, p2, p3⟩, Or.inr ⟨by omega, hb, by omega, q2, Or.inr (Or.inl ⟨g, rfl, q3, q4⟩)⟩⟩
    · exact ⟨p, p + 1, _, ⟨p1, p2, p3⟩, Or.inr ⟨by omega, hb, by omega, by omega, Or.inr (Or.inr ⟨g, rfl, rfl⟩)⟩⟩
/-- a word's code, letter by letter; a number, digit by digit -/
def cdw (b : Nat → Nat) (p : Nat) : Nat → Nat
  | 0 => 0
  | i + 1 => cdw b p i * 32 + (b (p + i) - 96)
def nvw (b : Nat → Nat) (p : Nat) : Nat → Nat
  | 0 => 0
  | i + 1 => nvw b p i * 10 + (b (p + i) - 48)
/-- the codes of the language's words -/
def wcd : Nat → Nat
  | 0 => 18935
  | 1 => 495763
  | 2 => 8642444978
  | 3 => 22610525434034
  | 4 => 402611
  | 5 => 8554052
  | 6 => 671108
  | 7 => 446287012
  | 8 => 99725
  | 9 => 201778
  | 10 => 21136979
  | 11 => 632040
  | 12 => 267314
  | 13 => 217652404
  | 14 => 623916
  | 15 => 1497
  | 16 => 762030
  | 17 => 4785902
  | 18 => 24389253
  | 19 => 12009198
  | 20 => 409072
  | 21 => 5572
  | 22 => 643568
  | _ => 0
def cOk (V : Nat → Int64) : Prop := ∀ w, w < 23 → V w = jN (wcd w)
/-- the first word of the language with a code -/
def wix (c : Nat) : Nat → Nat
  | 0 => 0
  | w + 1 => if wix c w < w then wix c w else if wcd w = c then w else w + 1
theorem wix_le (c : Nat) : ∀ n, wix c n ≤ n
  | 0 => Nat.le_refl _
  | n + 1 => by
    have := wix_le c n
    rw [wix]
    repeat' split
    all_goals omega
/-- the code that a word of the class has -/
def ccd (b : Nat → Nat) (p q : Nat) : Nat := if q - p ≤ 12 then cdw b p (q - p) else 0
