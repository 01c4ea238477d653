/-! Ways: what lies beside; the model's costs. -/
def bes (W a b : Nat) : Bool := if a / W = b / W then decide ((if b ≤ a then a - b else b - a) = 1) else decide ((if b ≤ a then a - b else b - a) = W)
def nbr (W N a s : Nat) : Option Nat := match s with
  | 0 => if W ≤ a then some (a - W) else none
  | 1 => if 0 < a % W then some (a - 1) else none
  | 2 => if a % W + 1 < W ∧ a + 1 < N then some (a + 1) else none
  | _ => if a + W < N then some (a + W) else none
def nbB (W N a b : Nat) : Bool := (nbr W N a 0 == some b) || (nbr W N a 1 == some b) || (nbr W N a 2 == some b) || (nbr W N a 3 == some b)
theorem bes_tb : ∀ H, H < 7 → ∀ W, W < 7 → ∀ a, a < H * W → ∀ b, b < H * W → bes W a b = nbB W (H * W) a b := by decide +kernel
theorem bes_tab {H W a b : Nat} (hH : H < 7) (hW : W < 7) (ha : a < H * W) (hb : b < H * W) : bes W a b = true ↔ ∃ s, s < 4 ∧ nbr W (H * W) a s = some b := by
  rw [bes_tb H hH W hW a ha b hb]
  unfold nbB
  simp only [Bool.or_eq_true, beq_iff_eq]
  constructor
  · rintro (((h | h) | h) | h)
    · exact ⟨0, by omega, h⟩
    · exact ⟨1, by omega, h⟩
    · exact ⟨2, by omega, h⟩
    · exact ⟨3, by omega, h⟩
  · rintro ⟨s, hs, h⟩
    rcases (show s = 0 ∨ s = 1 ∨ s = 2 ∨ s = 3 by omega) with rfl | rfl | rfl | rfl
    · exact Or.inl (Or.inl (Or.inl h))
    · exact Or.inl (Or.inl (Or.inr h))
    · exact Or.inl (Or.inr h)
    · exact Or.inr h
theorem nbr_lt {W N a s b : Nat} (hW : 0 < W) (ha : a < N) (h : nbr W N a s = some b) : b < N := by
  unfold nbr at h
  split at h <;> split at h <;> first | (injection h with h; omega) | cases h
theorem nbr_mono {W N a s s2 b b2 : Nat} (hW : 0 < W) (h : nbr W N a s = some b) (h2 : nbr W N a s2 = some b2) (hs : s < s2) (hs2 : s2 < 4) : b < b2 := by
  have hm1 := Nat.mod_lt a hW
  have hm2 := Nat.mod_le a W
  rcases (show s = 0 ∨ s = 1 ∨ s = 2 by omega) with rfl | rfl | rfl <;> rcases (show s2 = 1 ∨ s2 = 2 ∨ s2 = 3 by omega) with rfl | rfl | rfl <;> first | omega | skip
  all_goals
    simp only [nbr] at h h2
    split at h
    · split at h2
      · injection h with h; injection h2 with h2; omega
      · cases h2
    · cases h
theorem abs_tab : ∀ a, a < 36 → ∀ b, b < 36 → (if (0 : Int32) ≤ iN a - iN b then iN a - iN b else 0 - (iN a - iN b)) = iN (if b ≤ a then a - b else b - a) := by decide +kernel
theorem subneg_tab : ∀ a, a < 6 → ∀ b, b < 7 → a < b → iN a - iN b < 0 := by decide +kernel
theorem riskF_le {f : Nat → Nat} : riskF f ≤ 16 := by
  unfold riskF
  have hs : f 1 ≤ sm 4 f := by
    rw [sm_succ, sm_succ, sm_succ, sm_succ, sm_zero]; omega
  repeat' split
  · exact Nat.le_refl _
  · decide
  · exact Nat.div_le_of_le_mul (by omega)
theorem riskF_16 {f : Nat → Nat} : riskF f = 16 ↔ drawnF f = 1 := by
  unfold riskF
  by_cases h1 : drawnF f = 1
  · rw [if_pos h1]; exact ⟨fun _ => h1, fun _ => rfl⟩
  · rw [if_neg h1]
    refine ⟨fun h => ?_, fun h => absurd h h1⟩
    by_cases h4 : drawnF f = 4
    · rw [if_pos h4] at h; omega
    · rw [if_neg h4] at h
      have hp := drawnF_pos h4
      have h5 : 16 * sm 4 f ≤ 16 * f 1 := by
        have := Nat.div_mul_le_self (16 * f 1) (sm 4 f)
        rw [h] at this; exact this
      rw [sm_succ, sm_succ, sm_succ, sm_succ, sm_zero] at h5 hp
      have e0 : f 0 = 0 := by omega
      have e2 : f 2 = 0 := by omega
      have e3 : f 3 = 0 := by omega
      have e1 : 0 < f 1 := by omega
      have en : ¬ 0 = f 1 := by omega
      simp [drawnF, drS, e0, e2, e3, e1, en]
theorem risk_le (d : Nat → Nat) (x : Nat) : risk d x ≤ 16 := riskF_le
def wAr (d : Nat → Nat) (a b : Nat) : Prop := a < cells d ∧ b < cells d ∧ bes (d 1) a b = true ∧ risk d b ≤ 15
theorem wAr_64 {d : Nat → Nat} (hd : dInv d) : wA (wAr d) (risk d) (cells d) 64 1000000 := by
  have h36 := hd.c36
  exact ⟨fun a b h => ⟨h.1, h.2.1, h.2.2.2⟩, by omega⟩
theorem wAr_100 {d : Nat → Nat} (hd : dInv d) : wA (wAr d) (risk d) (cells d) 100 99999999 := by
  have h36 := hd.c36
  exact ⟨fun a b h => ⟨h.1, h.2.1, h.2.2.2⟩, by omega⟩
theorem wI_le {A : Nat → Nat → Prop} {R V : Nat → Nat} {t N u I n m : Nat} (h : wI A R t N u I n V) (hm : m ≤ n) : wI A R t N u I m V := ⟨h.1, fun k hk => h.2 k (by omega)⟩
/-- an array's first N numbers -/
def vRep (N : Nat) (V : Nat → Nat) (U : Nat → Int32) : Prop := ∀ k, k < N → U k = iN (V k)
theorem vRep_upd {N k x : Nat} {V : Nat → Nat} {U : Nat → Int32} (h : vRep N V U) : vRep N (updN V k x) (upd U k (iN x)) := fun j hj => by
  unfold updN upd
  by_cases e : j = k
  · rw [if_pos e, if_pos e]
  · rw [if_neg e, if_neg e]; exact h j hj
theorem iN_ne {a b : Nat} (ha : a < 2147483648) (hb : b < 2147483648) (h : ¬ a = b) : ¬ iN a = iN b := by rw [iN_eq ha hb]; exact h
section WAY2
variable {d : Nat → Nat} {c T A2 : Nat → Int32}
theorem cells_pos {d : Nat → Nat} {a : Nat} (ha : a < cells d) : 0 < d 1 ∧ 0 < d 0 := by
  unfold cells at ha
  constructor
  · refine Nat.pos_of_ne_zero (fun h => ?_)
    rw [h, Nat.mul_zero] at ha; omega
  · refine Nat.pos_of_ne_zero (fun h => ?_)
    rw [h, Nat.zero_mul] at ha; omega
theorem e12_beside (hd : dInv d) (hc : mRep d c) {a b : Nat} (ha : a < cells d) (hb : b < cells d) : f_X12_areBeside c (iN a) (iN b) = some (if bes (d 1) a b = true then 1 else 0) := by
  have h36 := hd.c36
  have hp := (cells_pos ha).1
  have h6 := hd.1.2.1
  have nz : decide (¬ iN (d 1) = 0) = true := by
    rw [decide_eq_true_eq, show (0 : Int32) = iN 0 from rfl, iN_eq (by omega) (by omega)]; omega
  have hda := Nat.div_le_self a (d 1)
  have hdb := Nat.div_le_self b (d 1)
  rw [f_X12_areBeside, ck_y (show gd 1 1860 = true by decide), show (1 : Int32).toNatClampNeg = 1 by decide, hc 1 (by omega), ck_y nz, ck_y nz, iN_div (by omega) (by omega), iN_div (by omega) (by omega), letv, letv, abs_tab a (by omega) b (by omega)]
  unfold bes
  have hq : (if b ≤ a then a - b else b - a) < 36 := by split <;> omega
  by_cases q : a / d 1 = b / d 1
  · rw [if_pos (by rw [iN_eq (by omega) (by omega)]; exact q), if_pos q]
    by_cases q2 : (if b ≤ a then a - b else b - a) = 1
    · rw [if_pos (show iN (if b ≤ a then a - b else b - a) = (1 : Int32) from congrArg iN q2), if_pos (decide_eq_true q2)]
    · rw [if_neg (show ¬ iN (if b ≤ a then a - b else b - a) = (1 : Int32) from iN_ne (by omega) (by decide) q2), if_neg (fun h => q2 (of_decide_eq_true h))]
  · rw [if_neg (by rw [iN_eq (by omega) (by omega)]; exact q), if_neg q]
    by_cases q2 : (if b ≤ a then a - b else b - a) = d 1
    · rw [if_pos (show iN (if b ≤ a then a - b else b - a) = iN (d 1) by rw [q2]), if_pos (decide_eq_true q2)]
    · rw [if_neg (show ¬ iN (if b ≤ a then a - b else b - a) = iN (d 1) by rw [iN_eq (by omega) (by omega)]; exact q2), if_neg (fun h => q2 (of_decide_eq_true h))]
theorem e12_costOf (hd : dInv d) (h2 : vRep (cells d) (risk d) A2) {b : Nat} (hb : b < cells d) : f_X12_costOf A2 (iN b) = some (iN (100 * risk d b + 1)) := by
  have h36 := hd.c36
  rw [f_X12_costOf, ck_iN (by omega) (by omega), iN_nn (by omega), h2 b hb, show (100 : Int32) = iN 100 from rfl, iN_mul, show (1 : Int32) = iN 1 from rfl, iN_add]
/-- the rounds -/
theorem e12_rounds (hd : dInv d) (hc : mRep d c) (h2 : vRep (cells d) (risk d) A2) {t : Nat} {V : Nat → Nat} {A3 : Nat → Int32} (h3 : vRep (cells d) V A3) (x1 : Int32) (h : wI (wAr d) (risk d) t (cells d) 100 99999999 0 V) : ∃ A4 V4, f_X12_laysWay_68 c x1 xF 1 0 A2 A3 = some (A2, A4) ∧ vRep (cells d) V4 A4 ∧ wF (wAr d) (risk d) t (cells d) 100 99999999 V4 := by
  have h36 := hd.c36
  have hA := wAr_100 hd
  have l := iter_run (g := g_X12_laysWay_68 c x1) (z := fun _ _ _ _ => none) 36 (fun n (φ : Int32 → Int32 → (Nat → Int32) → (Nat → Int32) → Option ((Nat → Int32) × (Nat → Int32))) => ∀ (f : Int32) A3 V, vRep (cells d) V A3 → wI (wAr d) (risk d) t (cells d) 100 99999999 (min n (cells d)) V → (f = 0 → wF (wAr d) (risk d) t (cells d) 100 99999999 V) → ∃ A4 V4, φ f (iN n) A2 A3 = some (A2, A4) ∧ vRep (cells d) V4 A4 ∧ wF (wAr d) (risk d) t (cells d) 100 99999999 V4) (by omega) (fun n F hn ih => fun f A3 V hV hI hf => ?_) (fun F => fun f A3 V hV hI hf => ?_)
  · exact l 1 A3 V h3 (wI_le h (by omega)) (fun q => absurd q (by decide))
  · rw [g_X12_laysWay_68, if_neg (by rw [show (36 : Int32) = iN 36 from rfl, iN_le (by omega) (by omega)]; omega)]
    by_cases q : f = 0
    · rw [if_pos q]; exact ⟨A3, V, rfl, hV, hf q⟩
    · rw [if_neg q]
      have l2 := iter_run (g := g_X12_laysWay_83 c x1 F) (z := fun _ _ _ _ _ => none) (cells d) (fun i (φ : Int32 → Int32 → Int32 → (Nat → Int32) → (Nat → Int32) → Option ((Nat → Int32) × (Nat → Int32))) => ∀ (f : Int32) A3 V1, vRep (cells d) V1 A3 → wR (wAr d) (risk d) t (cells d) 100 99999999 V V1 (fun x _ => x < i) (¬ f = 0) → ∃ A4 V4, φ f (iN n) (iN i) A2 A3 = some (A2, A4) ∧ vRep (cells d) V4 A4 ∧ wF (wAr d) (risk d) t (cells d) 100 99999999 V4) (by omega) (fun i G hi ih2 => fun f A3 V1 hV1 hR => ?_) (fun G => fun f A3 V1 hV1 hR => ?_)
      · exact l2 0 A3 V hV (by
          have := wR_P (Q := fun x _ => x < 0) (wR_0 hI.1) (fun a b _ hx => absurd hx (by omega))
          exact ⟨this.1, this.2.1, this.2.2.1, Or.inr (fun _ _ => rfl)⟩)
      · rw [g_X12_laysWay_83, e12_cells hd hc, Option.bind_some, if_neg (by rw [iN_le (by omega) (by omega)]; omega)]
        have l3 := iter_run (g := g_X12_laysWay_95 c x1 F G) (z := fun _ _ _ _ _ _ => none) (cells d) (fun j (φ : Int32 → Int32 → Int32 → Int32 → (Nat → Int32) → (Nat → Int32) → Option ((Nat → Int32) × (Nat → Int32))) => ∀ (f : Int32) A3 V1, vRep (cells d) V1 A3 → wR (wAr d) (risk d) t (cells d) 100 99999999 V V1 (fun x y => x < i ∨ x = i ∧ y < j) (¬ f = 0) → ∃ A4 V4, φ f (iN n) (iN i) (iN j) A2 A3 = some (A2, A4) ∧ vRep (cells d) V4 A4 ∧ wF (wAr d) (risk d) t (cells d) 100 99999999 V4) (by omega) (fun j H hj ih3 => fun f A3 V1 hV1 hR => ?_) (fun H => fun f A3 V1 hV1 hR => ?_)
        · exact l3 f A3 V1 hV1 (wR_P hR (fun a b _ q => by omega))
        · have e1 : (iN j + 1 : Int32) = iN (j + 1) := iN_add j 1
          have hr := risk_le d j
          have va := (hR.2.1 i hi).1
          have vb := (hR.2.1 j hj).1
          have hno : (wAr d i j → V1 j < 99999999 → ¬ 100 * risk d j + 1 + V1 j < V1 i) → ∃ A4 V4, H f (iN n) (iN i) (iN j + 1) A2 A3 = some (A2, A4) ∧ vRep (cells d) V4 A4 ∧ wF (wAr d) (risk d) t (cells d) 100 99999999 V4 := fun hn => by
            rw [e1]
            exact ih3 f A3 V1 hV1 (wR_no hA hR hn (fun x y _ q => by omega))
          rw [g_X12_laysWay_95, e12_cells hd hc, Option.bind_some, if_neg (by rw [iN_le (by omega) (by omega)]; omega), e12_beside hd hc hi hj, Option.bind_some]
          by_cases q1 : bes (d 1) i j = true
          · rw [if_pos q1, if_neg (show ¬ (1 : Int32) = 0 by decide), ck_iN (by omega) (by omega), iN_nn (by omega), h2 j hj]
            by_cases q2 : risk d j = 16
            · rw [if_pos (show iN (risk d j) = (16 : Int32) from congrArg iN q2)]; exact hno (fun h9 => by have := h9.2.2.2; omega)
            · rw [if_neg (show ¬ iN (risk d j) = (16 : Int32) from iN_ne (by omega) (by decide) q2), ck_iN (by omega) (by omega), hV1 j hj]
              by_cases q3 : V1 j = 99999999
              · rw [if_pos (show iN (V1 j) = (99999999 : Int32) from congrArg iN q3)]; exact hno (fun _ h9 => by omega)
              · rw [if_neg (show ¬ iN (V1 j) = (99999999 : Int32) from iN_ne (by omega) (by decide) q3), e12_costOf hd h2 hj, Option.bind_some, ck_iN (by omega) (by omega), ck_iN (by omega) (by omega), iN_nn (by omega), hV1 i hi, iN_add]
                by_cases q4 : 100 * risk d j + 1 + V1 j < V1 i
                · rw [if_pos (by rw [iN_lt (by omega) (by omega)]; exact q4), Option.bind_some, ck_iN (by omega) (by omega), ck_iN (by omega) (by omega), iN_add, e1]
                  exact ih3 1 _ _ (vRep_upd hV1) (by
                    have := wR_yes hA hR (a := i) (b := j) ⟨hi, hj, q1, by omega⟩ (by omega) q4 (fun x y _ q => by omega) (Q := fun x y => x < i ∨ x = i ∧ y < j + 1)
                    exact ⟨this.1, this.2.1, this.2.2.1, Or.inl (by decide)⟩)
                · rw [if_neg (by rw [iN_lt (by omega) (by omega)]; exact q4)]; exact hno (fun _ _ => q4)
          · rw [if_neg q1, if_pos rfl]; exact hno (fun h9 => absurd h9.2.2.1 q1)
        · rw [g_X12_laysWay_95, e12_cells hd hc, Option.bind_some, if_pos (by rw [iN_le (by omega) (by omega)]; omega), show (iN i + 1 : Int32) = iN (i + 1) from iN_add i 1]
          exact ih2 f A3 V1 hV1 (wR_P hR (fun a b hab q => by have := hab.2.1; omega))
      · rw [g_X12_laysWay_83, e12_cells hd hc, Option.bind_some, if_pos (by rw [iN_le (by omega) (by omega)]; omega), show (iN n + 1 : Int32) = iN (n + 1) from iN_add n 1]
        have h9 := wR_end hA (by omega) hI (wR_P hR (fun a b hab _ => hab.1))
        exact ih f A3 V1 hV1 (wI_le h9.1 (by omega)) (fun q => h9.2 (fun h => h q))
  · rw [g_X12_laysWay_68, if_pos (by decide)]
    exact ⟨A3, V, rfl, hV, wF_N hA (wI_le hI (by omega))⟩
end WAY2
