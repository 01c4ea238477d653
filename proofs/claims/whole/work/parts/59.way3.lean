/-! Ways: the model's costs from the first; the class's. -/
theorem wI_init {A : Nat → Nat → Prop} {R V : Nat → Nat} {t N u I : Nat} (h : ∀ a, a < N → V a = if a = t then 0 else I) : wI A R t N u I 0 V := by
  refine ⟨fun a ha => ?_, fun k hk a ha r hw => ?_⟩
  · have h1 := h a ha
    by_cases e : a = t
    · rw [if_pos e] at h1
      exact ⟨by omega, fun _ => ⟨0, 0, ⟨e, rfl⟩, by omega⟩⟩
    · rw [if_neg e] at h1
      exact ⟨by omega, fun _ => by omega⟩
  · have h1 := h a ha
    obtain rfl : k = 0 := by omega
    rw [if_pos hw.1] at h1
    omega
def ent (d : Nat → Nat) (b : Nat) : Nat := if risk d b = 16 then 1000000 else 64 * risk d b + 1
/-- the cell that the model begins with -/
def wt (d : Nat → Nat) (t : Nat) : Nat := if risk d t < 16 ∨ t = d 5 then t else cells d
section WAY3
variable {d : Nat → Nat} {w Na : Nat → Int64} {c T S Li By Of Fe Mi W : Nat → Int32}
theorem e12_lays (hd : dInv d) (hc : mRep d c) {t : Nat} (ht : t < cells d) (A2 A3 : Nat → Int32) : ∃ B2 B3 V, f_X12_laysWay c A2 A3 (iN t) = some (B2, B3) ∧ vRep (cells d) (risk d) B2 ∧ vRep (cells d) V B3 ∧ wF (wAr d) (risk d) (wt d t) (cells d) 100 99999999 V := by
  have h36 := hd.c36
  have l := iter_run (g := g_X12_laysWay_2 c (iN t)) (z := fun _ _ _ => none) (cells d) (fun k (φ : Int32 → (Nat → Int32) → (Nat → Int32) → Option ((Nat → Int32) × (Nat → Int32))) => ∀ A2 A3, vRep k (risk d) A2 → vRep k (fun _ => 99999999) A3 → ∃ B2 B3 V, φ (iN k) A2 A3 = some (B2, B3) ∧ vRep (cells d) (risk d) B2 ∧ vRep (cells d) V B3 ∧ wF (wAr d) (risk d) (wt d t) (cells d) 100 99999999 V) (by omega) (fun k F hk ih => fun A2 A3 h2 h3 => ?_) (fun F => fun A2 A3 h2 h3 => ?_)
  · exact l A2 A3 (fun j hj => by omega) (fun j hj => by omega)
  · rw [g_X12_laysWay_2, e12_cells hd hc, Option.bind_some, if_neg (by rw [iN_le (by omega) (by omega)]; omega), e12_riskOf hd hc (by omega), Option.bind_some, ck_iN (by omega) (by omega), ck_iN (by omega) (by omega), iN_nn (by omega), show (iN k + 1 : Int32) = iN (k + 1) from iN_add k 1]
    refine ih _ _ (fun j hj => ?_) (fun j hj => ?_)
    · by_cases e : j = k
      · rw [e, upd_s]
      · rw [upd_n e]; exact h2 j (by omega)
    · by_cases e : j = k
      · rw [e, upd_s]; rfl
      · rw [upd_n e]; exact h3 j (by omega)
  · have hr := risk_le d t
    have go : ∀ V A3, vRep (cells d) V A3 → (∀ a, a < cells d → V a = if a = wt d t then 0 else 99999999) → ∃ B2 B3 V, f_X12_laysWay_64 c (iN t) A2 A3 = some (B2, B3) ∧ vRep (cells d) (risk d) B2 ∧ vRep (cells d) V B3 ∧ wF (wAr d) (risk d) (wt d t) (cells d) 100 99999999 V := fun V A3 hV hv => by
      obtain ⟨B3, V4, e1, e2, e3⟩ := e12_rounds hd hc h2 hV (iN t) (wI_init hv)
      exact ⟨A2, B3, V4, e1, h2, e2, e3⟩
    have go2 : wt d t = t → ∃ B2 B3 V, f_X12_laysWay_57 c (iN t) A2 A3 = some (B2, B3) ∧ vRep (cells d) (risk d) B2 ∧ vRep (cells d) V B3 ∧ wF (wAr d) (risk d) (wt d t) (cells d) 100 99999999 V := fun ht2 => by
      rw [f_X12_laysWay_57, ck_iN (by omega) (by omega), iN_nn (by omega)]
      refine go _ _ (vRep_upd (k := t) (x := 0) h3) (fun a ha => ?_)
      rw [ht2]; rfl
    rw [g_X12_laysWay_2, e12_cells hd hc, Option.bind_some, if_pos (by rw [iN_le (by omega) (by omega)]; omega), ck_iN (by omega) (by omega), iN_nn (by omega), h2 t ht]
    by_cases q : risk d t < 16
    · rw [if_pos (by rw [show (16 : Int32) = iN 16 from rfl, iN_lt (by omega) (by omega)]; exact q)]
      exact go2 (if_pos (Or.inl q))
    · rw [if_neg (by rw [show (16 : Int32) = iN 16 from rfl, iN_lt (by omega) (by omega)]; exact q), ck_y (show gd 5 1860 = true by decide), show (5 : Int32).toNatClampNeg = 5 by decide, hc 5 (by omega)]
      have h5 : d 5 < cells d := by
        have := hd.1.2.2.2.2.2
        omega
      by_cases q2 : t = d 5
      · rw [if_pos (congrArg iN q2)]
        exact go2 (if_pos (Or.inr q2))
      · rw [if_neg (iN_ne (by omega) (by omega) q2)]
        have ew : wt d t = cells d := if_neg (fun h => by omega)
        exact go _ A3 h3 (fun a ha => by rw [ew, if_neg (by omega)])
theorem nbr0 {W N a : Nat} : nbr W N a 0 = if W ≤ a then some (a - W) else none := rfl
theorem nbr1 {W N a : Nat} : nbr W N a 1 = if 0 < a % W then some (a - 1) else none := rfl
theorem nbr2 {W N a : Nat} : nbr W N a 2 = if a % W + 1 < W ∧ a + 1 < N then some (a + 1) else none := rfl
theorem e6_neighbour (hd : dInv d) {T : Nat → Int32} (h3 : T 3 = iN (d 1)) (h4 : T 4 = iN (cells d)) {a s : Nat} (ha : a < cells d) (hs : s < 4) : f_X6_neighbour T (iN a) (iN s) = some (oN (nbr (d 1) (cells d) a s)) := by
  have h36 := hd.c36
  have hp := (cells_pos ha).1
  have h6 := hd.1.2.1
  have nz : decide (¬ iN (d 1) = 0) = true := by
    rw [decide_eq_true_eq]; exact iN_ne (b := 0) (by omega) (by omega) (by omega)
  have hm := Nat.mod_lt a hp
  have hml := Nat.mod_le a (d 1)
  have hda := Nat.div_le_self a (d 1)
  have hdm := Nat.div_mul_le_self a (d 1)
  have em : (iN a - iN (a / d 1) * iN (d 1) : Int32) = iN (a % d 1) := by
    rw [iN_mul, iN_sub hdm]
    congr 1
    have := Nat.div_add_mod a (d 1)
    rw [Nat.mul_comm] at this
    omega
  have e101 : ∀ y : Nat, y < 1000 → f_X6_neighbour_101 T (iN a) (iN s) (iN y) = some (oN (if y < cells d then some y else none)) := fun y hy => by
    rw [f_X6_neighbour_101, if_neg (by rw [show (0 : Int32) = iN 0 from rfl, iN_lt (by omega) (by omega)]; omega), h4]
    by_cases q : y < cells d
    · rw [if_neg (by rw [iN_le (by omega) (by omega)]; omega), if_pos q]; rfl
    · rw [if_pos (by rw [iN_le (by omega) (by omega)]; omega), if_neg q]; rfl
  have e102 : f_X6_neighbour_101 T (iN a) (iN s) (-1) = some (oN none) := by
    rw [f_X6_neighbour_101, if_pos (by decide)]; rfl
  rw [f_X6_neighbour, h3, if_neg (by rw [show (0 : Int32) = iN 0 from rfl, iN_le (by omega) (by omega)]; omega), ck_y nz, iN_div (by omega) (by omega), em]
  rcases (show s = 0 ∨ s = 1 ∨ s = 2 ∨ s = 3 by omega) with rfl | rfl | rfl | rfl
  · rw [f_X6_neighbour_17, if_pos (by decide), h3]
    rw [nbr0]
    by_cases q : d 1 ≤ a
    · rw [iN_sub q, e101 _ (by omega), if_pos (by omega), if_pos q]
    · have hn := subneg_tab a (by omega) (d 1) (by omega) (by omega)
      rw [f_X6_neighbour_101, if_pos hn, if_neg q]; rfl
  · rw [f_X6_neighbour_17, if_neg (by decide), if_pos (by decide)]
    rw [nbr1]
    by_cases q : 0 < a % d 1
    · rw [if_neg (by rw [show (0 : Int32) = iN 0 from rfl, iN_le (by omega) (by omega)]; omega), f_X6_neighbour_66, show (iN a - 1 : Int32) = iN (a - 1) from iN_sub (b := 1) (by omega), e101 _ (by omega), if_pos (by omega), if_pos q]
    · rw [if_pos (by rw [show (0 : Int32) = iN 0 from rfl, iN_le (by omega) (by omega)]; omega), f_X6_neighbour_66, e102, if_neg q]
  · rw [f_X6_neighbour_17, if_neg (by decide), if_neg (by decide), if_pos (by decide), h3, show (iN (a % d 1) + 1 : Int32) = iN (a % d 1 + 1) from iN_add _ 1]
    rw [nbr2]
    by_cases q : a % d 1 + 1 < d 1
    · rw [if_neg (by rw [iN_le (by omega) (by omega)]; omega), f_X6_neighbour_88, show (iN a + 1 : Int32) = iN (a + 1) from iN_add a 1, e101 _ (by omega)]
      by_cases q2 : a + 1 < cells d
      · rw [if_pos q2, if_pos ⟨q, q2⟩]
      · rw [if_neg q2, if_neg (fun h => q2 h.2)]
    · rw [if_pos (by rw [iN_le (by omega) (by omega)]; omega), f_X6_neighbour_88, e102, if_neg (fun h => q h.1)]
  · rw [f_X6_neighbour_17, if_neg (by decide), if_neg (by decide), if_neg (by decide), h3, iN_add, e101 _ (by omega)]
    rfl
theorem nbr_bes (hd : dInv d) {a b : Nat} (ha : a < cells d) (hb : b < cells d) : bes (d 1) a b = true ↔ ∃ s, s < 4 ∧ nbr (d 1) (cells d) a s = some b := bes_tab (H := d 0) (W := d 1) (by have := hd.1.1; omega) (by have := hd.1.2.1; omega) ha hb
theorem e6_lower (hd : dInv d) {T : Nat → Int32} (h3 : T 3 = iN (d 1)) (h4 : T 4 = iN (cells d)) {E : Nat → Int32} (hE : vRep (cells d) (ent d) E) {t : Nat} {V : Nat → Nat} {A3 : Nat → Int32} (hV : vRep (cells d) V A3) (hS : wS (wAr d) (risk d) t (cells d) 64 1000000 V) : ∃ f A4 V4, f_X6_lowerCosts T E A3 = some (f, A4) ∧ vRep (cells d) V4 A4 ∧ wR (wAr d) (risk d) t (cells d) 64 1000000 V V4 (fun _ _ => True) (¬ f = 0) := by
  have h36 := hd.c36
  have hA := wAr_64 hd
  have l := iter_run (g := g_X6_lowerCosts_4 T E) (z := fun _ _ _ => none) (cells d) (fun i (φ : Int32 → Int32 → (Nat → Int32) → Option (Int32 × (Nat → Int32))) => ∀ (f : Int32) A3 V1, (f = 0 ∨ f = 1) → vRep (cells d) V1 A3 → wR (wAr d) (risk d) t (cells d) 64 1000000 V V1 (fun x _ => x < i) (¬ f = 0) → ∃ f4 A4 V4, φ f (iN i) A3 = some (f4, A4) ∧ vRep (cells d) V4 A4 ∧ wR (wAr d) (risk d) t (cells d) 64 1000000 V V4 (fun _ _ => True) (¬ f4 = 0)) (by omega) (fun i G hi ih2 => fun f A3 V1 hf hV1 hR => ?_) (fun G => fun f A3 V1 hf hV1 hR => ?_)
  · exact l 0 A3 V (Or.inl rfl) hV (by
      have := wR_P (Q := fun x _ => x < 0) (wR_0 hS) (fun a b _ hx => absurd hx (by omega))
      exact ⟨this.1, this.2.1, this.2.2.1, Or.inr (fun _ _ => rfl)⟩)
  · rw [g_X6_lowerCosts_4, h4, if_neg (by rw [iN_le (by omega) (by omega)]; omega)]
    have l3 := iter_run (g := g_X6_lowerCosts_14 T E G) (z := fun _ _ _ _ => none) 4 (fun s (φ : Int32 → Int32 → Int32 → (Nat → Int32) → Option (Int32 × (Nat → Int32))) => ∀ (f : Int32) A3 V1, (f = 0 ∨ f = 1) → vRep (cells d) V1 A3 → wR (wAr d) (risk d) t (cells d) 64 1000000 V V1 (fun x y => x < i ∨ x = i ∧ ∃ r, r < s ∧ nbr (d 1) (cells d) i r = some y) (¬ f = 0) → ∃ f4 A4 V4, φ f (iN i) (iN s) A3 = some (f4, A4) ∧ vRep (cells d) V4 A4 ∧ wR (wAr d) (risk d) t (cells d) 64 1000000 V V4 (fun _ _ => True) (¬ f4 = 0)) (by omega) (fun s H hs ih3 => fun f A3 V1 hf hV1 hR => ?_) (fun H => fun f A3 V1 hf hV1 hR => ?_)
    · exact l3 f A3 V1 hf hV1 (wR_P hR (fun a b _ q => by
        rcases q with q | ⟨-, r, q1, -⟩
        · exact q
        · omega))
    · have e1 : (iN s + 1 : Int32) = iN (s + 1) := iN_add s 1
      rw [g_X6_lowerCosts_14, if_neg (by rw [show (4 : Int32) = iN 4 from rfl, iN_le (by omega) (by omega)]; omega), e6_neighbour hd h3 h4 hi hs, Option.bind_some, e1]
      cases hn : nbr (d 1) (cells d) i s with
      | none =>
        rw [oN, if_pos rfl]
        exact ih3 f A3 V1 hf hV1 (wR_P hR (fun a b _ q => by
          rcases q with q | ⟨q0, r, q1, q2⟩
          · exact Or.inl q
          · refine Or.inr ⟨q0, r, ?_, q2⟩
            rcases Nat.lt_or_ge r s with g | g
            · exact g
            · obtain rfl : r = s := by omega
              rw [hn] at q2; cases q2))
      | some j =>
        have hj := nbr_lt (cells_pos hi).1 hi hn
        have hb : bes (d 1) i j = true := (nbr_bes hd hi hj).mpr ⟨s, hs, hn⟩
        have va := (hR.2.1 i hi).1
        have vb := (hR.2.1 j hj).1
        have hr := risk_le d j
        have hQ : ∀ x y, wAr d x y → (x < i ∨ x = i ∧ ∃ r, r < s + 1 ∧ nbr (d 1) (cells d) i r = some y) → (x < i ∨ x = i ∧ ∃ r, r < s ∧ nbr (d 1) (cells d) i r = some y) ∨ x = i ∧ y = j := fun x y _ q => by
          rcases q with q | ⟨q0, r, q1, q2⟩
          · exact Or.inl (Or.inl q)
          · rcases Nat.lt_or_ge r s with g | g
            · exact Or.inl (Or.inr ⟨q0, r, g, q2⟩)
            · obtain rfl : r = s := by omega
              rw [hn] at q2
              injection q2 with q3
              exact Or.inr ⟨q0, q3.symm⟩
        have he : ent d j = if risk d j = 16 then 1000000 else 64 * risk d j + 1 := rfl
        have hel : ent d j ≤ 1000000 := by rw [he]; split <;> omega
        rw [oN, if_neg (iN_ne_m1 (by omega)), ck_iN (by omega) (by omega), ck_iN (by omega) (by omega), ck_iN (by omega) (by omega), iN_nn (by omega), iN_nn (by omega), hE j hj, hV1 j hj, hV1 i hi, iN_add]
        by_cases q : V1 i ≤ ent d j + V1 j
        · rw [if_pos (by rw [iN_le (by omega) (by omega)]; exact q)]
          refine ih3 f A3 V1 hf hV1 (wR_no hA hR (fun h9 _ => ?_) hQ)
          have h10 := h9.2.2.2
          rw [if_neg (by omega)] at he
          omega
        · rw [if_neg (by rw [iN_le (by omega) (by omega)]; exact q), ck_iN (by omega) (by omega), ck_iN (by omega) (by omega), ck_iN (by omega) (by omega)]
          have hr2 : ¬ risk d j = 16 := fun h9 => by
            rw [if_pos h9] at he; omega
          rw [if_neg hr2] at he
          rw [he]
          rw [he] at q
          exact ih3 1 _ _ (Or.inr rfl) (vRep_upd hV1) (by
            have := wR_yes hA hR (a := i) (b := j) ⟨hi, hj, hb, by omega⟩ (by omega) (by omega) hQ
            exact ⟨this.1, this.2.1, this.2.2.1, Or.inl (by decide)⟩)
    · rw [g_X6_lowerCosts_14, if_pos (by decide), show (iN i + 1 : Int32) = iN (i + 1) from iN_add i 1]
      refine ih2 f A3 V1 hf hV1 (wR_P hR (fun a b hab q => ?_))
      rcases Nat.lt_or_ge a i with g | g
      · exact Or.inl g
      · obtain rfl : a = i := by omega
        exact Or.inr ⟨rfl, (nbr_bes hd hi hab.2.1).mp hab.2.2.1⟩
  · rw [g_X6_lowerCosts_4, h4, if_pos (by rw [iN_le (by omega) (by omega)]; omega), ck_y (by rcases hf with rfl | rfl <;> rfl)]
    exact ⟨f, A3, V1, rfl, hV1, wR_P hR (fun a b hab _ => hab.1)⟩
theorem e6_rounds (hd : dInv d) (T1 V5 : Nat → Int32) (x3 : Int32) {T : Nat → Int32} (h3 : T 3 = iN (d 1)) (h4 : T 4 = iN (cells d)) {E : Nat → Int32} (hE : vRep (cells d) (ent d) E) (P : Nat → Int32) {t : Nat} {V : Nat → Nat} {A3 : Nat → Int32} (hV : vRep (cells d) V A3) (hI : wI (wAr d) (risk d) t (cells d) 64 1000000 0 V) : ∃ A4 V4, f_X6_find_137 T1 V5 x3 xF 1 0 T P A3 E = f_X6_find_163 T1 V5 x3 T P A4 E ∧ vRep (cells d) V4 A4 ∧ wF (wAr d) (risk d) t (cells d) 64 1000000 V4 := by
  have h36 := hd.c36
  have hA := wAr_64 hd
  have l := iter_run (g := g_X6_find_137 T1 V5 x3) (z := fun _ _ _ _ _ _ => none) (cells d + 1) (fun n (φ : Int32 → Int32 → (Nat → Int32) → (Nat → Int32) → (Nat → Int32) → (Nat → Int32) → Option (Int32 × (Nat → Int32) × (Nat → Int32) × (Nat → Int32) × (Nat → Int32))) => ∀ (f : Int32) A3 V, vRep (cells d) V A3 → wI (wAr d) (risk d) t (cells d) 64 1000000 (min n (cells d)) V → (f = 0 → wF (wAr d) (risk d) t (cells d) 64 1000000 V) → ∃ A4 V4, φ f (iN n) T P A3 E = f_X6_find_163 T1 V5 x3 T P A4 E ∧ vRep (cells d) V4 A4 ∧ wF (wAr d) (risk d) t (cells d) 64 1000000 V4) (by omega) (fun n F hn ih => fun f A3 V hV hI hf => ?_) (fun F => fun f A3 V hV hI hf => ?_)
  · exact l 1 A3 V hV (wI_le hI (by omega)) (fun q => absurd q (by decide))
  · rw [g_X6_find_137, h4, if_neg (by rw [iN_lt (by omega) (by omega)]; omega)]
    by_cases q : f = 0
    · rw [if_pos q]; exact ⟨A3, V, rfl, hV, hf q⟩
    · rw [if_neg q]
      obtain ⟨f4, A4, V4, e1, e2, e3⟩ := e6_lower hd h3 h4 hE hV hI.1
      rw [e1, Option.bind_some, show (iN n + 1 : Int32) = iN (n + 1) from iN_add n 1]
      have h9 := wR_end hA (by omega) hI e3
      exact ih f4 A4 V4 e2 (wI_le h9.1 (by omega)) (fun q => h9.2 (fun h => h q))
  · rw [g_X6_find_137, h4, if_pos (by rw [iN_lt (by omega) (by omega)]; omega)]
    exact ⟨A3, V, rfl, hV, wF_N hA (wI_le hI (by omega))⟩
/-- the class's search, as far as the path -/
theorem e6_costs (hd : dInv d) (hT : tRep d T) (hW : talR (votesS d (hset d)) W) {t : Nat} (ht : t < cells d) (T0 P A3 E : Nat → Int32) : ∃ T9 P9 A4 E4 V4, f_X6_find T0 T P A3 W E (iN t) = f_X6_find_163 T W (iN t) T9 P9 A4 E4 ∧ T9 3 = iN (d 1) ∧ T9 4 = iN (cells d) ∧ T9 5 = 0 ∧ P9 0 = iN (d 5) ∧ vRep (cells d) (ent d) E4 ∧ vRep (cells d) V4 A4 ∧ wF (wAr d) (risk d) t (cells d) 64 1000000 V4 := by
  have h36 := hd.c36
  have h5 : d 5 < cells d := by
    have := hd.1.2.2.2.2.2
    omega
  have c1 := e3_hasCell hd hT (iN t)
  have c2 := e3_hasCell hd hT (iN (d 5))
  rw [if_pos (by rw [inR_iN (by omega)]; exact ht)] at c1
  rw [if_pos (by rw [inR_iN (by omega)]; exact h5)] at c2
  obtain ⟨T9, hT9⟩ : ∃ T9, T9 = upd (upd (upd T0 3 (T 1)) 4 (iN (cells d))) 5 0 := ⟨_, rfl⟩
  obtain ⟨P9, hP9⟩ : ∃ P9, P9 = upd P 0 (iN (d 5)) := ⟨_, rfl⟩
  have t3 : T9 3 = iN (d 1) := by rw [hT9, upd_n (by decide), upd_n (by decide), upd_s, hT.2.1]
  have t4 : T9 4 = iN (cells d) := by rw [hT9, upd_n (by decide), upd_s]
  have t5 : T9 5 = 0 := by rw [hT9, upd_s]
  have p0 : P9 0 = iN (d 5) := by rw [hP9, upd_s]
  have l := iter_run (g := g_X6_find_55 T W (iN t)) (z := fun _ _ _ _ _ => none) (cells d) (fun k (φ : Int32 → (Nat → Int32) → (Nat → Int32) → (Nat → Int32) → (Nat → Int32) → Option (Int32 × (Nat → Int32) × (Nat → Int32) × (Nat → Int32) × (Nat → Int32))) => ∀ A3 E, vRep k (ent d) E → vRep k (fun _ => 1000000) A3 → ∃ A4 E4 V4, φ (iN k) T9 P9 A3 E = f_X6_find_163 T W (iN t) T9 P9 A4 E4 ∧ vRep (cells d) (ent d) E4 ∧ vRep (cells d) V4 A4 ∧ wF (wAr d) (risk d) t (cells d) 64 1000000 V4) (by omega) (fun k F hk ih => fun A3 E hE hA3 => ?_) (fun F => fun A3 E hE hA3 => ?_)
  · obtain ⟨A4, E4, V4, e1, e2, e3, e4⟩ := l A3 E (fun j hj => by omega) (fun j hj => by omega)
    refine ⟨T9, P9, A4, E4, V4, ?_, t3, t4, t5, p0, e2, e3, e4⟩
    rw [f_X6_find, e3_cells hT, Option.bind_some, ck_y (show gd 0 37 = true by decide), c1, Option.bind_some, if_neg (by decide), hT.2.2.2.1, c2, Option.bind_some, if_neg (by decide), show (0 : Int32).toNatClampNeg = 0 by decide, ← hT9, ← hP9]
    exact e1
  · have hr := risk_le d k
    have step : ∀ x : Nat, x = ent d k → ∃ A4 E4 V4, f_X6_find_108 T W (iN t) F (iN k) (iN k) (iN x) T9 P9 A3 E = f_X6_find_163 T W (iN t) T9 P9 A4 E4 ∧ vRep (cells d) (ent d) E4 ∧ vRep (cells d) V4 A4 ∧ wF (wAr d) (risk d) t (cells d) 64 1000000 V4 := fun x hx => by
      rw [f_X6_find_108, ck_iN (by omega) (by omega), ck_iN (by omega) (by omega), iN_nn (by omega), show (iN k + 1 : Int32) = iN (k + 1) from iN_add k 1]
      refine ih _ _ (fun j hj => ?_) (fun j hj => ?_)
      · by_cases e : j = k
        · rw [e, upd_s, hx]
        · rw [upd_n e]; exact hE j (by omega)
      · by_cases e : j = k
        · rw [e, upd_s]; rfl
        · rw [upd_n e]; exact hA3 j (by omega)
    have hdl := drawn_le hd k
    have h16 : risk d k = 16 ↔ drawn d k = 1 := riskF_16
    rw [g_X6_find_55, t4, if_neg (by rw [iN_le (by omega) (by omega)]; omega), e7_drawnAs hW (votesS_le hd _) (by omega), Option.bind_some, drawnF_h hd]
    by_cases q : drawn d k = 1
    · rw [if_pos (show iN (drawn d k) = (1 : Int32) from congrArg iN q), f_X6_find_79, if_neg (by decide)]
      exact step 1000000 (by rw [ent, if_pos (h16.mpr q)])
    · rw [if_neg (show ¬ iN (drawn d k) = (1 : Int32) from iN_ne (by omega) (by decide) q), f_X6_find_79, if_pos rfl, e7_riskOf hW (votesS_le hd _) (by omega), Option.bind_some, riskF_h hd, show (64 : Int32) = iN 64 from rfl, iN_mul, show (1 : Int32) = iN 1 from rfl, iN_add]
      exact step _ (by rw [ent, if_neg (fun h => q (h16.mp h)), Nat.mul_comm])
  · rw [g_X6_find_55, t4, if_pos (by rw [iN_le (by omega) (by omega)]; omega), ck_iN (by omega) (by omega), iN_nn (by omega)]
    obtain ⟨A4, V4, e1, e2, e3⟩ := e6_rounds hd T W (iN t) t3 t4 hE P9 (vRep_upd (k := t) (x := 0) hA3) (wI_init (t := t) (fun a ha => rfl))
    exact ⟨A4, E, V4, e1, hE, e2, e3⟩
end WAY3
