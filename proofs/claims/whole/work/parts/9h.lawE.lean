/-! The law: what stands of the machine. -/
def tmS (i : Nat) : Term := if i = 0 then Term.string "SighChart$Tape" 19 else Term.string "SighChart$DuchyReader" 82
def gnw : List Cond := flatC (Jvm.Cond.and given_1 narrow_1)
theorem gnw_el : ∀ i, i < 2 → ∀ j, j < xLen.getD i 0 → Cond.eq (.elem (.field (tmS i) "java/lang/String" "value" "[B") (.int (Int32.ofNat j))) (.int ((xByt.getD i []).getD j 0)) ∈ gnw := by decide +kernel
theorem gnw_ex : ∀ i, i < 2 → Cond.exactly (tmS i) "java/lang/String" ∈ gnw := by decide +kernel
theorem gnw_co : ∀ i, i < 2 → Cond.eq (.field (tmS i) "java/lang/String" "coder" "B") (.int 0) ∈ gnw := by decide +kernel
theorem gnw_ar : ∀ i, i < 2 → Cond.arrayOf (.field (tmS i) "java/lang/String" "value" "[B") .byte ∈ gnw := by decide +kernel
theorem gnw_le : ∀ i, i < 2 → Cond.eq (.length (.field (tmS i) "java/lang/String" "value" "[B")) (.int (Int32.ofNat (xLen.getD i 0))) ∈ gnw := by decide +kernel
theorem gnw_ne : Cond.not (Cond.eq (tmS 0) (tmS 1)) ∈ gnw := by decide +kernel
theorem gnw_cs : Cond.eq (Term.static "java/lang/String" "COMPACT_STRINGS" "Z") (Term.int 1) ∈ gnw := by decide +kernel
theorem gnw_si : Cond.isRef (Term.static "jdk/internal/util/Preconditions" "SIOOBE_FORMATTER" "Ljava/util/function/BiFunction;") ∈ gnw := by decide +kernel
theorem tbl_nest : ∀ q ∈ xNest, Cond.methodLinkNest q.1 q.2.1 q.2.2.1 q.2.2.2 ∈ lw_tbl := by decide +kernel
theorem tbl_ao : Cond.arrayOver (.object "SighChart$Duchy") ∈ lw_tbl := by decide +kernel
theorem tbl_aol : Cond.arrayOver (.array .long) ∈ lw_tbl := by decide +kernel
theorem tbl_s0 : Cond.stringRef "SighChart$Tape" 19 xTx0 ∈ lw_tbl := by decide +kernel
theorem tbl_s1 : Cond.stringRef "SighChart$DuchyReader" 82 xTx1 ∈ lw_tbl := by decide +kernel
theorem tbl_l0 : Cond.laysStatic "java/lang/String" "COMPACT_STRINGS" "Z" ∈ lw_tbl := by decide +kernel
theorem tbl_l1 : Cond.laysStatic "jdk/internal/util/Preconditions" "SIOOBE_FORMATTER" "Ljava/util/function/BiFunction;" ∈ lw_tbl := by decide +kernel
theorem tbl_i0 : Cond.initialized "java/lang/String" ∈ lw_tbl := by decide +kernel
theorem tbl_i1 : Cond.initialized "jdk/internal/util/Preconditions" ∈ lw_tbl := by decide +kernel
theorem AOB.ob {u : State} (h : va_AOB u) : ∃ comp c k, u.vm.classes[c]? = some k ∧ k.kind = .array comp (.array .long) ∧ u.vm.findClass ("[" ++ (FieldType.array .long).toString) = some c := by
  unfold va_AOB Cond.before at h
  simp only [Cond.holds, Cond.value, beq_iff_eq] at h
  cases hc : u.vm.findClass (FieldType.array .long).toString with
  | none => simp [hc] at h
  | some comp =>
    simp only [hc, Option.bind_some, Option.bind_eq_some_iff, Option.map_eq_some_iff] at h
    obtain ⟨c, hi, k, hk, hb⟩ := h
    obtain ⟨hlt, hp, -⟩ := Array.findIdx?_eq_some_iff_getElem.mp hi
    have hkk : u.vm.classes[c] = k := (Array.getElem?_eq_some_iff.mp hk).2
    rw [hkk] at hp
    cases hkind : k.kind with
    | array component ty =>
      rw [hkind] at hb hp
      simp at hb hp
      exact ⟨comp, c, k, hk, by rw [hkind, hp, hb.1], hb.2⟩
    | _ => rw [hkind] at hb; simp at hb
theorem law_E {s : State} {args : Array Value} (htb : ∀ w ∈ lw_tbl, w.before args s = true) (hgv : (Jvm.Cond.and given_1 narrow_1).before args s = true) : ∃ E : xE, va_K E.1 vwCl (xTY E) s ∧ xG E (fun q : Nat => s.heap.size ≤ q) s s.heap := by
  have htg : ∀ w ∈ gw, w.before args s = true := fun w hw => htb w (gw_of hw)
  have hA : ∀ a : Nat, a < s.heap.size → ¬ (fun q : Nat => s.heap.size ≤ q) a := fun a h => Nat.not_le.mpr h
  have hs : ∀ w ∈ gnw, w.before args s = true := flat_of_before _ hgv
  obtain ⟨c0, i0, k0⟩ := u_known (C := RX0) (T := TX0) (N := 8) (n := 8) htg hwX0 (htg _ is_X0)
  obtain ⟨c1, i1, k1⟩ := u_known (C := RX1) (T := TX1) (N := 2) (n := 2) htg hwX1 (htg _ is_X1)
  obtain ⟨c2, i2, k2⟩ := u_known (C := RX2) (T := TX2) (N := 2) (n := 2) htg hwX2 (htg _ is_X2)
  obtain ⟨c3, i3, k3⟩ := u_known (C := RX3) (T := TX3) (N := 15) (n := 15) htg hwX3 (htg _ is_X3)
  obtain ⟨c4, i4, k4⟩ := u_known (C := RX4) (T := TX4) (N := 2) (n := 2) htg hwX4 (htg _ is_X4)
  obtain ⟨c5, i5, k5⟩ := u_known (C := RX5) (T := TX5) (N := 7) (n := 7) htg hwX5 (htg _ is_X5)
  obtain ⟨c6, i6, k6⟩ := u_known (C := RX6) (T := TX6) (N := 6) (n := 6) htg hwX6 (htg _ is_X6)
  obtain ⟨c7, i7, k7⟩ := u_known (C := RX7) (T := TX7) (N := 1) (n := 1) htg hwX7 (htg _ is_X7)
  obtain ⟨c8, i8, k8⟩ := u_known (C := RX8) (T := TX8) (N := 11) (n := 11) htg hwX8 (htg _ is_X8)
  obtain ⟨c9, i9, k9⟩ := u_known (C := RX9) (T := TX9) (N := 3) (n := 3) htg hwX9 (htg _ is_X9)
  obtain ⟨c10, i10, k10⟩ := u_known (C := RX10) (T := TX10) (N := 7) (n := 7) htg hwX10 (htg _ is_X10)
  obtain ⟨c11, i11, k11⟩ := u_known (C := RX11) (T := TX11) (N := 19) (n := 19) htg hwX11 (htg _ is_X11)
  obtain ⟨c12, i12, k12⟩ := u_known (C := RX12) (T := TX12) (N := 42) (n := 42) htg hwX12 (htg _ is_X12)
  obtain ⟨cB, kB, pB, b1, b2, b3⟩ := Cond.arrayClass_spec (htg _ ac_byte)
  obtain ⟨cI, kI, pI, e1, e2, e3⟩ := Cond.arrayClass_spec (htg _ ac_int)
  obtain ⟨cL, kL, pL, l1, l2, l3⟩ := Cond.arrayClass_spec (htg _ ac_long)
  obtain ⟨pD, cD, kD, d1, d2, d3, d4, d5⟩ := Cond.arrayOver_spec (htb _ tbl_ao)
  have haob : va_AOB s := htb _ tbl_aol
  obtain ⟨pA, cA, kA, a3, a4, a5⟩ := AOB.ob haob
  obtain ⟨adK, adV, hS, hev⟩ := vk_Sof (args := args) (s := s) (N := 2) (tm := tmS) (len := xLen) (byt := xByt) (A := fun q : Nat => s.heap.size ≤ q) (by decide) (fun i hi => hs _ (gnw_ex i hi)) (fun i hi => hs _ (gnw_co i hi)) (fun i hi => hs _ (gnw_ar i hi)) (fun i hi => hs _ (gnw_le i hi)) (fun i hi j hj => hs _ (gnw_el i hi j hj)) (fun i j hi hj hij => by
    rcases (show (i = 0 ∧ j = 1) ∨ (i = 1 ∧ j = 0) by omega) with ⟨rfl, rfl⟩ | ⟨rfl, rfl⟩
    · exact Or.inl (hs _ gnw_ne)
    · exact Or.inr (hs _ gnw_ne)) hA
  have hz0 := va_Zof (A := fun q : Nat => s.heap.size ≤ q) (htb _ tbl_l0) (htb _ tbl_i0) (va_eqt (hs _ gnw_cs)) hA
  have hz1 : ∃ v : Option Nat, va_Z "jdk/internal/util/Preconditions" "SIOOBE_FORMATTER" "Ljava/util/function/BiFunction;" (va_rf v) (fun q : Nat => s.heap.size ≤ q) s s.heap := by
    rcases va_Zqof (A := fun q : Nat => s.heap.size ≤ q) (htb _ tbl_l1) (htb _ tbl_i1) (hs _ gnw_si) hA with h | ⟨t, h⟩
    · exact ⟨none, h⟩
    · exact ⟨some t, h⟩
  have hT : ∀ (k : Nat) (q : ClassId × FieldType), ([(cB, FieldType.byte), (cI, FieldType.int), (cL, FieldType.long), (cD, FieldType.object "SighChart$Duchy"), (cA, FieldType.array .long)] : List (ClassId × FieldType))[k]? = some q → ArrOfT s q.1 q.2 ∧ va_RA s q.1 q.2 := by
    intro k q hq
    match k, hq with
    | 0, hq => cases hq; exact ⟨fun n z => ⟨fun k h => (by cases h), kB, b2, pB, b3⟩, b1⟩
    | 1, hq => cases hq; exact ⟨fun n z => ⟨fun k h => (by cases h), kI, e2, pI, e3⟩, e1⟩
    | 2, hq => cases hq; exact ⟨fun n z => ⟨fun k h => (by cases h), kL, l2, pL, l3⟩, l1⟩
    | 3, hq => cases hq; exact ⟨fun n z => ⟨fun k h => (by cases h), kD, d3, pD, d4⟩, kD, pD, d3, d4, d1, d5⟩
    | 4, hq => cases hq; exact ⟨fun n z => ⟨fun k h => (by cases h), kA, a3, pA, a4⟩, a5⟩
    | k + 5, hq => cases hq
  refine ⟨((fun k => match k with | 0 => c0 | 1 => c1 | 2 => c2 | 3 => c3 | 4 => c4 | 5 => c5 | 6 => c6 | 7 => c7 | 8 => c8 | 9 => c9 | 10 => c10 | 11 => c11 | _ => c12, fun k => match k with | 0 => i0 | 1 => i1 | 2 => i2 | 3 => i3 | 4 => i4 | 5 => i5 | 6 => i6 | 7 => i7 | 8 => i8 | 9 => i9 | 10 => i10 | 11 => i11 | _ => i12), (fun k => match k with | 0 => cB | 1 => cI | 2 => cL | 3 => cD | _ => cA), adK, adV), ⟨?_, ?_⟩, ⟨hS, hz0, hz1⟩, vk_R.of (htb _ tbl_s0) (hev 0 (by decide)), vk_R.of (htb _ tbl_s1) (hev 1 (by decide)), fun q hq => htb _ (tbl_nest q hq), htb _ tbl_ao, haob⟩
  · intro k q hq
    match k, hq with
    | 0, hq => cases hq; exact k0
    | 1, hq => cases hq; exact k1
    | 2, hq => cases hq; exact k2
    | 3, hq => cases hq; exact k3
    | 4, hq => cases hq; exact k4
    | 5, hq => cases hq; exact k5
    | 6, hq => cases hq; exact k6
    | 7, hq => cases hq; exact k7
    | 8, hq => cases hq; exact k8
    | 9, hq => cases hq; exact k9
    | 10, hq => cases hq; exact k10
    | 11, hq => cases hq; exact k11
    | 12, hq => cases hq; exact k12
    | k + 13, hq => cases hq
  · exact hT
