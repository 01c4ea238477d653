/-! Calls: game, moveOf. -/
def iZ (z : Int) : Int32 := Int32.ofInt z
theorem iZ_add (a b : Int) : iZ a + iZ b = iZ (a + b) := (Int32.ofInt_add a b).symm
theorem iZ_sub (a b : Int) : iZ a - iZ b = iZ (a - b) := (Int32.ofInt_sub a b).symm
theorem iZ_neg (a : Int) : -iZ a = iZ (-a) := (Int32.ofInt_neg a).symm
theorem iN_Z (n : Nat) : iN n = iZ n := Int32.ofInt_eq_ofNat.symm
theorem iZ_int {a : Int} (h : -100000 ≤ a ∧ a ≤ 100000) : (iZ a).toInt = a := Int32.toInt_ofInt_of_le (by omega) (by omega)
theorem iZ_lt {a b : Int} (ha : -100000 ≤ a ∧ a ≤ 100000) (hb : -100000 ≤ b ∧ b ≤ 100000) : (iZ a < iZ b) = (a < b) := by
  rw [Int32.lt_iff_toInt_lt, iZ_int ha, iZ_int hb]
theorem iZ_le {a b : Int} (ha : -100000 ≤ a ∧ a ≤ 100000) (hb : -100000 ≤ b ∧ b ≤ 100000) : (iZ a ≤ iZ b) = (a ≤ b) := by
  rw [Int32.le_iff_toInt_le, iZ_int ha, iZ_int hb]
theorem iZ_eq {a b : Int} (ha : -100000 ≤ a ∧ a ≤ 100000) (hb : -100000 ≤ b ∧ b ≤ 100000) : (iZ a = iZ b) = (a = b) := by
  apply propext
  constructor
  · intro h
    have h1 := congrArg Int32.toInt h
    rw [iZ_int ha, iZ_int hb] at h1
    exact h1
  · rintro rfl; rfl
theorem st_tb : ∀ s, s < 32 → ∀ h, h < 32 → ∀ t, t < 5 → ((!(s &&& h == h)) || ((s ||| 2 ^ t) &&& h == h)) = true := by decide +kernel
theorem st_t {s h t : Nat} (hs : s < 32) (hh : h < 32) (ht : t < 5) (e : s &&& h = h) : (s ||| 2 ^ t) &&& h = h := by
  have := st_tb s hs h hh t ht
  rw [show (s &&& h == h) = true from beq_iff_eq.mpr e] at this
  exact beq_iff_eq.mp this
def cmv (d : Nat → Nat) (g : Nat → Int) (s t : Nat) : Int := ((knownS d (s ||| 2 ^ t) : Nat) : Int) - ((knownS d s : Nat) : Int) - g (s ||| 2 ^ t)
/-- the best credit of nothing and the first travellers -/
def bcF (d : Nat → Nat) (g : Nat → Int) (s : Nat) : Nat → Int
  | 0 => - g s
  | t + 1 => if s.testBit t = true then bcF d g s t else if bcF d g s t < cmv d g s t then cmv d g s t else bcF d g s t
def gv (d : Nat → Nat) : Nat → Nat → Int
  | 0, _ => 0
  | n + 1, s => bcF d (gv d n) s (d 2)
section GAME
variable {d : Nat → Nat} {w Na : Nat → Int64} {c T T0 Tm S Li By Of Fe Mi : Nat → Int32} {L : Int32} {K : Int32 × Int32}
theorem kn_le (hd : dInv d) (u : Nat) : knownS d u ≤ 36 := Nat.le_trans (sm_le_n (fun k _ => by split <;> omega)) hd.c36
theorem cmv_b (hd : dInv d) {g : Nat → Int} {B : Int} (hg : ∀ u, -B ≤ g u ∧ g u ≤ B) (s t : Nat) : -(B + 36) ≤ cmv d g s t ∧ cmv d g s t ≤ B + 36 := by
  have h1 := kn_le hd s
  have h2 := kn_le hd (s ||| 2 ^ t)
  have h3 := hg (s ||| 2 ^ t)
  unfold cmv
  omega
theorem bcF_b (hd : dInv d) {g : Nat → Int} {B : Int} (hg : ∀ u, -B ≤ g u ∧ g u ≤ B) (s : Nat) : ∀ t, -(B + 36) ≤ bcF d g s t ∧ bcF d g s t ≤ B + 36
  | 0 => by have := hg s; rw [bcF]; omega
  | t + 1 => by
    have h1 := bcF_b hd hg s t
    have h2 := cmv_b hd hg s t
    rw [bcF]
    repeat' split
    all_goals assumption
theorem gv_b (hd : dInv d) : ∀ n s : Nat, -(36 * (n : Int)) ≤ gv d n s ∧ gv d n s ≤ 36 * (n : Int)
  | 0, s => by rw [gv]; omega
  | n + 1, s => by
    have := bcF_b hd (B := 36 * (n : Int)) (gv_b hd n) s (d 2)
    rw [gv]
    omega
theorem gv_s (hd : dInv d) {n : Nat} (hn : n ≤ 4) (s : Nat) : -144 ≤ gv d n s ∧ gv d n s ≤ 144 := by
  have := gv_b hd n s
  omega
/-- worth by set, for the sets with all that are heard, from one on -/
def wtR (d : Nat → Nat) (g : Nat → Int) (V : Nat → Int32) (s : Nat) : Prop := ∀ u, u < 2 ^ d 2 → u &&& hset d = hset d → s ≤ u → V u = iZ (g u)
theorem e2_creditFrom (Y : Nat → Int32) {u : Nat} (hu : u < 32) : f_X2_creditFrom Y (iN u) = some (Y u) := by
  rw [f_X2_creditFrom, show (31 : Int32) = iN 31 from rfl, e_within_l _ 31 (by decide), if_pos (by rw [inR_iN (by omega)]; omega), Option.bind_some, if_neg (by decide), ck_iN (by omega) (by omega), iN_nn (by omega)]
theorem two_lt {d : Nat → Nat} {s t : Nat} (hs : s < 2 ^ d 2) (ht : t < d 2) : s ||| 2 ^ t < 2 ^ d 2 := Nat.or_lt_two_pow hs (Nat.pow_lt_pow_right (by decide) ht)
theorem e2_creditOfMove (hd : dInv d) {Y V : Nat → Int32} (hY : knR d Y (2 ^ d 2)) {g : Nat → Int} {s t : Nat} (hW : wtR d g V s) (hs : s < 2 ^ d 2) (he : s &&& hset d = hset d) (ht : t < d 2) : f_X2_creditOfMove Y V (iN s) (iN t) = some (iZ (cmv d g s t)) := by
  have hm := hd.many
  have h32 := pow_le hm.1
  have hh := hset_2 hd
  have h1 := two_lt hs ht
  have p2 := Nat.pow_lt_pow_right (show 1 < 2 by decide) ht
  have h2 := st_t (s := s) (h := hset d) (t := t) (by omega) (by omega) (by omega) he
  have h3 : s ≤ s ||| 2 ^ t := Nat.left_le_or
  rw [f_X2_creditOfMove, shl_tab t (by omega), or_t s (by omega) _ (by omega), e2_knownBy Y (by omega), Option.bind_some, e2_knownBy Y (by omega), Option.bind_some, e2_creditFrom V (by omega), Option.bind_some, hY _ h1 h2, hY _ hs he, hW _ h1 h2 h3, iN_Z, iN_Z, iZ_sub, iZ_sub]
  rfl
theorem e2_bestCredit (hd : dInv d) (hk : kRep d w T S Li Na By Of Fe Mi) {Y V : Nat → Int32} (hY : knR d Y (2 ^ d 2)) {g : Nat → Int} (hg : ∀ u, -144 ≤ g u ∧ g u ≤ 144) {s : Nat} (hW : wtR d g V s) (hs : s < 2 ^ d 2) (he : s &&& hset d = hset d) : f_X2_bestCredit T V Y (iN s) = some (iZ (bcF d g s (d 2))) := by
  have hm := hd.many
  have h32 := pow_le hm.1
  rw [f_X2_bestCredit, e2_creditFrom V (by omega), Option.bind_some, hW s hs he (Nat.le_refl _), iZ_neg]
  refine iter_run (g := g_X2_bestCredit_10 T V Y (iN s)) (z := fun _ _ => none) (d 2) (fun t (φ : Int32 → Int32 → Option Int32) => φ (iZ (bcF d g s t)) (iN t) = some (iZ (bcF d g s (d 2)))) (by omega) (fun t F ht ih => ?_) (fun F => ?_)
  · have b1 := bcF_b hd hg s t
    have b2 := cmv_b hd hg s t
    rw [bcF] at ih
    rw [g_X2_bestCredit_10, hk.1.2.2.2.2.1, if_neg (by rw [iN_le (by omega) (by omega)]; omega), isIn_tab s (by omega) t (by omega), Option.bind_some, e2_creditOfMove hd hY hW hs he ht, Option.bind_some, letv, show (iN t + 1 : Int32) = iN (t + 1) from iN_add t 1]
    cases hb : s.testBit t
    · rw [hb, if_neg (by decide)] at ih
      rw [if_pos (show (if false = true then (1 : Int32) else 0) = 0 from rfl)]
      by_cases q : bcF d g s t < cmv d g s t
      · rw [if_pos q] at ih
        rw [if_pos (by rw [iZ_lt (by omega) (by omega)]; exact q)]; exact ih
      · rw [if_neg q] at ih
        rw [if_neg (by rw [iZ_lt (by omega) (by omega)]; exact q)]; exact ih
    · rw [hb, if_pos rfl] at ih
      rw [if_neg (show ¬ (if true = true then (1 : Int32) else 0) = 0 by decide)]; exact ih
  · rw [g_X2_bestCredit_10, hk.1.2.2.2.2.1, if_pos (by rw [iN_le (by omega) (by omega)]; omega)]
theorem e2_play (hd : dInv d) (hk : kRep d w T S Li Na By Of Fe Mi) {Y : Nat → Int32} (hY : knR d Y (2 ^ d 2)) (V : Nat → Int32) {n : Nat} (hn : n ≤ 4) : ∃ V', f_X2_play T V Y (iN n) = some V' ∧ wtR d (gv d n) V' 0 := by
  have hm := hd.many
  have h32 := pow_le hm.1
  have hh := hset_2 hd
  have hal := fun u => Nat.and_le_left (n := u) (m := hset d)
  obtain ⟨V0, f0, f1⟩ := e7_fill 32 (by decide) V 0
  have l := iter_run (g := g_X2_play_10 T Y (iN n)) (z := fun _ _ => none) n (fun k (φ : Int32 → (Nat → Int32) → Option (Nat → Int32)) => ∀ V1, wtR d (gv d k) V1 0 → ∃ V', φ (iN k) V1 = some V' ∧ wtR d (gv d n) V' 0) (by omega) (fun k F hk9 ih => fun V1 h1 => ?_) (fun F => fun V1 h1 => ?_)
  · obtain ⟨V', e1, e2⟩ := l V0 (fun u hu _ _ => by rw [f1 u (by omega)]; rfl)
    exact ⟨V', by rw [f_X2_play, f0]; exact e1, e2⟩
  · have l2 := iter_run (g := g_X2_play_21 T Y (iN n) F) (z := fun _ _ _ => none) (2 ^ d 2 - hset d) (fun i (φ : Int32 → Int32 → (Nat → Int32) → Option (Nat → Int32)) => ∀ V1, wtR d (gv d k) V1 (hset d + i) → (∀ u, u < hset d + i → u &&& hset d = hset d → V1 u = iZ (gv d (k + 1) u)) → ∃ V', φ (iN k) (iN (hset d + i)) V1 = some V' ∧ wtR d (gv d n) V' 0) (by omega) (fun i G hi ih2 => fun V1 h1 h2 => ?_) (fun G => fun V1 h1 h2 => ?_)
    · rw [g_X2_play_10, if_neg (by rw [iN_le (by omega) (by omega)]; omega), hk.1.2.2.2.2.2.1]
      exact l2 V1 (fun u hu he _ => h1 u hu he (by omega)) (fun u hu he => by have := hal u; omega)
    · rw [g_X2_play_21, e3_sets hd hk.1, Option.bind_some, if_neg (by rw [iN_le (by omega) (by omega)]; omega), if_neg (by rw [show (32 : Int32) = iN 32 from rfl, iN_le (by omega) (by omega)]; omega), hk.1.2.2.2.2.2.1, and_tab _ (by omega) _ (by omega), show (iN (hset d + i) + 1 : Int32) = iN (hset d + (i + 1)) from iN_add (hset d + i) 1]
      have ha := hal (hset d + i)
      by_cases e : (hset d + i) &&& hset d = hset d
      · rw [if_pos (congrArg iN e), e2_bestCredit hd hk hY (gv_s hd (by omega)) h1 (by omega) e, Option.bind_some, ck_iN (by omega) (by omega), iN_nn (by omega)]
        refine ih2 _ (fun u hu he hl => ?_) (fun u hu he => ?_)
        · rw [upd_n (by omega)]; exact h1 u hu he (by omega)
        · by_cases q : u = hset d + i
          · rw [q, upd_s]; rfl
          · rw [upd_n q]; exact h2 u (by omega) he
      · rw [if_neg (iN_ne (by omega) (by omega) e)]
        refine ih2 _ (fun u hu he hl => h1 u hu he (by omega)) (fun u hu he => ?_)
        by_cases q : u = hset d + i
        · rw [q] at he; exact absurd he e
        · exact h2 u (by omega) he
    · rw [g_X2_play_21, e3_sets hd hk.1, Option.bind_some, if_pos (by rw [iN_le (by omega) (by omega)]; omega), show (iN k + 1 : Int32) = iN (k + 1) from iN_add k 1]
      exact ih V1 (fun u hu he _ => h2 u (by omega) he)
  · refine ⟨V1, ?_, h1⟩
    rw [g_X2_play_10, if_pos (by rw [iN_le (by omega) (by omega)]; omega)]
/-- the model's scan: the best traveller so far -/
def mst (d : Nat → Nat) (g : Nat → Int) (s : Nat) : Nat → Option (Int × Nat)
  | 0 => none
  | t + 1 => if s.testBit t = true then mst d g s t else match mst d g s t with
    | none => some (cmv d g s t, t)
    | some x => if x.1 < cmv d g s t then some (cmv d g s t, t) else some x
def mfin (d : Nat → Nat) (g : Nat → Int) (s : Nat) : Int × Nat := match mst d g s (d 2) with
  | none => (- g s, d 2)
  | some x => if x.1 < - g s then (- g s, d 2) else x
theorem mst_ok (d : Nat → Nat) (g : Nat → Int) (s : Nat) : ∀ n, match mst d g s n with
    | none => (∀ t, t < n → s.testBit t = true) ∧ bcF d g s n = - g s
    | some x => x.2 < n ∧ s.testBit x.2 = false ∧ cmv d g s x.2 = x.1 ∧ (∀ t, t < n → s.testBit t = false → cmv d g s t ≤ x.1 ∧ (cmv d g s t = x.1 → x.2 ≤ t)) ∧ bcF d g s n = if - g s < x.1 then x.1 else - g s
  | 0 => ⟨fun t ht => by omega, rfl⟩
  | n + 1 => by
    have ih := mst_ok d g s n
    rw [mst, bcF]
    by_cases hb : s.testBit n = true
    · rw [if_pos hb, if_pos hb]
      have ext : ∀ t, t < n + 1 → s.testBit t = false → t < n := fun t ht h => by
        rcases Nat.lt_or_ge t n with q | q
        · exact q
        · obtain rfl : t = n := by omega
          rw [hb] at h; cases h
      cases hm : mst d g s n with
      | none =>
        rw [hm] at ih
        refine ⟨fun t ht => ?_, ih.2⟩
        by_cases e : t = n
        · rw [e]; exact hb
        · exact ih.1 t (by omega)
      | some x =>
        rw [hm] at ih
        exact ⟨by have := ih.1; omega, ih.2.1, ih.2.2.1, fun t ht h => ih.2.2.2.1 t (ext t ht h) h, ih.2.2.2.2⟩
    · rw [if_neg hb, if_neg hb]
      have hb2 : s.testBit n = false := by cases h9 : s.testBit n with
        | false => rfl
        | true => exact absurd h9 hb
      cases hm : mst d g s n with
      | none =>
        rw [hm] at ih
        dsimp only
        refine ⟨by omega, hb2, rfl, fun t ht h => ?_, ?_⟩
        · by_cases e : t = n
          · rw [e]; exact ⟨by omega, fun _ => Nat.le_refl _⟩
          · have := ih.1 t (by omega)
            rw [this] at h; cases h
        · rw [ih.2]
      | some x =>
        rw [hm] at ih
        obtain ⟨i1, i2, i3, i4, i5⟩ := ih
        dsimp only
        by_cases q : x.1 < cmv d g s n
        · rw [if_pos q]
          refine ⟨by omega, hb2, rfl, fun t ht h => ?_, ?_⟩
          · by_cases e : t = n
            · rw [e]; exact ⟨by omega, fun _ => Nat.le_refl _⟩
            · have := (i4 t (by omega) h).1
              exact ⟨by omega, fun _ => by omega⟩
          · rw [i5]
            repeat' split
            all_goals omega
        · rw [if_neg q]
          refine ⟨by omega, i2, i3, fun t ht h => ?_, ?_⟩
          · by_cases e : t = n
            · rw [e]; exact ⟨by omega, fun _ => by omega⟩
            · exact i4 t (by omega) h
          · rw [i5]
            repeat' split
            all_goals omega
theorem mfin_1 (d : Nat → Nat) (g : Nat → Int) (s : Nat) : (mfin d g s).1 = bcF d g s (d 2) := by
  have h := mst_ok d g s (d 2)
  unfold mfin
  cases hm : mst d g s (d 2) with
  | none => rw [hm] at h; dsimp only; exact h.2.symm
  | some x =>
    rw [hm] at h
    dsimp only
    rw [h.2.2.2.2]
    repeat' split
    all_goals (first | rfl | omega)
theorem mfin_2 (d : Nat → Nat) (g : Nat → Int) (s : Nat) : ((mfin d g s).2 = d 2 ∧ ∀ t, t < d 2 → s.testBit t = false → ¬ cmv d g s t = bcF d g s (d 2)) ∨ ((mfin d g s).2 < d 2 ∧ s.testBit (mfin d g s).2 = false ∧ cmv d g s (mfin d g s).2 = bcF d g s (d 2) ∧ ∀ t, t < (mfin d g s).2 → s.testBit t = false → ¬ cmv d g s t = bcF d g s (d 2)) := by
  have h := mst_ok d g s (d 2)
  unfold mfin
  cases hm : mst d g s (d 2) with
  | none =>
    rw [hm] at h
    refine Or.inl ⟨rfl, fun t ht hb => ?_⟩
    rw [h.1 t ht] at hb; cases hb
  | some x =>
    rw [hm] at h
    obtain ⟨i1, i2, i3, i4, i5⟩ := h
    dsimp only
    rw [i5]
    by_cases q : x.1 < - g s
    · rw [if_pos q, if_neg (by omega)]
      exact Or.inl ⟨rfl, fun t ht hb => by have := (i4 t ht hb).1; omega⟩
    · rw [if_neg q]
      have e : (if - g s < x.1 then x.1 else - g s) = x.1 := by split <;> omega
      rw [e]
      exact Or.inr ⟨i1, i2, i3, fun t ht hb h9 => by have := (i4 t (by omega) hb).2 h9; omega⟩
end GAME
