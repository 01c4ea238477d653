/-! Lives: what a deed comes to, both sides. -/
theorem iN_md {x m : Nat} (hx : x < 2147483648) (hm : m < 2147483648) : iN x - iN x / iN m * iN m = iN (x % m) := by
  rw [iN_div hx hm, iN_mul, iN_sub (Nat.div_mul_le_self x m), Nat.mod_eq_sub_div_mul]
def nd (D : Nat) : Nat := (D * 2971 + 11003) % 65536
theorem nd_lt (D : Nat) : nd D < 65536 := Nat.mod_lt _ (by decide)
theorem nd_eq {D : Nat} (h : D < 65536) : (iN D * 2971 + 11003 - (iN D * 2971 + 11003) / 65536 * 65536 : Int32) = iN (nd D) := by
  rw [show (2971 : Int32) = iN 2971 from rfl, iN_mul, show (11003 : Int32) = iN 11003 from rfl, iN_add, show (65536 : Int32) = iN 65536 from rfl]
  exact iN_md (by omega) (by decide)
theorem nd_by {D m : Nat} (hm : m < 2147483648) : (iN (nd D) / 8 - iN (nd D) / 8 / iN m * iN m : Int32) = iN (nd D / 8 % m) := by
  have h := nd_lt D
  rw [show (8 : Int32) = iN 8 from rfl, iN_div (by omega) (by decide)]
  exact iN_md (by omega) hm
theorem l_draw5 {T0 : Nat → Int32} {D m : Nat} (hD : D < 65536) (h : T0 6 = iN D) (hm : 1 ≤ m ∧ m < 65536) : f_X5_draw T0 (iN m) = some (iN (nd D / 8 % m), upd T0 6 (iN (nd D))) := by
  rw [f_X5_draw, ck_y (by decide), if_neg (by rw [show (0 : Int32) = iN 0 from rfl, iN_le (by omega) (by omega)]; omega), ck_y (by decide), ck_y (by rw [decide_eq_true_eq]; exact iN_ne (b := 0) (by omega) (by decide) (by omega)), h, nd_eq hD, upd_s, nd_by (by omega)]
theorem l_draw12 {T0 : Nat → Int32} {D m : Nat} (hD : D < 65536) (h : T0 35 = iN D) (hm : 1 ≤ m ∧ m < 65536) : f_X12_draw T0 (iN m) = some (iN (nd D / 8 % m), upd T0 35 (iN (nd D))) := by
  rw [f_X12_draw, ck_y (by decide), ck_y (by decide), ck_y (by rw [decide_eq_true_eq]; exact iN_ne (b := 0) (by omega) (by decide) (by omega)), h, nd_eq hD, upd_s, nd_by (by omega)]
/-- what a life may change of a duchy -/
def dGr (d d' : Nat → Nat) : Prop := d 3 ≤ d' 3 ∧ ∀ j, j ≠ 3 → ¬ (47 ≤ j ∧ j < 52) → ¬ (52 + d 3 ≤ j ∧ j < 64) → ¬ (64 + d 3 ≤ j ∧ j < 76) → ¬ (76 + d 3 ≤ j ∧ j < 88) → ¬ (88 + d 3 ≤ j ∧ j < 100) → d' j = d j
theorem dGr.r (d : Nat → Nat) : dGr d d := ⟨Nat.le_refl _, fun _ _ _ _ _ _ _ => rfl⟩
theorem dGr.t {d e f : Nat → Nat} (h : dGr d e) (h2 : dGr e f) : dGr d f := by
  have h0 := h.1
  have h1 := h2.1
  exact ⟨Nat.le_trans h0 h1, fun j a b c' d' e' f' => (h2.2 j a b (by omega) (by omega) (by omega) (by omega)).trans (h.2 j a b c' d' e' f')⟩
theorem dGr.le {d d' : Nat → Nat} (h : dGr d d') : d' 0 = d 0 ∧ d' 1 = d 1 ∧ d' 2 = d 2 := ⟨h.2 0 (by decide) (by decide) (by omega) (by omega) (by omega) (by omega), h.2 1 (by decide) (by decide) (by omega) (by omega) (by omega) (by omega), h.2 2 (by decide) (by decide) (by omega) (by omega) (by omega) (by omega)⟩
theorem tld_gr {d : Nat → Nat} {k x q m : Nat} (h : d 3 < 12) : dGr d (tld d k x q m) := ⟨by rw [tld_3]; omega, fun j a b c e f g => tld_n (by omega)⟩
theorem hrd_gr {d : Nat → Nat} {i b : Nat} (h : i < 5) : dGr d (updN d (47 + i) b) := ⟨Nat.le_of_eq (updN_n (by omega)).symm, fun j a b c e f g => updN_n (by omega)⟩
/-- the deeds of a life so far; z: whether the last came -/
def lA (D : Nat) (z : Int32) (T0 V Tm : Nat → Int32) : Prop := D < 65536 ∧ T0 6 = iN D ∧ Tm 35 = iN D ∧ V 0 = Tm 37 + (if z = 0 then 1 else 0) ∧ V 1 = Tm 38 ∧ V 2 = Tm 39 ∧ V 3 = Tm 40 ∧ V 4 = Tm 41
def frL (Tm Tm' : Nat → Int32) : Prop := ∀ j, (j < 35 ∨ j = 36 ∨ j = 37 ∨ 41 ≤ j) → Tm' j = Tm j
def lOut (d : Nat → Nat) (w : Nat → Int64) (S Li : Nat → Int32) (Na : Nat → Int64) (T0 Tm c : Nat → Int32) (z : Int32) (T0' T' By' Of' Fe' Mi' V' Tm' c' : Nat → Int32) : Prop := ∃ d' D', dInv d' ∧ mRep d' c' ∧ kRep d' w T' S Li Na By' Of' Fe' Mi' ∧ dGr d d' ∧ (∀ j, 100 ≤ j → c' j = c j) ∧ lA D' z T0' V' Tm' ∧ frL Tm Tm' ∧ (∀ j, j ≠ 6 → T0' j = T0 j) ∧ (z = 0 ∨ z = 1)
section LIF1
variable {d : Nat → Nat} {w : Nat → Int64} {Na : Nat → Int64} {T0 T S Li By Of Fe Mi V Tm c : Nat → Int32} {D : Nat}
theorem lA.no (h : lA D 1 T0 V Tm) : f_X5_count V 0 = some (upd V 0 (V 0 + 1)) ∧ lA D 0 T0 (upd V 0 (V 0 + 1)) Tm := by
  obtain ⟨h1, h2, h3, h4, h5, h6, h7, h8⟩ := h
  refine ⟨?_, h1, h2, h3, ?_, (upd_n (by decide)).trans h5, (upd_n (by decide)).trans h6, (upd_n (by decide)).trans h7, (upd_n (by decide)).trans h8⟩
  · rw [f_X5_count, if_pos rfl]; rfl
  · rw [upd_s, h4, if_neg (by decide), if_pos rfl, Int32.add_zero]
theorem l_hear (hd : dInv d) (hc : mRep d c) (hk : kRep d w T S Li Na By Of Fe Mi) (hL : lA D 1 T0 V Tm) {i b : Nat} (hi : i < d 2) (hb : b ≤ 1) : ∃ z T' V' c', f_X3_setHeard T (iN i) (iN b) = some (z, T') ∧ f_X5_count V z = some V' ∧ f_X12_hears c (iN i) (iN b) = some (z, c') ∧ lOut d w S Li Na T0 Tm c z T0 T' By Of Fe Mi V' Tm c' := by
  have hm := hd.many
  by_cases q : d (47 + i) = b
  · refine ⟨0, T, _, c, ?_, hL.no.1, ?_, d, D, hd, hc, hk, dGr.r d, fun _ _ => rfl, hL.no.2, fun _ _ => rfl, fun _ _ => rfl, Or.inl rfl⟩
    · rw [e3_setHeard hd hk hi hb, if_pos q]
    · rw [e12_hears hd hc hi hb, if_pos q]
  · obtain ⟨hd', hk'⟩ := e_heard hd hk hi hb q
    refine ⟨1, _, V, _, ?_, rfl, ?_, _, D, hd', mRep_upd hc (47 + i) b, hk', hrd_gr (by omega), fun j hj => upd_n (by omega), hL, fun _ _ => rfl, fun _ _ => rfl, Or.inr rfl⟩
    · rw [e3_setHeard hd hk hi hb, if_neg q]
    · rw [e12_hears hd hc hi hb, if_neg q]
theorem l_tell (hd : dInv d) (hc : mRep d c) (hk : kRep d w T S Li Na By Of Fe Mi) (hL : lA D 1 T0 V Tm) {k x q : Nat} (hk2 : k < d 2) (hx : x < cells d) (hq : q < 4) : ∃ z T' By' Of' Fe' Mi' V' Tm' c', f_X3_addTelling T Of By Fe Mi (iN k) (iN x) (iN q) 0 = some (z, T', Of', By', Fe', Mi') ∧ f_X5_countTelling V z = some V' ∧ f_X12_isToldOf Tm c (iN k) (iN x) (iN q) = some (z, Tm', c') ∧ lOut d w S Li Na T0 Tm c z T0 T' By' Of' Fe' Mi' V' Tm' c' := by
  have h36 := hd.c36
  have a1 := e3_addTelling hd hk (show x < 36 by omega) (iN k) (iN q) 0
  have a2 := e12_canTell hd hc (show x < 36 by omega)
  by_cases h : d 3 < 12 ∧ tellOf d x < 5
  · rw [if_pos h] at a1 a2
    obtain ⟨c', hc1, hc2, hc3⟩ := tld_m hd hc (k := k) (x := x) (q := q) (m := 0) h.1
    obtain ⟨g1, g2, g3, g4, g5, g6, g7, g8⟩ := hL
    refine ⟨1, _, _, _, _, _, upd V 1 (V 1 + 1), upd Tm 38 (Tm 38 + 1), c', a1, ?_, ?_, tld d k x q 0, D, tld_inv hd h.1 hk2 hx hq (by omega) h.2, hc2, tld_k hd hk h.1, tld_gr h.1, hc3, ⟨g1, g2, (upd_n (by decide)).trans g3, ?_, ?_, ?_, ?_, ?_⟩, fun j hj => upd_n (by omega), fun _ _ => rfl, Or.inr rfl⟩
    · rfl
    · have hc1' : f_X12_tells c 0 (iN k) (iN x) (iN q) 0 = some c' := hc1
      rw [f_X12_isToldOf, a2, Option.bind_some, if_neg (show ¬ (1 : Int32) = 0 by decide), hc1']; rfl
    · rw [upd_n (by decide), upd_n (by decide)]; exact g4
    · rw [upd_s, upd_s, g5]
    · rw [upd_n (by decide), upd_n (by decide)]; exact g6
    · rw [upd_n (by decide), upd_n (by decide)]; exact g7
    · rw [upd_n (by decide), upd_n (by decide)]; exact g8
  · rw [if_neg h] at a1 a2
    refine ⟨0, _, _, _, _, _, upd V 0 (V 0 + 1), Tm, c, a1, ?_, ?_, d, D, hd, hc, hk, dGr.r d, fun _ _ => rfl, hL.no.2, fun _ _ => rfl, fun _ _ => rfl, Or.inl rfl⟩
    · rw [f_X5_countTelling, hL.no.1, Option.bind_some, if_pos rfl]
    · rw [f_X12_isToldOf, a2, Option.bind_some, if_pos rfl]
end LIF1
