/-! Calls: write, read on trays. -/
def r4 (A B C D : Nat → Int64) : Nat → Nat → Int64 := fun t => match t with
  | 0 => A
  | 1 => B
  | 2 => C
  | _ => D
/-- the trays: lengths, sorts and rows against the model's many, sorts and numbers -/
def yRep (Le So : Nat → Int32) (R : Nat → Nat → Int64) (Ma Sm : Nat → Int32) (X : Nat → Int64) : Prop := ∀ t, t < 4 → Le t = Ma t ∧ So t = Sm t ∧ (Le t = -1 ∨ ∃ n, n ≤ 60 ∧ Le t = iN n ∧ ∀ k, k < n → R t k = X (60 * t + k))
theorem e9_isTray (x : Int32) : f_X9_isTray x = some (if inR x 4 then 1 else 0) := by
  unfold f_X9_isTray
  rw [e_within_3, Option.bind_some, ck_bz]
theorem e12_isTray (x : Int32) : f_X12_isTray x = some (if inR x 4 then 1 else 0) := by
  unfold f_X12_isTray
  rw [e_isIn_3, Option.bind_some, ck_bz]
theorem iN_ne_m1 {n : Nat} (h : n < 2147483648) : ¬ iN n = -1 := fun e => by
  have h1 := congrArg Int32.toInt e
  rw [iN_int h] at h1
  have h2 : (-1 : Int32).toInt = -1 := by decide
  omega
theorem e9_isMissing {V : Nat → Int32} {t : Nat} (ht : t < 4) : f_X9_isMissing V (iN t) = some (if V t = -1 then 1 else 0) := by
  have e := e9_isTray (iN t)
  rw [if_pos (by rw [inR_iN (by omega)]; exact ht)] at e
  rw [f_X9_isMissing, e, Option.bind_some, if_neg (by decide), ck_iN ht (by decide), iN_nn (by omega)]
  split <;> rfl
theorem e9_hasPlaces {V : Nat → Int32} {t n : Nat} (ht : t < 4) (hn : n ≤ 60) (hV : V t = iN n) (x y : Int32) : f_X9_hasPlaces V (iN t) x y = some (if 0 ≤ y.toInt ∧ 0 ≤ x.toInt ∧ x.toInt + y.toInt ≤ n then 1 else 0) := by
  rw [f_X9_hasPlaces, e9_isMissing ht, hV, if_neg (iN_ne_m1 (by omega)), Option.bind_some, if_pos rfl]
  by_cases h0 : 0 ≤ y
  · have h0' := Int32.le_iff_toInt_le.mp h0
    rw [show (0 : Int32).toInt = 0 from rfl] at h0'
    rw [if_pos h0, ck_iN ht (by decide), iN_nn (by omega), hV, e_within_l x n (by omega), Option.bind_some]
    by_cases h1 : inR x (n + 1)
    · obtain ⟨j, hj, rfl⟩ := h1.eq (by omega)
      rw [if_pos h1, if_neg (by decide), ck_iN ht (by decide), iN_sub (by omega)]
      rw [iN_int (show j < 2147483648 by omega)]
      by_cases h2 : iN (n - j) < y
      · have h2' := Int32.lt_iff_toInt_lt.mp h2
        rw [iN_int (by omega)] at h2'
        rw [if_pos h2, if_neg (by omega)]
      · have h2' : ¬ (iN (n - j)).toInt < y.toInt := fun h => h2 (Int32.lt_iff_toInt_lt.mpr h)
        rw [iN_int (by omega)] at h2'
        rw [if_neg h2, if_pos (by omega)]
    · rw [if_neg h1, if_pos rfl, if_neg (fun h => h1 ⟨by omega, by omega⟩)]
  · have h0' : ¬ (0 : Int32).toInt ≤ y.toInt := fun h => h0 (Int32.le_iff_toInt_le.mpr h)
    rw [show (0 : Int32).toInt = 0 from rfl] at h0'
    rw [if_neg h0, if_neg (fun h => h0' h.1)]
theorem hasPlaces_m {V : Nat → Int32} {t : Nat} (ht : t < 4) (hV : V t = -1) (x y : Int32) : f_X9_hasPlaces V (iN t) x y = some 0 := by
  rw [f_X9_hasPlaces, e9_isMissing ht, if_pos hV]; rfl
theorem e9_one {V : Nat → Int32} {t n : Nat} (ht : t < 4) (hn : n ≤ 60) (hV : V t = iN n) (y : Int32) : f_X9_hasPlaces V (iN t) y 1 = some (if inR y n then 1 else 0) := by
  rw [e9_hasPlaces ht hn hV, show (1 : Int32).toInt = 1 by decide]
  exact congrArg some (ifc (by unfold inR; omega))
section TRAY
variable {Le So Ma Sm T0 Tm : Nat → Int32} {R0 R1 R2 R3 X : Nat → Int64} {R : Nat → Nat → Int64} {L : Int32} {K : Int32 × Int32}
theorem e_place (hy : yRep Le So R Ma Sm X) (x y : Int32) : ∃ w, f_X9_whyNoPlace Le x y = some w ∧ f_X12_placed Ma x y = some w ∧ (w = 0 ∧ (∃ t n k, t < 4 ∧ k < n ∧ n ≤ 60 ∧ x = iN t ∧ y = iN k ∧ Le t = iN n) ∨ w = 1 ∨ w = 3 ∨ w = 4) := by
  have e1 := e9_isTray x
  by_cases hx : inR x 4
  · rw [if_pos hx] at e1
    obtain ⟨t, ht, rfl⟩ := hx.eq (by decide)
    obtain ⟨h1, -, h2⟩ := hy t ht
    have hn0 : ¬ iN t < 0 := by
      rw [show (0 : Int32) = iN 0 from rfl, iN_lt (by omega) (by omega)]; omega
    have h4 : iN t < 4 := by
      rw [show (4 : Int32) = iN 4 from rfl, iN_lt (by omega) (by omega)]; exact ht
    rcases h2 with h2 | ⟨n, hn, h2, -⟩
    · refine ⟨3, ?_, ?_, Or.inr (Or.inr (Or.inl rfl))⟩
      · rw [f_X9_whyNoPlace, e1, Option.bind_some, if_neg (by decide), e9_isMissing ht, if_pos h2]; rfl
      · rw [f_X12_placed, f_X12_trayed, if_neg hn0, if_pos h4, ck_iN ht (by decide), iN_nn (by omega), ← h1, h2]; rfl
    · have h3 : f_X12_trayed Ma (iN t) = some 0 := by
        rw [f_X12_trayed, if_neg hn0, if_pos h4, ck_iN ht (by decide), iN_nn (by omega), ← h1, h2, if_pos (by rw [show (0 : Int32) = iN 0 from rfl, iN_le (by omega) (by omega)]; omega)]
      have h5 : f_X9_whyNoPlace Le (iN t) y = some (if inR y n then 0 else 4) := by
        rw [f_X9_whyNoPlace, e1, Option.bind_some, if_neg (by decide), e9_isMissing ht, h2, if_neg (iN_ne_m1 (by omega)), Option.bind_some, if_pos rfl, e9_one ht hn h2, Option.bind_some]
        by_cases h : inR y n
        · rw [if_pos h, if_neg (by decide), if_pos h]
        · rw [if_neg h, if_pos rfl, if_neg h]
      by_cases h : inR y n
      · refine ⟨0, by rw [h5, if_pos h], ?_, Or.inl ⟨rfl, ?_⟩⟩
        · obtain ⟨k, hk, rfl⟩ := h.eq (by omega)
          rw [f_X12_placed, h3, Option.bind_some, if_pos (by decide), if_neg (by rw [show (0 : Int32) = iN 0 from rfl, iN_lt (by omega) (by omega)]; omega), ck_iN ht (by decide), iN_nn (by omega), ← h1, h2, if_pos (by rw [iN_lt (by omega) (by omega)]; exact hk)]
        · obtain ⟨k, hk, rfl⟩ := h.eq (by omega)
          exact ⟨t, n, k, ht, hk, hn, rfl, rfl, h2⟩
      · refine ⟨4, by rw [h5, if_neg h], ?_, Or.inr (Or.inr (Or.inr rfl))⟩
        rw [f_X12_placed, h3, Option.bind_some, if_pos (by decide)]
        by_cases h6 : y < 0
        · rw [if_pos h6]
        · rw [if_neg h6, ck_iN ht (by decide), iN_nn (by omega), ← h1, h2, if_neg (fun h7 => h ?_)]
          have h6' : ¬ y.toInt < (0 : Int32).toInt := fun q => h6 (Int32.lt_iff_toInt_lt.mpr q)
          rw [show (0 : Int32).toInt = 0 from rfl] at h6'
          have h7' := Int32.lt_iff_toInt_lt.mp h7
          rw [iN_int (by omega)] at h7'
          exact ⟨by omega, h7'⟩
  · rw [if_neg hx] at e1
    refine ⟨1, ?_, ?_, Or.inr (Or.inl rfl)⟩
    · rw [f_X9_whyNoPlace, e1]; rfl
    · rw [f_X12_placed, f_X12_trayed]
      by_cases h0 : x < 0
      · rw [if_pos h0]; rfl
      · rw [if_neg h0, if_neg (fun h4 => hx ?_)]
        · rfl
        · have h0' : ¬ x.toInt < (0 : Int32).toInt := fun q => h0 (Int32.lt_iff_toInt_lt.mpr q)
          have h4' := Int32.lt_iff_toInt_lt.mp h4
          rw [show (0 : Int32).toInt = 0 from rfl] at h0'
          rw [show (4 : Int32).toInt = 4 from rfl] at h4'
          exact ⟨by omega, h4'⟩
theorem q_read (hy : yRep Le So (r4 R0 R1 R2 R3) Ma Sm X) (hs : sR T0 Tm L K) (x y : Int32) : ∃ v U Um, f_X11_read T0 Le R0 R1 R2 R3 x y = some (v, U) ∧ f_X12_read Tm Ma X x y = some (v, Um) ∧ sR U Um L K := by
  obtain ⟨w, h1, h2, h3⟩ := e_place hy x y
  rcases h3 with ⟨rfl, t, n, k, ht, hk, hn, rfl, rfl, h4⟩ | h3
  · have hr : r4 R0 R1 R2 R3 t k = X (60 * t + k) := by
      rcases (hy t ht).2.2 with h5 | ⟨n', hn', h5, h6⟩
      · exact absurd (h4.symm.trans h5) (iN_ne_m1 (by omega))
      · have h7 := h4.symm.trans h5
        rw [iN_eq (by omega) (by omega)] at h7
        subst h7
        exact h6 k hk
    refine ⟨X (60 * t + k), upd T0 14 0, upd (upd Tm 1 0) 0 0, ?_, ?_, sR_ok hs⟩
    · rw [f_X11_read, h1, Option.bind_some, if_pos rfl, f_X9_get, e9_one ht hn h4, if_pos (by rw [inR_iN (by omega)]; exact hk), Option.bind_some, if_neg (by decide), ← hr]
      rcases (show t = 0 ∨ t = 1 ∨ t = 2 ∨ t = 3 by omega) with rfl | rfl | rfl | rfl <;> simp (disch := omega) only [r4, iN_lit, iN_add, iN_mul, iN_sub, iN_nn, ck_iN, iN_le, iN_lt, iN_eq, Nat.mul_zero, Nat.zero_add, Nat.add_zero, Nat.reduceMul, Nat.reduceAdd, Nat.reduceSub, Option.bind_some, reduceIte, Nat.reduceEqDiff, Nat.reduceLeDiff, Nat.reduceLT, Nat.le_refl, Nat.zero_le, eq_self]
    · rw [f_X12_read, h2, Option.bind_some, if_pos (by rw [upd_s]; decide)]
      simp (disch := omega) only [iN_lit, iN_add, iN_mul, iN_sub, iN_nn, ck_iN, iN_le, iN_lt, iN_eq, Nat.mul_zero, Nat.zero_add, Nat.add_zero, Nat.reduceMul, Nat.reduceAdd, Nat.reduceSub, Option.bind_some, reduceIte, Nat.reduceEqDiff, Nat.reduceLeDiff, Nat.reduceLT, Nat.le_refl, Nat.zero_le, eq_self]
  · have hne : ¬ w = 0 := by rcases h3 with rfl | rfl | rfl <;> decide
    have hp : ¬ w ≤ 0 := by rcases h3 with rfl | rfl | rfl <;> decide
    refine ⟨-1, upd T0 14 w, upd (upd Tm 1 0) 0 w, ?_, ?_, ⟨rfl, hs.2⟩⟩
    · rw [f_X11_read, h1, Option.bind_some, if_neg hne]; rfl
    · rw [f_X12_read, h2, Option.bind_some, if_neg (by rw [upd_s]; exact hp)]
theorem e_cut (v : Int64) (s : Int32) : ∃ z, f_X9_cut v s = some z ∧ f_X12_cut s v = some z := by
  unfold f_X9_cut f_X12_cut
  repeat' split
  all_goals exact ⟨_, rfl, rfl⟩
def updR (R : Nat → Nat → Int64) (t k : Nat) (v : Int64) : Nat → Nat → Int64 := fun s => if s = t then vp_updL (R s) k v else R s
theorem yRep_put (hy : yRep Le So R Ma Sm X) {t k : Nat} (hk : k < 60) (v : Int64) : yRep Le So (updR R t k v) Ma Sm (vp_updL X (60 * t + k) v) := fun s hs9 => by
  obtain ⟨h1, h2, h3⟩ := hy s hs9
  refine ⟨h1, h2, h3.imp id (fun ⟨n, hn, h4, h5⟩ => ⟨n, hn, h4, fun j hj => ?_⟩)⟩
  unfold updR vp_updL
  by_cases e : s = t
  · subst e
    rw [if_pos rfl]
    by_cases e2 : j = k
    · rw [if_pos e2, if_pos (by omega)]
    · rw [if_neg e2, if_neg (by omega)]; exact h5 j hj
  · rw [if_neg e, if_neg (by omega)]; exact h5 j hj
theorem e9_put {t n k : Nat} (ht : t < 4) (hn : n ≤ 60) (hL : Le t = iN n) (hk : k < n) {v z : Int64} (hz : f_X9_cut v (So t) = some z) : f_X9_put Le R0 So R1 R2 R3 (iN t) (iN k) v = some (updR (r4 R0 R1 R2 R3) t k z 0, updR (r4 R0 R1 R2 R3) t k z 1, updR (r4 R0 R1 R2 R3) t k z 2, updR (r4 R0 R1 R2 R3) t k z 3) := by
  rw [f_X9_put, e9_one ht hn hL, if_pos (by rw [inR_iN (by omega)]; exact hk), Option.bind_some, if_neg (by decide)]
  rcases (show t = 0 ∨ t = 1 ∨ t = 2 ∨ t = 3 by omega) with rfl | rfl | rfl | rfl <;> simp (disch := omega) only [hz, updR, r4, iN_lit, iN_add, iN_mul, iN_sub, iN_nn, ck_iN, iN_le, iN_lt, iN_eq, Nat.mul_zero, Nat.zero_add, Nat.add_zero, Nat.reduceMul, Nat.reduceAdd, Nat.reduceSub, Option.bind_some, reduceIte, Nat.reduceEqDiff, Nat.reduceLeDiff, Nat.reduceLT, Nat.le_refl, Nat.zero_le, eq_self]
theorem r4_eta (R : Nat → Nat → Int64) (hR : ∀ t, 4 ≤ t → R t = R 3) : r4 (R 0) (R 1) (R 2) (R 3) = R := by
  funext t
  match t with
  | 0 => rfl
  | 1 => rfl
  | 2 => rfl
  | 3 => rfl
  | t + 4 => exact (hR _ (by omega)).symm
theorem yRep_r4 (hy : yRep Le So R Ma Sm X) : yRep Le So (r4 (R 0) (R 1) (R 2) (R 3)) Ma Sm X := fun t ht => by
  obtain ⟨h1, h2, h3⟩ := hy t ht
  refine ⟨h1, h2, ?_⟩
  rcases (show t = 0 ∨ t = 1 ∨ t = 2 ∨ t = 3 by omega) with rfl | rfl | rfl | rfl <;> exact h3
theorem q_write (hy : yRep Le So (r4 R0 R1 R2 R3) Ma Sm X) (hs : sR T0 Tm L K) (x y : Int32) (u : Int64) : ∃ v U R0' R1' R2' R3' Um X', f_X11_write T0 Le R0 So R1 R2 R3 x y u = some (v, U, R0', R1', R2', R3') ∧ f_X12_write Tm Ma X Sm x y u = some (v, Um, X') ∧ sR U Um L K ∧ yRep Le So (r4 R0' R1' R2' R3') Ma Sm X' := by
  obtain ⟨w, h1, h2, h3⟩ := e_place hy x y
  rcases h3 with ⟨rfl, t, n, k, ht, hk, hn, rfl, rfl, h4⟩ | h3
  · obtain ⟨z, z1, z2⟩ := e_cut u (So t)
    refine ⟨1, upd T0 14 0, _, _, _, _, upd (upd Tm 1 0) 0 0, vp_updL X (60 * t + k) z, ?_, ?_, sR_ok hs, yRep_r4 (yRep_put hy (t := t) (k := k) (by omega) z)⟩
    · rw [f_X11_write, h1, Option.bind_some, if_pos rfl, e9_put ht hn h4 hk z1]; rfl
    · rw [(hy t ht).2.1] at z2
      rw [f_X12_write, h2, Option.bind_some, if_pos (by rw [upd_s]; decide)]
      simp (disch := omega) only [z2, iN_lit, iN_add, iN_mul, iN_sub, iN_nn, ck_iN, iN_le, iN_lt, iN_eq, Nat.mul_zero, Nat.zero_add, Nat.add_zero, Nat.reduceMul, Nat.reduceAdd, Nat.reduceSub, Option.bind_some, reduceIte, Nat.reduceEqDiff, Nat.reduceLeDiff, Nat.reduceLT, Nat.le_refl, Nat.zero_le, eq_self]
  · have hne : ¬ w = 0 := by rcases h3 with rfl | rfl | rfl <;> decide
    have hp : ¬ w ≤ 0 := by rcases h3 with rfl | rfl | rfl <;> decide
    refine ⟨0, upd T0 14 w, R0, R1, R2, R3, upd (upd Tm 1 0) 0 w, X, ?_, ?_, ⟨rfl, hs.2⟩, hy⟩
    · rw [f_X11_write, h1, Option.bind_some, if_neg hne]; rfl
    · rw [f_X12_write, h2, Option.bind_some, if_neg (by rw [upd_s]; exact hp)]
end TRAY
