/-! Calls: moor, rule, hear, forget. -/
section OPS4
variable {d : Nat → Nat} {w Na : Nat → Int64} {c T T0 Tm S Li By Of Fe Mi V3 : Nat → Int32} {L : Int32} {K : Int32 × Int32}
/-- what does not look at the number that is changed stays -/
theorem kRep_o (hk : kRep d w T S Li Na By Of Fe Mi) {k v : Nat} {T' : Nat → Int32} (h : k = 4 ∨ k = 5) (hT : tRep (updN d k v) T') : kRep (updN d k v) w T' S Li Na By Of Fe Mi := by
  have ec : cells (updN d k v) = cells d := by
    unfold cells
    rw [updN_n (by omega), updN_n (by omega)]
  refine ⟨hT, ?_, ?_, ?_, ?_, ?_, ?_, ?_⟩
  · rw [ec]; exact aRep_o hk.2.1 (fun j _ _ => updN_n (by omega))
  · rw [updN_n (by omega)]; exact aRep_o hk.2.2.1 (fun j _ _ => updN_n (by omega))
  · rw [updN_n (by omega)]; exact hk.2.2.2.1
  · rw [updN_n (by omega)]; exact aRep_o hk.2.2.2.2.1 (fun j _ _ => updN_n (by omega))
  · rw [updN_n (by omega)]; exact aRep_o hk.2.2.2.2.2.1 (fun j _ _ => updN_n (by omega))
  · rw [updN_n (by omega)]; exact aRep_o hk.2.2.2.2.2.2.1 (fun j _ _ => updN_n (by omega))
  · rw [updN_n (by omega)]; exact aRep_o hk.2.2.2.2.2.2.2 (fun j _ _ => updN_n (by omega))
theorem dInv_o (hd : dInv d) {k v : Nat} (h : k = 4 ∧ v ≤ 16 ∨ k = 5 ∧ v < cells d) : dInv (updN d k v) := by
  have ec : cells (updN d k v) = cells d := by
    unfold cells
    rw [updN_n (by omega), updN_n (by omega)]
  refine ⟨?_, fun j hj => ?_, fun j hj => ?_, fun t ht => ?_, fun z => ?_⟩
  · rw [ec, updN_n (by omega), updN_n (by omega), updN_n (by omega), updN_n (by omega)]
    have h1 := hd.1
    refine ⟨h1.1, h1.2.1, h1.2.2.1, h1.2.2.2.1, ?_, ?_⟩
    · unfold updN
      split
      · omega
      · exact h1.2.2.2.2.1
    · unfold updN
      split
      · omega
      · exact h1.2.2.2.2.2
  · rw [updN_n (by omega)]; exact hd.2.1 j hj
  · rw [updN_n (by omega), updN_n (by omega)]; exact hd.trav hj
  · rw [updN_n (by omega)] at ht
    rw [ec, updN_n (by omega), updN_n (by omega), updN_n (by omega), updN_n (by omega), updN_n (by omega)]; exact hd.tell ht
  · have hm9 := hd.many
    unfold tellOf
    rw [updN_n (by omega)]
    exact Nat.le_trans (Nat.le_of_eq (sm_congr (fun t ht => by rw [updN_n (by omega)]))) (hd.2.2.2.2 z)
theorem hset_o {k v : Nat} (h : k = 4 ∨ k = 5) : hset (updN d k v) = hset d := by
  unfold hset
  rw [updN_n (by omega)]
  exact sm_congr (fun j hj => by rw [updN_n (by omega)])
theorem q_moor (hd : dInv d) (hc : mRep d c) (hk : kRep d w T S Li Na By Of Fe Mi) (hs : sR T0 Tm L K) (x : Int32) : ∃ v U T' Um c' d', f_X11_moor T0 T x = some (v, U, T') ∧ f_X12_moor Tm c x = some (v, Um, c') ∧ sR U Um L K ∧ dInv d' ∧ mRep d' c' ∧ kRep d' w T' S Li Na By Of Fe Mi ∧ (∀ j, 100 ≤ j → c' j = c j) ∧ dLe d d' := by
  have h36 := hd.c36
  have e1 := e3_hasCell hd hk.1 x
  have e2 := e12_isCell hd hc x
  by_cases hx : inR x (cells d)
  · rw [if_pos hx] at e1 e2
    obtain ⟨i, hi, rfl⟩ := hx.eq (by omega)
    refine ⟨iN (d 5), upd T0 14 0, upd T 3 (iN i), upd (upd Tm 1 0) 0 0, upd c 5 (iN i), updN d 5 i, ?_, ?_, sR_ok hs, dInv_o hd (Or.inr ⟨rfl, hi⟩), mRep_upd hc _ _, kRep_o hk (Or.inr rfl) ?_, fun j hj => upd_n (by omega), ⟨updN_n (by omega), updN_n (by omega), Nat.le_of_eq (updN_n (by omega)).symm⟩⟩
    · rw [f_X11_moor, e1]
      simp (disch := omega) only [f_X11_answer, hk.1.2.2.2.1, iN_lit, iN_add, iN_mul, iN_sub, iN_nn, ck_iN, iN_le, iN_lt, iN_eq, Nat.mul_zero, Nat.zero_add, Nat.add_zero, Nat.reduceMul, Nat.reduceAdd, Nat.reduceSub, Option.bind_some, reduceIte, Nat.reduceEqDiff, Nat.reduceLeDiff, Nat.reduceLT, Nat.le_refl, Nat.zero_le, eq_self]
    · rw [f_X12_moor, e2]
      simp (disch := omega) only [f_X12_becomes, hc 5 (by omega), iN_lit, iN_add, iN_mul, iN_sub, iN_nn, ck_iN, iN_le, iN_lt, iN_eq, Nat.mul_zero, Nat.zero_add, Nat.add_zero, Nat.reduceMul, Nat.reduceAdd, Nat.reduceSub, Option.bind_some, reduceIte, Nat.reduceEqDiff, Nat.reduceLeDiff, Nat.reduceLT, Nat.le_refl, Nat.zero_le, eq_self]
    · unfold tRep
      rw [hset_o (Or.inr rfl), updN_s, updN_n (by omega), updN_n (by omega), updN_n (by omega), updN_n (by omega), updN_n (by omega), upd_s, upd_n (by omega), upd_n (by omega), upd_n (by omega), upd_n (by omega), upd_n (by omega), upd_n (by omega)]
      have ht := hk.1
      exact ⟨ht.1, ht.2.1, ht.2.2.1, rfl, ht.2.2.2.2⟩
  · rw [if_neg hx] at e1 e2
    refine ⟨-1, upd T0 14 2, T, upd (upd (upd Tm 1 0) 0 0) 0 2, c, d, ?_, ?_, sR_no hs, hd, hc, hk, fun _ _ => rfl, ⟨rfl, rfl, Nat.le_refl _⟩⟩
    · rw [f_X11_moor, e1]
      simp (disch := omega) only [f_X11_refused, iN_lit, iN_add, iN_mul, iN_sub, iN_nn, ck_iN, iN_le, iN_lt, iN_eq, Nat.mul_zero, Nat.zero_add, Nat.add_zero, Nat.reduceMul, Nat.reduceAdd, Nat.reduceSub, Option.bind_some, reduceIte, Nat.reduceEqDiff, Nat.reduceLeDiff, Nat.reduceLT, Nat.le_refl, Nat.zero_le, eq_self]
    · rw [f_X12_moor, e2]
      simp (disch := omega) only [f_X12_refuse, iN_lit, iN_add, iN_mul, iN_sub, iN_nn, ck_iN, iN_le, iN_lt, iN_eq, Nat.mul_zero, Nat.zero_add, Nat.add_zero, Nat.reduceMul, Nat.reduceAdd, Nat.reduceSub, Option.bind_some, reduceIte, Nat.reduceEqDiff, Nat.reduceLeDiff, Nat.reduceLT, Nat.le_refl, Nat.zero_le, eq_self]
theorem q_rule (hd : dInv d) (hc : mRep d c) (hk : kRep d w T S Li Na By Of Fe Mi) (hs : sR T0 Tm L K) (x : Int32) : ∃ v U T' Um c' d', f_X11_rule T0 T x = some (v, U, T') ∧ f_X12_rule Tm c x = some (v, Um, c') ∧ sR U Um L K ∧ dInv d' ∧ mRep d' c' ∧ kRep d' w T' S Li Na By Of Fe Mi ∧ (∀ j, 100 ≤ j → c' j = c j) ∧ dLe d d' := by
  have e1 := e_within_16 x
  have e2 := e_isIn_16 x
  have b0 : bz 0 = true := by decide
  have b1 : bz 1 = true := by decide
  by_cases hx : inR x 17
  · rw [if_pos hx] at e1 e2
    obtain ⟨i, hi, rfl⟩ := hx.eq (by omega)
    refine ⟨1, upd T0 14 0, upd T 2 (iN i), upd (upd Tm 1 0) 0 0, upd c 4 (iN i), updN d 4 i, ?_, ?_, sR_ok hs, dInv_o hd (Or.inl ⟨rfl, by omega⟩), mRep_upd hc _ _, kRep_o hk (Or.inl rfl) ?_, fun j hj => upd_n (by omega), ⟨updN_n (by omega), updN_n (by omega), Nat.le_of_eq (updN_n (by omega)).symm⟩⟩
    · rw [f_X11_rule, e1, f_X11_done]; rfl
    · rw [f_X12_rule, e2]
      simp (disch := omega) only [iN_lit, iN_add, iN_mul, iN_sub, iN_nn, ck_iN, iN_le, iN_lt, iN_eq, Nat.mul_zero, Nat.zero_add, Nat.add_zero, Nat.reduceMul, Nat.reduceAdd, Nat.reduceSub, Option.bind_some, reduceIte, Nat.reduceEqDiff, Nat.reduceLeDiff, Nat.reduceLT, Nat.le_refl, Nat.zero_le, eq_self]
    · unfold tRep
      rw [hset_o (Or.inl rfl), updN_s, updN_n (by omega), updN_n (by omega), updN_n (by omega), updN_n (by omega), updN_n (by omega), upd_s, upd_n (by omega), upd_n (by omega), upd_n (by omega), upd_n (by omega), upd_n (by omega), upd_n (by omega)]
      have ht := hk.1
      exact ⟨ht.1, ht.2.1, rfl, ht.2.2.2⟩
  · rw [if_neg hx] at e1 e2
    refine ⟨0, upd T0 14 5, T, upd (upd (upd Tm 1 0) 0 0) 0 5, c, d, ?_, ?_, sR_no hs, hd, hc, hk, fun _ _ => rfl, ⟨rfl, rfl, Nat.le_refl _⟩⟩
    · rw [f_X11_rule, e1]; rfl
    · rw [f_X12_rule, e2]; rfl
theorem xor_tab : ∀ s, s < 32 → ∀ i, i < 5 → (iN s ^^^ (1 <<< (iN i &&& 31))) = iN (if s.testBit i then s - 2 ^ i else s + 2 ^ i) := by decide +kernel
theorem sm_upd {N : Nat} {f : Nat → Nat} {i v : Nat} (hi : i < N) : sm N (fun k => (if k = i then v else f k) * 2 ^ k) + f i * 2 ^ i = sm N (fun k => f k * 2 ^ k) + v * 2 ^ i := by
  induction N with
  | zero => omega
  | succ n ih =>
    rw [sm_succ, sm_succ]
    by_cases e : i < n
    · have := ih e
      rw [if_neg (show n ≠ i by omega)]
      omega
    · have en : i = n := by omega
      subst en
      rw [if_pos rfl]
      have h9 : sm i (fun k => (if k = i then v else f k) * 2 ^ k) = sm i (fun k => f k * 2 ^ k) := sm_congr (fun k hk => by rw [if_neg (by omega)])
      rw [h9]
      omega
/-- traveller i is heard (1) or not (0) from now on -/
theorem hset_upd (hd : dInv d) {i b : Nat} (hi : i < d 2) (hb : b ≤ 1) (hne : ¬ d (47 + i) = b) : (if (hset d).testBit i then hset d - 2 ^ i else hset d + 2 ^ i) = hset (updN d (47 + i) b) := by
  have hm := hd.many
  have ht := hd.trav (show i < 5 by omega)
  have h1 := sm_upd (f := fun k => d (47 + k)) (v := b) hi
  have h2 : hset (updN d (47 + i) b) = sm (d 2) (fun k => (if k = i then b else d (47 + k)) * 2 ^ k) := by
    unfold hset
    rw [updN_n (by omega)]
    refine sm_congr (fun k hk => ?_)
    unfold updN
    by_cases e : k = i
    · rw [if_pos e, if_pos (by omega)]
    · rw [if_neg e, if_neg (by omega)]
  have h3 : hset d = sm (d 2) (fun k => d (47 + k) * 2 ^ k) := rfl
  rw [hset_bit hd hi, h2]
  rcases (show d (47 + i) = 0 ∧ b = 1 ∨ d (47 + i) = 1 ∧ b = 0 by omega) with ⟨q, rfl⟩ | ⟨q, rfl⟩
  · rw [if_neg (by rw [q]; decide)]
    simp only [q, Nat.zero_mul, Nat.one_mul, Nat.add_zero] at h1
    omega
  · rw [if_pos (by rw [q]; decide)]
    simp only [q, Nat.zero_mul, Nat.one_mul, Nat.add_zero] at h1
    omega
theorem e_heard (hd : dInv d) (hk : kRep d w T S Li Na By Of Fe Mi) {i b : Nat} (hi : i < d 2) (hb : b ≤ 1) (hne : ¬ d (47 + i) = b) : dInv (updN d (47 + i) b) ∧ kRep (updN d (47 + i) b) w (upd T 5 (T 5 ^^^ (1 <<< (iN i &&& 31)))) S Li Na By Of Fe Mi := by
  have hm := hd.many
  have ec : cells (updN d (47 + i) b) = cells d := by
    unfold cells
    rw [updN_n (by omega), updN_n (by omega)]
  refine ⟨⟨?_, fun j hj => ?_, fun j hj => ?_, fun t ht => ?_, fun z => ?_⟩, ?_, ?_, ?_, ?_, ?_, ?_, ?_, ?_⟩
  · rw [ec, updN_n (by omega), updN_n (by omega), updN_n (by omega), updN_n (by omega), updN_n (by omega), updN_n (by omega)]; exact hd.1
  · rw [updN_n (by omega)]; exact hd.2.1 j hj
  · rw [updN_n (show 42 + j ≠ 47 + i by omega)]
    refine ⟨(hd.trav hj).1, ?_⟩
    unfold updN
    split
    · exact hb
    · exact (hd.trav hj).2
  · rw [updN_n (by omega)] at ht
    rw [ec, updN_n (by omega), updN_n (by omega), updN_n (by omega), updN_n (by omega), updN_n (by omega)]; exact hd.tell ht
  · have hm9 := hd.many
    unfold tellOf
    rw [updN_n (by omega)]
    exact Nat.le_trans (Nat.le_of_eq (sm_congr (fun t ht => by rw [updN_n (by omega)]))) (hd.2.2.2.2 z)
  · unfold tRep
    rw [← hset_upd hd hi hb hne, updN_n (by omega), updN_n (by omega), updN_n (by omega), updN_n (by omega), updN_n (by omega), updN_n (by omega), upd_s, upd_n (by omega), upd_n (by omega), upd_n (by omega), upd_n (by omega), upd_n (by omega), upd_n (by omega)]
    have ht := hk.1
    refine ⟨ht.1, ht.2.1, ht.2.2.1, ht.2.2.2.1, ht.2.2.2.2.1, ?_, ht.2.2.2.2.2.2⟩
    rw [ht.2.2.2.2.2.1]
    exact xor_tab _ (hset_lt hd) i (by omega)
  · rw [ec]; exact aRep_o hk.2.1 (fun j _ _ => updN_n (by have := hd.c36; omega))
  · rw [updN_n (by omega)]; exact aRep_o hk.2.2.1 (fun j _ _ => updN_n (by omega))
  · rw [updN_n (by omega)]; exact hk.2.2.2.1
  · rw [updN_n (by omega)]; exact aRep_o hk.2.2.2.2.1 (fun j _ _ => updN_n (by omega))
  · rw [updN_n (by omega)]; exact aRep_o hk.2.2.2.2.2.1 (fun j _ _ => updN_n (by omega))
  · rw [updN_n (by omega)]; exact aRep_o hk.2.2.2.2.2.2.1 (fun j _ _ => updN_n (by omega))
  · rw [updN_n (by omega)]; exact aRep_o hk.2.2.2.2.2.2.2 (fun j _ _ => updN_n (by omega))
/-- setHeard: nothing, or one bit -/
theorem e3_setHeard (hd : dInv d) (hk : kRep d w T S Li Na By Of Fe Mi) {i b : Nat} (hi : i < d 2) (hb : b ≤ 1) : f_X3_setHeard T (iN i) (iN b) = some (if d (47 + i) = b then ((0 : Int32), T) else ((1 : Int32), upd T 5 (T 5 ^^^ (1 <<< (iN i &&& 31))))) := by
  have hm := hd.many
  have e1 := e3_hasTraveller hd hk.1 (iN i)
  rw [if_pos (by rw [inR_iN (by omega)]; exact hi)] at e1
  have ht := hd.trav (show i < 5 by omega)
  rw [f_X3_setHeard, e1, Option.bind_some, if_neg (by decide), e3_isHeard hd hk.1 hi, Option.bind_some]
  have e2 : ((if d (47 + i) = 1 then (1 : Int32) else 0) = iN b) = (d (47 + i) = b) := by
    apply propext
    rcases (show d (47 + i) = 0 ∨ d (47 + i) = 1 by omega) with q | q <;> rcases (show b = 0 ∨ b = 1 by omega) with rfl | rfl <;> rw [q] <;> decide
  by_cases q : d (47 + i) = b
  · rw [if_pos (by rw [e2]; exact q), if_pos q]
  · rw [if_neg (by rw [e2]; exact q), if_neg q]
theorem e12_hears (hd : dInv d) (hc : mRep d c) {i b : Nat} (hi : i < d 2) (hb : b ≤ 1) : f_X12_hears c (iN i) (iN b) = some (if d (47 + i) = b then ((0 : Int32), c) else ((1 : Int32), upd c (47 + i) (iN b))) := by
  have hm := hd.many
  have ht := hd.trav (show i < 5 by omega)
  simp (disch := omega) only [f_X12_hears, hc (47 + i) (by omega), iN_lit, iN_add, iN_mul, iN_sub, iN_nn, ck_iN, iN_le, iN_lt, iN_eq, Nat.mul_zero, Nat.zero_add, Nat.add_zero, Nat.reduceMul, Nat.reduceAdd, Nat.reduceSub, Option.bind_some]
  split <;> rfl
theorem e11_knownNow (hd : dInv d) (hk : kRep d w T S Li Na By Of Fe Mi) (V3 : Nat → Int32) : ∃ W, f_X11_knownNow T V3 Of Fe By = some (iN (cells d - whites d), W) := by
  obtain ⟨W, eW, tW⟩ := e7_take hd hk.1 hk.2.2.2.2.2.1 hk.2.2.2.2.2.2.1 hk.2.2.2.2.1 V3 (hset_lt hd)
  exact ⟨W, by rw [f_X11_knownNow, hk.1.2.2.2.2.2.1, eW, Option.bind_some, e7_knownCells hd hk.1 tW, knownS_h hd]; rfl⟩
theorem q_hears (hd : dInv d) (hc : mRep d c) (hk : kRep d w T S Li Na By Of Fe Mi) (hs : sR T0 Tm L K) (x : Int32) (b : Nat) (hb : b ≤ 1) (V3 : Nat → Int32) : ∃ v U T' W Um c' d', ((f_X3_hasTraveller T x).bind (fun z5 => if z5 = 0 then ((f_X11_refused T0 2).bind (fun z13 => some (z13.1, z13.2, T, V3))) else ((f_X3_setHeard T x (iN b)).bind (fun z23 => if z23.1 = 0 then ((f_X11_refused T0 9).bind (fun z43 => some (z43.1, z43.2, z23.2, V3))) else ((f_X11_knownNow z23.2 V3 Of Fe By).bind (fun z31 => (f_X11_answer T0 z31.1).bind (fun z34 => some (z34.1, z34.2, z23.2, z31.2))))))) = some (v, U, T', W)) ∧ f_X12_hearing Tm c x (iN b) = some (v, Um, c') ∧ sR U Um L K ∧ dInv d' ∧ mRep d' c' ∧ kRep d' w T' S Li Na By Of Fe Mi ∧ (∀ j, 100 ≤ j → c' j = c j) ∧ dLe d d' := by
  have hm := hd.many
  have e1 := e3_hasTraveller hd hk.1 x
  have e2 := e12_isTravellerAt hd hc x
  by_cases hx : inR x (d 2)
  · rw [if_pos hx] at e1 e2
    obtain ⟨i, hi, rfl⟩ := hx.eq (by omega)
    by_cases q : d (47 + i) = b
    · refine ⟨-1, upd T0 14 9, T, V3, upd (upd (upd Tm 1 0) 0 0) 0 9, c, d, ?_, ?_, sR_no hs, hd, hc, hk, fun _ _ => rfl, ⟨rfl, rfl, Nat.le_refl _⟩⟩
      · rw [e1, Option.bind_some, if_neg (by decide), e3_setHeard hd hk hi hb, if_pos q]; rfl
      · rw [f_X12_hearing, e2, Option.bind_some, if_neg (by decide), e12_hears hd hc hi hb, if_pos q]; rfl
    · obtain ⟨hd', hk'⟩ := e_heard hd hk hi hb q
      have hc' := mRep_upd hc (47 + i) b
      obtain ⟨W, eW⟩ := e11_knownNow hd' hk' V3
      refine ⟨iN (cells (updN d (47 + i) b) - whites (updN d (47 + i) b)), upd T0 14 0, _, W, upd (upd Tm 1 0) 0 0, _, _, ?_, ?_, sR_ok hs, hd', hc', hk', fun j hj => upd_n (by omega), ⟨updN_n (by omega), updN_n (by omega), Nat.le_of_eq (updN_n (by omega)).symm⟩⟩
      · rw [e1, Option.bind_some, if_neg (by decide), e3_setHeard hd hk hi hb, if_neg q, Option.bind_some, if_neg (show ¬ (1 : Int32) = 0 by decide)]
        show Option.bind (f_X11_knownNow (upd T 5 (T 5 ^^^ (1 <<< (iN i &&& 31)))) V3 Of Fe By) _ = _
        rw [eW]; rfl
      · rw [f_X12_hearing, e2, Option.bind_some, if_neg (by decide), e12_hears hd hc hi hb, if_neg q, Option.bind_some, if_neg (show ¬ (1 : Int32) = 0 by decide), e12_knowns hd' hc']; rfl
  · rw [if_neg hx] at e1 e2
    refine ⟨-1, upd T0 14 2, T, V3, upd (upd (upd Tm 1 0) 0 0) 0 2, c, d, ?_, ?_, sR_no hs, hd, hc, hk, fun _ _ => rfl, ⟨rfl, rfl, Nat.le_refl _⟩⟩
    · rw [e1]; rfl
    · rw [f_X12_hearing, e2]; rfl
theorem q_hear (hd : dInv d) (hc : mRep d c) (hk : kRep d w T S Li Na By Of Fe Mi) (hs : sR T0 Tm L K) (x : Int32) (V3 : Nat → Int32) : ∃ v U T' W Um c' d', f_X11_hear T0 T V3 Of Fe By x = some (v, U, T', W) ∧ f_X12_hear Tm c x = some (v, Um, c') ∧ sR U Um L K ∧ dInv d' ∧ mRep d' c' ∧ kRep d' w T' S Li Na By Of Fe Mi ∧ (∀ j, 100 ≤ j → c' j = c j) ∧ dLe d d' := by
  obtain ⟨v, U, T', W, Um, c', d', h1, h2, h3⟩ := q_hears hd hc hk hs x 1 (by decide) V3
  exact ⟨v, U, T', W, Um, c', d', h1, by rw [f_X12_hear]; exact (congrArg (fun o => Option.bind o (fun z3 => some (z3.1, z3.2.1, z3.2.2))) h2).trans rfl, h3⟩
theorem q_forget (hd : dInv d) (hc : mRep d c) (hk : kRep d w T S Li Na By Of Fe Mi) (hs : sR T0 Tm L K) (x : Int32) (V3 : Nat → Int32) : ∃ v U T' W Um c' d', f_X11_forget T0 T V3 Of Fe By x = some (v, U, T', W) ∧ f_X12_forget Tm c x = some (v, Um, c') ∧ sR U Um L K ∧ dInv d' ∧ mRep d' c' ∧ kRep d' w T' S Li Na By Of Fe Mi ∧ (∀ j, 100 ≤ j → c' j = c j) ∧ dLe d d' := by
  obtain ⟨v, U, T', W, Um, c', d', h1, h2, h3⟩ := q_hears hd hc hk hs x 0 (by decide) V3
  exact ⟨v, U, T', W, Um, c', d', h1, by rw [f_X12_forget]; exact (congrArg (fun o => Option.bind o (fun z3 => some (z3.1, z3.2.1, z3.2.2))) h2).trans rfl, h3⟩
end OPS4
