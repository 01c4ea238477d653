/-! Calls that change the duchy. -/
def updN (f : Nat → Nat) (k v : Nat) : Nat → Nat := fun j => if j = k then v else f j
theorem updN_s {f : Nat → Nat} {k v : Nat} : updN f k v k = v := if_pos rfl
theorem updN_n {f : Nat → Nat} {k v j : Nat} (h : j ≠ k) : updN f k v j = f j := if_neg h
/-- the class's duchy stands for d with the names w -/
def kRep (d : Nat → Nat) (w : Nat → Int64) (T S Li : Nat → Int32) (Na : Nat → Int64) (By Of Fe Mi : Nat → Int32) : Prop := tRep d T ∧ aRep d 6 (cells d) S ∧ aRep d 42 (d 2) Li ∧ (∀ k, k < d 2 → Na k = w k) ∧ aRep d 52 (d 3) By ∧ aRep d 64 (d 3) Of ∧ aRep d 76 (d 3) Fe ∧ aRep d 88 (d 3) Mi
theorem mRep_upd {d : Nat → Nat} {c : Nat → Int32} (hc : mRep d c) (k v : Nat) : mRep (updN d k v) (upd c k (iN v)) := fun j hj => by
  unfold updN upd
  by_cases e : j = k
  · rw [if_pos e, if_pos e]
  · rw [if_neg e, if_neg e]; exact hc j hj
theorem aRep_upd {d : Nat → Nat} {o N : Nat} {V : Nat → Int32} (h : aRep d o N V) (i v : Nat) : aRep (updN d (o + i) v) o N (upd V i (iN v)) := fun j hj => by
  unfold updN upd
  by_cases e : j = i
  · rw [if_pos e, if_pos (by omega)]
  · rw [if_neg e, if_neg (by omega)]; exact h j hj
theorem aRep_o {d d' : Nat → Nat} {o N : Nat} {V : Nat → Int32} (h : aRep d o N V) (e : ∀ j, o ≤ j → j < o + N → d' j = d j) : aRep d' o N V := fun j hj => by
  rw [e (o + j) (by omega) (by omega)]; exact h j hj
/-- the sea keeps its shape, travellers only come -/
def dLe (d d' : Nat → Nat) : Prop := d' 0 = d 0 ∧ d' 1 = d 1 ∧ d 2 ≤ d' 2
section OPS3
variable {d : Nat → Nat} {w Na : Nat → Int64} {c T T0 Tm S Li By Of Fe Mi : Nat → Int32} {L : Int32} {K : Int32 × Int32}
theorem q_change (hd : dInv d) (hc : mRep d c) (hk : kRep d w T S Li Na By Of Fe Mi) (hs : sR T0 Tm L K) (x y : Int32) : ∃ v U S' Um c' d', f_X11_change T0 T S x y = some (v, U, S') ∧ f_X12_change Tm c x y = some (v, Um, c') ∧ sR U Um L K ∧ dInv d' ∧ mRep d' c' ∧ kRep d' w T S' Li Na By Of Fe Mi ∧ (∀ j, 100 ≤ j → c' j = c j) ∧ dLe d d' := by
  have h36 := hd.c36
  have hm := hd.many
  have e1 := e3_hasCell hd hk.1 x
  have e2 := e12_isCell hd hc x
  have k1 := e_isKind y
  have k2 := e12_isKind y
  by_cases hx : inR x (cells d)
  · rw [if_pos hx] at e1 e2
    obtain ⟨i, hi, rfl⟩ := hx.eq (by omega)
    by_cases h : inR y 4
    · rw [if_pos h] at k1 k2
      obtain ⟨k, hk4, rfl⟩ := h.eq (by decide)
      have ec : cells (updN d (6 + i) k) = cells d := by
        unfold cells
        rw [updN_n (by omega), updN_n (by omega)]
      have eh : hset (updN d (6 + i) k) = hset d := by
        unfold hset
        rw [updN_n (by omega)]
        exact sm_congr (fun j hj => by rw [updN_n (by omega)])
      refine ⟨iN (d (6 + i)), upd T0 14 0, upd S i (iN k), upd (upd Tm 1 0) 0 0, upd c (6 + i) (iN k), updN d (6 + i) k, ?_, ?_, sR_ok hs, ⟨?_, fun j hj => ?_, fun j hj => ?_, fun t ht => ?_, fun z => ?_⟩, mRep_upd hc _ _, ⟨?_, ?_, ?_, ?_, ?_, ?_, ?_, ?_⟩, fun j hj => upd_n (by omega), ⟨updN_n (by omega), updN_n (by omega), Nat.le_of_eq (updN_n (by omega)).symm⟩⟩
      · rw [f_X11_change, e1, k1]
        simp (disch := omega) only [f_X11_answer, hk.2.1 i hi, iN_lit, iN_add, iN_mul, iN_sub, iN_nn, ck_iN, iN_le, iN_lt, iN_eq, Nat.mul_zero, Nat.zero_add, Nat.add_zero, Nat.reduceMul, Nat.reduceAdd, Nat.reduceSub, Option.bind_some, reduceIte, Nat.reduceEqDiff, Nat.reduceLeDiff, Nat.reduceLT, Nat.le_refl, Nat.zero_le, eq_self]
      · rw [f_X12_change, e2, k2]
        simp (disch := omega) only [f_X12_becomes, hc (6 + i) (by omega), iN_lit, iN_add, iN_mul, iN_sub, iN_nn, ck_iN, iN_le, iN_lt, iN_eq, Nat.mul_zero, Nat.zero_add, Nat.add_zero, Nat.reduceMul, Nat.reduceAdd, Nat.reduceSub, Option.bind_some, reduceIte, Nat.reduceEqDiff, Nat.reduceLeDiff, Nat.reduceLT, Nat.le_refl, Nat.zero_le, eq_self]
      · rw [ec, updN_n (by omega), updN_n (by omega), updN_n (by omega), updN_n (by omega), updN_n (by omega), updN_n (by omega)]
        exact hd.1
      · unfold updN
        split
        · exact hk4
        · exact hd.2.1 j hj
      · rw [updN_n (by omega), updN_n (by omega)]; exact hd.trav hj
      · rw [updN_n (by omega)] at ht
        rw [ec, updN_n (by omega), updN_n (by omega), updN_n (by omega), updN_n (by omega), updN_n (by omega)]; exact hd.tell ht
      · have hm9 := hd.many
        unfold tellOf
        rw [updN_n (by omega)]
        exact Nat.le_trans (Nat.le_of_eq (sm_congr (fun t ht => by rw [updN_n (by omega)]))) (hd.2.2.2.2 z)
      · unfold tRep
        rw [eh, updN_n (by omega), updN_n (by omega), updN_n (by omega), updN_n (by omega), updN_n (by omega), updN_n (by omega)]; exact hk.1
      · rw [ec]; exact aRep_upd hk.2.1 i k
      · rw [updN_n (by omega)]; exact aRep_o hk.2.2.1 (fun j _ _ => updN_n (by omega))
      · rw [updN_n (by omega)]; exact hk.2.2.2.1
      · rw [updN_n (by omega)]; exact aRep_o hk.2.2.2.2.1 (fun j _ _ => updN_n (by omega))
      · rw [updN_n (by omega)]; exact aRep_o hk.2.2.2.2.2.1 (fun j _ _ => updN_n (by omega))
      · rw [updN_n (by omega)]; exact aRep_o hk.2.2.2.2.2.2.1 (fun j _ _ => updN_n (by omega))
      · rw [updN_n (by omega)]; exact aRep_o hk.2.2.2.2.2.2.2 (fun j _ _ => updN_n (by omega))
    · rw [if_neg h] at k1 k2
      refine ⟨-1, upd T0 14 5, S, upd (upd (upd Tm 1 0) 0 0) 0 5, c, d, ?_, ?_, sR_no hs, hd, hc, hk, fun _ _ => rfl, ⟨rfl, rfl, Nat.le_refl _⟩⟩
      · rw [f_X11_change, e1, k1]
        simp (disch := omega) only [f_X11_refused, iN_lit, iN_add, iN_mul, iN_sub, iN_nn, ck_iN, iN_le, iN_lt, iN_eq, Nat.mul_zero, Nat.zero_add, Nat.add_zero, Nat.reduceMul, Nat.reduceAdd, Nat.reduceSub, Option.bind_some, reduceIte, Nat.reduceEqDiff, Nat.reduceLeDiff, Nat.reduceLT, Nat.le_refl, Nat.zero_le, eq_self]
      · rw [f_X12_change, e2, k2]
        simp (disch := omega) only [f_X12_refuse, iN_lit, iN_add, iN_mul, iN_sub, iN_nn, ck_iN, iN_le, iN_lt, iN_eq, Nat.mul_zero, Nat.zero_add, Nat.add_zero, Nat.reduceMul, Nat.reduceAdd, Nat.reduceSub, Option.bind_some, reduceIte, Nat.reduceEqDiff, Nat.reduceLeDiff, Nat.reduceLT, Nat.le_refl, Nat.zero_le, eq_self]
  · rw [if_neg hx] at e1 e2
    refine ⟨-1, upd T0 14 2, S, upd (upd (upd Tm 1 0) 0 0) 0 2, c, d, ?_, ?_, sR_no hs, hd, hc, hk, fun _ _ => rfl, ⟨rfl, rfl, Nat.le_refl _⟩⟩
    · rw [f_X11_change, e1]
      simp (disch := omega) only [f_X11_refused, iN_lit, iN_add, iN_mul, iN_sub, iN_nn, ck_iN, iN_le, iN_lt, iN_eq, Nat.mul_zero, Nat.zero_add, Nat.add_zero, Nat.reduceMul, Nat.reduceAdd, Nat.reduceSub, Option.bind_some, reduceIte, Nat.reduceEqDiff, Nat.reduceLeDiff, Nat.reduceLT, Nat.le_refl, Nat.zero_le, eq_self]
    · rw [f_X12_change, e2]
      simp (disch := omega) only [f_X12_refuse, iN_lit, iN_add, iN_mul, iN_sub, iN_nn, ck_iN, iN_le, iN_lt, iN_eq, Nat.mul_zero, Nat.zero_add, Nat.add_zero, Nat.reduceMul, Nat.reduceAdd, Nat.reduceSub, Option.bind_some, reduceIte, Nat.reduceEqDiff, Nat.reduceLeDiff, Nat.reduceLT, Nat.le_refl, Nat.zero_le, eq_self]
theorem q_trust (hd : dInv d) (hc : mRep d c) (hk : kRep d w T S Li Na By Of Fe Mi) (hs : sR T0 Tm L K) (x y : Int32) : ∃ v U Li' Um c' d', f_X11_trust T0 T Li x y = some (v, U, Li') ∧ f_X12_trust Tm c x y = some (v, Um, c') ∧ sR U Um L K ∧ dInv d' ∧ mRep d' c' ∧ kRep d' w T S Li' Na By Of Fe Mi ∧ (∀ j, 100 ≤ j → c' j = c j) ∧ dLe d d' := by
  have h36 := hd.c36
  have hm := hd.many
  have e1 := e3_hasTraveller hd hk.1 x
  have e2 := e12_isTravellerAt hd hc x
  have k1 := e_within_16 y
  have k2 := e_isIn_16 y
  by_cases hx : inR x (d 2)
  · rw [if_pos hx] at e1 e2
    obtain ⟨i, hi, rfl⟩ := hx.eq (by omega)
    by_cases h : inR y 17
    · rw [if_pos h] at k1 k2
      obtain ⟨k, hk4, rfl⟩ := h.eq (by decide)
      have ec : cells (updN d (42 + i) k) = cells d := by
        unfold cells
        rw [updN_n (by omega), updN_n (by omega)]
      have eh : hset (updN d (42 + i) k) = hset d := by
        unfold hset
        rw [updN_n (by omega)]
        exact sm_congr (fun j hj => by rw [updN_n (by omega)])
      refine ⟨iN (d (42 + i)), upd T0 14 0, upd Li i (iN k), upd (upd Tm 1 0) 0 0, upd c (42 + i) (iN k), updN d (42 + i) k, ?_, ?_, sR_ok hs, ⟨?_, fun j hj => ?_, fun j hj => ?_, fun t ht => ?_, fun z => ?_⟩, mRep_upd hc _ _, ⟨?_, ?_, ?_, ?_, ?_, ?_, ?_, ?_⟩, fun j hj => upd_n (by omega), ⟨updN_n (by omega), updN_n (by omega), Nat.le_of_eq (updN_n (by omega)).symm⟩⟩
      · rw [f_X11_trust, e1, Option.bind_some, k1]
        simp (disch := omega) only [f_X11_answer, hk.2.2.1 i hi, iN_lit, iN_add, iN_mul, iN_sub, iN_nn, ck_iN, iN_le, iN_lt, iN_eq, Nat.mul_zero, Nat.zero_add, Nat.add_zero, Nat.reduceMul, Nat.reduceAdd, Nat.reduceSub, Option.bind_some, reduceIte, Nat.reduceEqDiff, Nat.reduceLeDiff, Nat.reduceLT, Nat.le_refl, Nat.zero_le, eq_self]
      · rw [f_X12_trust, e2, Option.bind_some, k2]
        simp (disch := omega) only [f_X12_becomes, hc (42 + i) (by omega), iN_lit, iN_add, iN_mul, iN_sub, iN_nn, ck_iN, iN_le, iN_lt, iN_eq, Nat.mul_zero, Nat.zero_add, Nat.add_zero, Nat.reduceMul, Nat.reduceAdd, Nat.reduceSub, Option.bind_some, reduceIte, Nat.reduceEqDiff, Nat.reduceLeDiff, Nat.reduceLT, Nat.le_refl, Nat.zero_le, eq_self]
      · rw [ec, updN_n (by omega), updN_n (by omega), updN_n (by omega), updN_n (by omega), updN_n (by omega), updN_n (by omega)]
        exact hd.1
      · rw [updN_n (by omega)]; exact hd.2.1 j hj
      · rw [updN_n (show 47 + j ≠ 42 + i by omega)]
        refine ⟨?_, (hd.trav hj).2⟩
        unfold updN
        split
        · omega
        · exact (hd.trav hj).1
      · rw [updN_n (by omega)] at ht
        rw [ec, updN_n (by omega), updN_n (by omega), updN_n (by omega), updN_n (by omega), updN_n (by omega)]; exact hd.tell ht
      · have hm9 := hd.many
        unfold tellOf
        rw [updN_n (by omega)]
        exact Nat.le_trans (Nat.le_of_eq (sm_congr (fun t ht => by rw [updN_n (by omega)]))) (hd.2.2.2.2 z)
      · unfold tRep
        rw [eh, updN_n (by omega), updN_n (by omega), updN_n (by omega), updN_n (by omega), updN_n (by omega), updN_n (by omega)]; exact hk.1
      · rw [ec]; exact aRep_o hk.2.1 (fun j _ _ => updN_n (by omega))
      · rw [updN_n (by omega)]; exact aRep_upd hk.2.2.1 i k
      · rw [updN_n (by omega)]; exact hk.2.2.2.1
      · rw [updN_n (by omega)]; exact aRep_o hk.2.2.2.2.1 (fun j _ _ => updN_n (by omega))
      · rw [updN_n (by omega)]; exact aRep_o hk.2.2.2.2.2.1 (fun j _ _ => updN_n (by omega))
      · rw [updN_n (by omega)]; exact aRep_o hk.2.2.2.2.2.2.1 (fun j _ _ => updN_n (by omega))
      · rw [updN_n (by omega)]; exact aRep_o hk.2.2.2.2.2.2.2 (fun j _ _ => updN_n (by omega))
    · rw [if_neg h] at k1 k2
      refine ⟨-1, upd T0 14 5, Li, upd (upd (upd Tm 1 0) 0 0) 0 5, c, d, ?_, ?_, sR_no hs, hd, hc, hk, fun _ _ => rfl, ⟨rfl, rfl, Nat.le_refl _⟩⟩
      · rw [f_X11_trust, e1, Option.bind_some, k1]
        simp (disch := omega) only [f_X11_refused, iN_lit, iN_add, iN_mul, iN_sub, iN_nn, ck_iN, iN_le, iN_lt, iN_eq, Nat.mul_zero, Nat.zero_add, Nat.add_zero, Nat.reduceMul, Nat.reduceAdd, Nat.reduceSub, Option.bind_some, reduceIte, Nat.reduceEqDiff, Nat.reduceLeDiff, Nat.reduceLT, Nat.le_refl, Nat.zero_le, eq_self]
      · rw [f_X12_trust, e2, Option.bind_some, k2]
        simp (disch := omega) only [f_X12_refuse, iN_lit, iN_add, iN_mul, iN_sub, iN_nn, ck_iN, iN_le, iN_lt, iN_eq, Nat.mul_zero, Nat.zero_add, Nat.add_zero, Nat.reduceMul, Nat.reduceAdd, Nat.reduceSub, Option.bind_some, reduceIte, Nat.reduceEqDiff, Nat.reduceLeDiff, Nat.reduceLT, Nat.le_refl, Nat.zero_le, eq_self]
  · rw [if_neg hx] at e1 e2
    refine ⟨-1, upd T0 14 2, Li, upd (upd (upd Tm 1 0) 0 0) 0 2, c, d, ?_, ?_, sR_no hs, hd, hc, hk, fun _ _ => rfl, ⟨rfl, rfl, Nat.le_refl _⟩⟩
    · rw [f_X11_trust, e1]
      simp (disch := omega) only [f_X11_refused, iN_lit, iN_add, iN_mul, iN_sub, iN_nn, ck_iN, iN_le, iN_lt, iN_eq, Nat.mul_zero, Nat.zero_add, Nat.add_zero, Nat.reduceMul, Nat.reduceAdd, Nat.reduceSub, Option.bind_some, reduceIte, Nat.reduceEqDiff, Nat.reduceLeDiff, Nat.reduceLT, Nat.le_refl, Nat.zero_le, eq_self]
    · rw [f_X12_trust, e2]
      simp (disch := omega) only [f_X12_refuse, iN_lit, iN_add, iN_mul, iN_sub, iN_nn, ck_iN, iN_le, iN_lt, iN_eq, Nat.mul_zero, Nat.zero_add, Nat.add_zero, Nat.reduceMul, Nat.reduceAdd, Nat.reduceSub, Option.bind_some, reduceIte, Nat.reduceEqDiff, Nat.reduceLeDiff, Nat.reduceLT, Nat.le_refl, Nat.zero_le, eq_self]
end OPS3
