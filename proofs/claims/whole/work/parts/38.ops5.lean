/-! Calls: tell, come. -/
/-- a telling behind the others -/
def tld (d : Nat → Nat) (k x q m : Nat) : Nat → Nat := updN (updN (updN (updN (updN d (52 + d 3) k) (64 + d 3) x) (76 + d 3) q) (88 + d 3) m) 3 (d 3 + 1)
section OPS5
variable {d : Nat → Nat} {w Na : Nat → Int64} {c T T0 Tm S Li By Of Fe Mi V3 : Nat → Int32} {L : Int32} {K : Int32 × Int32}
theorem tld_n {k x q m j : Nat} (h : j ≠ 52 + d 3 ∧ j ≠ 64 + d 3 ∧ j ≠ 76 + d 3 ∧ j ≠ 88 + d 3 ∧ j ≠ 3) : tld d k x q m j = d j := by
  unfold tld
  rw [updN_n h.2.2.2.2, updN_n h.2.2.2.1, updN_n h.2.2.1, updN_n h.2.1, updN_n h.1]
theorem tld_3 {k x q m : Nat} : tld d k x q m 3 = d 3 + 1 := updN_s
theorem tld_52 {k x q m : Nat} (h : d 3 < 12) : tld d k x q m (52 + d 3) = k := by
  unfold tld
  rw [updN_n (by omega), updN_n (by omega), updN_n (by omega), updN_n (by omega), updN_s]
theorem tld_64 {k x q m : Nat} (h : d 3 < 12) : tld d k x q m (64 + d 3) = x := by
  unfold tld
  rw [updN_n (by omega), updN_n (by omega), updN_n (by omega), updN_s]
theorem tld_76 {k x q m : Nat} (h : d 3 < 12) : tld d k x q m (76 + d 3) = q := by
  unfold tld
  rw [updN_n (by omega), updN_n (by omega), updN_s]
theorem tld_88 {k x q m : Nat} (h : d 3 < 12) : tld d k x q m (88 + d 3) = m := by
  unfold tld
  rw [updN_n (by omega), updN_s]
theorem tld_inv (hd : dInv d) {k x q m : Nat} (h : d 3 < 12) (hk : k < d 2) (hx : x < cells d) (hq : q < 4) (hm : m ≤ 9) (h5 : tellOf d x < 5) : dInv (tld d k x q m) := by
  have hm9 := hd.many
  have ec : cells (tld d k x q m) = cells d := by
    unfold cells
    rw [tld_n (by omega), tld_n (by omega)]
  refine ⟨?_, fun j hj => ?_, fun j hj => ?_, fun t ht => ?_, fun z => ?_⟩
  · rw [ec, tld_3, tld_n (by omega), tld_n (by omega), tld_n (by omega), tld_n (by omega), tld_n (by omega)]
    have h1 := hd.1
    exact ⟨h1.1, h1.2.1, h1.2.2.1, by omega, h1.2.2.2.2⟩
  · rw [tld_n (by omega)]; exact hd.2.1 j hj
  · rw [tld_n (by omega), tld_n (by omega)]; exact hd.trav hj
  · rw [tld_3] at ht
    rw [ec, tld_n (show (2 : Nat) ≠ 52 + d 3 ∧ _ by omega)]
    by_cases e : t = d 3
    · subst e
      rw [tld_52 h, tld_64 h, tld_76 h, tld_88 h]
      exact ⟨hk, hx, hq, hm⟩
    · rw [tld_n (by omega), tld_n (by omega), tld_n (by omega), tld_n (by omega)]; exact hd.tell (by omega)
  · unfold tellOf
    rw [tld_3, sm_succ, tld_64 h, sm_congr (g := fun t => if d (64 + t) = z then 1 else 0) (fun t ht => by rw [tld_n (by omega)])]
    have h6 := hd.2.2.2.2 z
    by_cases e : x = z
    · subst e; rw [if_pos rfl]; exact h5
    · rw [if_neg e]; exact h6
theorem tld_hset (hd : dInv d) {k x q m : Nat} (h : d 3 < 12) : hset (tld d k x q m) = hset d := by
  have hm9 := hd.many
  unfold hset
  rw [tld_n (by omega)]
  exact sm_congr (fun j hj => by rw [tld_n (by omega)])
theorem tld_arr {k x q m o v : Nat} {V : Nat → Int32} (ho : o = 52 ∨ o = 64 ∨ o = 76 ∨ o = 88) (h : d 3 < 12) (hv : tld d k x q m (o + d 3) = v) (hV : aRep d o (d 3) V) : aRep (tld d k x q m) o (d 3 + 1) (upd V (d 3) (iN v)) := fun j hj => by
  by_cases e : j = d 3
  · subst e; rw [upd_s, hv]
  · rw [upd_n e, tld_n (by omega)]; exact hV j (by omega)
theorem tld_k (hd : dInv d) (hk : kRep d w T S Li Na By Of Fe Mi) {k x q m : Nat} (h : d 3 < 12) : kRep (tld d k x q m) w (upd T 6 (iN (d 3 + 1))) S Li Na (upd By (d 3) (iN k)) (upd Of (d 3) (iN x)) (upd Fe (d 3) (iN q)) (upd Mi (d 3) (iN m)) := by
  have hm9 := hd.many
  have h36 := hd.c36
  have ec : cells (tld d k x q m) = cells d := by
    unfold cells
    rw [tld_n (by omega), tld_n (by omega)]
  refine ⟨?_, ?_, ?_, ?_, ?_, ?_, ?_, ?_⟩
  · unfold tRep
    rw [tld_hset hd h, tld_3, tld_n (by omega), tld_n (by omega), tld_n (by omega), tld_n (by omega), tld_n (by omega), upd_s, upd_n (by omega), upd_n (by omega), upd_n (by omega), upd_n (by omega), upd_n (by omega), upd_n (by omega)]
    have ht := hk.1
    exact ⟨ht.1, ht.2.1, ht.2.2.1, ht.2.2.2.1, ht.2.2.2.2.1, ht.2.2.2.2.2.1, rfl⟩
  · rw [ec]; exact aRep_o hk.2.1 (fun j _ _ => tld_n (by omega))
  · rw [tld_n (by omega)]; exact aRep_o hk.2.2.1 (fun j _ _ => tld_n (by omega))
  · rw [tld_n (by omega)]; exact hk.2.2.2.1
  · rw [tld_3]; exact tld_arr (Or.inl rfl) h (tld_52 h) hk.2.2.2.2.1
  · rw [tld_3]; exact tld_arr (Or.inr (Or.inl rfl)) h (tld_64 h) hk.2.2.2.2.2.1
  · rw [tld_3]; exact tld_arr (Or.inr (Or.inr (Or.inl rfl))) h (tld_76 h) hk.2.2.2.2.2.2.1
  · rw [tld_3]; exact tld_arr (Or.inr (Or.inr (Or.inr rfl))) h (tld_88 h) hk.2.2.2.2.2.2.2
theorem tld_m (hd : dInv d) (hc : mRep d c) {k x q m : Nat} (h : d 3 < 12) : ∃ c', f_X12_tells c 0 (iN k) (iN x) (iN q) (iN m) = some c' ∧ mRep (tld d k x q m) c' ∧ ∀ j, 100 ≤ j → c' j = c j := by
  refine ⟨upd (upd (upd (upd (upd c (52 + d 3) (iN k)) (64 + d 3) (iN x)) (76 + d 3) (iN q)) (88 + d 3) (iN m)) 3 (iN (d 3 + 1)), ?_, mRep_upd (mRep_upd (mRep_upd (mRep_upd (mRep_upd hc _ _) _ _) _ _) _ _) _ _, fun j hj => by rw [upd_n (by omega), upd_n (by omega), upd_n (by omega), upd_n (by omega), upd_n (by omega)]⟩
  simp (disch := omega) only [f_X12_tells, letv, hc 3 (by omega), upd_n, iN_lit, iN_add, iN_mul, iN_sub, iN_nn, ck_iN, iN_le, iN_lt, iN_eq, Nat.mul_zero, Nat.zero_add, Nat.add_zero, Nat.reduceMul, Nat.reduceAdd, Nat.reduceSub, Option.bind_some, reduceIte, Nat.reduceEqDiff, Nat.reduceLeDiff, Nat.reduceLT, Nat.le_refl, Nat.zero_le, eq_self]
  rw [Nat.add_comm (d 3) 52, Nat.add_comm (d 3) 64, Nat.add_comm (d 3) 76, Nat.add_comm (d 3) 88]
theorem e12_canTell (hd : dInv d) (hc : mRep d c) {x : Nat} (hx : x < 36) : f_X12_canTell c (iN x) = some (if d 3 < 12 ∧ tellOf d x < 5 then 1 else 0) := by
  have hm := hd.many
  have h5 := hd.2.2.2.2 x
  have e := e12_tellingsOf hd hc hx
  simp only [iN_lit] at e
  simp (disch := omega) only [f_X12_canTell, hc 3 (by omega), e, iN_lit, iN_add, iN_mul, iN_sub, iN_nn, ck_iN, iN_le, iN_lt, iN_eq, Nat.mul_zero, Nat.zero_add, Nat.add_zero, Nat.reduceMul, Nat.reduceAdd, Nat.reduceSub, Option.bind_some, reduceIte, Nat.reduceEqDiff, Nat.reduceLeDiff, Nat.reduceLT, Nat.le_refl, Nat.zero_le, eq_self]
  by_cases h1 : d 3 < 12
  · rw [if_neg (by omega)]
    by_cases h2 : tellOf d x < 5
    · rw [if_neg (by omega), if_pos ⟨h1, h2⟩]
    · rw [if_pos (by omega), if_neg (fun h => h2 h.2)]
  · rw [if_pos (by omega), if_neg (fun h => h1 h.1)]
theorem e3_addTelling (hd : dInv d) (hk : kRep d w T S Li Na By Of Fe Mi) {x : Nat} (hx : x < 36) (k q m : Int32) : f_X3_addTelling T Of By Fe Mi k (iN x) q m = some (if d 3 < 12 ∧ tellOf d x < 5 then ((1 : Int32), upd T 6 (iN (d 3 + 1)), upd Of (d 3) (iN x), upd By (d 3) k, upd Fe (d 3) q, upd Mi (d 3) m) else ((0 : Int32), T, Of, By, Fe, Mi)) := by
  have hm := hd.many
  have h5 := hd.2.2.2.2 x
  simp (disch := omega) only [f_X3_addTelling, hk.1.2.2.2.2.2.2, e3_tellingsOf hd hk.1 hk.2.2.2.2.2.1 hx, iN_lit, iN_add, iN_mul, iN_sub, iN_nn, ck_iN, iN_le, iN_lt, iN_eq, Nat.mul_zero, Nat.zero_add, Nat.add_zero, Nat.reduceMul, Nat.reduceAdd, Nat.reduceSub, Option.bind_some, reduceIte, Nat.reduceEqDiff, Nat.reduceLeDiff, Nat.reduceLT, Nat.le_refl, Nat.zero_le, eq_self]
  by_cases h1 : d 3 < 12
  · rw [if_neg (by omega)]
    by_cases h2 : tellOf d x < 5
    · rw [if_pos h2, if_pos ⟨h1, h2⟩]
    · rw [if_neg h2, if_neg (fun h => h2 h.2)]
  · rw [if_pos (by omega), if_neg (fun h => h1 h.1)]
theorem q_tell (hd : dInv d) (hc : mRep d c) (hk : kRep d w T S Li Na By Of Fe Mi) (hs : sR T0 Tm L K) (x y z u : Int32) : ∃ v U T' Of' By' Fe' Mi' Um c' d', f_X11_tell T0 T Of By Fe Mi x y z u = some (v, U, T', Of', By', Fe', Mi') ∧ f_X12_tell Tm c x y z u = some (v, Um, c') ∧ sR U Um L K ∧ dInv d' ∧ mRep d' c' ∧ kRep d' w T' S Li Na By' Of' Fe' Mi' ∧ (∀ j, 100 ≤ j → c' j = c j) ∧ dLe d d' := by
  have hm := hd.many
  have h36 := hd.c36
  have e1 := e3_hasTraveller hd hk.1 x
  have e2 := e12_isTravellerAt hd hc x
  have f1 := e3_hasCell hd hk.1 y
  have f2 := e12_isCell hd hc y
  have g1 := e_isKind z
  have g2 := e12_isKind z
  have k1 := e_within_9 u
  have k2 := e_isIn_9 u
  by_cases hx : inR x (d 2)
  · rw [if_pos hx] at e1 e2
    by_cases hy : inR y (cells d)
    · rw [if_pos hy] at f1 f2
      by_cases hz : inR z 4
      · rw [if_pos hz] at g1 g2
        by_cases hu : inR u 10
        · rw [if_pos hu] at k1 k2
          obtain ⟨i, hi, rfl⟩ := hx.eq (by omega)
          obtain ⟨j, hj, rfl⟩ := hy.eq (by omega)
          obtain ⟨q, hq, rfl⟩ := hz.eq (by omega)
          obtain ⟨m, hm9, rfl⟩ := hu.eq (by omega)
          have a1 := e3_addTelling hd hk (show j < 36 by omega) (iN i) (iN q) (iN m)
          have a2 := e12_canTell hd hc (show j < 36 by omega)
          by_cases h : d 3 < 12 ∧ tellOf d j < 5
          · rw [if_pos h] at a1 a2
            obtain ⟨c', hc1, hc2, hc3⟩ := tld_m hd hc (k := i) (x := j) (q := q) (m := m) h.1
            refine ⟨iN (d 3), upd T0 14 0, _, _, _, _, _, upd (upd Tm 1 0) 0 0, c', tld d i j q m, ?_, ?_, sR_ok hs, tld_inv hd h.1 hi hj hq (by omega) h.2, hc2, tld_k hd hk h.1, hc3, ⟨tld_n (by omega), tld_n (by omega), Nat.le_of_eq (tld_n (by omega)).symm⟩⟩
            · rw [f_X11_tell, e1, Option.bind_some, if_neg (by decide), f1, Option.bind_some, if_neg (by decide), g1, Option.bind_some, if_neg (by decide), k1, Option.bind_some, if_neg (by decide), a1, Option.bind_some, if_neg (show ¬ (1 : Int32) = 0 by decide), f_X11_answer, Option.bind_some]
              dsimp only
              rw [upd_s, show (iN (d 3 + 1) - 1 : Int32) = iN (d 3 + 1 - 1) from iN_sub (b := 1) (by omega), Nat.add_sub_cancel]
            · rw [f_X12_tell, e2, Option.bind_some, if_neg (by decide), f2, Option.bind_some, if_neg (by decide), g2, Option.bind_some, if_neg (by decide), k2, Option.bind_some, if_neg (by decide), a2, Option.bind_some, if_neg (by decide), hc1, Option.bind_some]
              have h3 := hc2 3 (by omega)
              rw [tld_3] at h3
              simp (disch := omega) only [h3, iN_lit, iN_add, iN_mul, iN_sub, iN_nn, ck_iN, iN_le, iN_lt, iN_eq, Nat.mul_zero, Nat.zero_add, Nat.add_zero, Nat.reduceMul, Nat.reduceAdd, Nat.reduceSub, Option.bind_some, reduceIte, Nat.reduceEqDiff, Nat.reduceLeDiff, Nat.reduceLT, Nat.le_refl, Nat.zero_le, eq_self]
              rw [Nat.add_sub_cancel]
          · rw [if_neg h] at a1 a2
            refine ⟨-1, upd T0 14 7, T, Of, By, Fe, Mi, upd (upd (upd Tm 1 0) 0 0) 0 7, c, d, ?_, ?_, sR_no hs, hd, hc, hk, fun _ _ => rfl, ⟨rfl, rfl, Nat.le_refl _⟩⟩
            · rw [f_X11_tell, e1, Option.bind_some, if_neg (by decide), f1, Option.bind_some, if_neg (by decide), g1, Option.bind_some, if_neg (by decide), k1, Option.bind_some, if_neg (by decide), a1]; rfl
            · rw [f_X12_tell, e2, Option.bind_some, if_neg (by decide), f2, Option.bind_some, if_neg (by decide), g2, Option.bind_some, if_neg (by decide), k2, Option.bind_some, if_neg (by decide), a2]; rfl
        · rw [if_neg hu] at k1 k2
          refine ⟨-1, upd T0 14 5, T, Of, By, Fe, Mi, upd (upd (upd Tm 1 0) 0 0) 0 5, c, d, ?_, ?_, sR_no hs, hd, hc, hk, fun _ _ => rfl, ⟨rfl, rfl, Nat.le_refl _⟩⟩
          · rw [f_X11_tell, e1, Option.bind_some, if_neg (by decide), f1, Option.bind_some, if_neg (by decide), g1, Option.bind_some, if_neg (by decide), k1]; rfl
          · rw [f_X12_tell, e2, Option.bind_some, if_neg (by decide), f2, Option.bind_some, if_neg (by decide), g2, Option.bind_some, if_neg (by decide), k2]; rfl
      · rw [if_neg hz] at g1 g2
        refine ⟨-1, upd T0 14 5, T, Of, By, Fe, Mi, upd (upd (upd Tm 1 0) 0 0) 0 5, c, d, ?_, ?_, sR_no hs, hd, hc, hk, fun _ _ => rfl, ⟨rfl, rfl, Nat.le_refl _⟩⟩
        · rw [f_X11_tell, e1, Option.bind_some, if_neg (by decide), f1, Option.bind_some, if_neg (by decide), g1]; rfl
        · rw [f_X12_tell, e2, Option.bind_some, if_neg (by decide), f2, Option.bind_some, if_neg (by decide), g2]; rfl
    · rw [if_neg hy] at f1 f2
      refine ⟨-1, upd T0 14 2, T, Of, By, Fe, Mi, upd (upd (upd Tm 1 0) 0 0) 0 2, c, d, ?_, ?_, sR_no hs, hd, hc, hk, fun _ _ => rfl, ⟨rfl, rfl, Nat.le_refl _⟩⟩
      · rw [f_X11_tell, e1, Option.bind_some, if_neg (by decide), f1]; rfl
      · rw [f_X12_tell, e2, Option.bind_some, if_neg (by decide), f2]; rfl
  · rw [if_neg hx] at e1 e2
    refine ⟨-1, upd T0 14 2, T, Of, By, Fe, Mi, upd (upd (upd Tm 1 0) 0 0) 0 2, c, d, ?_, ?_, sR_no hs, hd, hc, hk, fun _ _ => rfl, ⟨rfl, rfl, Nat.le_refl _⟩⟩
    · rw [f_X11_tell, e1]; rfl
    · rw [f_X12_tell, e2]; rfl
/-- one more traveller, not heard -/
def cme (d : Nat → Nat) (l : Nat) : Nat → Nat := updN (updN (updN d (42 + d 2) l) (47 + d 2) 0) 2 (d 2 + 1)
theorem cme_n {l j : Nat} (h : j ≠ 42 + d 2 ∧ j ≠ 47 + d 2 ∧ j ≠ 2) : cme d l j = d j := by
  unfold cme
  rw [updN_n h.2.2, updN_n h.2.1, updN_n h.1]
theorem cme_2 {l : Nat} : cme d l 2 = d 2 + 1 := updN_s
theorem cme_42 {l : Nat} (h : d 2 < 5) : cme d l (42 + d 2) = l := by
  unfold cme
  rw [updN_n (by omega), updN_n (by omega), updN_s]
theorem cme_47 {l : Nat} (h : d 2 < 5) : cme d l (47 + d 2) = 0 := by
  unfold cme
  rw [updN_n (by omega), updN_s]
theorem cme_inv (hd : dInv d) {l : Nat} (h : d 2 < 5) (hl : l ≤ 16) : dInv (cme d l) := by
  have hm9 := hd.many
  have ec : cells (cme d l) = cells d := by
    unfold cells
    rw [cme_n (by omega), cme_n (by omega)]
  refine ⟨?_, fun j hj => ?_, fun j hj => ?_, fun t ht => ?_, fun z => ?_⟩
  · rw [ec, cme_2, cme_n (by omega), cme_n (by omega), cme_n (by omega), cme_n (by omega), cme_n (by omega)]
    have h1 := hd.1
    exact ⟨h1.1, h1.2.1, by omega, h1.2.2.2⟩
  · rw [cme_n (by omega)]; exact hd.2.1 j hj
  · have hj9 := hd.trav hj
    constructor
    · by_cases e : j = d 2
      · rw [e, cme_42 h]; exact hl
      · rw [cme_n (by omega)]; exact hj9.1
    · by_cases e : j = d 2
      · rw [e, cme_47 h]; omega
      · rw [cme_n (by omega)]; exact hj9.2
  · rw [cme_n (by omega)] at ht
    have ht9 := hd.tell ht
    rw [ec, cme_2, cme_n (by omega), cme_n (by omega), cme_n (by omega), cme_n (by omega)]
    exact ⟨by omega, ht9.2⟩
  · unfold tellOf
    rw [cme_n (by omega)]
    exact Nat.le_trans (Nat.le_of_eq (sm_congr (fun t ht => by rw [cme_n (by omega)]))) (hd.2.2.2.2 z)
theorem cme_k (hd : dInv d) (hk : kRep d w T S Li Na By Of Fe Mi) {l : Nat} (h : d 2 < 5) : kRep (cme d l) (vp_updL w (d 2) 0) (upd T 4 (iN (d 2 + 1))) S (upd Li (d 2) (iN l)) (vp_updL Na (d 2) 0) By Of Fe Mi := by
  have hm9 := hd.many
  have h36 := hd.c36
  have ec : cells (cme d l) = cells d := by
    unfold cells
    rw [cme_n (by omega), cme_n (by omega)]
  have eh : hset (cme d l) = hset d := by
    unfold hset
    rw [cme_2, sm_succ, cme_47 h, Nat.zero_mul, Nat.add_zero]
    exact sm_congr (fun j hj => by rw [cme_n (by omega)])
  refine ⟨?_, ?_, ?_, ?_, ?_, ?_, ?_, ?_⟩
  · unfold tRep
    rw [eh, cme_2, cme_n (by omega), cme_n (by omega), cme_n (by omega), cme_n (by omega), cme_n (by omega), upd_s, upd_n (by omega), upd_n (by omega), upd_n (by omega), upd_n (by omega), upd_n (by omega), upd_n (by omega)]
    have ht := hk.1
    exact ⟨ht.1, ht.2.1, ht.2.2.1, ht.2.2.2.1, rfl, ht.2.2.2.2.2.1, ht.2.2.2.2.2.2⟩
  · rw [ec]; exact aRep_o hk.2.1 (fun j _ _ => cme_n (by omega))
  · rw [cme_2]
    intro j hj
    by_cases e : j = d 2
    · rw [e, upd_s, cme_42 h]
    · rw [upd_n e, cme_n (by omega)]; exact hk.2.2.1 j (by omega)
  · rw [cme_2]
    intro j hj
    unfold vp_updL
    by_cases e : j = d 2
    · rw [if_pos e, if_pos e]
    · rw [if_neg e, if_neg e]; exact hk.2.2.2.1 j (by omega)
  · rw [cme_n (by omega)]; exact aRep_o hk.2.2.2.2.1 (fun j _ _ => cme_n (by omega))
  · rw [cme_n (by omega)]; exact aRep_o hk.2.2.2.2.2.1 (fun j _ _ => cme_n (by omega))
  · rw [cme_n (by omega)]; exact aRep_o hk.2.2.2.2.2.2.1 (fun j _ _ => cme_n (by omega))
  · rw [cme_n (by omega)]; exact aRep_o hk.2.2.2.2.2.2.2 (fun j _ _ => cme_n (by omega))
theorem q_come (hd : dInv d) (hc : mRep d c) (hk : kRep d w T S Li Na By Of Fe Mi) (hs : sR T0 Tm L K) (x : Int32) : ∃ v U T' Na' Li' Um c' w' d', f_X11_come T0 T Na Li x = some (v, U, T', Na', Li') ∧ f_X12_come Tm c w x = some (v, Um, c', w') ∧ sR U Um L K ∧ dInv d' ∧ mRep d' c' ∧ kRep d' w' T' S Li' Na' By Of Fe Mi ∧ (∀ j, 100 ≤ j → c' j = c j) ∧ (∀ j, 5 ≤ j → w' j = w j) ∧ dLe d d' := by
  have hm := hd.many
  have e1 := e_within_16 x
  have e2 := e_isIn_16 x
  have g2 : gd 2 1860 = true := by decide
  have n2 : (2 : Int32).toNatClampNeg = 2 := by decide
  by_cases hx : inR x 17
  · rw [if_pos hx] at e1 e2
    obtain ⟨l, hl, rfl⟩ := hx.eq (by omega)
    by_cases h : d 2 < 5
    · refine ⟨iN (d 2), upd T0 14 0, _, _, _, upd (upd Tm 1 0) 0 0, upd (upd (upd c (42 + d 2) (iN l)) (47 + d 2) (iN 0)) 2 (iN (d 2 + 1)), vp_updL w (d 2) 0, cme d l, ?_, ?_, sR_ok hs, cme_inv hd h (by omega), mRep_upd (mRep_upd (mRep_upd hc _ _) _ _) _ _, cme_k hd hk h, fun j hj => by rw [upd_n (by omega), upd_n (by omega), upd_n (by omega)], fun j hj => if_neg (by omega), ⟨cme_n (by omega), cme_n (by omega), by rw [cme_2]; omega⟩⟩
      · rw [f_X11_come, e1, Option.bind_some, if_neg (by decide), f_X3_addTraveller, hk.1.2.2.2.2.1, if_pos (by rw [show (5 : Int32) = iN 5 from rfl, iN_lt (by omega) (by omega)]; exact h), ck_iN h (by omega), ck_iN h (by omega), if_pos rfl, f_X3_addTraveller_50, Option.bind_some, if_neg (show ¬ (1 : Int32) = 0 by decide), f_X11_answer, Option.bind_some]
        dsimp only
        rw [upd_s, iN_nn (by omega), hk.1.2.2.2.2.1, show (iN (d 2) + 1 : Int32) = iN (d 2 + 1) from iN_add _ 1, show (iN (d 2 + 1) - 1 : Int32) = iN (d 2 + 1 - 1) from iN_sub (b := 1) (by omega), Nat.add_sub_cancel]
      · rw [f_X12_come, e2, Option.bind_some, if_neg (by decide), ck_y g2, n2, hc 2 (by omega), if_neg (by rw [show (5 : Int32) = iN 5 from rfl, iN_eq (by omega) (by omega)]; omega), ck_iN (by omega) (by omega), iN_nn (by omega)]
        simp (disch := omega) only [upd_n, hc 2 (by omega), iN_lit, iN_add, iN_mul, iN_sub, iN_nn, ck_iN, iN_le, iN_lt, iN_eq, Nat.mul_zero, Nat.zero_add, Nat.add_zero, Nat.reduceMul, Nat.reduceAdd, Nat.reduceSub, Option.bind_some, reduceIte, Nat.reduceEqDiff, Nat.reduceLeDiff, Nat.reduceLT, Nat.le_refl, Nat.zero_le, eq_self]
    · refine ⟨-1, upd T0 14 7, T, Na, Li, upd (upd (upd Tm 1 0) 0 0) 0 7, c, w, d, ?_, ?_, sR_no hs, hd, hc, hk, fun _ _ => rfl, fun _ _ => rfl, ⟨rfl, rfl, Nat.le_refl _⟩⟩
      · rw [f_X11_come, e1, Option.bind_some, if_neg (by decide), f_X3_addTraveller, hk.1.2.2.2.2.1, if_neg (by rw [show (5 : Int32) = iN 5 from rfl, iN_lt (by omega) (by omega)]; exact h)]; rfl
      · rw [f_X12_come, e2, Option.bind_some, if_neg (by decide), ck_y g2, n2, hc 2 (by omega), if_pos (by rw [show (5 : Int32) = iN 5 from rfl, iN_eq (by omega) (by omega)]; omega)]; rfl
  · rw [if_neg hx] at e1 e2
    refine ⟨-1, upd T0 14 5, T, Na, Li, upd (upd (upd Tm 1 0) 0 0) 0 5, c, w, d, ?_, ?_, sR_no hs, hd, hc, hk, fun _ _ => rfl, fun _ _ => rfl, ⟨rfl, rfl, Nat.le_refl _⟩⟩
    · rw [f_X11_come, e1]; rfl
    · rw [f_X12_come, e2]; rfl
end OPS5
