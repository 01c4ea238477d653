/-! The years read: a step's head. -/
theorem e10_begins {x : Nat} (hx : x < 24) : f_X10_beginsStep (wI32 x) = some (if stW x = none then 0 else 1) := by
  have h : ∀ x, x < 24 → f_X10_beginsStep (wI32 x) = some (if stW x = none then 0 else 1) := by decide +kernel
  exact h x hx
def frY (Tm Tm' : Nat → Int32) : Prop := ∀ j, (j < 12 ∨ 19 ≤ j) → j ≠ 26 → Tm' j = Tm j
theorem frY.t {A B C : Nat → Int32} (h : frY A B) (h2 : frY B C) : frY A C := fun j hj h26 => (h2 j hj h26).trans (h j hj h26)
theorem frM.y {A B : Nat → Int32} (h : frM A B) : frY A B := fun j hj _ => h j hj
theorem frY.u (A : Nat → Int32) (v : Int32) : frY A (upd A 26 v) := fun j _ h => upd_n h
def blo (o : Nat) (c c' : Nat → Int32) : Prop := ∀ j, j < o → c' j = c j
theorem blo.t {o : Nat} {A B C : Nat → Int32} (h : blo o A B) (h2 : blo o B C) : blo o A C := fun j hj => (h2 j hj).trans (h j hj)
theorem blo.lo {o o' : Nat} {A B : Nat → Int32} (h : blo o A B) (h2 : o' ≤ o) : blo o' A B := fun j hj => h j (by omega)
theorem blo.u {o i : Nat} (A : Nat → Int32) (v : Int32) (h : o ≤ i) : blo o A (upd A i v) := fun j hj => upd_n (by omega)
theorem frS.b {o : Nat} {c c' : Nat → Int32} (h : frS o c c') : blo (o + 1) c c' := fun j hj => h j (by omega)
section YR4
variable {b : Nat → Nat} {n p q k : Nat} {V Vm T Tm R : Nat → Int32} {J Jm : Int64} {V2 : Nat → Int64} {d : Nat → Nat} {Na W : Nat → Int64} {c Td T3 De Fi Se Th Pa : Nat → Int32} {ns ln o dd x m : Nat}
theorem y_rst (hX : tX b n V Vm) (hC : cOk V2) (h : rdS b n p q k T J Tm Jm) (hd : dInv d) (hT : tRep d Td) (hN : ∀ i, i < d 2 → Na i = W i) (hc : mRep d c) (h1 : T3 1 = iN ns) (h2 : T3 2 = iN ln) (hl : ln < 60) (ho : 1590 ≤ o ∧ o + 8 < 1860) (hs : stW x = some m) (hk : c o = iN m) : rsR b n (cells d) (d 2) ns ln o p (m == 5 || m == 6) R T T3 De Fi Se Th Pa Tm c (if wI32 x = 16 then (f_X10_takeTest R T J V V2 Td Na T3 De Fi Se Th Pa) else (f_X10_takeRest R T J Td Na V V2 T3 De Fi Se Th Pa (wI32 x))) (f_X12_readRest Tm Jm c Vm W (iN o)) := by
  rcases stW_inv hs with ⟨rfl, rfl⟩ | ⟨rfl, rfl⟩ | ⟨rfl, rfl⟩ | ⟨rfl, rfl⟩ | ⟨rfl, rfl⟩ | ⟨rfl, rfl⟩ | ⟨rfl, rfl⟩ | ⟨rfl, rfl⟩
  · rw [if_neg (by decide)]; exact y_restN hX hC h hd hT hN hc h1 h2 hl ho (Or.inl ⟨rfl, rfl⟩) hk
  · rw [if_neg (by decide)]; exact y_restN hX hC h hd hT hN hc h1 h2 hl ho (Or.inr ⟨rfl, rfl⟩) hk
  · rw [if_neg (by decide)]; exact y_restT hX hC h hd hT hN hc h1 h2 hl ho hk
  · rw [if_neg (by decide)]; exact y_restS hX hC h hd hT hc h1 h2 hl ho hk
  · rw [if_neg (by decide)]; exact y_restA h h1 h2 hl ho (Or.inl ⟨rfl, rfl⟩) hk
  · rw [if_pos (by decide)]
    have mm : f_X12_readRest Tm Jm c Vm W (iN o) = f_X12_readTest Tm Jm Vm c W (iN o) := by
      rw [f_X12_readRest, ck_iN (by omega) (by omega), iN_nn (by omega), hk, if_neg (by decide), if_pos (by decide)]
      cases f_X12_readTest Tm Jm Vm c W (iN o) <;> rfl
    rw [mm]
    exact (y_test hX hC h hd hT hN hc h1 h2 hl ho hk).lo (tkS_pq h.1)
  · rw [if_neg (by decide)]; exact y_restL hX hC h h1 h2 hl ho hk
  · rw [if_neg (by decide)]; exact y_restA h h1 h2 hl ho (Or.inr ⟨rfl, rfl⟩) hk
/-- the model, once a fault stands, goes out of a step -/
theorem y_out (rec : (Nat → Int32) → Int64 → (Nat → Int32) → (Nat → Int32) → (Nat → Int64) → Int32 → Option ((Nat → Int32) × Int64 × (Nat → Int32))) (hb : bad Tm) (ho : o + 8 < 1860) (N : Nat) (s : Int32) (y : Int32) (Jm : Int64) (c : Nat → Int32) : f_X12_readStep_141 rec Vm W y (N + 1) s (iN o) Tm Jm c = some (Tm, Jm, upd c (o + 8) (Tm 26)) := by
  have e8 : (iN o + 8 : Int32) = iN (o + 8) := iN_add o 8
  have l : f_X12_readStep_191 rec Vm W y (iN o) Tm Jm c = some (Tm, Jm, upd c (o + 8) (Tm 26)) := by
    rw [f_X12_readStep_191, e8, ck_iN (by omega) (by omega), iN_nn (by omega)]
  have l2 : f_X12_readStep_169 rec Vm W y s (iN o) Tm Jm c = some (Tm, Jm, upd c (o + 8) (Tm 26)) := by
    rw [f_X12_readStep_169]
    by_cases e : s = 0
    · rw [if_pos e, l]
    · have w : ∃ z, f_X12_isEnd Tm Jm = some z := by
        rw [f_X12_isEnd, show f_X12_spelled 101 110 100 0 0 0 = some (jN (wcd 21)) by decide +kernel, Option.bind_some]
        rcases t_isWord Tm Jm (jN (wcd 21)) with g | g
        · rw [g]; exact ⟨0, rfl⟩
        · rw [g]; exact ⟨1, rfl⟩
      obtain ⟨z, hz⟩ := w
      have w2 : ∃ z, f_X12_isSign Tm 59 = some z := by
        rw [f_X12_isSign]
        split
        · split
          · exact ⟨_, rfl⟩
          · exact ⟨_, rfl⟩
        · exact ⟨_, rfl⟩
      obtain ⟨z2, hz2⟩ := w2
      rw [if_neg e, hz, Option.bind_some, b_must hb, Option.bind_some]
      dsimp only
      rw [hz2, Option.bind_some, b_must hb, Option.bind_some]
      exact l
  rw [f_X12_readStep_141, iter_succ, g_X12_readStep_141]
  by_cases e : s = 0
  · rw [if_pos e, l2]
  · rw [if_neg e, if_neg hb.ne, l2]
end YR4
