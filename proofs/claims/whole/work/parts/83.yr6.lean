/-! The years read: lines and steps, as they stand together. -/
def yOneF (nc nt : Nat) (G : Nat → Nat → Int32) (De Fi Se Th Pa : Nat → Int32) (sg : Nat → Nat → Nat → Nat → Nat → Prop) (D s e l m : Nat) : Prop := (e = s + 1 ∧ m = l + 1 ∧ ySmV nc nt (G s) (De l) (Fi l) (Se l) (Th l) ∧ G s 8 = iN e) ∨ ∃ y r, D = y + 1 ∧ m = r + 1 ∧ yHdV nc nt (G s) (De l) (Fi l) (Se l) ∧ G s 8 = iN e ∧ De r = iN 21 ∧ Pa r = iN l ∧ Pa l = iN r ∧ sg y (s + 1) e (l + 1) r
def ySeg (nc nt : Nat) (G : Nat → Nat → Int32) (De Fi Se Th Pa : Nat → Int32) : Nat → Nat → Nat → Nat → Nat → Nat → Prop
  | 0 => fun _ s s' l l' => s = s' ∧ l = l'
  | f + 1 => fun D s s' l l' => (s = s' ∧ l = l') ∨ ∃ e m, yOneF nc nt G De Fi Se Th Pa (ySeg nc nt G De Fi Se Th Pa f) D s e l m ∧ ySeg nc nt G De Fi Se Th Pa f D e s' m l'
def yG (c : Nat → Int32) (o : Nat) : Nat → Nat → Int32 := fun s f => c (o + 9 * s + f)
section YR6
variable {nc nt : Nat} {G G' : Nat → Nat → Int32} {De Fi Se Th Pa De' Fi' Se' Th' Pa' : Nat → Int32}
theorem yOneF.mono {sg sg' : Nat → Nat → Nat → Nat → Nat → Prop} (hs : ∀ y s e l m, sg y s e l m → sg' y s e l m) {D s e l m : Nat} (h : yOneF nc nt G De Fi Se Th Pa sg D s e l m) : yOneF nc nt G De Fi Se Th Pa sg' D s e l m := by
  rcases h with h | ⟨y, r, h1, h2, h3, h4, h5, h6, h7, h8⟩
  · exact Or.inl h
  · exact Or.inr ⟨y, r, h1, h2, h3, h4, h5, h6, h7, hs _ _ _ _ _ h8⟩
theorem ySeg.su : ∀ (f : Nat) {D s s' l l' : Nat}, ySeg nc nt G De Fi Se Th Pa f D s s' l l' → ySeg nc nt G De Fi Se Th Pa (f + 1) D s s' l l'
  | 0, _, _, _, _, _, h => Or.inl h
  | f + 1, D, s, s', l, l', h => by
    rcases h with h | ⟨e, m, h1, h2⟩
    · exact Or.inl h
    · exact Or.inr ⟨e, m, h1.mono (fun _ _ _ _ _ h => ySeg.su f h), ySeg.su f h2⟩
theorem ySeg.up {f : Nat} (j : Nat) {D s s' l l' : Nat} (h : ySeg nc nt G De Fi Se Th Pa f D s s' l l') : ySeg nc nt G De Fi Se Th Pa (f + j) D s s' l l' := by
  induction j with
  | zero => exact h
  | succ j ih => exact ySeg.su _ ih
theorem ySeg.ord : ∀ (f : Nat) {D s s' l l' : Nat}, ySeg nc nt G De Fi Se Th Pa f D s s' l l' → s ≤ s' ∧ l ≤ l'
  | 0, _, _, _, _, _, h => ⟨Nat.le_of_eq h.1, Nat.le_of_eq h.2⟩
  | f + 1, D, s, s', l, l', h => by
    rcases h with h | ⟨e, m, h1, h2⟩
    · exact ⟨Nat.le_of_eq h.1, Nat.le_of_eq h.2⟩
    · have g := ySeg.ord f h2
      rcases h1 with h1 | ⟨y, r, a1, a2, a3, a4, a5, a6, a7, a8⟩
      · omega
      · have := ySeg.ord f a8
        omega
theorem yOne.ord {f D s e l m : Nat} (h1 : yOneF nc nt G De Fi Se Th Pa (ySeg nc nt G De Fi Se Th Pa f) D s e l m) : s + 1 ≤ e ∧ l + 1 ≤ m := by
  rcases h1 with h1 | ⟨y, r, a1, a2, a3, a4, a5, a6, a7, a8⟩
  · omega
  · have := ySeg.ord f a8
    omega
theorem ySeg.tr : ∀ (f : Nat) {D s s' l l' : Nat}, ySeg nc nt G De Fi Se Th Pa f D s s' l l' → (∀ t, s ≤ t → t < s' → ∀ j, j ≤ 8 → G' t j = G t j) → (∀ j, l ≤ j → j < l' → De' j = De j ∧ Fi' j = Fi j ∧ Se' j = Se j ∧ Th' j = Th j ∧ Pa' j = Pa j) → ySeg nc nt G' De' Fi' Se' Th' Pa' f D s s' l l'
  | 0, _, _, _, _, _, h, _, _ => h
  | f + 1, D, s, s', l, l', h, hG, hL => by
    rcases h with h | ⟨e, m, h1, h2⟩
    · exact Or.inl h
    · have o2 := ySeg.ord f h2
      have o1 := yOne.ord h1
      refine Or.inr ⟨e, m, ?_, ySeg.tr f h2 (fun t ht ht2 => hG t (by omega) ht2) (fun j hj hj2 => hL j (by omega) hj2)⟩
      have gs := hG s (Nat.le_refl _) (by omega)
      obtain ⟨l1, l2, l3, l4, l5⟩ := hL l (Nat.le_refl _) (by omega)
      have sm : ySmV nc nt (G s) (De l) (Fi l) (Se l) (Th l) → ySmV nc nt (G' s) (De' l) (Fi' l) (Se' l) (Th' l) := fun h => by
        unfold ySmV
        rw [l1, l2, l3, l4, gs 0 (by decide), gs 1 (by decide), gs 2 (by decide), gs 3 (by decide)]
        exact h
      have hdv : yHdV nc nt (G s) (De l) (Fi l) (Se l) → yHdV nc nt (G' s) (De' l) (Fi' l) (Se' l) := fun h => by
        unfold yHdV
        rw [l1, l2, l3, gs 0 (by decide), gs 1 (by decide), gs 3 (by decide), gs 5 (by decide), gs 6 (by decide), gs 7 (by decide)]
        exact h
      rcases h1 with ⟨a1, a2, a3, a4⟩ | ⟨y, r, a1, a2, a3, a4, a5, a6, a7, a8⟩
      · exact Or.inl ⟨a1, a2, sm a3, by rw [gs 8 (by decide)]; exact a4⟩
      · have o3 := ySeg.ord f a8
        obtain ⟨r1, -, -, -, r5⟩ := hL r (by omega) (by omega)
        refine Or.inr ⟨y, r, a1, a2, hdv a3, by rw [gs 8 (by decide)]; exact a4, by rw [r1]; exact a5, by rw [r5]; exact a6, by rw [l5]; exact a7, ySeg.tr f a8 (fun t ht ht2 => hG t (by omega) (by omega)) (fun j hj hj2 => hL j (by omega) (by omega))⟩
theorem yOne.tr {f D s e l m : Nat} (h1 : yOneF nc nt G De Fi Se Th Pa (ySeg nc nt G De Fi Se Th Pa f) D s e l m) (hG : ∀ t, s ≤ t → t < e → ∀ j, j ≤ 8 → G' t j = G t j) (hL : ∀ j, l ≤ j → j < m → De' j = De j ∧ Fi' j = Fi j ∧ Se' j = Se j ∧ Th' j = Th j ∧ Pa' j = Pa j) : yOneF nc nt G' De' Fi' Se' Th' Pa' (ySeg nc nt G' De' Fi' Se' Th' Pa' f) D s e l m := by
  have h2 : ySeg nc nt G De Fi Se Th Pa (f + 1) D s e l m := Or.inr ⟨e, m, h1, by cases f with
    | zero => exact ⟨rfl, rfl⟩
    | succ f => exact Or.inl ⟨rfl, rfl⟩⟩
  have o1 := yOne.ord h1
  rcases ySeg.tr (f + 1) h2 hG hL with h | ⟨e', m', g1, g2⟩
  · omega
  · have gs := hG s (Nat.le_refl _) (by omega)
    obtain ⟨l1, l2, l3, l4, l5⟩ := hL l (Nat.le_refl _) (by omega)
    rcases h1 with ⟨a1, a2, a3, a4⟩ | ⟨y, r, a1, a2, a3, a4, a5, a6, a7, a8⟩
    · refine Or.inl ⟨a1, a2, ?_, by rw [gs 8 (by decide)]; exact a4⟩
      unfold ySmV
      rw [l1, l2, l3, l4, gs 0 (by decide), gs 1 (by decide), gs 2 (by decide), gs 3 (by decide)]
      exact a3
    · have o3 := ySeg.ord f a8
      obtain ⟨r1, -, -, -, r5⟩ := hL r (by omega) (by omega)
      refine Or.inr ⟨y, r, a1, a2, ?_, by rw [gs 8 (by decide)]; exact a4, by rw [r1]; exact a5, by rw [r5]; exact a6, by rw [l5]; exact a7, ySeg.tr f a8 (fun t ht ht2 => hG t (by omega) (by omega)) (fun j hj hj2 => hL j (by omega) (by omega))⟩
      unfold yHdV
      rw [l1, l2, l3, gs 0 (by decide), gs 1 (by decide), gs 3 (by decide), gs 5 (by decide), gs 6 (by decide), gs 7 (by decide)]
      exact a3
/-- a step, then more -/
theorem ySeg.cons {f g D s e s' l m l' : Nat} (h1 : yOneF nc nt G De Fi Se Th Pa (ySeg nc nt G De Fi Se Th Pa f) D s e l m) (h2 : ySeg nc nt G De Fi Se Th Pa g D e s' m l') : ySeg nc nt G De Fi Se Th Pa (f + g + 1) D s s' l l' := by
  refine Or.inr ⟨e, m, h1.mono (fun _ _ _ _ _ h => ySeg.up g h), ?_⟩
  rw [Nat.add_comm]
  exact ySeg.up f h2
end YR6
/-- an end more in the almanac -/
theorem e0_addEnd {T3 De Fi Se Th Pa : Nat → Int32} {l0 ln : Nat} (h2 : T3 2 = iN ln) (hl : ln < 60) (h0 : l0 < ln) : f_X0_addEnd T3 De Fi Se Th Pa (iN l0) = some (upd T3 2 (iN (ln + 1)), upd De ln 21, upd Fi ln 0, upd Se ln 0, upd Th ln 0, upd (upd (upd Pa ln (iN ln)) ln (iN l0)) l0 (iN ln)) := by
  have ha : f_X0_hasLine T3 (iN l0) = some 1 := by
    rw [f_X0_hasLine, h2, e_within_n (iN l0) (n := ln) (by omega), if_pos (by rw [inR_iN (by omega)]; exact h0)]; rfl
  have hd : ((iN (ln + 1) : Int32) - 1) = iN ln := by
    rw [show (iN (ln + 1) : Int32) = iN ln + 1 from (iN_add ln 1).symm, Int32.add_sub_cancel]
  rw [f_X0_addEnd, ha, Option.bind_some, if_neg (show ¬ (1 : Int32) = 0 by decide), f_X0_addLine, h2, if_pos (by rw [show (60 : Int32) = iN 60 from rfl, iN_lt (by omega) (by omega)]; exact hl), ck_iN (by omega) (by omega), ck_iN (by omega) (by omega), ck_iN (by omega) (by omega), ck_iN (by omega) (by omega), ck_iN (by omega) (by omega), Option.bind_some, iN_nn (by omega), show (iN ln + 1 : Int32) = iN (ln + 1) from iN_add ln 1]
  rw [if_neg (show ¬ (1 : Int32) = 0 by decide)]
  dsimp only
  rw [upd_s, hd, ck_iN (by omega) (by omega), ck_iN (by omega) (by omega), iN_nn (by omega), iN_nn (by omega)]
