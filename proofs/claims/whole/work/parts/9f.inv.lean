/-! The law: what holds between two calls. -/
def ov {α : Type} (f : Nat → α) (k : Nat) (v : α) : Nat → α := fun j => if j = k then v else f j
def sw (A B N k : Nat) : Nat := if A ≤ k ∧ k < A + N then k - A + B else if B ≤ k ∧ k < B + N then k - B + A else k
def rc (a : Nat → Nat) : Nat → Nat := fun k => match k with
  | 0 => a 38
  | 1 => a 52
  | 2 => a 66
  | 3 => a 72
  | 4 => a 86
  | 5 => a 100
  | 6 => a 46
  | 7 => a 60
  | 8 => a 80
  | 9 => a 94
  | _ => a 108
def MK (m : Nat) (c : Nat → Int32) (W : Nat → Int64) (I : Nat → Nat → Int32) (J : Nat → Nat → Int64) : Prop := (1 ≤ m → dBlk 1 c W (I 72) (I 73) (I 74) (J 75) (I 76) (I 77) (I 78) (I 79) (I 80) (I 81) (I 82) (I 83) (I 84) (I 85)) ∧ (2 ≤ m → dBlk 2 c W (I 86) (I 87) (I 88) (J 89) (I 90) (I 91) (I 92) (I 93) (I 94) (I 95) (I 96) (I 97) (I 98) (I 99)) ∧ (3 ≤ m → dBlk 3 c W (I 100) (I 101) (I 102) (J 103) (I 104) (I 105) (I 106) (I 107) (I 108) (I 109) (I 110) (I 111) (I 112) (I 113))
def INV (I : Nat → Nat → Int32) (J : Nat → Nat → Int64) : Prop := ∃ m n : Nat, m ≤ 3 ∧ n ≤ 900 ∧ I 9 2 = iN n ∧ sR (I 0) (I 114) (iN n) (I 27 2, iN m) ∧ (J 0 15 = J 114 2 ∧ J 0 16 = J 114 3) ∧ ((I 27 2 = 0 ∨ I 27 2 = 1) ∧ (I 27 2 = 1 → ∀ k, k < 5 → I 29 k = I 125 k)) ∧ (bRep n (I 10) (I 118) ∧ bOk n (I 10) ∧ cOk (J 11)) ∧ yRep (I 8) (I 7) (r4 (J 3) (J 4) (J 5) (J 6)) (I 116) (I 115) (J 117) ∧ dBlk 0 (I 119) (J 121) (I 38) (I 39) (I 40) (J 41) (I 42) (I 43) (I 44) (I 45) (I 46) (I 47) (I 48) (I 49) (I 50) (I 51) ∧ MK m (I 119) (J 121) I J
theorem MK.fr {m : Nat} {c c' : Nat → Int32} {W W' : Nat → Int64} {I : Nat → Nat → Int32} {J : Nat → Nat → Int64} (h : MK m c W I J) (hc : ∀ j, 372 ≤ j → j < 1488 → c' j = c j) (hW : ∀ j, 5 ≤ j → j < 20 → W' j = W j) : MK m c' W' I J :=
  ⟨fun q => (h.1 q).mv (fun k hk => hc _ (by omega) (by omega)) (fun k hk => hW _ (by omega) (by omega)), fun q => (h.2.1 q).mv (fun k hk => hc _ (by omega) (by omega)) (fun k hk => hW _ (by omega) (by omega)), fun q => (h.2.2 q).mv (fun k hk => hc _ (by omega) (by omega)) (fun k hk => hW _ (by omega) (by omega))⟩
section INVS
variable {I : Nat → Nat → Int32} {J : Nat → Nat → Int64}
theorem P_status (h : INV I J) : ∃ z1 z2, f_X11_status (I 0) = some z1 ∧ f_X12_status (I 114) = some z2 ∧ z1 = z2.1 ∧ INV (ov I 114 z2.2) J := by
  obtain ⟨m, n, hm, hn, e9, hs, hJ, hK, hB, hY, h0, hM⟩ := h
  obtain ⟨d, hd, hc, hk, hy⟩ := dBlk.o.mp h0
  obtain ⟨v, Um, f1, f2, s⟩ := q_status hs
  exact ⟨v, (v, Um), f1, f2, rfl, m, n, hm, hn, e9, s, hJ, hK, hB, hY, h0, hM⟩
theorem P_top (h : INV I J) : ∃ z1 z2, f_X11_top (J 0 15) = some z1 ∧ f_X12_top (I 114) (J 114 2) = some z2 ∧ z1 = z2.1 ∧ INV (ov I 114 z2.2) J := by
  obtain ⟨m, n, hm, hn, e9, hs, hJ, hK, hB, hY, h0, hM⟩ := h
  obtain ⟨d, hd, hc, hk, hy⟩ := dBlk.o.mp h0
  obtain ⟨v, Um, f1, f2, s⟩ := q_top hs hJ.1
  exact ⟨v, (v, Um), f1, f2, rfl, m, n, hm, hn, e9, s, hJ, hK, hB, hY, h0, hM⟩
theorem P_bottom (h : INV I J) : ∃ z1 z2, f_X11_bottom (J 0 16) = some z1 ∧ f_X12_bottom (I 114) (J 114 3) = some z2 ∧ z1 = z2.1 ∧ INV (ov I 114 z2.2) J := by
  obtain ⟨m, n, hm, hn, e9, hs, hJ, hK, hB, hY, h0, hM⟩ := h
  obtain ⟨d, hd, hc, hk, hy⟩ := dBlk.o.mp h0
  obtain ⟨v, Um, f1, f2, s⟩ := q_bottom hs hJ.2
  exact ⟨v, (v, Um), f1, f2, rfl, m, n, hm, hn, e9, s, hJ, hK, hB, hY, h0, hM⟩
theorem P_tray (h : INV I J) (x1 : Int32) (x2 : Int32) (x3 : Int32) : ∃ z1 z2, f_X11_tray (I 0) (I 7) (I 8) (J 3) (J 4) (J 5) (J 6) x1 x2 x3 = some z1 ∧ f_X12_tray (I 114) (I 115) (I 116) (J 117) x1 x2 x3 = some z2 ∧ z1.1 = z2.1 ∧ INV (ov (ov (ov (ov (ov (ov I 0 z1.2.1) 7 z1.2.2.1) 8 z1.2.2.2.1) 114 z2.2.1) 115 z2.2.2.1) 116 z2.2.2.2.1) (ov (ov (ov (ov (ov J 3 z1.2.2.2.2.1) 4 z1.2.2.2.2.2.1) 5 z1.2.2.2.2.2.2.1) 6 z1.2.2.2.2.2.2.2) 117 z2.2.2.2.2) := by
  obtain ⟨m, n, hm, hn, e9, hs, hJ, hK, hB, hY, h0, hM⟩ := h
  obtain ⟨d, hd, hc, hk, hy⟩ := dBlk.o.mp h0
  obtain ⟨v, U0, So, Le, R0, R1, R2, R3, Um, Sm, Ma, X, f1, f2, s, y⟩ := q_tray hY hs x1 x2 x3
  exact ⟨(v, U0, So, Le, R0, R1, R2, R3), (v, Um, Sm, Ma, X), f1, f2, rfl, m, n, hm, hn, e9, s, hJ, hK, hB, y, h0, hM⟩
theorem P_write (h : INV I J) (x1 : Int32) (x2 : Int32) (x3 : Int64) : ∃ z1 z2, f_X11_write (I 0) (I 8) (J 3) (I 7) (J 4) (J 5) (J 6) x1 x2 x3 = some z1 ∧ f_X12_write (I 114) (I 116) (J 117) (I 115) x1 x2 x3 = some z2 ∧ z1.1 = z2.1 ∧ INV (ov (ov I 0 z1.2.1) 114 z2.2.1) (ov (ov (ov (ov (ov J 3 z1.2.2.1) 4 z1.2.2.2.1) 5 z1.2.2.2.2.1) 6 z1.2.2.2.2.2) 117 z2.2.2) := by
  obtain ⟨m, n, hm, hn, e9, hs, hJ, hK, hB, hY, h0, hM⟩ := h
  obtain ⟨d, hd, hc, hk, hy⟩ := dBlk.o.mp h0
  obtain ⟨v, U0, R0, R1, R2, R3, Um, X, f1, f2, s, y⟩ := q_write hY hs x1 x2 x3
  exact ⟨(v, U0, R0, R1, R2, R3), (v, Um, X), f1, f2, rfl, m, n, hm, hn, e9, s, hJ, hK, hB, y, h0, hM⟩
theorem P_read (h : INV I J) (x1 : Int32) (x2 : Int32) : ∃ z1 z2, f_X11_read (I 0) (I 8) (J 3) (J 4) (J 5) (J 6) x1 x2 = some z1 ∧ f_X12_read (I 114) (I 116) (J 117) x1 x2 = some z2 ∧ z1.1 = z2.1 ∧ INV (ov (ov I 0 z1.2) 114 z2.2) J := by
  obtain ⟨m, n, hm, hn, e9, hs, hJ, hK, hB, hY, h0, hM⟩ := h
  obtain ⟨d, hd, hc, hk, hy⟩ := dBlk.o.mp h0
  obtain ⟨v, U0, Um, f1, f2, s⟩ := q_read hY hs x1 x2
  exact ⟨(v, U0), (v, Um), f1, f2, rfl, m, n, hm, hn, e9, s, hJ, hK, hB, hY, h0, hM⟩
theorem P_pour (h : INV I J) (x1 : Int32) (x2 : Int32) (x3 : Int32) (x4 : Int32) (x5 : Int32) : ∃ z1 z2, f_X11_pour (I 0) (I 8) (I 7) (J 3) (J 4) (J 5) (J 6) x1 x2 x3 x4 x5 = some z1 ∧ f_X12_pour (I 114) (I 116) (I 115) (J 117) x1 x2 x3 x4 x5 = some z2 ∧ z1.1 = z2.1 ∧ INV (ov (ov I 0 z1.2.1) 114 z2.2.1) (ov (ov (ov (ov (ov J 3 z1.2.2.1) 4 z1.2.2.2.1) 5 z1.2.2.2.2.1) 6 z1.2.2.2.2.2) 117 z2.2.2) := by
  obtain ⟨m, n, hm, hn, e9, hs, hJ, hK, hB, hY, h0, hM⟩ := h
  obtain ⟨d, hd, hc, hk, hy⟩ := dBlk.o.mp h0
  obtain ⟨v, U0, R0, R1, R2, R3, Um, X, f1, f2, s, y⟩ := q_pour hY hs x1 x2 x3 x4 x5
  exact ⟨(v, U0, R0, R1, R2, R3), (v, Um, X), f1, f2, rfl, m, n, hm, hn, e9, s, hJ, hK, hB, y, h0, hM⟩
theorem P_feed (h : INV I J) (x1 : Int32) (x2 : Int32) (x3 : Int32) (x4 : Int32) (x5 : Int32) : ∃ z1 z2, f_X11_feed (I 9) (I 10) x1 x2 x3 x4 x5 = some z1 ∧ f_X12_feed (I 114) (I 118) x1 x2 x3 x4 x5 = some z2 ∧ z1.1 = z2.1 ∧ INV (ov (ov (ov (ov I 9 z1.2.1) 10 z1.2.2) 114 z2.2.1) 118 z2.2.2) J := by
  obtain ⟨m, n, hm, hn, e9, hs, hJ, hK, hB, hY, h0, hM⟩ := h
  have hs9 : sR (I 0) (I 114) (I 9 2) (I 27 2, iN m) := by rw [e9]; exact hs
  obtain ⟨v, T8, V, Um, Vm, n', f1, f2, t1, t2, t3, t4, s⟩ := q_feed e9 hn hB.1 hB.2.1 hs9 x1 x2 x3 x4 x5
  have s' : sR (I 0) Um (iN n') (I 27 2, iN m) := by rw [← t1]; exact s
  exact ⟨(v, T8, V), (v, Um, Vm), f1, f2, rfl, m, n', hm, t2, t1, s', hJ, hK, ⟨t3, t4, hB.2.2⟩, hY, h0, hM⟩
theorem P_duchy (a : Nat → Nat) (h : INV I J) (x1 : Int32) : ∃ z1 z2, f_X11_duchy (I 0) (rc a 0) (rc a 1) (I 9) (J 9 8) (I 12) (I 52) (I 60) (I 10) (J 11) (I 53) (J 55) (I 54) (I 57) (I 56) (I 58) (I 59) x1 = some z1 ∧ f_X12_duchy (I 114) (J 114 19) (I 118) (I 119) (J 121) x1 = some z2 ∧ z1.1 = z2.1 ∧ ((z1.2.2.1 = rc a 0 ∧ z1.2.2.2.1 = rc a 1 ∧ INV (ov (ov (ov (ov (ov (ov (ov (ov (ov (ov (ov (ov (ov I 0 z1.2.1) 9 z1.2.2.2.2.1) 12 z1.2.2.2.2.2.2.1) 52 z1.2.2.2.2.2.2.2.1) 60 z1.2.2.2.2.2.2.2.2.1) 53 z1.2.2.2.2.2.2.2.2.2.1) 54 z1.2.2.2.2.2.2.2.2.2.2.2.1) 57 z1.2.2.2.2.2.2.2.2.2.2.2.2.1) 56 z1.2.2.2.2.2.2.2.2.2.2.2.2.2.1) 58 z1.2.2.2.2.2.2.2.2.2.2.2.2.2.2.1) 59 z1.2.2.2.2.2.2.2.2.2.2.2.2.2.2.2) 114 z2.2.1) 119 z2.2.2.2.1) (ov (ov (ov (ov J 55 z1.2.2.2.2.2.2.2.2.2.2.1) 9 (ov (J 9) 8 z1.2.2.2.2.2.1)) 121 z2.2.2.2.2) 114 (ov (J 114) 19 z2.2.2.1))) ∨ (z1.2.2.1 = rc a 1 ∧ z1.2.2.2.1 = rc a 0 ∧ INV (fun k => (ov (ov (ov (ov (ov (ov (ov (ov (ov (ov (ov (ov (ov I 0 z1.2.1) 9 z1.2.2.2.2.1) 12 z1.2.2.2.2.2.2.1) 52 z1.2.2.2.2.2.2.2.1) 60 z1.2.2.2.2.2.2.2.2.1) 53 z1.2.2.2.2.2.2.2.2.2.1) 54 z1.2.2.2.2.2.2.2.2.2.2.2.1) 57 z1.2.2.2.2.2.2.2.2.2.2.2.2.1) 56 z1.2.2.2.2.2.2.2.2.2.2.2.2.2.1) 58 z1.2.2.2.2.2.2.2.2.2.2.2.2.2.2.1) 59 z1.2.2.2.2.2.2.2.2.2.2.2.2.2.2.2) 114 z2.2.1) 119 z2.2.2.2.1) (sw 38 52 14 k)) (fun k => (ov (ov (ov (ov J 55 z1.2.2.2.2.2.2.2.2.2.2.1) 9 (ov (J 9) 8 z1.2.2.2.2.2.1)) 121 z2.2.2.2.2) 114 (ov (J 114) 19 z2.2.2.1)) (sw 38 52 14 k)))) := by
  obtain ⟨m, n, hm, hn, e9, hs, hJ, hK, hB, hY, h0, hM⟩ := h
  have hs9 : sR (I 0) (I 114) (I 9 2) (I 27 2, iN m) := by rw [e9]; exact hs
  rcases q_duchy (Jm := J 114 19) (J := J 9 8) (Rr := I 12) (Td := I 52) (Ta := I 60) (S := I 53) (Na := J 55) (Li := I 54) (Of := I 57) (By := I 56) (Fe := I 58) (Mi := I 59) (c := I 119) (W := J 121) hB.2.2 e9 hn hB.1 hB.2.1 hs9 (rc a 0) (rc a 1) x1 with ⟨U0, Um, f1, f2, s⟩ | ⟨U0, T8, J8, R9, Td, Ta, S9, N9, L9, O9, B9, F9, M9, Um, J9, c, W, f1, f2, t8, s, g1, g2⟩ | ⟨v, U0, T8, J8, R9, Td, Ta, S9, N9, L9, O9, B9, F9, M9, Um, J9, c, W, d9, f1, f2, t8, s, p1, p2, p3, p4, p5, p6, g1, g2⟩
  · rw [e9] at s
    exact ⟨_, _, f1, f2, rfl, Or.inl ⟨rfl, rfl, m, n, hm, hn, e9, s, hJ, hK, hB, hY, h0, hM⟩⟩
  · rw [t8] at s
    exact ⟨_, _, f1, f2, rfl, Or.inl ⟨rfl, rfl, m, 0, hm, by decide, t8, s, hJ, hK, ⟨fun k hk => absurd hk (Nat.not_lt_zero k), fun k hk => absurd hk (Nat.not_lt_zero k), hB.2.2⟩, hY, h0.mv (fun k hk => g1 _ (by omega)) (fun k hk => g2 _ (by omega)), hM.fr (fun j _ q => g1 j (by omega)) (fun j _ q => g2 j q)⟩⟩
  · rw [t8] at s
    exact ⟨_, _, f1, f2, rfl, Or.inr ⟨rfl, rfl, m, 0, hm, by decide, t8, s, hJ, hK, ⟨fun k hk => absurd hk (Nat.not_lt_zero k), fun k hk => absurd hk (Nat.not_lt_zero k), hB.2.2⟩, hY, dBlk.o.mpr ⟨d9, p1, p2, p3, Or.inl ⟨p6, p4, p5⟩⟩, hM.fr (fun j q r => g1 j q r) (fun j q r => g2 j q r)⟩⟩
theorem P_years (a : Nat → Nat) (h : INV I J) (x1 : Int32) : ∃ z1 z2, f_X11_years (I 0) (rc a 2) (I 9) (J 9 8) (I 13) (I 38) (rc a 6) (I 66) (I 10) (J 11) (J 41) (I 67) (I 68) (I 69) (I 70) (I 71) (I 14) x1 = some z1 ∧ f_X12_years (I 114) (J 114 19) (I 118) (I 119) (J 121) x1 = some z2 ∧ z1.1 = z2.1 ∧ ((z1.2.2.1 = rc a 2 ∧ z1.2.2.2.2.2.2.1 = rc a 6 ∧ INV (ov (ov (ov (ov (ov (ov (ov (ov (ov (ov (ov (ov I 0 z1.2.1) 9 z1.2.2.2.1) 13 z1.2.2.2.2.2.1) 66 z1.2.2.2.2.2.2.2.1) 67 z1.2.2.2.2.2.2.2.2.1) 68 z1.2.2.2.2.2.2.2.2.2.1) 69 z1.2.2.2.2.2.2.2.2.2.2.1) 70 z1.2.2.2.2.2.2.2.2.2.2.2.1) 71 z1.2.2.2.2.2.2.2.2.2.2.2.2.1) 14 z1.2.2.2.2.2.2.2.2.2.2.2.2.2) 114 z2.2.1) 119 z2.2.2.2) (ov (ov J 9 (ov (J 9) 8 z1.2.2.2.2.1)) 114 (ov (J 114) 19 z2.2.2.1))) ∨ (z1.2.2.1 = rc a 6 ∧ z1.2.2.2.2.2.2.1 = rc a 2 ∧ INV (fun k => (ov (ov (ov (ov (ov (ov (ov (ov (ov (ov (ov (ov I 0 z1.2.1) 9 z1.2.2.2.1) 13 z1.2.2.2.2.2.1) 66 z1.2.2.2.2.2.2.2.1) 67 z1.2.2.2.2.2.2.2.2.1) 68 z1.2.2.2.2.2.2.2.2.2.1) 69 z1.2.2.2.2.2.2.2.2.2.2.1) 70 z1.2.2.2.2.2.2.2.2.2.2.2.1) 71 z1.2.2.2.2.2.2.2.2.2.2.2.2.1) 14 z1.2.2.2.2.2.2.2.2.2.2.2.2.2) 114 z2.2.1) 119 z2.2.2.2) (sw 46 66 6 k)) (fun k => (ov (ov J 9 (ov (J 9) 8 z1.2.2.2.2.1)) 114 (ov (J 114) 19 z2.2.2.1)) (sw 46 66 6 k)))) := by
  obtain ⟨m, n, hm, hn, e9, hs, hJ, hK, hB, hY, h0, hM⟩ := h
  obtain ⟨d, hd, hc, hk, hy⟩ := dBlk.o.mp h0
  have hs9 : sR (I 0) (I 114) (I 9 2) (I 27 2, iN m) := by rw [e9]; exact hs
  rcases q_years (Jm := J 114 19) (J := J 9 8) (Rr := I 13) (Ta := I 66) (De := I 67) (Fi := I 68) (Se := I 69) (Th := I 70) (Pa := I 71) (Op := I 14) hB.2.2 e9 hn hB.1 hB.2.1 hs9 hd hk.1 hk.2.2.2.1 hc (rc a 2) (rc a 6) x1 with ⟨U0, Um, f1, f2, s⟩ | ⟨U0, T8, J8, R9, Ta, De, Fi, Se, Th, Pa, Op, Um, J9, c, f1, f2, t8, s, g1⟩ | ⟨v, U0, T8, J8, R9, Ta, De, Fi, Se, Th, Pa, Op, Um, J9, c, f1, f2, t8, s, g1, g2⟩
  · rw [e9] at s
    exact ⟨_, _, f1, f2, rfl, Or.inl ⟨rfl, rfl, m, n, hm, hn, e9, s, hJ, hK, hB, hY, h0, hM⟩⟩
  · rw [t8] at s
    exact ⟨_, _, f1, f2, rfl, Or.inl ⟨rfl, rfl, m, 0, hm, by decide, t8, s, hJ, hK, ⟨fun k hk => absurd hk (Nat.not_lt_zero k), fun k hk => absurd hk (Nat.not_lt_zero k), hB.2.2⟩, hY, h0.mv (fun k hk => g1 _ (by omega)) (fun _ _ => rfl), hM.fr (fun j _ q => g1 j (by omega)) (fun _ _ _ => rfl)⟩⟩
  · rw [t8] at s
    exact ⟨_, _, f1, f2, rfl, Or.inr ⟨rfl, rfl, m, 0, hm, by decide, t8, s, hJ, hK, ⟨fun k hk => absurd hk (Nat.not_lt_zero k), fun k hk => absurd hk (Nat.not_lt_zero k), hB.2.2⟩, hY, dBlk.o.mpr ⟨d, hd, fun k hk => (g1 k (by omega) (by omega)).trans (hc k hk), hk, g2⟩, hM.fr (fun j q r => g1 j (by omega) (by omega)) (fun _ _ _ => rfl)⟩⟩
theorem P_fault (h : INV I J) (x1 : Int32) : ∃ z1 z2, f_X11_fault (I 0) x1 = some z1 ∧ f_X12_fault (I 114) x1 = some z2 ∧ z1 = z2.1 ∧ INV (ov I 114 z2.2) J := by
  obtain ⟨m, n, hm, hn, e9, hs, hJ, hK, hB, hY, h0, hM⟩ := h
  obtain ⟨d, hd, hc, hk, hy⟩ := dBlk.o.mp h0
  obtain ⟨v, Um, f1, f2, s⟩ := q_fault hs x1
  exact ⟨v, (v, Um), f1, f2, rfl, m, n, hm, hn, e9, s, hJ, hK, hB, hY, h0, hM⟩
theorem P_many (h : INV I J) (x1 : Int32) : ∃ z1 z2, f_X11_many (I 0) (I 38) (I 16) (I 43) (I 44) (I 42) (I 39) x1 = some z1 ∧ f_X12_many (I 114) (I 119) x1 = some z2 ∧ z1.1 = z2.1 ∧ INV (ov (ov (ov I 0 z1.2.1) 16 z1.2.2) 114 z2.2) J := by
  obtain ⟨m, n, hm, hn, e9, hs, hJ, hK, hB, hY, h0, hM⟩ := h
  obtain ⟨d, hd, hc, hk, hy⟩ := dBlk.o.mp h0
  obtain ⟨v, U0, W, Um, f1, f2, s⟩ := q_many (V3 := I 16) hd hc hk.1 hk.2.2.2.2.2.1 hk.2.2.2.2.2.2.1 hk.2.2.2.2.1 hk.2.1 hs x1
  exact ⟨(v, U0, W), (v, Um), f1, f2, rfl, m, n, hm, hn, e9, s, hJ, hK, hB, hY, h0, hM⟩
theorem P_cell (h : INV I J) (x1 : Int32) (x2 : Int32) : ∃ z1 z2, f_X11_cell (I 0) (I 38) (I 16) (I 43) (I 44) (I 42) (I 39) (I 45) x1 x2 = some z1 ∧ f_X12_cell (I 114) (I 119) x1 x2 = some z2 ∧ z1.1 = z2.1 ∧ INV (ov (ov (ov I 0 z1.2.1) 16 z1.2.2) 114 z2.2) J := by
  obtain ⟨m, n, hm, hn, e9, hs, hJ, hK, hB, hY, h0, hM⟩ := h
  obtain ⟨d, hd, hc, hk, hy⟩ := dBlk.o.mp h0
  obtain ⟨v, U0, W, Um, f1, f2, s⟩ := q_cell (V3 := I 16) hd hc hk.1 hk.2.2.2.2.2.1 hk.2.2.2.2.2.2.1 hk.2.2.2.2.1 hk.2.1 hk.2.2.2.2.2.2.2 hs x1 x2
  exact ⟨(v, U0, W), (v, Um), f1, f2, rfl, m, n, hm, hn, e9, s, hJ, hK, hB, hY, h0, hM⟩
theorem P_votes (h : INV I J) (x1 : Int32) (x2 : Int32) : ∃ z1 z2, f_X11_votes (I 0) (I 38) (I 16) (I 43) (I 44) (I 42) x1 x2 = some z1 ∧ f_X12_votes (I 114) (I 119) x1 x2 = some z2 ∧ z1.1 = z2.1 ∧ INV (ov (ov (ov I 0 z1.2.1) 16 z1.2.2) 114 z2.2) J := by
  obtain ⟨m, n, hm, hn, e9, hs, hJ, hK, hB, hY, h0, hM⟩ := h
  obtain ⟨d, hd, hc, hk, hy⟩ := dBlk.o.mp h0
  obtain ⟨v, U0, W, Um, f1, f2, s⟩ := q_votes (V3 := I 16) hd hc hk.1 hk.2.2.2.2.2.1 hk.2.2.2.2.2.2.1 hk.2.2.2.2.1 hs x1 x2
  exact ⟨(v, U0, W), (v, Um), f1, f2, rfl, m, n, hm, hn, e9, s, hJ, hK, hB, hY, h0, hM⟩
theorem P_traveller (h : INV I J) (x1 : Int32) (x2 : Int32) : ∃ z1 z2, f_X11_traveller (I 0) (I 38) (I 40) (I 42) (I 44) (I 43) (I 39) x1 x2 = some z1 ∧ f_X12_traveller (I 114) (I 119) x1 x2 = some z2 ∧ z1.1 = z2.1 ∧ INV (ov (ov I 0 z1.2) 114 z2.2) J := by
  obtain ⟨m, n, hm, hn, e9, hs, hJ, hK, hB, hY, h0, hM⟩ := h
  obtain ⟨d, hd, hc, hk, hy⟩ := dBlk.o.mp h0
  obtain ⟨v, U0, Um, f1, f2, s⟩ := q_traveller hd hc hk.1 hk.2.2.1 hk.2.2.2.2.1 hk.2.2.2.2.2.2.1 hk.2.2.2.2.2.1 hk.2.1 hs x1 x2
  exact ⟨(v, U0), (v, Um), f1, f2, rfl, m, n, hm, hn, e9, s, hJ, hK, hB, hY, h0, hM⟩
theorem P_telling (h : INV I J) (x1 : Int32) (x2 : Int32) : ∃ z1 z2, f_X11_telling (I 0) (I 38) (I 42) (I 43) (I 44) (I 45) x1 x2 = some z1 ∧ f_X12_telling (I 114) (I 119) x1 x2 = some z2 ∧ z1.1 = z2.1 ∧ INV (ov (ov I 0 z1.2) 114 z2.2) J := by
  obtain ⟨m, n, hm, hn, e9, hs, hJ, hK, hB, hY, h0, hM⟩ := h
  obtain ⟨d, hd, hc, hk, hy⟩ := dBlk.o.mp h0
  obtain ⟨v, U0, Um, f1, f2, s⟩ := q_telling hd hc hk.1 hk.2.2.2.2.1 hk.2.2.2.2.2.1 hk.2.2.2.2.2.2.1 hk.2.2.2.2.2.2.2 hs x1 x2
  exact ⟨(v, U0), (v, Um), f1, f2, rfl, m, n, hm, hn, e9, s, hJ, hK, hB, hY, h0, hM⟩
theorem P_copyChart (h : INV I J) (x1 : Int32) : ∃ z1 z2, f_X11_copyChart (I 0) (I 8) (I 38) (I 16) (I 43) (I 44) (I 42) (J 3) (I 7) (J 4) (J 5) (J 6) x1 = some z1 ∧ f_X12_copyChart (I 114) (I 116) (I 119) (J 117) (I 115) x1 = some z2 ∧ z1.1 = z2.1 ∧ INV (ov (ov (ov I 0 z1.2.1) 16 z1.2.2.1) 114 z2.2.1) (ov (ov (ov (ov (ov J 3 z1.2.2.2.1) 4 z1.2.2.2.2.1) 5 z1.2.2.2.2.2.1) 6 z1.2.2.2.2.2.2) 117 z2.2.2) := by
  obtain ⟨m, n, hm, hn, e9, hs, hJ, hK, hB, hY, h0, hM⟩ := h
  obtain ⟨d, hd, hc, hk, hy⟩ := dBlk.o.mp h0
  obtain ⟨v, U0, W, R0, R1, R2, R3, Um, X, f1, f2, s, y⟩ := q_copyChart hd hc hk hY hs x1 (I 16)
  exact ⟨(v, U0, W, R0, R1, R2, R3), (v, Um, X), f1, f2, rfl, m, n, hm, hn, e9, s, hJ, hK, hB, y, h0, hM⟩
theorem P_hear (h : INV I J) (x1 : Int32) : ∃ z1 z2, f_X11_hear (I 0) (I 38) (I 16) (I 43) (I 44) (I 42) x1 = some z1 ∧ f_X12_hear (I 114) (I 119) x1 = some z2 ∧ z1.1 = z2.1 ∧ INV (ov (ov (ov (ov (ov I 0 z1.2.1) 38 z1.2.2.1) 16 z1.2.2.2) 114 z2.2.1) 119 z2.2.2) J := by
  obtain ⟨m, n, hm, hn, e9, hs, hJ, hK, hB, hY, h0, hM⟩ := h
  obtain ⟨d, hd, hc, hk, hy⟩ := dBlk.o.mp h0
  obtain ⟨v, U0, T, W, Um, c, d9, f1, f2, s, g1, g2, g3, g4, g5⟩ := q_hear hd hc hk hs x1 (I 16)
  exact ⟨(v, U0, T, W), (v, Um, c), f1, f2, rfl, m, n, hm, hn, e9, s, hJ, hK, hB, hY, dBlk.o.mpr ⟨d9, g1, g2, g3, hy.le g5 g4⟩, hM.fr (fun j _ _ => g4 j (by omega)) (fun _ _ _ => rfl)⟩
theorem P_forget (h : INV I J) (x1 : Int32) : ∃ z1 z2, f_X11_forget (I 0) (I 38) (I 16) (I 43) (I 44) (I 42) x1 = some z1 ∧ f_X12_forget (I 114) (I 119) x1 = some z2 ∧ z1.1 = z2.1 ∧ INV (ov (ov (ov (ov (ov I 0 z1.2.1) 38 z1.2.2.1) 16 z1.2.2.2) 114 z2.2.1) 119 z2.2.2) J := by
  obtain ⟨m, n, hm, hn, e9, hs, hJ, hK, hB, hY, h0, hM⟩ := h
  obtain ⟨d, hd, hc, hk, hy⟩ := dBlk.o.mp h0
  obtain ⟨v, U0, T, W, Um, c, d9, f1, f2, s, g1, g2, g3, g4, g5⟩ := q_forget hd hc hk hs x1 (I 16)
  exact ⟨(v, U0, T, W), (v, Um, c), f1, f2, rfl, m, n, hm, hn, e9, s, hJ, hK, hB, hY, dBlk.o.mpr ⟨d9, g1, g2, g3, hy.le g5 g4⟩, hM.fr (fun j _ _ => g4 j (by omega)) (fun _ _ _ => rfl)⟩
theorem P_tell (h : INV I J) (x1 : Int32) (x2 : Int32) (x3 : Int32) (x4 : Int32) : ∃ z1 z2, f_X11_tell (I 0) (I 38) (I 43) (I 42) (I 44) (I 45) x1 x2 x3 x4 = some z1 ∧ f_X12_tell (I 114) (I 119) x1 x2 x3 x4 = some z2 ∧ z1.1 = z2.1 ∧ INV (ov (ov (ov (ov (ov (ov (ov (ov I 0 z1.2.1) 38 z1.2.2.1) 43 z1.2.2.2.1) 42 z1.2.2.2.2.1) 44 z1.2.2.2.2.2.1) 45 z1.2.2.2.2.2.2) 114 z2.2.1) 119 z2.2.2) J := by
  obtain ⟨m, n, hm, hn, e9, hs, hJ, hK, hB, hY, h0, hM⟩ := h
  obtain ⟨d, hd, hc, hk, hy⟩ := dBlk.o.mp h0
  obtain ⟨v, U0, T, O9, B9, F9, M9, Um, c, d9, f1, f2, s, g1, g2, g3, g4, g5⟩ := q_tell hd hc hk hs x1 x2 x3 x4
  exact ⟨(v, U0, T, O9, B9, F9, M9), (v, Um, c), f1, f2, rfl, m, n, hm, hn, e9, s, hJ, hK, hB, hY, dBlk.o.mpr ⟨d9, g1, g2, g3, hy.le g5 g4⟩, hM.fr (fun j _ _ => g4 j (by omega)) (fun _ _ _ => rfl)⟩
theorem P_come (h : INV I J) (x1 : Int32) : ∃ z1 z2, f_X11_come (I 0) (I 38) (J 41) (I 40) x1 = some z1 ∧ f_X12_come (I 114) (I 119) (J 121) x1 = some z2 ∧ z1.1 = z2.1 ∧ INV (ov (ov (ov (ov (ov I 0 z1.2.1) 38 z1.2.2.1) 40 z1.2.2.2.2) 114 z2.2.1) 119 z2.2.2.1) (ov (ov J 41 z1.2.2.2.1) 121 z2.2.2.2) := by
  obtain ⟨m, n, hm, hn, e9, hs, hJ, hK, hB, hY, h0, hM⟩ := h
  obtain ⟨d, hd, hc, hk, hy⟩ := dBlk.o.mp h0
  obtain ⟨v, U0, T, N9, L9, Um, c, w9, d9, f1, f2, s, g1, g2, g3, g4, gw, g5⟩ := q_come hd hc hk hs x1
  exact ⟨(v, U0, T, N9, L9), (v, Um, c, w9), f1, f2, rfl, m, n, hm, hn, e9, s, hJ, hK, hB, hY, dBlk.o.mpr ⟨d9, g1, g2, g3, hy.le g5 g4⟩, hM.fr (fun j _ _ => g4 j (by omega)) (fun j h5 _ => gw j h5)⟩
theorem P_change (h : INV I J) (x1 : Int32) (x2 : Int32) : ∃ z1 z2, f_X11_change (I 0) (I 38) (I 39) x1 x2 = some z1 ∧ f_X12_change (I 114) (I 119) x1 x2 = some z2 ∧ z1.1 = z2.1 ∧ INV (ov (ov (ov (ov I 0 z1.2.1) 39 z1.2.2) 114 z2.2.1) 119 z2.2.2) J := by
  obtain ⟨m, n, hm, hn, e9, hs, hJ, hK, hB, hY, h0, hM⟩ := h
  obtain ⟨d, hd, hc, hk, hy⟩ := dBlk.o.mp h0
  obtain ⟨v, U0, S9, Um, c, d9, f1, f2, s, g1, g2, g3, g4, g5⟩ := q_change hd hc hk hs x1 x2
  exact ⟨(v, U0, S9), (v, Um, c), f1, f2, rfl, m, n, hm, hn, e9, s, hJ, hK, hB, hY, dBlk.o.mpr ⟨d9, g1, g2, g3, hy.le g5 g4⟩, hM.fr (fun j _ _ => g4 j (by omega)) (fun _ _ _ => rfl)⟩
theorem P_trust (h : INV I J) (x1 : Int32) (x2 : Int32) : ∃ z1 z2, f_X11_trust (I 0) (I 38) (I 40) x1 x2 = some z1 ∧ f_X12_trust (I 114) (I 119) x1 x2 = some z2 ∧ z1.1 = z2.1 ∧ INV (ov (ov (ov (ov I 0 z1.2.1) 40 z1.2.2) 114 z2.2.1) 119 z2.2.2) J := by
  obtain ⟨m, n, hm, hn, e9, hs, hJ, hK, hB, hY, h0, hM⟩ := h
  obtain ⟨d, hd, hc, hk, hy⟩ := dBlk.o.mp h0
  obtain ⟨v, U0, L9, Um, c, d9, f1, f2, s, g1, g2, g3, g4, g5⟩ := q_trust hd hc hk hs x1 x2
  exact ⟨(v, U0, L9), (v, Um, c), f1, f2, rfl, m, n, hm, hn, e9, s, hJ, hK, hB, hY, dBlk.o.mpr ⟨d9, g1, g2, g3, hy.le g5 g4⟩, hM.fr (fun j _ _ => g4 j (by omega)) (fun _ _ _ => rfl)⟩
theorem P_moor (h : INV I J) (x1 : Int32) : ∃ z1 z2, f_X11_moor (I 0) (I 38) x1 = some z1 ∧ f_X12_moor (I 114) (I 119) x1 = some z2 ∧ z1.1 = z2.1 ∧ INV (ov (ov (ov (ov I 0 z1.2.1) 38 z1.2.2) 114 z2.2.1) 119 z2.2.2) J := by
  obtain ⟨m, n, hm, hn, e9, hs, hJ, hK, hB, hY, h0, hM⟩ := h
  obtain ⟨d, hd, hc, hk, hy⟩ := dBlk.o.mp h0
  obtain ⟨v, U0, T, Um, c, d9, f1, f2, s, g1, g2, g3, g4, g5⟩ := q_moor hd hc hk hs x1
  exact ⟨(v, U0, T), (v, Um, c), f1, f2, rfl, m, n, hm, hn, e9, s, hJ, hK, hB, hY, dBlk.o.mpr ⟨d9, g1, g2, g3, hy.le g5 g4⟩, hM.fr (fun j _ _ => g4 j (by omega)) (fun _ _ _ => rfl)⟩
theorem P_rule (h : INV I J) (x1 : Int32) : ∃ z1 z2, f_X11_rule (I 0) (I 38) x1 = some z1 ∧ f_X12_rule (I 114) (I 119) x1 = some z2 ∧ z1.1 = z2.1 ∧ INV (ov (ov (ov (ov I 0 z1.2.1) 38 z1.2.2) 114 z2.2.1) 119 z2.2.2) J := by
  obtain ⟨m, n, hm, hn, e9, hs, hJ, hK, hB, hY, h0, hM⟩ := h
  obtain ⟨d, hd, hc, hk, hy⟩ := dBlk.o.mp h0
  obtain ⟨v, U0, T, Um, c, d9, f1, f2, s, g1, g2, g3, g4, g5⟩ := q_rule hd hc hk hs x1
  exact ⟨(v, U0, T), (v, Um, c), f1, f2, rfl, m, n, hm, hn, e9, s, hJ, hK, hB, hY, dBlk.o.mpr ⟨d9, g1, g2, g3, hy.le g5 g4⟩, hM.fr (fun j _ _ => g4 j (by omega)) (fun _ _ _ => rfl)⟩
theorem P_oddsThat (h : INV I J) (x1 : Int32) (x2 : Int32) : ∃ z1 z2, f_X11_oddsThat (I 0) (J 0 15) (J 0 16) (I 38) (J 22) (I 42) (I 43) (I 40) (I 44) x1 x2 = some z1 ∧ f_X12_oddsThat (I 114) (J 114 2) (J 114 3) (I 119) x1 x2 = some z2 ∧ z1.1 = z2.1 ∧ INV (ov (ov I 0 z1.2.1) 114 z2.2.1) (ov (ov (ov J 22 z1.2.2.2.2) 0 (ov (ov (J 0) 15 z1.2.2.1) 16 z1.2.2.2.1)) 114 (ov (ov (J 114) 2 z2.2.2.1) 3 z2.2.2.2)) := by
  obtain ⟨m, n, hm, hn, e9, hs, hJ, hK, hB, hY, h0, hM⟩ := h
  obtain ⟨d, hd, hc, hk, hy⟩ := dBlk.o.mp h0
  obtain ⟨v, U0, p, q, W, Um, f1, f2, s⟩ := q_oddsThat hd hc hk hs hJ x1 x2 (J 22)
  exact ⟨(v, U0, p, q, W), (v, Um, p, q), f1, f2, rfl, m, n, hm, hn, e9, s, ⟨rfl, rfl⟩, hK, hB, hY, h0, hM⟩
theorem P_likeliest (h : INV I J) (x1 : Int32) : ∃ z1 z2, f_X11_likeliest (I 0) (I 38) (J 22) (I 42) (I 43) (I 40) (I 44) x1 = some z1 ∧ f_X12_likeliest (I 114) (I 119) x1 = some z2 ∧ z1.1 = z2.1 ∧ INV (ov (ov I 0 z1.2.1) 114 z2.2) (ov J 22 z1.2.2) := by
  obtain ⟨m, n, hm, hn, e9, hs, hJ, hK, hB, hY, h0, hM⟩ := h
  obtain ⟨d, hd, hc, hk, hy⟩ := dBlk.o.mp h0
  obtain ⟨v, U0, W, Um, f1, f2, s⟩ := q_likeliest hd hc hk hs x1 (J 22)
  exact ⟨(v, U0, W), (v, Um), f1, f2, rfl, m, n, hm, hn, e9, s, hJ, hK, hB, hY, h0, hM⟩
theorem P_ask (h : INV I J) : ∃ z1 z2, f_X11_ask (I 0) (I 38) (J 22) (I 42) (I 43) (I 40) (I 44) = some z1 ∧ f_X12_ask (I 114) (I 119) = some z2 ∧ z1.1 = z2.1 ∧ INV (ov (ov I 0 z1.2.1) 114 z2.2) (ov J 22 z1.2.2) := by
  obtain ⟨m, n, hm, hn, e9, hs, hJ, hK, hB, hY, h0, hM⟩ := h
  obtain ⟨d, hd, hc, hk, hy⟩ := dBlk.o.mp h0
  obtain ⟨v, U0, W, Um, f1, f2, s⟩ := q_ask hd hc hk hs (J 22)
  exact ⟨(v, U0, W), (v, Um), f1, f2, rfl, m, n, hm, hn, e9, s, hJ, hK, hB, hY, h0, hM⟩
theorem P_liars (h : INV I J) : ∃ z1 z2, f_X11_liars (I 0) (I 38) (I 43) (I 44) (I 42) = some z1 ∧ f_X12_liars (I 114) (I 119) = some z2 ∧ z1.1 = z2.1 ∧ INV (ov (ov I 0 z1.2) 114 z2.2) J := by
  obtain ⟨m, n, hm, hn, e9, hs, hJ, hK, hB, hY, h0, hM⟩ := h
  obtain ⟨d, hd, hc, hk, hy⟩ := dBlk.o.mp h0
  obtain ⟨v, U0, Um, f1, f2, s⟩ := q_liars hd hc hk hs
  exact ⟨(v, U0), (v, Um), f1, f2, rfl, m, n, hm, hn, e9, s, hJ, hK, hB, hY, h0, hM⟩
theorem P_liarSet (h : INV I J) : ∃ z1 z2, f_X11_liarSet (I 0) (I 38) (I 43) (I 44) (I 42) = some z1 ∧ f_X12_liarSet (I 114) (I 119) = some z2 ∧ z1.1 = z2.1 ∧ INV (ov (ov I 0 z1.2) 114 z2.2) J := by
  obtain ⟨m, n, hm, hn, e9, hs, hJ, hK, hB, hY, h0, hM⟩ := h
  obtain ⟨d, hd, hc, hk, hy⟩ := dBlk.o.mp h0
  obtain ⟨v, U0, Um, f1, f2, s⟩ := q_liarSet hd hc hk hs
  exact ⟨(v, U0), (v, Um), f1, f2, rfl, m, n, hm, hn, e9, s, hJ, hK, hB, hY, h0, hM⟩
theorem P_clashes (h : INV I J) : ∃ z1 z2, f_X11_clashes (I 0) (I 38) (I 43) (I 44) (I 42) = some z1 ∧ f_X12_clashes (I 114) (I 119) = some z2 ∧ z1.1 = z2.1 ∧ INV (ov (ov I 0 z1.2) 114 z2.2) J := by
  obtain ⟨m, n, hm, hn, e9, hs, hJ, hK, hB, hY, h0, hM⟩ := h
  obtain ⟨d, hd, hc, hk, hy⟩ := dBlk.o.mp h0
  obtain ⟨v, U0, Um, f1, f2, s⟩ := q_clashes hd hc hk hs
  exact ⟨(v, U0), (v, Um), f1, f2, rfl, m, n, hm, hn, e9, s, hJ, hK, hB, hY, h0, hM⟩
theorem P_way (h : INV I J) (x1 : Int32) : ∃ z1 z2, f_X11_way (I 0) (I 38) (I 16) (I 43) (I 44) (I 42) (I 17) (I 20) (I 19) (I 18) x1 = some z1 ∧ f_X12_way (I 114) (I 119) (I 123) (I 122) x1 = some z2 ∧ z1.1 = z2.1 ∧ INV (ov (ov (ov (ov (ov (ov (ov (ov (ov I 0 z1.2.1) 16 z1.2.2.1) 17 z1.2.2.2.1) 20 z1.2.2.2.2.1) 19 z1.2.2.2.2.2.1) 18 z1.2.2.2.2.2.2) 114 z2.2.1) 123 z2.2.2.1) 122 z2.2.2.2) J := by
  obtain ⟨m, n, hm, hn, e9, hs, hJ, hK, hB, hY, h0, hM⟩ := h
  obtain ⟨d, hd, hc, hk, hy⟩ := dBlk.o.mp h0
  obtain ⟨v, U0, W, T7, V8, V9, V10, Um, B2, B3, f1, f2, s⟩ := q_way hd hc hk hs x1 (I 16) (I 17) (I 20) (I 19) (I 18) (I 123) (I 122)
  exact ⟨(v, U0, W, T7, V8, V9, V10), (v, Um, B2, B3), f1, f2, rfl, m, n, hm, hn, e9, s, hJ, hK, hB, hY, h0, hM⟩
theorem P_wayLong (h : INV I J) (x1 : Int32) : ∃ z1 z2, f_X11_wayLong (I 0) (I 38) (I 16) (I 43) (I 44) (I 42) (I 17) (I 20) (I 19) (I 18) x1 = some z1 ∧ f_X12_wayLong (I 114) (I 119) (I 123) (I 122) x1 = some z2 ∧ z1.1 = z2.1 ∧ INV (ov (ov (ov (ov (ov (ov (ov (ov (ov I 0 z1.2.1) 16 z1.2.2.1) 17 z1.2.2.2.1) 20 z1.2.2.2.2.1) 19 z1.2.2.2.2.2.1) 18 z1.2.2.2.2.2.2) 114 z2.2.1) 123 z2.2.2.1) 122 z2.2.2.2) J := by
  obtain ⟨m, n, hm, hn, e9, hs, hJ, hK, hB, hY, h0, hM⟩ := h
  obtain ⟨d, hd, hc, hk, hy⟩ := dBlk.o.mp h0
  obtain ⟨v, U0, W, T7, V8, V9, V10, Um, B2, B3, f1, f2, s⟩ := q_wayLong hd hc hk hs x1 (I 16) (I 17) (I 20) (I 19) (I 18) (I 123) (I 122)
  exact ⟨(v, U0, W, T7, V8, V9, V10), (v, Um, B2, B3), f1, f2, rfl, m, n, hm, hn, e9, s, hJ, hK, hB, hY, h0, hM⟩
theorem P_wayAt (h : INV I J) (x1 : Int32) (x2 : Int32) : ∃ z1 z2, f_X11_wayAt (I 0) (I 38) (I 16) (I 43) (I 44) (I 42) (I 17) (I 20) (I 19) (I 18) x1 x2 = some z1 ∧ f_X12_wayAt (I 114) (I 119) (I 123) (I 122) x1 x2 = some z2 ∧ z1.1 = z2.1 ∧ INV (ov (ov (ov (ov (ov (ov (ov (ov (ov I 0 z1.2.1) 16 z1.2.2.1) 17 z1.2.2.2.1) 20 z1.2.2.2.2.1) 19 z1.2.2.2.2.2.1) 18 z1.2.2.2.2.2.2) 114 z2.2.1) 123 z2.2.2.1) 122 z2.2.2.2) J := by
  obtain ⟨m, n, hm, hn, e9, hs, hJ, hK, hB, hY, h0, hM⟩ := h
  obtain ⟨d, hd, hc, hk, hy⟩ := dBlk.o.mp h0
  obtain ⟨v, U0, W, T7, V8, V9, V10, Um, B2, B3, f1, f2, s⟩ := q_wayAt hd hc hk hs x1 x2 (I 16) (I 17) (I 20) (I 19) (I 18) (I 123) (I 122)
  exact ⟨(v, U0, W, T7, V8, V9, V10), (v, Um, B2, B3), f1, f2, rfl, m, n, hm, hn, e9, s, hJ, hK, hB, hY, h0, hM⟩
theorem P_comesIn (h : INV I J) (x1 : Int32) : ∃ z1 z2, f_X11_comesIn (I 0) (J 0 15) (J 0 16) (I 38) (I 16) (I 43) (I 44) (I 42) (I 17) (I 20) (I 19) (I 18) x1 = some z1 ∧ f_X12_comesIn (I 114) (J 114 2) (J 114 3) (I 119) (I 123) (I 122) x1 = some z2 ∧ z1.1 = z2.1 ∧ INV (ov (ov (ov (ov (ov (ov (ov (ov (ov I 0 z1.2.1) 16 z1.2.2.2.2.1) 17 z1.2.2.2.2.2.1) 20 z1.2.2.2.2.2.2.1) 19 z1.2.2.2.2.2.2.2.1) 18 z1.2.2.2.2.2.2.2.2) 114 z2.2.1) 123 z2.2.2.2.2.1) 122 z2.2.2.2.2.2) (ov (ov J 0 (ov (ov (J 0) 15 z1.2.2.1) 16 z1.2.2.2.1)) 114 (ov (ov (J 114) 2 z2.2.2.1) 3 z2.2.2.2.1)) := by
  obtain ⟨m, n, hm, hn, e9, hs, hJ, hK, hB, hY, h0, hM⟩ := h
  obtain ⟨d, hd, hc, hk, hy⟩ := dBlk.o.mp h0
  obtain ⟨v, U0, p, q, W, T7, V8, V9, V10, Um, B2, B3, f1, f2, s⟩ := q_comesIn hd hc hk hs hJ x1 (I 16) (I 17) (I 20) (I 19) (I 18) (I 123) (I 122)
  exact ⟨(v, U0, p, q, W, T7, V8, V9, V10), (v, Um, p, q, B2, B3), f1, f2, rfl, m, n, hm, hn, e9, s, ⟨rfl, rfl⟩, hK, hB, hY, h0, hM⟩
theorem P_sail (h : INV I J) (x1 : Int32) : ∃ z1 z2, f_X11_sail (I 0) (I 38) (I 16) (I 43) (I 44) (I 42) (I 17) (I 20) (I 19) (I 18) (I 39) x1 = some z1 ∧ f_X12_sail (I 114) (I 119) (I 123) (I 122) x1 = some z2 ∧ z1.1 = z2.1 ∧ INV (ov (ov (ov (ov (ov (ov (ov (ov (ov I 0 z1.2.1) 16 z1.2.2.1) 17 z1.2.2.2.1) 20 z1.2.2.2.2.1) 19 z1.2.2.2.2.2.1) 18 z1.2.2.2.2.2.2) 114 z2.2.1) 123 z2.2.2.1) 122 z2.2.2.2) J := by
  obtain ⟨m, n, hm, hn, e9, hs, hJ, hK, hB, hY, h0, hM⟩ := h
  obtain ⟨d, hd, hc, hk, hy⟩ := dBlk.o.mp h0
  obtain ⟨v, U0, W, T7, V8, V9, V10, Um, B2, B3, f1, f2, s⟩ := q_sail hd hc hk hs x1 (I 16) (I 17) (I 20) (I 19) (I 18) (I 123) (I 122)
  exact ⟨(v, U0, W, T7, V8, V9, V10), (v, Um, B2, B3), f1, f2, rfl, m, n, hm, hn, e9, s, hJ, hK, hB, hY, h0, hM⟩
theorem P_plan (h : INV I J) (x1 : Int32) : ∃ z1 z2, f_X11_plan (I 0) (I 38) (I 16) (I 43) (I 44) (I 42) (I 25) x1 = some z1 ∧ f_X12_plan (I 114) (I 119) x1 = some z2 ∧ z1.1 = z2.1 ∧ INV (ov (ov (ov (ov (ov I 0 z1.2.1) 16 z1.2.2.1) 25 z1.2.2.2) 114 z2.2.1) 119 z2.2.2) J := by
  obtain ⟨m, n, hm, hn, e9, hs, hJ, hK, hB, hY, h0, hM⟩ := h
  obtain ⟨d, hd, hc, hk, hy⟩ := dBlk.o.mp h0
  obtain ⟨v, U0, W, Y, Um, f1, f2, s⟩ := q_plan hd hc hk hs x1 (I 16) (I 25)
  exact ⟨(v, U0, W, Y), (v, Um, I 119), f1, f2, rfl, m, n, hm, hn, e9, s, hJ, hK, hB, hY, h0, hM⟩
theorem P_planSet (h : INV I J) (x1 : Int32) : ∃ z1 z2, f_X11_planSet (I 0) (I 38) (I 16) (I 43) (I 44) (I 42) (I 25) x1 = some z1 ∧ f_X12_planSet (I 114) (I 119) x1 = some z2 ∧ z1.1 = z2.1 ∧ INV (ov (ov (ov (ov (ov I 0 z1.2.1) 16 z1.2.2.1) 25 z1.2.2.2) 114 z2.2.1) 119 z2.2.2) J := by
  obtain ⟨m, n, hm, hn, e9, hs, hJ, hK, hB, hY, h0, hM⟩ := h
  obtain ⟨d, hd, hc, hk, hy⟩ := dBlk.o.mp h0
  obtain ⟨v, U0, W, Y, Um, f1, f2, s⟩ := q_planSet hd hc hk hs x1 (I 16) (I 25)
  exact ⟨(v, U0, W, Y), (v, Um, I 119), f1, f2, rfl, m, n, hm, hn, e9, s, hJ, hK, hB, hY, h0, hM⟩
theorem P_game (h : INV I J) (x1 : Int32) : ∃ z1 z2, f_X11_game (I 0) (I 38) (I 16) (I 43) (I 44) (I 42) (I 25) (I 26) x1 = some z1 ∧ f_X12_game (I 114) (I 119) x1 = some z2 ∧ z1.1 = z2.1 ∧ INV (ov (ov (ov (ov (ov (ov I 0 z1.2.1) 16 z1.2.2.1) 25 z1.2.2.2.1) 26 z1.2.2.2.2) 114 z2.2.1) 119 z2.2.2) J := by
  obtain ⟨m, n, hm, hn, e9, hs, hJ, hK, hB, hY, h0, hM⟩ := h
  obtain ⟨d, hd, hc, hk, hy⟩ := dBlk.o.mp h0
  obtain ⟨v, U0, W, Y, Z, Um, f1, f2, s⟩ := q_game hd hc hk hs x1 (I 16) (I 25) (I 26)
  exact ⟨(v, U0, W, Y, Z), (v, Um, I 119), f1, f2, rfl, m, n, hm, hn, e9, s, hJ, hK, hB, hY, h0, hM⟩
theorem P_moveOf (h : INV I J) (x1 : Int32) : ∃ z1 z2, f_X11_moveOf (I 0) (I 38) (I 16) (I 43) (I 44) (I 42) (I 25) (I 26) x1 = some z1 ∧ f_X12_moveOf (I 114) (I 119) x1 = some z2 ∧ z1.1 = z2.1 ∧ INV (ov (ov (ov (ov (ov (ov I 0 z1.2.1) 16 z1.2.2.1) 25 z1.2.2.2.1) 26 z1.2.2.2.2) 114 z2.2.1) 119 z2.2.2) J := by
  obtain ⟨m, n, hm, hn, e9, hs, hJ, hK, hB, hY, h0, hM⟩ := h
  obtain ⟨d, hd, hc, hk, hy⟩ := dBlk.o.mp h0
  obtain ⟨v, U0, W, Y, Z, Um, f1, f2, s⟩ := q_moveOf hd hc hk hs x1 (I 16) (I 25) (I 26)
  exact ⟨(v, U0, W, Y, Z), (v, Um, I 119), f1, f2, rfl, m, n, hm, hn, e9, s, hJ, hK, hB, hY, h0, hM⟩
theorem P_swear (h : INV I J) (x1 : Int32) (x2 : Int32) : ∃ z1 z2, f_X11_swear (I 0) (J 0 15) (J 0 16) (I 38) (J 23) x1 x2 = some z1 ∧ f_X12_swear (I 114) (J 114 2) (J 114 3) (J 124) (I 119) x1 x2 = some z2 ∧ z1.1 = z2.1 ∧ INV (ov (ov I 0 z1.2.1) 114 z2.2.1) (ov (ov (ov (ov J 23 z1.2.2.2.2) 0 (ov (ov (J 0) 15 z1.2.2.1) 16 z1.2.2.2.1)) 124 z2.2.2.2.2) 114 (ov (ov (J 114) 2 z2.2.2.1) 3 z2.2.2.2.1)) := by
  obtain ⟨m, n, hm, hn, e9, hs, hJ, hK, hB, hY, h0, hM⟩ := h
  obtain ⟨d, hd, hc, hk, hy⟩ := dBlk.o.mp h0
  obtain ⟨v, U0, p, q, W, Um, Wm, f1, f2, s⟩ := q_swear hd hc hk.1 hs hJ x1 x2 (J 23) (J 124)
  exact ⟨(v, U0, p, q, W), (v, Um, p, q, Wm), f1, f2, rfl, m, n, hm, hn, e9, s, ⟨rfl, rfl⟩, hK, hB, hY, h0, hM⟩
theorem P_share (h : INV I J) (x1 : Int32) : ∃ z1 z2, f_X11_share (I 0) (J 0 15) (J 0 16) (I 38) (I 42) x1 = some z1 ∧ f_X12_share (I 114) (J 114 2) (J 114 3) (I 119) x1 = some z2 ∧ z1.1 = z2.1 ∧ INV (ov (ov I 0 z1.2.1) 114 z2.2.1) (ov (ov J 0 (ov (ov (J 0) 15 z1.2.2.1) 16 z1.2.2.2)) 114 (ov (ov (J 114) 2 z2.2.2.1) 3 z2.2.2.2)) := by
  obtain ⟨m, n, hm, hn, e9, hs, hJ, hK, hB, hY, h0, hM⟩ := h
  obtain ⟨d, hd, hc, hk, hy⟩ := dBlk.o.mp h0
  obtain ⟨v, U0, p, q, Um, f1, f2, s⟩ := q_share hd hc hk hs hJ x1
  exact ⟨(v, U0, p, q), (v, Um, p, q), f1, f2, rfl, m, n, hm, hn, e9, s, ⟨rfl, rfl⟩, hK, hB, hY, h0, hM⟩
theorem P_live (h : INV I J) (x1 : Int32) : ∃ z1 z2, f_X11_live (I 0) (I 38) (I 46) (I 27) (I 28) (I 47) (I 48) (I 49) (I 50) (I 43) (I 42) (I 44) (I 45) (I 32) (I 33) (I 36) (I 35) (I 34) (I 39) (I 40) (I 30) (I 51) (I 29) x1 = some z1 ∧ f_X12_live (I 114) (I 119) (I 123) (I 122) (I 125) x1 = some z2 ∧ z1.1 = z2.1 ∧ INV (ov (ov (ov (ov (ov (ov (ov (ov (ov (ov (ov (ov (ov (ov (ov (ov (ov (ov (ov (ov I 0 z1.2.1) 38 z1.2.2.1) 27 z1.2.2.2.1) 28 z1.2.2.2.2.1) 43 z1.2.2.2.2.2.1) 42 z1.2.2.2.2.2.2.1) 44 z1.2.2.2.2.2.2.2.1) 45 z1.2.2.2.2.2.2.2.2.1) 32 z1.2.2.2.2.2.2.2.2.2.1) 33 z1.2.2.2.2.2.2.2.2.2.2.1) 36 z1.2.2.2.2.2.2.2.2.2.2.2.1) 35 z1.2.2.2.2.2.2.2.2.2.2.2.2.1) 34 z1.2.2.2.2.2.2.2.2.2.2.2.2.2.1) 30 z1.2.2.2.2.2.2.2.2.2.2.2.2.2.2.1) 29 z1.2.2.2.2.2.2.2.2.2.2.2.2.2.2.2) 114 z2.2.1) 119 z2.2.2.1) 123 z2.2.2.2.1) 122 z2.2.2.2.2.1) 125 z2.2.2.2.2.2) J := by
  obtain ⟨m, n, hm, hn, e9, hs, hJ, hK, hB, hY, h0, hM⟩ := h
  obtain ⟨d, hd, hc, hk, hy⟩ := dBlk.o.mp h0
  obtain ⟨v, U0, T, Tl, V, O9, B9, F9, M9, W, R, P, A, E, Rl, Kd, Um, c, B2, B3, Vm, K9, f1, f2, s, k1, k2, k3, g4, d9, g1, g2, g3, g5⟩ := q_live (V := I 28) (W := I 32) (R := I 33) (P := I 36) (A := I 35) (E := I 34) (Rl := I 30) (B2 := I 123) (B3 := I 122) (Kd := I 29) (Vm := I 125) hd hc hk hy hs rfl hK.1 hK.2 x1
  subst k1
  exact ⟨(v, U0, T, Tl, V, O9, B9, F9, M9, W, R, P, A, E, Rl, Kd), (v, Um, c, B2, B3, Vm), f1, f2, rfl, m, n, hm, hn, e9, s, hJ, ⟨k2, k3⟩, hB, hY, dBlk.o.mpr ⟨d9, g1, g2, g3, hy.le g5 g4⟩, hM.fr (fun j _ _ => g4 j (by omega)) (fun _ _ _ => rfl)⟩
theorem P_lived (h : INV I J) (x1 : Int32) : ∃ z1 z2, f_X11_lived (I 0) (I 27) (I 29) x1 = some z1 ∧ f_X12_lived (I 114) (I 125) x1 = some z2 ∧ z1.1 = z2.1 ∧ INV (ov (ov I 0 z1.2) 114 z2.2) J := by
  obtain ⟨m, n, hm, hn, e9, hs, hJ, hK, hB, hY, h0, hM⟩ := h
  obtain ⟨d, hd, hc, hk, hy⟩ := dBlk.o.mp h0
  obtain ⟨v, U0, Um, f1, f2, s⟩ := q_lived hs rfl hK.1 hK.2 x1
  exact ⟨(v, U0), (v, Um), f1, f2, rfl, m, n, hm, hn, e9, s, hJ, hK, hB, hY, h0, hM⟩
theorem P_mean (h : INV I J) (x1 : Int32) (x2 : Int32) : ∃ z1 z2, f_X11_mean (I 0) (J 0 15) (J 0 16) (I 38) (I 46) (I 27) (I 28) (I 47) (I 48) (I 49) (I 50) (I 43) (I 42) (I 44) (I 45) (I 32) (I 33) (I 36) (I 35) (I 34) (I 39) (I 40) (I 30) (I 51) (I 16) x1 x2 = some z1 ∧ f_X12_mean (I 114) (J 114 2) (J 114 3) (I 119) (I 120) (I 123) (I 122) x1 x2 = some z2 ∧ z1.1 = z2.1 ∧ INV (ov (ov (ov (ov (ov (ov (ov (ov (ov (ov (ov (ov (ov (ov (ov (ov (ov (ov (ov (ov I 0 z1.2.1) 38 z1.2.2.2.2.1) 27 z1.2.2.2.2.2.1) 28 z1.2.2.2.2.2.2.1) 43 z1.2.2.2.2.2.2.2.1) 42 z1.2.2.2.2.2.2.2.2.1) 44 z1.2.2.2.2.2.2.2.2.2.1) 45 z1.2.2.2.2.2.2.2.2.2.2.1) 32 z1.2.2.2.2.2.2.2.2.2.2.2.1) 33 z1.2.2.2.2.2.2.2.2.2.2.2.2.1) 36 z1.2.2.2.2.2.2.2.2.2.2.2.2.2.1) 35 z1.2.2.2.2.2.2.2.2.2.2.2.2.2.2.1) 34 z1.2.2.2.2.2.2.2.2.2.2.2.2.2.2.2.1) 30 z1.2.2.2.2.2.2.2.2.2.2.2.2.2.2.2.2.1) 16 z1.2.2.2.2.2.2.2.2.2.2.2.2.2.2.2.2.2) 114 z2.2.1) 119 z2.2.2.2.2.1) 120 z2.2.2.2.2.2.1) 123 z2.2.2.2.2.2.2.1) 122 z2.2.2.2.2.2.2.2) (ov (ov J 0 (ov (ov (J 0) 15 z1.2.2.1) 16 z1.2.2.2.1)) 114 (ov (ov (J 114) 2 z2.2.2.1) 3 z2.2.2.2.1)) := by
  obtain ⟨m, n, hm, hn, e9, hs, hJ, hK, hB, hY, h0, hM⟩ := h
  obtain ⟨d, hd, hc, hk, hy⟩ := dBlk.o.mp h0
  obtain ⟨v, U0, p, q, T, Tl, V, O9, B9, F9, M9, W, R, P, A, E, Rl, W2, Um, V2, B2, B3, f1, f2, s, g3, gT⟩ := q_mean (Tl := I 27) (V := I 28) (W := I 32) (R := I 33) (P := I 36) (A := I 35) (E := I 34) (Rl := I 30) (W2 := I 16) (V2 := I 120) (B2 := I 123) (B3 := I 122) hd hc hk hy hs hJ x1 x2
  have eT := gT 2 (by decide)
  have s' : sR U0 Um (iN n) (Tl 2, iN m) := by rw [eT]; exact s
  have hK' : (Tl 2 = 0 ∨ Tl 2 = 1) ∧ (Tl 2 = 1 → ∀ k, k < 5 → I 29 k = I 125 k) := by rw [eT]; exact hK
  exact ⟨(v, U0, p, q, T, Tl, V, O9, B9, F9, M9, W, R, P, A, E, Rl, W2), (v, Um, p, q, I 119, V2, B2, B3), f1, f2, rfl, m, n, hm, hn, e9, s', ⟨rfl, rfl⟩, hK', hB, hY, dBlk.o.mpr ⟨d, hd, hc, g3, hy⟩, hM⟩
theorem P_mark (h : INV I J) : ∃ z1 z2, f_X11_mark (I 0) (I 72) (I 38) (I 39) (I 73) (I 40) (I 74) (J 41) (J 75) (I 42) (I 76) (I 43) (I 77) (I 44) (I 78) (I 45) (I 79) (I 80) (I 46) (I 47) (I 81) (I 48) (I 82) (I 49) (I 83) (I 50) (I 84) (I 51) (I 85) (I 86) (I 87) (I 88) (J 89) (I 90) (I 91) (I 92) (I 93) (I 94) (I 95) (I 96) (I 97) (I 98) (I 99) (I 100) (I 101) (I 102) (J 103) (I 104) (I 105) (I 106) (I 107) (I 108) (I 109) (I 110) (I 111) (I 112) (I 113) = some z1 ∧ f_X12_mark (I 114) (I 119) (J 121) = some z2 ∧ z1.1 = z2.1 ∧ INV (ov (ov (ov (ov (ov (ov (ov (ov (ov (ov (ov (ov (ov (ov (ov (ov (ov (ov (ov (ov (ov (ov (ov (ov (ov (ov (ov (ov (ov (ov (ov (ov (ov (ov (ov (ov (ov (ov (ov (ov (ov (ov I 0 z1.2.1) 72 z1.2.2.1) 73 z1.2.2.2.1) 74 z1.2.2.2.2.1) 76 z1.2.2.2.2.2.2.1) 77 z1.2.2.2.2.2.2.2.1) 78 z1.2.2.2.2.2.2.2.2.1) 79 z1.2.2.2.2.2.2.2.2.2.1) 80 z1.2.2.2.2.2.2.2.2.2.2.1) 81 z1.2.2.2.2.2.2.2.2.2.2.2.1) 82 z1.2.2.2.2.2.2.2.2.2.2.2.2.1) 83 z1.2.2.2.2.2.2.2.2.2.2.2.2.2.1) 84 z1.2.2.2.2.2.2.2.2.2.2.2.2.2.2.1) 85 z1.2.2.2.2.2.2.2.2.2.2.2.2.2.2.2.1) 86 z1.2.2.2.2.2.2.2.2.2.2.2.2.2.2.2.2.1) 87 z1.2.2.2.2.2.2.2.2.2.2.2.2.2.2.2.2.2.1) 88 z1.2.2.2.2.2.2.2.2.2.2.2.2.2.2.2.2.2.2.1) 90 z1.2.2.2.2.2.2.2.2.2.2.2.2.2.2.2.2.2.2.2.2.1) 91 z1.2.2.2.2.2.2.2.2.2.2.2.2.2.2.2.2.2.2.2.2.2.1) 92 z1.2.2.2.2.2.2.2.2.2.2.2.2.2.2.2.2.2.2.2.2.2.2.1) 93 z1.2.2.2.2.2.2.2.2.2.2.2.2.2.2.2.2.2.2.2.2.2.2.2.1) 94 z1.2.2.2.2.2.2.2.2.2.2.2.2.2.2.2.2.2.2.2.2.2.2.2.2.1) 95 z1.2.2.2.2.2.2.2.2.2.2.2.2.2.2.2.2.2.2.2.2.2.2.2.2.2.1) 96 z1.2.2.2.2.2.2.2.2.2.2.2.2.2.2.2.2.2.2.2.2.2.2.2.2.2.2.1) 97 z1.2.2.2.2.2.2.2.2.2.2.2.2.2.2.2.2.2.2.2.2.2.2.2.2.2.2.2.1) 98 z1.2.2.2.2.2.2.2.2.2.2.2.2.2.2.2.2.2.2.2.2.2.2.2.2.2.2.2.2.1) 99 z1.2.2.2.2.2.2.2.2.2.2.2.2.2.2.2.2.2.2.2.2.2.2.2.2.2.2.2.2.2.1) 100 z1.2.2.2.2.2.2.2.2.2.2.2.2.2.2.2.2.2.2.2.2.2.2.2.2.2.2.2.2.2.2.1) 101 z1.2.2.2.2.2.2.2.2.2.2.2.2.2.2.2.2.2.2.2.2.2.2.2.2.2.2.2.2.2.2.2.1) 102 z1.2.2.2.2.2.2.2.2.2.2.2.2.2.2.2.2.2.2.2.2.2.2.2.2.2.2.2.2.2.2.2.2.1) 104 z1.2.2.2.2.2.2.2.2.2.2.2.2.2.2.2.2.2.2.2.2.2.2.2.2.2.2.2.2.2.2.2.2.2.2.1) 105 z1.2.2.2.2.2.2.2.2.2.2.2.2.2.2.2.2.2.2.2.2.2.2.2.2.2.2.2.2.2.2.2.2.2.2.2.1) 106 z1.2.2.2.2.2.2.2.2.2.2.2.2.2.2.2.2.2.2.2.2.2.2.2.2.2.2.2.2.2.2.2.2.2.2.2.2.1) 107 z1.2.2.2.2.2.2.2.2.2.2.2.2.2.2.2.2.2.2.2.2.2.2.2.2.2.2.2.2.2.2.2.2.2.2.2.2.2.1) 108 z1.2.2.2.2.2.2.2.2.2.2.2.2.2.2.2.2.2.2.2.2.2.2.2.2.2.2.2.2.2.2.2.2.2.2.2.2.2.2.1) 109 z1.2.2.2.2.2.2.2.2.2.2.2.2.2.2.2.2.2.2.2.2.2.2.2.2.2.2.2.2.2.2.2.2.2.2.2.2.2.2.2.1) 110 z1.2.2.2.2.2.2.2.2.2.2.2.2.2.2.2.2.2.2.2.2.2.2.2.2.2.2.2.2.2.2.2.2.2.2.2.2.2.2.2.2.1) 111 z1.2.2.2.2.2.2.2.2.2.2.2.2.2.2.2.2.2.2.2.2.2.2.2.2.2.2.2.2.2.2.2.2.2.2.2.2.2.2.2.2.2.1) 112 z1.2.2.2.2.2.2.2.2.2.2.2.2.2.2.2.2.2.2.2.2.2.2.2.2.2.2.2.2.2.2.2.2.2.2.2.2.2.2.2.2.2.2.1) 113 z1.2.2.2.2.2.2.2.2.2.2.2.2.2.2.2.2.2.2.2.2.2.2.2.2.2.2.2.2.2.2.2.2.2.2.2.2.2.2.2.2.2.2.2) 114 z2.2.1) 119 z2.2.2.1) (ov (ov (ov (ov J 75 z1.2.2.2.2.2.1) 89 z1.2.2.2.2.2.2.2.2.2.2.2.2.2.2.2.2.2.2.2.1) 103 z1.2.2.2.2.2.2.2.2.2.2.2.2.2.2.2.2.2.2.2.2.2.2.2.2.2.2.2.2.2.2.2.2.2.1) 121 z2.2.2.2) := by
  obtain ⟨m, n, hm, hn, e9, hs, hJ, hK, hB, hY, h0, hM⟩ := h
  obtain ⟨v, U0, Um, c, W, m', Tx, Sx, Lx, Nx, Bx, Ox, Fx, Mx, Ax, Dx, Ix, Ex, Hx, Px, Ty, Sy, Ly, Ny, By, Oy, Fy, My, Ay, Dy, Iy, Ey, Hy, Py, Tz, Sz, Lz, Nz, Bz, Oz, Fz, Mz, Az, Dz, Iz, Ez, Hz, Pz, f1, f2, s, -, hm', g0, g1, g2, g3⟩ := q_mark hs (hs.2.2.2.1.1.trans hs.2.2.2.1.2) hm h0 hM
  exact ⟨(v, U0, Tx, Sx, Lx, Nx, Bx, Ox, Fx, Mx, Ax, Dx, Ix, Ex, Hx, Px, Ty, Sy, Ly, Ny, By, Oy, Fy, My, Ay, Dy, Iy, Ey, Hy, Py, Tz, Sz, Lz, Nz, Bz, Oz, Fz, Mz, Az, Dz, Iz, Ez, Hz, Pz), (v, Um, c, W), f1, f2, rfl, m', n, hm', hn, e9, s, hJ, hK, hB, hY, g0, g1, g2, g3⟩
theorem P_back (a : Nat → Nat) (h : INV I J) : ∃ z1 z2, f_X11_back (I 0) (rc a 0) (rc a 3) (rc a 4) (rc a 5) = some z1 ∧ f_X12_back (I 114) (I 119) (J 121) = some z2 ∧ z1.1 = z2.1 ∧ ((z1.2.2.1 = rc a 0 ∧ z1.2.2.2.1 = rc a 3 ∧ z1.2.2.2.2.1 = rc a 4 ∧ z1.2.2.2.2.2 = rc a 5 ∧ INV (ov (ov (ov I 0 z1.2.1) 114 z2.2.1) 119 z2.2.2.1) (ov J 121 z2.2.2.2)) ∨ (z1.2.2.1 = rc a 3 ∧ z1.2.2.2.1 = rc a 0 ∧ z1.2.2.2.2.1 = rc a 4 ∧ z1.2.2.2.2.2 = rc a 5 ∧ INV (fun k => (ov (ov (ov I 0 z1.2.1) 114 z2.2.1) 119 z2.2.2.1) (sw 38 72 14 k)) (fun k => (ov J 121 z2.2.2.2) (sw 38 72 14 k))) ∨ (z1.2.2.1 = rc a 4 ∧ z1.2.2.2.1 = rc a 3 ∧ z1.2.2.2.2.1 = rc a 0 ∧ z1.2.2.2.2.2 = rc a 5 ∧ INV (fun k => (ov (ov (ov I 0 z1.2.1) 114 z2.2.1) 119 z2.2.2.1) (sw 38 86 14 k)) (fun k => (ov J 121 z2.2.2.2) (sw 38 86 14 k))) ∨ (z1.2.2.1 = rc a 5 ∧ z1.2.2.2.1 = rc a 3 ∧ z1.2.2.2.2.1 = rc a 4 ∧ z1.2.2.2.2.2 = rc a 0 ∧ INV (fun k => (ov (ov (ov I 0 z1.2.1) 114 z2.2.1) 119 z2.2.2.1) (sw 38 100 14 k)) (fun k => (ov J 121 z2.2.2.2) (sw 38 100 14 k)))) := by
  obtain ⟨m, n, hm, hn, e9, hs, hJ, hK, hB, hY, h0, hM⟩ := h
  rcases q_back (c := I 119) (W := J 121) hs (hs.2.2.2.1.1.trans hs.2.2.2.1.2) hm (rc a 0) (rc a 3) (rc a 4) (rc a 5) with ⟨m0, U0, Um, f1, f2, s, -⟩ | ⟨k, U0, Um, c, W, m1, hk2, f1, f2, s, -, q1, q2, q3, q4⟩
  · exact ⟨_, _, f1, f2, rfl, Or.inl ⟨rfl, rfl, rfl, rfl, m, n, hm, hn, e9, s, hJ, hK, hB, hY, h0, hM⟩⟩
  · have kp : ∀ {B : Nat} {T S L : Nat → Int32} {N : Nat → Int64} {Y O F M A D E1 E H P : Nat → Int32}, 1 ≤ B → B ≤ 3 → dBlk B (I 119) (J 121) T S L N Y O F M A D E1 E H P → dBlk B c W T S L N Y O F M A D E1 E H P := fun b1 b3 h => h.mv (fun k hk => q2 _ (by omega)) (fun k hk => q4 _ (by omega))
    have nw : ∀ {T S L : Nat → Int32} {N : Nat → Int64} {Y O F M A D E1 E H P : Nat → Int32}, dBlk m (I 119) (J 121) T S L N Y O F M A D E1 E H P → dBlk 0 c W T S L N Y O F M A D E1 E H P := fun h => h.mv q1 q3
    rcases (show k = 0 ∨ k = 1 ∨ k = 2 by omega) with rfl | rfl | rfl
    · subst m1
      exact ⟨_, _, f1, f2, rfl, Or.inr (Or.inl ⟨rfl, rfl, rfl, rfl, 0, n, by decide, hn, e9, s, hJ, hK, hB, hY, nw (hM.1 (by decide)), fun h => absurd h (by decide), fun h => absurd h (by decide), fun h => absurd h (by decide)⟩)⟩
    · subst m1
      exact ⟨_, _, f1, f2, rfl, Or.inr (Or.inr (Or.inl ⟨rfl, rfl, rfl, rfl, 1, n, by decide, hn, e9, s, hJ, hK, hB, hY, nw (hM.2.1 (by decide)), fun _ => kp (by decide) (by decide) (hM.1 (by omega)), fun h => absurd h (by decide), fun h => absurd h (by decide)⟩))⟩
    · subst m1
      exact ⟨_, _, f1, f2, rfl, Or.inr (Or.inr (Or.inr (⟨rfl, rfl, rfl, rfl, 2, n, by decide, hn, e9, s, hJ, hK, hB, hY, nw (hM.2.2 (by decide)), fun _ => kp (by decide) (by decide) (hM.1 (by omega)), fun _ => kp (by decide) (by decide) (hM.2.1 (by omega)), fun h => absurd h (by decide)⟩)))⟩
end INVS
