/-! Marks: a duchy with its years, the class's cells against a block of the model's numbers. -/
def dBlk (B : Nat) (c : Nat → Int32) (W : Nat → Int64) (T S L : Nat → Int32) (N : Nat → Int64) (Y O F M A D I E H P : Nat → Int32) : Prop := ∃ d, dInv d ∧ mRep d (fun j => c (372 * B + j)) ∧ kRep d (fun k => W (5 * B + k)) T S L N Y O F M ∧ yRel d (fun j => c (372 * B + j)) A D I E H P
theorem yRel.mv {d : Nat → Nat} {c c' A D I E H P : Nat → Int32} (h : yRel d c A D I E H P) (hc : ∀ k, k < 372 → c' k = c k) : yRel d c' A D I E H P := by
  unfold yRel
  rw [hc 100 (by decide), hc 101 (by decide)]
  rcases h with h | ⟨h1, h2, ns, ln, f, h3, h4, h5, h6, h7, h8⟩
  · exact Or.inl h
  · exact Or.inr ⟨h1, h2, ns, ln, f, h3, h4, h5, h6, h7, ySeg.tr f h8 (fun t _ ht j hj => hc _ (by omega)) (fun _ _ _ => ⟨rfl, rfl, rfl, rfl, rfl⟩)⟩
section MRK
variable {B B' : Nat} {c c' : Nat → Int32} {W W' N : Nat → Int64} {T S L Y O F M A D I E H P : Nat → Int32}
theorem dBlk.mv (h : dBlk B c W T S L N Y O F M A D I E H P) (hc : ∀ k, k < 372 → c' (372 * B' + k) = c (372 * B + k)) (hW : ∀ k, k < 5 → W' (5 * B' + k) = W (5 * B + k)) : dBlk B' c' W' T S L N Y O F M A D I E H P := by
  obtain ⟨d, h1, h2, h3, h4⟩ := h
  have hm := h1.many
  exact ⟨d, h1, fun k hk => (hc k (by omega)).trans (h2 k hk), ⟨h3.1, h3.2.1, h3.2.2.1, fun k hk => (h3.2.2.2.1 k hk).trans (hW k (by omega)).symm, h3.2.2.2.2⟩, h4.mv hc⟩
theorem dBlk.o : dBlk 0 c W T S L N Y O F M A D I E H P ↔ ∃ d, dInv d ∧ mRep d c ∧ kRep d W T S L N Y O F M ∧ yRel d c A D I E H P := by
  have e1 : (fun j => c (372 * 0 + j)) = c := by
    funext j
    rw [Nat.mul_zero, Nat.zero_add]
  have e2 : (fun k => W (5 * 0 + k)) = W := by
    funext k
    rw [Nat.mul_zero, Nat.zero_add]
  unfold dBlk
  rw [e1, e2]
theorem cpy_in {α : Type} (f g : Nat → α) {n k : Nat} (h : k < n) : va_cpy f g 0 0 n k = f k := by
  unfold va_cpy
  rw [if_pos (by omega), Nat.sub_zero, Nat.zero_add]
theorem aRep.cp {d : Nat → Nat} {o K n : Nat} {V V' : Nat → Int32} (h : aRep d o K V) (hK : K ≤ n) : aRep d o K (va_cpy V V' 0 0 n) := fun k hk => (cpy_in V V' (by omega)).trans (h k hk)
variable {T0 S0 L0 Y0 O0 F0v M0 A0 D0 I0 E0 H0 P0 : Nat → Int32} {N0v : Nat → Int64}
theorem dBlk.cp (h : dBlk B c W T S L N Y O F M A D I E H P) : ∃ T1 S1 L1 N1 Y1 O1 F1 M1 A1 D1 I1 E1 H1 P1, f_X3_copyFrom T0 T S S0 L L0 N N0v Y Y0 O O0 F F0v M M0 A0 A D D0 I I0 E E0 H H0 P P0 = some (T1, S1, L1, N1, Y1, O1, F1, M1, A1, D1, I1, E1, H1, P1) ∧ dBlk B c W T1 S1 L1 N1 Y1 O1 F1 M1 A1 D1 I1 E1 H1 P1 := by
  obtain ⟨d, h1, h2, ⟨⟨k0, k1, k2, k3, k4, k5, k6⟩, k7, k8, k9, l1, l2, l3, l4⟩, h4⟩ := h
  have h36 := h1.c36
  have hm := h1.many
  obtain ⟨ln, f1, f2, f3⟩ : ∃ ln, ln ≤ 60 ∧ A 2 = iN ln ∧ (A 0 = 0 ∨ A 0 = 1) := by
    rcases h4 with ⟨-, q1, q2⟩ | ⟨-, q1, ns, ln, f, q2, q3, -, -, q4, -⟩
    · exact ⟨0, by decide, q2, Or.inl q1⟩
    · exact ⟨ln, by omega, q4, Or.inr q1⟩
  have cA : f_X0_copyFrom A0 A D D0 I I0 E E0 H H0 P P0 = some (upd (upd (upd A0 0 (A 0)) 1 (A 1)) 2 (A 2), va_cpy D D0 0 0 ln, va_cpy I I0 0 0 ln, va_cpy E E0 0 0 ln, va_cpy H H0 0 0 ln, va_cpy P P0 0 0 ln) := by
    have e2 : upd (upd (upd A0 0 (A 0)) 1 (A 1)) 2 (A 2) 2 = iN ln := upd_s.trans f2
    have g : ∀ {X : Type} (x : Option X), ck (cpo 0 0 (iN ln) 60 60) x = x := fun x => ck_y (by
      unfold cpo
      rw [iN_int (by omega), show (0 : Int32).toInt = 0 from rfl]
      simp only [Bool.and_eq_true, decide_eq_true_eq]
      omega)
    rw [f_X0_copyFrom, e2, ck_y (by rcases f3 with q | q <;> rw [q] <;> decide), g, g, g, g, g, iN_nn (by omega)]
    rfl
  have cX : f_X3_copyFrom T0 T S S0 L L0 N N0v Y Y0 O O0 F F0v M M0 A0 A D D0 I I0 E E0 H H0 P P0 = some (upd (upd (upd (upd (upd (upd (upd T0 0 (T 0)) 1 (T 1)) 2 (T 2)) 3 (T 3)) 4 (T 4)) 5 (T 5)) 6 (T 6), va_cpy S S0 0 0 36, va_cpy L L0 0 0 5, va_cpy N N0v 0 0 5, va_cpy Y Y0 0 0 12, va_cpy O O0 0 0 12, va_cpy F F0v 0 0 12, va_cpy M M0 0 0 12, upd (upd (upd A0 0 (A 0)) 1 (A 1)) 2 (A 2), va_cpy D D0 0 0 ln, va_cpy I I0 0 0 ln, va_cpy E E0 0 0 ln, va_cpy H H0 0 0 ln, va_cpy P P0 0 0 ln) := by
    rw [f_X3_copyFrom, ck_y (by decide), ck_y (by decide), ck_y (by decide), ck_y (by decide), ck_y (by decide), ck_y (by decide), ck_y (by decide), cA, Option.bind_some]
    rfl
  refine ⟨_, _, _, _, _, _, _, _, _, _, _, _, _, _, cX, d, h1, h2, ⟨⟨?_, ?_, ?_, ?_, ?_, ?_, ?_⟩, k7.cp (show cells d ≤ 36 by omega), k8.cp (show d 2 ≤ 5 by omega), fun k hk => (cpy_in N N0v (n := 5) (by omega)).trans (k9 k hk), l1.cp (show d 3 ≤ 12 by omega), l2.cp (show d 3 ≤ 12 by omega), l3.cp (show d 3 ≤ 12 by omega), l4.cp (show d 3 ≤ 12 by omega)⟩, ?_⟩
  · exact k0
  · exact k1
  · exact k2
  · exact k3
  · exact k4
  · exact k5
  · exact k6
  · rcases h4 with ⟨q0, q1, q2⟩ | ⟨q0, q1, ns, ln', f, q2, q3, q4, q5, q6, q7⟩
    · exact Or.inl ⟨q0, q1, q2⟩
    · have el : ln' = ln := by
        have := f2.symm.trans q6
        rw [iN_eq (by omega) (by omega)] at this
        exact this.symm
      subst el
      exact Or.inr ⟨q0, q1, ns, ln', f, q2, q3, q4, q5, q6, ySeg.tr f q7 (fun _ _ _ _ _ => rfl) (fun j _ hj => ⟨cpy_in _ _ hj, cpy_in _ _ hj, cpy_in _ _ hj, cpy_in _ _ hj, cpy_in _ _ hj⟩)⟩
end MRK
section MRK2
variable {c Tm T0 Tn Sn Ln Bn On Fn Mn An Dn In En Hn Pn Tx Sx Lx Bx Ox Fx Mx Ax Dx Ix Ex Hx Px Ty Sy Ly By Oy Fy My Ay Dy Iy Ey Hy Py Tz Sz Lz Bz Oz Fz Mz Az Dz Iz Ez Hz Pz : Nat → Int32} {W Nn Nx Ny Nz : Nat → Int64} {L : Int32} {K : Int32 × Int32} {m : Nat}
theorem q_mark (hs : sR T0 Tm L K) (h10 : T0 10 = iN m) (hm : m ≤ 3) (h0 : dBlk 0 c W Tn Sn Ln Nn Bn On Fn Mn An Dn In En Hn Pn) (hb : (1 ≤ m → dBlk 1 c W Tx Sx Lx Nx Bx Ox Fx Mx Ax Dx Ix Ex Hx Px) ∧ (2 ≤ m → dBlk 2 c W Ty Sy Ly Ny By Oy Fy My Ay Dy Iy Ey Hy Py) ∧ (3 ≤ m → dBlk 3 c W Tz Sz Lz Nz Bz Oz Fz Mz Az Dz Iz Ez Hz Pz)) : ∃ v U Um c' W' m' Tx' Sx' Lx' Nx' Bx' Ox' Fx' Mx' Ax' Dx' Ix' Ex' Hx' Px' Ty' Sy' Ly' Ny' By' Oy' Fy' My' Ay' Dy' Iy' Ey' Hy' Py' Tz' Sz' Lz' Nz' Bz' Oz' Fz' Mz' Az' Dz' Iz' Ez' Hz' Pz', f_X11_mark T0 Tx Tn Sn Sx Ln Lx Nn Nx Bn Bx On Ox Fn Fx Mn Mx Ax An Dn Dx In Ix En Ex Hn Hx Pn Px Ty Sy Ly Ny By Oy Fy My Ay Dy Iy Ey Hy Py Tz Sz Lz Nz Bz Oz Fz Mz Az Dz Iz Ez Hz Pz = some (v, U, Tx', Sx', Lx', Nx', Bx', Ox', Fx', Mx', Ax', Dx', Ix', Ex', Hx', Px', Ty', Sy', Ly', Ny', By', Oy', Fy', My', Ay', Dy', Iy', Ey', Hy', Py', Tz', Sz', Lz', Nz', Bz', Oz', Fz', Mz', Az', Dz', Iz', Ez', Hz', Pz') ∧ f_X12_mark Tm c W = some (v, Um, c', W') ∧ sR U Um L (K.1, iN m') ∧ U 10 = iN m' ∧ m' ≤ 3 ∧ dBlk 0 c' W' Tn Sn Ln Nn Bn On Fn Mn An Dn In En Hn Pn ∧ (1 ≤ m' → dBlk 1 c' W' Tx' Sx' Lx' Nx' Bx' Ox' Fx' Mx' Ax' Dx' Ix' Ex' Hx' Px') ∧ (2 ≤ m' → dBlk 2 c' W' Ty' Sy' Ly' Ny' By' Oy' Fy' My' Ay' Dy' Iy' Ey' Hy' Py') ∧ (3 ≤ m' → dBlk 3 c' W' Tz' Sz' Lz' Nz' Bz' Oz' Fz' Mz' Az' Dz' Iz' Ez' Hz' Pz') := by
  have t10 : upd (upd Tm 1 0) 0 0 23 = iN m := by
    rw [upd_n (by decide), upd_n (by decide)]; exact hs.2.2.2.1.1.symm.trans h10
  have ei : (iN m + 1 : Int32) = iN (m + 1) := iN_add m 1
  obtain ⟨b1, b2, b3⟩ := hb
  have hs' : sR T0 Tm L (K.1, iN m) := ⟨hs.1, hs.2.1, hs.2.2.1, ⟨hs.2.2.2.1.1, hs.2.2.2.1.1.symm.trans h10⟩, hs.2.2.2.2⟩
  by_cases hm3 : m = 3
  · subst hm3
    refine ⟨-1, upd T0 14 7, upd (upd (upd Tm 1 0) 0 0) 0 7, c, W, 3, Tx, Sx, Lx, Nx, Bx, Ox, Fx, Mx, Ax, Dx, Ix, Ex, Hx, Px, Ty, Sy, Ly, Ny, By, Oy, Fy, My, Ay, Dy, Iy, Ey, Hy, Py, Tz, Sz, Lz, Nz, Bz, Oz, Fz, Mz, Az, Dz, Iz, Ez, Hz, Pz, ?_, ?_, sR_no hs', (upd_n (by decide)).trans h10, hm, h0, b1, b2, b3⟩
    · rw [f_X11_mark, h10, if_neg (by decide)]; rfl
    · rw [f_X12_mark, t10, if_pos (show iN 3 = (3 : Int32) from rfl)]; rfl
  have hi : iN m < (3 : Int32) := by
    rw [show (3 : Int32) = iN 3 from rfl, iN_lt (by omega) (by omega)]; omega
  obtain ⟨c', W', s1, s2, s3, s4, s5⟩ := e12_copy (A := 0) (B := m + 1) (by decide) (by omega) (by omega) c W
  have s1' : f_X12_copy c W 0 (iN (m + 1)) = some (c', W') := s1
  have mo : f_X12_mark Tm c W = some (iN (m + 1), upd (upd (upd Tm 1 0) 0 0) 23 (iN (m + 1)), c', W') := by
    rw [f_X12_mark, t10, if_neg (by exact iN_ne (b := 3) (by omega) (by decide) hm3), ei, upd_s, s1', Option.bind_some]
  have sr : sR (upd (upd T0 10 (iN (m + 1))) 14 0) (upd (upd (upd Tm 1 0) 0 0) 23 (iN (m + 1))) L (K.1, iN (m + 1)) := ⟨rfl, hs.2.1, hs.2.2.1, ⟨rfl, rfl⟩, hs.2.2.2.2⟩
  have keep : ∀ {B : Nat} {T S L : Nat → Int32} {N : Nat → Int64} {Y O F M A D I E H P : Nat → Int32}, ¬ B = m + 1 → dBlk B c W T S L N Y O F M A D I E H P → dBlk B c' W' T S L N Y O F M A D I E H P := fun hB h => h.mv (fun k hk => s3 _ (by omega)) (fun k hk => s5 _ (by omega))
  have nw : ∀ {T S L : Nat → Int32} {N : Nat → Int64} {Y O F M A D I E H P : Nat → Int32}, dBlk 0 c W T S L N Y O F M A D I E H P → dBlk (m + 1) c' W' T S L N Y O F M A D I E H P := fun h => h.mv (fun k hk => s2 k hk) (fun k hk => s4 k hk)
  have g3 : gd (iN m) 3 = true := iN_gd (by omega) (by decide)
  by_cases m0 : m = 0
  · obtain ⟨T1, S1, L1, N1, B1, O1, F1, M1, A1, D1, I1, E1, H1, P1, k1, k2⟩ := dBlk.cp (T0 := Tx) (S0 := Sx) (L0 := Lx) (N0v := Nx) (Y0 := Bx) (O0 := Ox) (F0v := Fx) (M0 := Mx) (A0 := Ax) (D0 := Dx) (I0 := Ix) (E0 := Ex) (H0 := Hx) (P0 := Px) h0
    refine ⟨iN (m + 1), upd (upd T0 10 (iN (m + 1))) 14 0, upd (upd (upd Tm 1 0) 0 0) 23 (iN (m + 1)), c', W', m + 1, T1, S1, L1, N1, B1, O1, F1, M1, A1, D1, I1, E1, H1, P1, Ty, Sy, Ly, Ny, By, Oy, Fy, My, Ay, Dy, Iy, Ey, Hy, Py, Tz, Sz, Lz, Nz, Bz, Oz, Fz, Mz, Az, Dz, Iz, Ez, Hz, Pz, ?_, mo, sr, rfl, by omega, keep (by omega) h0, fun _ => by rw [show 1 = m + 1 by omega]; exact nw k2, fun h => absurd h (by omega), fun h => absurd h (by omega)⟩
    rw [f_X11_mark, h10, if_pos hi, ck_y g3, if_pos (show iN m = (0 : Int32) from congrArg iN m0), k1, Option.bind_some, ei]
    rfl
  by_cases m1 : m = 1
  · obtain ⟨T1, S1, L1, N1, B1, O1, F1, M1, A1, D1, I1, E1, H1, P1, k1, k2⟩ := dBlk.cp (T0 := Ty) (S0 := Sy) (L0 := Ly) (N0v := Ny) (Y0 := By) (O0 := Oy) (F0v := Fy) (M0 := My) (A0 := Ay) (D0 := Dy) (I0 := Iy) (E0 := Ey) (H0 := Hy) (P0 := Py) h0
    refine ⟨iN (m + 1), upd (upd T0 10 (iN (m + 1))) 14 0, upd (upd (upd Tm 1 0) 0 0) 23 (iN (m + 1)), c', W', m + 1, Tx, Sx, Lx, Nx, Bx, Ox, Fx, Mx, Ax, Dx, Ix, Ex, Hx, Px, T1, S1, L1, N1, B1, O1, F1, M1, A1, D1, I1, E1, H1, P1, Tz, Sz, Lz, Nz, Bz, Oz, Fz, Mz, Az, Dz, Iz, Ez, Hz, Pz, ?_, mo, sr, rfl, by omega, keep (by omega) h0, fun _ => keep (by omega) (b1 (by omega)), fun _ => by rw [show 2 = m + 1 by omega]; exact nw k2, fun h => absurd h (by omega)⟩
    rw [f_X11_mark, h10, if_pos hi, ck_y g3, if_neg (show ¬ iN m = (0 : Int32) from iN_ne (b := 0) (by omega) (by decide) m0), if_pos (show iN m = (1 : Int32) from congrArg iN m1), k1, Option.bind_some, ei]
    rfl
  have m2 : m = 2 := by omega
  obtain ⟨T1, S1, L1, N1, B1, O1, F1, M1, A1, D1, I1, E1, H1, P1, k1, k2⟩ := dBlk.cp (T0 := Tz) (S0 := Sz) (L0 := Lz) (N0v := Nz) (Y0 := Bz) (O0 := Oz) (F0v := Fz) (M0 := Mz) (A0 := Az) (D0 := Dz) (I0 := Iz) (E0 := Ez) (H0 := Hz) (P0 := Pz) h0
  refine ⟨iN (m + 1), upd (upd T0 10 (iN (m + 1))) 14 0, upd (upd (upd Tm 1 0) 0 0) 23 (iN (m + 1)), c', W', m + 1, Tx, Sx, Lx, Nx, Bx, Ox, Fx, Mx, Ax, Dx, Ix, Ex, Hx, Px, Ty, Sy, Ly, Ny, By, Oy, Fy, My, Ay, Dy, Iy, Ey, Hy, Py, T1, S1, L1, N1, B1, O1, F1, M1, A1, D1, I1, E1, H1, P1, ?_, mo, sr, rfl, by omega, keep (by omega) h0, fun _ => keep (by omega) (b1 (by omega)), fun _ => keep (by omega) (b2 (by omega)), fun _ => by rw [show 3 = m + 1 by omega]; exact nw k2⟩
  rw [f_X11_mark, h10, if_pos hi, ck_y g3, if_neg (show ¬ iN m = (0 : Int32) from iN_ne (b := 0) (by omega) (by decide) m0), if_neg (show ¬ iN m = (1 : Int32) from iN_ne (b := 1) (by omega) (by decide) m1), k1, Option.bind_some, ei]
  rfl
theorem q_back (hs : sR T0 Tm L K) (h10 : T0 10 = iN m) (hm : m ≤ 3) (a2 a3 a4 a5 : Nat) : (m = 0 ∧ ∃ U Um, f_X11_back T0 a2 a3 a4 a5 = some (-1, U, a2, a3, a4, a5) ∧ f_X12_back Tm c W = some (-1, Um, c, W) ∧ sR U Um L K ∧ U 10 = iN m) ∨ ∃ k U Um c' W', m = k + 1 ∧ k ≤ 2 ∧ f_X11_back T0 a2 a3 a4 a5 = some (iN k, U, if k = 0 then a3 else if k = 1 then a4 else a5, if k = 0 then a2 else a3, if k = 1 then a2 else a4, if k = 2 then a2 else a5) ∧ f_X12_back Tm c W = some (iN k, Um, c', W') ∧ sR U Um L (K.1, iN k) ∧ U 10 = iN k ∧ (∀ j, j < 372 → c' (372 * 0 + j) = c (372 * m + j)) ∧ (∀ j, ¬ j < 372 → c' j = c j) ∧ (∀ j, j < 5 → W' (5 * 0 + j) = W (5 * m + j)) ∧ ∀ j, ¬ j < 5 → W' j = W j := by
  have t10 : upd (upd Tm 1 0) 0 0 23 = iN m := by
    rw [upd_n (by decide), upd_n (by decide)]; exact hs.2.2.2.1.1.symm.trans h10
  rcases Nat.eq_zero_or_pos m with m0 | m0
  · subst m0
    refine Or.inl ⟨rfl, upd T0 14 8, upd (upd (upd Tm 1 0) 0 0) 0 8, ?_, ?_, sR_no hs, (upd_n (by decide)).trans h10⟩
    · rw [f_X11_back, h10, if_pos (by decide)]; rfl
    · rw [f_X12_back, t10, if_pos (show iN 0 = (0 : Int32) from rfl)]; rfl
  · obtain ⟨k, rfl⟩ : ∃ k, m = k + 1 := ⟨m - 1, by omega⟩
    have ei : (iN (k + 1) - 1 : Int32) = iN k := iN_sub (a := k + 1) (b := 1) (by omega)
    obtain ⟨c', W', s1, s2, s3, s4, s5⟩ := e12_copy (A := k + 1) (B := 0) (by omega) (by decide) (by omega) c W
    have s1' : f_X12_copy c W (iN (k + 1)) 0 = some (c', W') := s1
    refine Or.inr ⟨k, upd (upd T0 10 (iN k)) 14 0, upd (upd (upd Tm 1 0) 0 0) 23 (iN k), c', W', rfl, by omega, ?_, ?_, ⟨rfl, hs.2.1, hs.2.2.1, ⟨rfl, rfl⟩, hs.2.2.2.2⟩, rfl, s2, fun j hj => s3 j (by omega), s4, fun j hj => s5 j (by omega)⟩
    · have g3 : gd (iN k) 3 = true := iN_gd (by omega) (by decide)
      rw [f_X11_back, h10, if_neg (by rw [show (0 : Int32) = iN 0 from rfl, iN_le (by omega) (by omega)]; omega), if_pos (by rw [show (3 : Int32) = iN 3 from rfl, iN_le (by omega) (by omega)]; omega), ei, upd_s, ck_y g3]
      rcases (show k = 0 ∨ k = 1 ∨ k = 2 by omega) with rfl | rfl | rfl <;> rfl
    · rw [f_X12_back, t10, if_neg (by exact iN_ne (b := 0) (by omega) (by decide) (by omega)), s1', Option.bind_some, ei, upd_s]
end MRK2
