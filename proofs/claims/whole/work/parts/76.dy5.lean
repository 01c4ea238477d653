/-! The duchy read: part by part. -/
section DY5
variable {b : Nat → Nat} {n p q k : Nat} {V Vm T Tm : Nat → Int32} {J Jm : Int64} {V2 : Nat → Int64} {d : Nat → Nat} {w Na W : Nat → Int64} {c Rr Td S Li By Of Fe Mi : Nat → Int32}
/-- what comes of a part and its sign -/
def ptR (b : Nat → Nat) (n : Nat) (V Vm : Nat → Int32) (V2 : Nat → Int64) (q : Nat) (Rr T : Nat → Int32) (J : Int64) (Td S : Nat → Int32) (Na : Nat → Int64) (Li Of By Fe Mi Tm : Nat → Int32) (Jm : Int64) (c : Nat → Int32) (W : Nat → Int64) : Prop := (∃ (Rr' T' : Nat → Int32) (J' : Int64) (Td' S' : Nat → Int32) (Na' : Nat → Int64) (Li' Of' By' Fe' Mi' Tm1 : Nat → Int32) (Jm1 : Int64) (c1 : Nat → Int32) (W1 : Nat → Int64) (s : Int32) (Tm' : Nat → Int32) (Jm' : Int64), f_X4_takePart Rr T J Td V V2 S Na Li Of By Fe Mi = some (0, Rr', T', J', Td', S', Na', Li', Of', By', Fe', Mi') ∧ f_X12_readPart Tm Jm Vm c W = some (Tm1, Jm1, c1, W1) ∧ f_X12_isSign Tm1 59 = some s ∧ f_X12_must Tm1 Jm1 Vm s = some (Tm', Jm') ∧ flS T' Tm' ∧ frN Tm Tm' ∧ frB c c1 ∧ frW W W1) ∨ (∃ (Rr' T' : Nat → Int32) (J' : Int64) (Td' S' : Nat → Int32) (Na' : Nat → Int64) (Li' Of' By' Fe' Mi' Tm1 : Nat → Int32) (Jm1 : Int64) (c1 : Nat → Int32) (W1 : Nat → Int64) (s : Int32) (Tm' : Nat → Int32) (Jm' : Int64), f_X4_takePart Rr T J Td V V2 S Na Li Of By Fe Mi = some (1, Rr', T', J', Td', S', Na', Li', Of', By', Fe', Mi') ∧ f_X12_readPart Tm Jm Vm c W = some (Tm1, Jm1, c1, W1) ∧ f_X12_isSign Tm1 59 = some s ∧ f_X12_must Tm1 Jm1 Vm s = some (Tm', Jm') ∧ frC T T' ∧ frN Tm Tm' ∧ frB c c1 ∧ frW W W1 ∧ ∃ d' w' p' q' k', dyS b n p' q' k' Rr' T' J' Td' S' Li' Na' By' Of' Fe' Mi' Tm' Jm' c1 W1 d' w' ∧ q ≤ p')
theorem ptR_f {Rr' T' : Nat → Int32} {J' : Int64} {Td' S' : Nat → Int32} {Na' : Nat → Int64} {Li' Of' By' Fe' Mi' Tm1 : Nat → Int32} {Jm1 : Int64} {c1 : Nat → Int32} {W1 : Nat → Int64} (h1 : f_X4_takePart Rr T J Td V V2 S Na Li Of By Fe Mi = some (0, Rr', T', J', Td', S', Na', Li', Of', By', Fe', Mi')) (h2 : f_X12_readPart Tm Jm Vm c W = some (Tm1, Jm1, c1, W1)) (h3 : flS T' Tm1) (h4 : frN Tm Tm1) (h5 : frB c c1) (h6 : frW W W1) : ptR b n V Vm V2 q Rr T J Td S Na Li Of By Fe Mi Tm Jm c W := by
  obtain ⟨s, hs⟩ := t_isSign Tm1 59
  exact Or.inl ⟨Rr', T', J', Td', S', Na', Li', Of', By', Fe', Mi', Tm1, Jm1, c1, W1, s, Tm1, Jm1, h1, h2, hs, b_must h3.b Vm s, h3, h4, h5, h6⟩
theorem dyS_t {p' q' k' : Nat} {T' : Nat → Int32} {J' : Int64} {Tm' : Nat → Int32} {Jm' : Int64} (H : dyS b n p q k Rr T J Td S Li Na By Of Fe Mi Tm Jm c W d w) (h : rdS b n p' q' k' T' J' Tm' Jm') (hm : frM Tm Tm') : dyS b n p' q' k' Rr T' J' Td S Li Na By Of Fe Mi Tm' Jm' c W d w := ⟨h, ⟨by rw [hm 24 (by omega)]; exact H.2.1.1, by rw [hm 25 (by omega)]; exact H.2.1.2⟩, H.2.2⟩
theorem ptR_s (hX : tX b n V Vm) (hC : cOk V2) {q0 : Nat} {Rr1 T1 : Nat → Int32} {J1 : Int64} {Td1 S1 : Nat → Int32} {Na1 : Nat → Int64} {Li1 Of1 By1 Fe1 Mi1 Tm1 : Nat → Int32} {Jm1 : Int64} {c1 : Nat → Int32} {W1 : Nat → Int64} (h1 : f_X4_takePart Rr T J Td V V2 S Na Li Of By Fe Mi = (f_X8_passSign T1 J1 V V2 59).bind (fun z => if z.1 = 0 then some (0, Rr1, z.2.1, z.2.2, Td1, S1, Na1, Li1, Of1, By1, Fe1, Mi1) else some (1, Rr1, z.2.1, z.2.2, Td1, S1, Na1, Li1, Of1, By1, Fe1, Mi1))) (h2 : f_X12_readPart Tm Jm Vm c W = some (Tm1, Jm1, c1, W1)) (h3 : frC T T1) (h4 : frN Tm Tm1) (h5 : frB c c1) (h6 : frW W W1) {d1 : Nat → Nat} {w1 : Nat → Int64} {p1 q1 k1 : Nat} (H : dyS b n p1 q1 k1 Rr1 T1 J1 Td1 S1 Li1 Na1 By1 Of1 Fe1 Mi1 Tm1 Jm1 c1 W1 d1 w1) (hp : q0 ≤ p1) : ptR b n V Vm V2 q0 Rr T J Td S Na Li Of By Fe Mi Tm Jm c W := by
  rcases p_sign hX hC H.1 with ⟨T', Tm', s, a1, a2, a3, a4, a5⟩ | ⟨T', J', Tm', Jm', s, -, a1, a2, a3, fr1, fr2, p', q', k', hS, hp'⟩
  · refine Or.inl ⟨Rr1, T', J1, Td1, S1, Na1, Li1, Of1, By1, Fe1, Mi1, Tm1, Jm1, c1, W1, s, Tm', Jm1, ?_, h2, a2, a3, a4, h4.t a5.n, h5, h6⟩
    rw [h1, a1]; rfl
  · refine Or.inr ⟨Rr1, T', J', Td1, S1, Na1, Li1, Of1, By1, Fe1, Mi1, Tm1, Jm1, c1, W1, s, Tm', Jm', ?_, h2, a2, a3, h3.t fr1, h4.t fr2.n, h5, h6, d1, w1, p', q', k', dyS_t H hS fr2, by have := tkS_pq H.1.1; omega⟩
    rw [h1, a1]; rfl
theorem wI_eq {x i : Nat} (hx : x ≤ 23) (hi : i < 23) : (wI32 x = iN i) = (x = i) := by
  unfold wI32
  by_cases e : x < 23
  · rw [if_pos e, iN_eq (by omega) (by omega)]
  · rw [if_neg e]
    exact propext ⟨fun h => absurd h.symm (iN_ne_m1 (by omega)), fun h => by omega⟩
theorem kx_le (b : Nat → Nat) (p q k : Nat) : kx k (wx b p q) ≤ 23 := by
  have := wx_le b p q
  unfold kx
  split <;> omega
theorem kx_k {x i : Nat} (h : kx k x = i) (hi : i < 23) : ¬ k = 4 := fun h4 => by
  unfold kx at h
  rw [if_neg (by omega)] at h
  omega
theorem d_part (hX : tX b n V Vm) (hC : cOk V2) (H : dyS b n p q k Rr T J Td S Li Na By Of Fe Mi Tm Jm c W d w) : ptR b n V Vm V2 q Rr T J Td S Na Li Of By Fe Mi Tm Jm c W := by
  have h1 := H.1.1
  have hxl := kx_le b p q k
  have cw := e8_word h1
  have m0 : f_X12_isRow Tm Jm = some (if kx k (wx b p q) = 0 then 1 else 0) := (e12_isRow h1).trans (congrArg some (ifc (kx_eq (by decide))))
  have m1 : f_X12_isOdds Tm Jm = some (if kx k (wx b p q) = 1 then 1 else 0) := (e12_isOdds h1).trans (congrArg some (ifc (kx_eq (by decide))))
  have m2 : f_X12_isHarbour Tm Jm = some (if kx k (wx b p q) = 2 then 1 else 0) := (e12_isHarbour h1).trans (congrArg some (ifc (kx_eq (by decide))))
  have m3 : f_X12_isTraveller Tm Vm = some (if kx k (wx b p q) = 3 then 1 else 0) := (e12_isTraveller hX h1).trans (congrArg some (ifc (kx_eq (by decide))))
  have m6 : f_X12_isTold Tm Jm = some (if kx k (wx b p q) = 6 then 1 else 0) := (e12_isTold h1).trans (congrArg some (ifc (kx_eq (by decide))))
  have e0 : (wI32 (kx k (wx b p q)) = 0) = (kx k (wx b p q) = 0) := wI_eq hxl (by decide)
  have e1 : (wI32 (kx k (wx b p q)) = 1) = (kx k (wx b p q) = 1) := wI_eq hxl (by decide)
  have e2 : (wI32 (kx k (wx b p q)) = 2) = (kx k (wx b p q) = 2) := wI_eq hxl (by decide)
  have e3 : (wI32 (kx k (wx b p q)) = 3) = (kx k (wx b p q) = 3) := wI_eq hxl (by decide)
  have e6 : (wI32 (kx k (wx b p q)) = 6) = (kx k (wx b p q) = 6) := wI_eq hxl (by decide)
  have one : ¬ (1 : Int32) = 0 := by decide
  by_cases g0 : kx k (wx b p q) = 0
  · have hk := kx_k g0 (by decide)
    rw [if_pos g0] at m0
    have mr : f_X12_readPart Tm Jm Vm c W = (f_X12_readRow Tm Jm c Vm).bind (fun z8 => some (z8.1, z8.2.1, z8.2.2, W)) := by rw [f_X12_readPart, m0, Option.bind_some, if_neg one]
    rcases d_row hX hC H hk with ⟨T', J', Td', S', Tm', Jm', c', a1, a2, a3, a4, a5⟩ | ⟨T', J', Td', S', Tm', Jm', c', d', a1, a2, a3, a4, a5, p', q', k', a6, a7⟩
    · refine ptR_f (Rr' := Rr) (J' := J') (Td' := Td') (S' := S') (Na' := Na) (Li' := Li) (Of' := Of) (By' := By) (Fe' := Fe) (Mi' := Mi) ?_ (mr.trans (by rw [a2]; rfl)) a3 a4 a5 (frW.r W)
      rw [f_X4_takePart, cw, Option.bind_some, if_pos (by rw [e0]; exact g0), a1]; rfl
    · refine ptR_s hX hC ?_ (mr.trans (by rw [a2]; rfl)) a3 a4 a5 (frW.r W) a6 a7
      rw [f_X4_takePart, cw, Option.bind_some, if_pos (by rw [e0]; exact g0), a1]; rfl
  · rw [if_neg g0] at m0
    by_cases g1 : kx k (wx b p q) = 1
    · have hk := kx_k g1 (by decide)
      rw [if_pos g1] at m1
      have mr : f_X12_readPart Tm Jm Vm c W = (f_X12_readOdds Tm Jm Vm c).bind (fun z22 => some (z22.1, z22.2.1, z22.2.2, W)) := by rw [f_X12_readPart, m0, Option.bind_some, if_pos rfl, m1, Option.bind_some, if_neg one]
      rcases d_odds hX hC H hk with ⟨Rr', T', J', Td', Tm', Jm', c', a1, a2, a3, a4, a5⟩ | ⟨Rr', T', J', Td', Tm', Jm', c', d', a1, a2, a3, a4, a5, p', q', k', a6, a7⟩
      · refine ptR_f (Rr' := Rr') (J' := J') (Td' := Td') (S' := S) (Na' := Na) (Li' := Li) (Of' := Of) (By' := By) (Fe' := Fe) (Mi' := Mi) ?_ (mr.trans (by rw [a2]; rfl)) a3 a4 a5 (frW.r W)
        rw [f_X4_takePart, cw, Option.bind_some, if_neg (by rw [e0]; exact g0), if_pos (by rw [e1]; exact g1), a1]; rfl
      · refine ptR_s hX hC ?_ (mr.trans (by rw [a2]; rfl)) a3 a4 a5 (frW.r W) a6 a7
        rw [f_X4_takePart, cw, Option.bind_some, if_neg (by rw [e0]; exact g0), if_pos (by rw [e1]; exact g1), a1]; rfl
    · rw [if_neg g1] at m1
      by_cases g2 : kx k (wx b p q) = 2
      · have hk := kx_k g2 (by decide)
        rw [if_pos g2] at m2
        have mr : f_X12_readPart Tm Jm Vm c W = (f_X12_readHarbour Tm Jm Vm c).bind (fun z36 => some (z36.1, z36.2.1, z36.2.2, W)) := by rw [f_X12_readPart, m0, Option.bind_some, if_pos rfl, m1, Option.bind_some, if_pos rfl, m2, Option.bind_some, if_neg one]
        rcases d_harbour hX hC H hk with ⟨Rr', T', J', Td', Tm', Jm', c', a1, a2, a3, a4, a5⟩ | ⟨Rr', T', J', Td', Tm', Jm', c', d', a1, a2, a3, a4, a5, p', q', k', a6, a7⟩
        · refine ptR_f (Rr' := Rr') (J' := J') (Td' := Td') (S' := S) (Na' := Na) (Li' := Li) (Of' := Of) (By' := By) (Fe' := Fe) (Mi' := Mi) ?_ (mr.trans (by rw [a2]; rfl)) a3 a4 a5 (frW.r W)
          rw [f_X4_takePart, cw, Option.bind_some, if_neg (by rw [e0]; exact g0), if_neg (by rw [e1]; exact g1), if_pos (by rw [e2]; exact g2), a1]; rfl
        · refine ptR_s hX hC ?_ (mr.trans (by rw [a2]; rfl)) a3 a4 a5 (frW.r W) a6 a7
          rw [f_X4_takePart, cw, Option.bind_some, if_neg (by rw [e0]; exact g0), if_neg (by rw [e1]; exact g1), if_pos (by rw [e2]; exact g2), a1]; rfl
      · rw [if_neg g2] at m2
        by_cases g3 : kx k (wx b p q) = 3
        · have hk := kx_k g3 (by decide)
          rw [if_pos g3] at m3
          have mr : f_X12_readPart Tm Jm Vm c W = (f_X12_readNew Tm Jm c Vm W).bind (fun z50 => some (z50.1, z50.2.1, z50.2.2.1, z50.2.2.2)) := by rw [f_X12_readPart, m0, Option.bind_some, if_pos rfl, m1, Option.bind_some, if_pos rfl, m2, Option.bind_some, if_pos rfl, m3, Option.bind_some, if_neg one]
          rcases d_trav hX hC H hk with ⟨T', J', Td', Na', Li', Tm', Jm', c', W', a1, a2, a3, a4, a5, a6⟩ | ⟨T', J', Td', Na', Li', Tm', Jm', c', W', d', w', a1, a2, a3, a4, a5, a6, p', q', k', a7, a8⟩
          · refine ptR_f (Rr' := Rr) (J' := J') (Td' := Td') (S' := S) (Na' := Na') (Li' := Li') (Of' := Of) (By' := By) (Fe' := Fe) (Mi' := Mi) ?_ (mr.trans (by rw [a2]; rfl)) a3 a4 a5 a6
            rw [f_X4_takePart, cw, Option.bind_some, if_neg (by rw [e0]; exact g0), if_neg (by rw [e1]; exact g1), if_neg (by rw [e2]; exact g2), if_pos (by rw [e3]; exact g3), a1]; rfl
          · refine ptR_s hX hC ?_ (mr.trans (by rw [a2]; rfl)) a3 a4 a5 a6 a7 a8
            rw [f_X4_takePart, cw, Option.bind_some, if_neg (by rw [e0]; exact g0), if_neg (by rw [e1]; exact g1), if_neg (by rw [e2]; exact g2), if_pos (by rw [e3]; exact g3), a1]; rfl
        · rw [if_neg g3] at m3
          by_cases g6 : kx k (wx b p q) = 6
          · have hk := kx_k g6 (by decide)
            rw [if_pos g6] at m6
            have mr : f_X12_readPart Tm Jm Vm c W = (f_X12_readTelling Tm Jm c Vm W).bind (fun z64 => some (z64.1, z64.2.1, z64.2.2, W)) := by rw [f_X12_readPart, m0, Option.bind_some, if_pos rfl, m1, Option.bind_some, if_pos rfl, m2, Option.bind_some, if_pos rfl, m3, Option.bind_some, if_pos rfl, m6, Option.bind_some, if_neg one]
            rcases d_told hX hC H hk with ⟨T', J', Td', Of', By', Fe', Mi', Tm', Jm', c', a1, a2, a3, a4, a5⟩ | ⟨T', J', Td', Of', By', Fe', Mi', Tm', Jm', c', d', a1, a2, a3, a4, a5, p', q', k', a6, a7⟩
            · refine ptR_f (Rr' := Rr) (J' := J') (Td' := Td') (S' := S) (Na' := Na) (Li' := Li) (Of' := Of') (By' := By') (Fe' := Fe') (Mi' := Mi') ?_ (mr.trans (by rw [a2]; rfl)) a3 a4 a5 (frW.r W)
              rw [f_X4_takePart, cw, Option.bind_some, if_neg (by rw [e0]; exact g0), if_neg (by rw [e1]; exact g1), if_neg (by rw [e2]; exact g2), if_neg (by rw [e3]; exact g3), if_pos (by rw [e6]; exact g6), a1]; rfl
            · refine ptR_s hX hC ?_ (mr.trans (by rw [a2]; rfl)) a3 a4 a5 (frW.r W) a6 a7
              rw [f_X4_takePart, cw, Option.bind_some, if_neg (by rw [e0]; exact g0), if_neg (by rw [e1]; exact g1), if_neg (by rw [e2]; exact g2), if_neg (by rw [e3]; exact g3), if_pos (by rw [e6]; exact g6), a1]; rfl
          · rw [if_neg g6] at m6
            obtain ⟨T', Tm', b1, b2, b3, b4⟩ := p_amiss H.1
            refine ptR_f (Rr' := Rr) (J' := J) (Td' := Td) (S' := S) (Na' := Na) (Li' := Li) (Of' := Of) (By' := By) (Fe' := Fe) (Mi' := Mi) ?_ (show f_X12_readPart Tm Jm Vm c W = some (Tm', Jm, c, W) from ?_) b3 b4.n (frB.r c) (frW.r W)
            · rw [f_X4_takePart, cw, Option.bind_some, if_neg (by rw [e0]; exact g0), if_neg (by rw [e1]; exact g1), if_neg (by rw [e2]; exact g2), if_neg (by rw [e3]; exact g3), if_neg (by rw [e6]; exact g6), f_X4_takePart_168, b1]; rfl
            · rw [f_X12_readPart, m0, Option.bind_some, if_pos rfl, m1, Option.bind_some, if_pos rfl, m2, Option.bind_some, if_pos rfl, m3, Option.bind_some, if_pos rfl, m6, Option.bind_some, if_pos rfl, b2]; rfl
/-- the loop over the parts -/
theorem d_loop (hX : tX b n V Vm) (hC : cOk V2) (Ta : Nat → Int32) : ∀ (j p q k i mC mM : Nat) (Rr T : Nat → Int32) (J : Int64) (Td S : Nat → Int32) (Na : Nat → Int64) (Li Of By Fe Mi Tm : Nat → Int32) (Jm : Int64) (c : Nat → Int32) (W : Nat → Int64) (d : Nat → Nat) (w : Nat → Int64), n - p ≤ j → i ≤ p → dyS b n p q k Rr T J Td S Li Na By Of Fe Mi Tm Jm c W d w → ∃ (ok : Int32) (Rr' T' : Nat → Int32) (J' : Int64) (Td' S' : Nat → Int32) (Na' : Nat → Int64) (Li' Of' By' Fe' Mi' Tm' : Nat → Int32) (Jm' : Int64) (c' : Nat → Int32) (W' : Nat → Int64), iter (g_X4_take_22 V V2 (iN n)) (fun _ _ _ _ _ _ _ _ _ _ _ _ _ => none) (mC + j + 1) (iN i) Rr T J Td Ta S Na Li Of By Fe Mi = some (ok, Rr', T', J', Td', Ta, S', Na', Li', Of', By', Fe', Mi') ∧ iter (g_X12_duchy_38 Vm (iN n)) (fun _ _ _ _ => none) (mM + j + 2) Tm Jm c W = f_X12_duchy_69 Vm (iN n) Tm' Jm' c' W' ∧ frN Tm Tm' ∧ frB c c' ∧ frW W W' ∧ ((ok = 0 ∧ flS T' Tm') ∨ (ok = 1 ∧ frC T T' ∧ Tm' 12 = 0 ∧ ∃ d' w', dInv d' ∧ bB 1488 d' c' ∧ kRep d' w' Td' S' Li' Na' By' Of' Fe' Mi' ∧ ∀ i, i < d' 2 → W' (20 + i) = w' i)) := by
  have hn := hX.1
  intro j
  induction j with
  | zero =>
    intro p q k i mC mM Rr T J Td S Na Li Of By Fe Mi Tm Jm c W d w hj hi H
    have hl := H.1.1.le
    have hk : k = 0 := hl.2.2.2.1.mpr (by omega)
    refine ⟨1, Rr, T, J, Td, S, Na, Li, Of, By, Fe, Mi, Tm, Jm, c, W, ?_, ?_, fun _ _ => rfl, frB.r c, frW.r W, Or.inr ⟨rfl, frC.r T, H.1.2, d, w, H.2.2⟩⟩
    · rw [iter_succ, g_X4_take_22]
      by_cases e : n ≤ i
      · rw [if_pos (by rw [iN_le (by omega) (by omega)]; exact e)]
      · rw [if_neg (by rw [iN_le (by omega) (by omega)]; exact e), f_X8_atEnd, if_pos (show T 4 = 0 by rw [H.1.1.2.1.1, hk]; rfl), Option.bind_some, if_neg (by decide)]
    · rw [show mM + 0 + 2 = mM + 1 + 1 by omega, iter_succ, g_X12_duchy_38, if_pos H.1.2, if_pos (show Tm 14 = 0 by rw [H.1.1.2.2.1.1, hk]; rfl)]
  | succ j ih =>
    intro p q k i mC mM Rr T J Td S Na Li Of By Fe Mi Tm Jm c W d w hj hi H
    have hl := H.1.1.le
    by_cases hk : k = 0
    · refine ⟨1, Rr, T, J, Td, S, Na, Li, Of, By, Fe, Mi, Tm, Jm, c, W, ?_, ?_, fun _ _ => rfl, frB.r c, frW.r W, Or.inr ⟨rfl, frC.r T, H.1.2, d, w, H.2.2⟩⟩
      · rw [iter_succ, g_X4_take_22]
        by_cases e : n ≤ i
        · rw [if_pos (by rw [iN_le (by omega) (by omega)]; exact e)]
        · rw [if_neg (by rw [iN_le (by omega) (by omega)]; exact e), f_X8_atEnd, if_pos (show T 4 = 0 by rw [H.1.1.2.1.1, hk]; rfl), Option.bind_some, if_neg (by decide)]
      · rw [show mM + (j + 1) + 2 = (mM + j + 2) + 1 by omega, iter_succ, g_X12_duchy_38, if_pos H.1.2, if_pos (show Tm 14 = 0 by rw [H.1.1.2.2.1.1, hk]; rfl)]
    · have hpn : p < n := by
        have h9 := hl.2.2.2.1
        have h8 := hl.2.1
        apply Classical.byContradiction
        intro h7
        exact hk (h9.mpr (by omega))
      have hpq := hl.2.2.2.2 hk
      have cl : ∀ z, g_X4_take_22 V V2 (iN n) z (iN i) Rr T J Td Ta S Na Li Of By Fe Mi = (f_X4_takePart Rr T J Td V V2 S Na Li Of By Fe Mi).bind (fun z42 => if z42.1 = 0 then (some (0, z42.2.1, z42.2.2.1, z42.2.2.2.1, z42.2.2.2.2.1, Ta, z42.2.2.2.2.2.1, z42.2.2.2.2.2.2.1, z42.2.2.2.2.2.2.2.1, z42.2.2.2.2.2.2.2.2.1, z42.2.2.2.2.2.2.2.2.2.1, z42.2.2.2.2.2.2.2.2.2.2.1, z42.2.2.2.2.2.2.2.2.2.2.2)) else (z (iN i + 1) z42.2.1 z42.2.2.1 z42.2.2.2.1 z42.2.2.2.2.1 Ta z42.2.2.2.2.2.1 z42.2.2.2.2.2.2.1 z42.2.2.2.2.2.2.2.1 z42.2.2.2.2.2.2.2.2.1 z42.2.2.2.2.2.2.2.2.2.1 z42.2.2.2.2.2.2.2.2.2.2.1 z42.2.2.2.2.2.2.2.2.2.2.2)) := fun z => by
        rw [g_X4_take_22, if_neg (by rw [iN_le (by omega) (by omega)]; omega), f_X8_atEnd, if_neg (show ¬ T 4 = 0 by rw [H.1.1.2.1.1]; exact iN_ne (b := 0) (by omega) (by decide) hk), Option.bind_some, if_pos rfl]
      have ml : ∀ z, g_X12_duchy_38 Vm (iN n) z Tm Jm c W = (f_X12_readPart Tm Jm Vm c W).bind (fun z53 => (f_X12_isSign z53.1 59).bind (fun z60 => (f_X12_must z53.1 z53.2.1 Vm z60).bind (fun z63 => z z63.1 z63.2 z53.2.2.1 z53.2.2.2))) := fun z => by
        rw [g_X12_duchy_38, if_pos H.1.2, if_neg (show ¬ Tm 14 = 0 by rw [H.1.1.2.2.1.1]; exact iN_ne (b := 0) (by omega) (by decide) hk)]
      rw [show mC + (j + 1) + 1 = (mC + j + 1) + 1 by omega, show mM + (j + 1) + 2 = (mM + j + 2) + 1 by omega]
      rcases d_part hX hC H with ⟨Rr', T', J', Td', S', Na', Li', Of', By', Fe', Mi', Tm1, Jm1, c1, W1, s, Tm', Jm', a1, a2, a3, a4, a5, a6, a7, a8⟩ | ⟨Rr', T', J', Td', S', Na', Li', Of', By', Fe', Mi', Tm1, Jm1, c1, W1, s, Tm', Jm', a1, a2, a3, a4, a5, a6, a7, a8, d', w', p', q', k', a9, hp'⟩
      · refine ⟨0, Rr', T', J', Td', S', Na', Li', Of', By', Fe', Mi', Tm', Jm', c1, W1, ?_, ?_, a6, a7, a8, Or.inl ⟨rfl, a5⟩⟩
        · rw [iter_succ, cl, a1, Option.bind_some, if_pos rfl]
        · rw [iter_succ, ml, a2, Option.bind_some]
          dsimp only
          rw [a3, Option.bind_some, a4, Option.bind_some]
          dsimp only
          rw [show mM + j + 2 = (mM + j + 1) + 1 by omega, iter_succ, g_X12_duchy_38, if_neg a5.b.ne]
      · obtain ⟨ok, R9, T9, J9, Td9, S9, Na9, Li9, Of9, By9, Fe9, Mi9, Tm9, Jm9, c9, W9, x1, x2, x3, x4, x5, x6⟩ := ih p' q' k' (i + 1) mC mM Rr' T' J' Td' S' Na' Li' Of' By' Fe' Mi' Tm' Jm' c1 W1 d' w' (by omega) (by omega) a9
        refine ⟨ok, R9, T9, J9, Td9, S9, Na9, Li9, Of9, By9, Fe9, Mi9, Tm9, Jm9, c9, W9, ?_, ?_, a6.t x3, a7.t x4, a8.t x5, ?_⟩
        · rw [iter_succ, cl, a1, Option.bind_some, if_neg (show ¬ (1 : Int32) = 0 by decide), show (iN i + 1 : Int32) = iN (i + 1) from iN_add i 1]
          exact x1
        · rw [iter_succ, ml, a2, Option.bind_some]
          dsimp only
          rw [a3, Option.bind_some, a4, Option.bind_some]
          exact x2
        · rcases x6 with ⟨y1, y2⟩ | ⟨y1, y2, y3⟩
          · exact Or.inl ⟨y1, y2⟩
          · exact Or.inr ⟨y1, a5.t y2, y3⟩
end DY5
