/-! The duchy read: a traveller. -/
/-- one more traveller -/
def cmh (d : Nat → Nat) (l h : Nat) : Nat → Nat := updN (updN (updN d (42 + d 2) l) (47 + d 2) h) 2 (d 2 + 1)
section DY2
variable {b : Nat → Nat} {n p q k : Nat} {V Vm T Tm : Nat → Int32} {J Jm : Int64} {V2 : Nat → Int64} {d : Nat → Nat} {w Na W : Nat → Int64} {c Rr Td S Li By Of Fe Mi : Nat → Int32}
theorem cmh_n {l h j : Nat} (e : j ≠ 42 + d 2 ∧ j ≠ 47 + d 2 ∧ j ≠ 2) : cmh d l h j = d j := by
  unfold cmh
  rw [updN_n e.2.2, updN_n e.2.1, updN_n e.1]
theorem cmh_2 {l h : Nat} : cmh d l h 2 = d 2 + 1 := updN_s
theorem cmh_42 {l h : Nat} (e : d 2 < 5) : cmh d l h (42 + d 2) = l := by
  unfold cmh
  rw [updN_n (by omega), updN_n (by omega), updN_s]
theorem cmh_47 {l h : Nat} (e : d 2 < 5) : cmh d l h (47 + d 2) = h := by
  unfold cmh
  rw [updN_n (by omega), updN_s]
theorem cmh_inv (hd : dInv d) {l h : Nat} (e : d 2 < 5) (hl : l ≤ 16) (hh : h ≤ 1) : dInv (cmh d l h) := by
  have hm9 := hd.many
  have ec : cells (cmh d l h) = cells d := by
    unfold cells
    rw [cmh_n (by omega), cmh_n (by omega)]
  refine ⟨?_, fun j hj => ?_, fun j hj => ?_, fun t ht => ?_, fun z => ?_⟩
  · rw [ec, cmh_2, cmh_n (by omega), cmh_n (by omega), cmh_n (by omega), cmh_n (by omega), cmh_n (by omega)]
    have h1 := hd.1
    exact ⟨h1.1, h1.2.1, by omega, h1.2.2.2⟩
  · rw [cmh_n (by omega)]; exact hd.2.1 j hj
  · have hj9 := hd.trav hj
    constructor
    · by_cases e2 : j = d 2
      · rw [e2, cmh_42 e]; exact hl
      · rw [cmh_n (by omega)]; exact hj9.1
    · by_cases e2 : j = d 2
      · rw [e2, cmh_47 e]; exact hh
      · rw [cmh_n (by omega)]; exact hj9.2
  · rw [cmh_n (by omega)] at ht
    have ht9 := hd.tell ht
    rw [ec, cmh_2, cmh_n (by omega), cmh_n (by omega), cmh_n (by omega), cmh_n (by omega)]
    exact ⟨by omega, ht9.2⟩
  · unfold tellOf
    rw [cmh_n (by omega)]
    exact Nat.le_trans (Nat.le_of_eq (sm_congr (fun t ht => by rw [cmh_n (by omega)]))) (hd.2.2.2.2 z)
theorem cmh_k (hd : dInv d) (hk : kRep d w Td S Li Na By Of Fe Mi) {l h : Nat} (e : d 2 < 5) (J : Int64) {T' : Nat → Int32} (hT : T' 0 = Td 0 ∧ T' 1 = Td 1 ∧ T' 2 = Td 2 ∧ T' 3 = Td 3 ∧ T' 4 = iN (d 2 + 1) ∧ T' 5 = iN (hset d + h * 2 ^ d 2) ∧ T' 6 = Td 6) : kRep (cmh d l h) (vp_updL w (d 2) J) T' S (upd Li (d 2) (iN l)) (vp_updL Na (d 2) J) By Of Fe Mi := by
  have hm9 := hd.many
  have h36 := hd.c36
  have ec : cells (cmh d l h) = cells d := by
    unfold cells
    rw [cmh_n (by omega), cmh_n (by omega)]
  have eh : hset (cmh d l h) = hset d + h * 2 ^ d 2 := by
    unfold hset
    rw [cmh_2, sm_succ, cmh_47 e]
    congr 1
    exact sm_congr (fun j hj => by rw [cmh_n (by omega)])
  refine ⟨?_, ?_, ?_, ?_, ?_, ?_, ?_, ?_⟩
  · unfold tRep
    rw [eh, cmh_2, cmh_n (by omega), cmh_n (by omega), cmh_n (by omega), cmh_n (by omega), cmh_n (by omega), hT.1, hT.2.1, hT.2.2.1, hT.2.2.2.1, hT.2.2.2.2.1, hT.2.2.2.2.2.1, hT.2.2.2.2.2.2]
    have ht := hk.1
    exact ⟨ht.1, ht.2.1, ht.2.2.1, ht.2.2.2.1, rfl, rfl, ht.2.2.2.2.2.2⟩
  · rw [ec]; exact aRep_o hk.2.1 (fun j _ _ => cmh_n (by omega))
  · rw [cmh_2]
    intro j hj
    by_cases e2 : j = d 2
    · rw [e2, upd_s, cmh_42 e]
    · rw [upd_n e2, cmh_n (by omega)]; exact hk.2.2.1 j (by omega)
  · rw [cmh_2]
    intro j hj
    unfold vp_updL
    by_cases e2 : j = d 2
    · rw [if_pos e2, if_pos e2]
    · rw [if_neg e2, if_neg e2]; exact hk.2.2.2.1 j (by omega)
  · rw [cmh_n (by omega)]; exact aRep_o hk.2.2.2.2.1 (fun j _ _ => cmh_n (by omega))
  · rw [cmh_n (by omega)]; exact aRep_o hk.2.2.2.2.2.1 (fun j _ _ => cmh_n (by omega))
  · rw [cmh_n (by omega)]; exact aRep_o hk.2.2.2.2.2.2.1 (fun j _ _ => cmh_n (by omega))
  · rw [cmh_n (by omega)]; exact aRep_o hk.2.2.2.2.2.2.2 (fun j _ _ => cmh_n (by omega))
theorem b_new91 (h : bad T) (V : Nat → Int32) (x : Int32) (c : Nat → Int32) (W : Nat → Int64) : f_X12_readNew_91 V x T J c W = some (T, J, c, W) := by
  obtain ⟨v1, h1⟩ := t_isLies T J
  obtain ⟨v2, h2⟩ := t_isHeard T J
  rw [f_X12_readNew_91, b_must h, Option.bind_some]
  dsimp only
  rw [h1, Option.bind_some, b_perhaps h, Option.bind_some, if_pos rfl]
  dsimp only
  rw [f_X12_readNew_118, h2, Option.bind_some, b_perhaps h, Option.bind_some, if_neg h.le]
theorem b_new71 (h : bad T) (V : Nat → Int32) (x : Int32) (c : Nat → Int32) (W : Nat → Int64) : f_X12_readNew_71 V x T J c W = some (T, J, c, W) := by
  rw [f_X12_readNew_71, if_neg h.ne, b_new91 h]
theorem b_new47 (h : bad T) (V : Nat → Int32) (x : Int32) (c : Nat → Int32) (W : Nat → Int64) : f_X12_readNew_47 V x T J c W = some (T, J, c, W) := by
  rw [f_X12_readNew_47, if_neg h.ne, b_new71 h]
theorem b_new24 (h : bad T) (V : Nat → Int32) (x : Int32) (c : Nat → Int32) (W : Nat → Int64) : f_X12_readNew_24 V x T J c W = some (T, J, c, W) := by
  rw [f_X12_readNew_24, b_must h, Option.bind_some, if_neg h.ne, b_new47 h]
/-- the last of a traveller: is he heard -/
theorem d_heard (hX : tX b n V Vm) (hC : cOk V2) (hS : rdS b n p q k T J Tm Jm) (hd : dInv d) (hc : bB 1488 d c) (hkr : kRep d w Td S Li Na By Of Fe Mi) (hw : ∀ i, i < d 2 → W (20 + i) = w i) (e5 : d 2 < 5) {l : Nat} (hl : l ≤ 16) {J0 : Int64} (hJ : W (20 + d 2) = J0) : ∃ (T' : Nat → Int32) (J' : Int64) (Td' : Nat → Int32) (Na' : Nat → Int64) (Li' Tm' : Nat → Int32) (Jm' : Int64) (c' : Nat → Int32) (d' : Nat → Nat) (w' : Nat → Int64), f_X4_takeTraveller_93 V V2 J0 (iN l) T J Td Na Li = some (1, T', J', Td', Na', Li') ∧ f_X12_readNew_118 Vm (iN (d 2)) (iN l) Tm Jm c W = some (Tm', Jm', c', W) ∧ frC T T' ∧ frM Tm Tm' ∧ frB c c' ∧ dInv d' ∧ bB 1488 d' c' ∧ kRep d' w' Td' S Li' Na' By Of Fe Mi ∧ (∀ i, i < d' 2 → W (20 + i) = w' i) ∧ ∃ p' q' k', rdS b n p' q' k' T' J' Tm' Jm' ∧ p ≤ p' := by
  have hm9 := hd.many
  have hh2 := hset_2 hd
  have a1 : ∀ j : Nat, (1530 + iN j : Int32) = iN (1530 + j) := fun j => iN_add 1530 j
  have a2 : ∀ j : Nat, (1535 + iN j : Int32) = iN (1535 + j) := fun j => iN_add 1535 j
  have t4 : Td 4 = iN (d 2) := hkr.1.2.2.2.2.1
  have t5 : Td 5 = iN (hset d) := hkr.1.2.2.2.2.2.1
  have lt5 : (iN (d 2) < (5 : Int32)) := by
    rw [show (5 : Int32) = iN 5 from rfl, iN_lt (by omega) (by omega)]; exact e5
  have hwn : ∀ i, i < d 2 + 1 → W (20 + i) = vp_updL w (d 2) J0 i := fun i hi => by
    unfold vp_updL
    by_cases e2 : i = d 2
    · rw [if_pos e2, e2]; exact hJ
    · rw [if_neg e2]; exact hw i (by omega)
  -- the class's row and the model's
  have key : ∀ (h : Nat) (T' : Nat → Int32) (J' : Int64) (Tm' : Nat → Int32) (Jm' : Int64), h ≤ 1 → rdS b n p q k T J Tm Jm → ∃ (Td' : Nat → Int32) (Na' : Nat → Int64) (Li' c' : Nat → Int32), f_X4_takeTraveller_109 V V2 J0 (iN l) (iN h) T' J' Td Na Li = some (1, T', J', Td', Na', Li') ∧ f_X12_readNew_165 Vm (iN (1535 + d 2)) (iN h) Tm' Jm' (upd c (1530 + d 2) (iN l)) W = some (Tm', Jm', c', W) ∧ frB c c' ∧ dInv (cmh d l h) ∧ bB 1488 (cmh d l h) c' ∧ kRep (cmh d l h) (vp_updL w (d 2) J0) Td' S Li' Na' By Of Fe Mi := fun h T' J' Tm' Jm' hh _ => by
    have hc' : bB 1488 (cmh d l h) (upd (upd (upd c (1530 + d 2) (iN l)) (1535 + d 2) (iN h)) 1490 (iN (d 2 + 1))) := by
      have h1 := bB_upd (bB_upd (bB_upd hc (42 + d 2) l) (47 + d 2) h) 2 (d 2 + 1)
      rw [show 1488 + (42 + d 2) = 1530 + d 2 by omega, show 1488 + (47 + d 2) = 1535 + d 2 by omega] at h1
      exact h1
    have or5 := or_tab (d 2) e5 _ hh2 1 (by decide)
    rw [Nat.one_mul] at or5
    refine ⟨_, _, _, _, ?_, ?_, ?_, cmh_inv hd e5 hl hh, hc', cmh_k (T' := upd (if h = 0 then Td else upd Td 5 (iN (hset d + 2 ^ d 2))) 4 (iN (d 2 + 1))) hd hkr e5 J0 ?_⟩
    · rw [f_X4_takeTraveller_109, f_X3_addTraveller, t4, if_pos lt5, ck_iN (by omega) (by omega), ck_iN (by omega) (by omega), iN_nn (by omega)]
      rcases (show h = 0 ∨ h = 1 by omega) with rfl | rfl
      · rw [if_pos (show iN 0 = (0 : Int32) from rfl), if_pos rfl, f_X3_addTraveller_50, t4, show (iN (d 2) + 1 : Int32) = iN (d 2 + 1) from iN_add _ 1]; rfl
      · rw [if_neg (show ¬ iN 1 = (0 : Int32) by decide), if_neg (by decide), f_X3_addTraveller_50, upd_n (show 4 ≠ 5 by decide), t4, t5, show (1 : Int32) <<< (iN (d 2) &&& 31) = iN 1 <<< (iN (d 2) &&& 31) from rfl, or5, show (iN (d 2) + 1 : Int32) = iN (d 2 + 1) from iN_add _ 1]; rfl
    · rw [f_X12_readNew_165, ck_iN (by omega) (by omega), ck_y (show gd 1490 1860 = true by decide), ck_y (show gd 1490 1860 = true by decide), iN_nn (by omega), show (1490 : Int32).toNatClampNeg = 1490 by decide, upd_n (show 1490 ≠ 1535 + d 2 by omega), upd_n (show 1490 ≠ 1530 + d 2 by omega), hc 2 (by omega), show (iN (d 2) + 1 : Int32) = iN (d 2 + 1) from iN_add _ 1]
    · exact ((frB_u c _ (by omega)).t (frB_u _ _ (by omega))).t (frB_u _ _ (by decide))
    · have hs : h = 0 ∨ h = 1 := by omega
      refine ⟨?_, ?_, ?_, ?_, upd_s, ?_, ?_⟩ <;> rw [upd_n (by decide)] <;> rcases hs with rfl | rfl
      · rw [if_pos rfl]
      · rw [if_neg (by decide), upd_n (by decide)]
      · rw [if_pos rfl]
      · rw [if_neg (by decide), upd_n (by decide)]
      · rw [if_pos rfl]
      · rw [if_neg (by decide), upd_n (by decide)]
      · rw [if_pos rfl]
      · rw [if_neg (by decide), upd_n (by decide)]
      · rw [if_pos rfl, t5, Nat.zero_mul, Nat.add_zero]
      · rw [if_neg (by decide), upd_s, Nat.one_mul]
      · rw [if_pos rfl]
      · rw [if_neg (by decide), upd_n (by decide)]
  have c1 := e8_isWord hS.1 (i := 5) (by decide)
  have c2 := e12_isHeard hS.1
  by_cases e : k = 1 ∧ wx b p q = 5
  · rw [if_pos e] at c1 c2
    obtain ⟨T1, J1, Tm1, Jm1, x1, x2, fr1, fr2, p1, q1, k1, hS1, hp1⟩ := p_adv hX hC hS
    obtain ⟨Td', Na', Li', c', y1, y2, y3, y4, y5, y6⟩ := key 1 T1 J1 Tm1 Jm1 (by decide) hS
    refine ⟨T1, J1, Td', Na', Li', Tm1, Jm1, c', cmh d l 1, _, ?_, ?_, fr1, fr2, y3, y4, y5, y6, ?_, p1, q1, k1, hS1, by have := tkS_pq hS.1; omega⟩
    · rw [f_X4_takeTraveller_93, show (5 : Int32) = iN 5 from rfl, c1, Option.bind_some, if_neg (by decide), x1]; exact y1
    · rw [f_X12_readNew_118, c2, Option.bind_some, f_X12_perhaps, if_neg (by rw [hS.2]; decide), if_neg (by decide), x2, Option.bind_some, Option.bind_some]
      dsimp only
      rw [if_pos (by rw [hS1.2]; decide), a1, ck_iN (by omega) (by omega), if_neg (by decide), iN_nn (by omega), a2]; exact y2
    · rw [cmh_2]; exact hwn
  · rw [if_neg e] at c1 c2
    obtain ⟨Td', Na', Li', c', y1, y2, y3, y4, y5, y6⟩ := key 0 T J Tm Jm (by decide) hS
    refine ⟨T, J, Td', Na', Li', Tm, Jm, c', cmh d l 0, _, ?_, ?_, frC.r T, frM.r Tm, y3, y4, y5, y6, ?_, p, q, k, hS, Nat.le_refl _⟩
    · rw [f_X4_takeTraveller_93, show (5 : Int32) = iN 5 from rfl, c1, Option.bind_some, if_pos rfl]; exact y1
    · rw [f_X12_readNew_118, c2, Option.bind_some, f_X12_perhaps, if_neg (by rw [hS.2]; decide), if_pos rfl, Option.bind_some]
      dsimp only
      rw [if_pos (by rw [hS.2]; decide), a1, ck_iN (by omega) (by omega), if_pos rfl, iN_nn (by omega), a2]; exact y2
    · rw [cmh_2]; exact hwn
theorem d_trav (hX : tX b n V Vm) (hC : cOk V2) (H : dyS b n p q k Rr T J Td S Li Na By Of Fe Mi Tm Jm c W d w) (hk : ¬ k = 4) : (∃ (T' : Nat → Int32) (J' : Int64) (Td' : Nat → Int32) (Na' : Nat → Int64) (Li' Tm' : Nat → Int32) (Jm' : Int64) (c' : Nat → Int32) (W' : Nat → Int64), f_X4_takeTraveller T J Td V V2 Na Li = some (0, T', J', Td', Na', Li') ∧ f_X12_readNew Tm Jm c Vm W = some (Tm', Jm', c', W') ∧ flS T' Tm' ∧ frN Tm Tm' ∧ frB c c' ∧ frW W W') ∨ (∃ (T' : Nat → Int32) (J' : Int64) (Td' : Nat → Int32) (Na' : Nat → Int64) (Li' Tm' : Nat → Int32) (Jm' : Int64) (c' : Nat → Int32) (W' : Nat → Int64) (d' : Nat → Nat) (w' : Nat → Int64), f_X4_takeTraveller T J Td V V2 Na Li = some (1, T', J', Td', Na', Li') ∧ f_X12_readNew Tm Jm c Vm W = some (Tm', Jm', c', W') ∧ frC T T' ∧ frN Tm Tm' ∧ frB c c' ∧ frW W W' ∧ ∃ p' q' k', dyS b n p' q' k' Rr T' J' Td' S Li' Na' By Of Fe Mi Tm' Jm' c' W' d' w' ∧ q ≤ p') := by
  obtain ⟨hS, ⟨hf1, hf2⟩, hd, hc, hkr, hw⟩ := H
  have hm9 := hd.many
  have t4 : Td 4 = iN (d 2) := hkr.1.2.2.2.2.1
  have c1490 : c 1490 = iN (d 2) := hc 2 (by omega)
  have g1490 : gd 1490 1860 = true := by decide
  have n1490 : (1490 : Int32).toNatClampNeg = 1490 := by decide
  by_cases e5 : d 2 < 5
  · have lt5 : (iN (d 2) < (5 : Int32)) := by
      rw [show (5 : Int32) = iN 5 from rfl, iN_lt (by omega) (by omega)]; exact e5
    obtain ⟨T1, J1, Tm1, Jm1, a1, a2, fr1, fr2, p1, q1, k1, hS1, hp1⟩ := p_adv hX hC hS
    have m0 : f_X12_readNew Tm Jm c Vm W = (f_X12_isName Tm1 Jm1 Vm).bind (fun z37 => if z37 = 0 then ((f_X12_amiss Tm1).bind (fun z44 => f_X12_readNew_47 Vm (iN (d 2)) z44 Jm1 c W)) else (f_X12_readNew_47 Vm (iN (d 2)) Tm1 Jm1 c W)) := by
      rw [f_X12_readNew, ck_y g1490, n1490, c1490, if_neg (show ¬ iN (d 2) = (5 : Int32) from iN_ne (b := 5) (by omega) (by decide) (by omega)), f_X12_readNew_24, p_must1 hS.2 a2, Option.bind_some]
      dsimp only
      rw [if_pos hS1.2]
    have k0 : f_X4_takeTraveller T J Td V V2 Na Li = (f_X8_isName T1).bind (fun z23 => if z23 = 0 then ((f_X8_blame T1 2).bind (fun z31 => ck (bz z31.1) (some (z31.1, z31.2, J1, Td, Na, Li)))) else ((f_X8_nameCode J1).bind (fun z36 => (f_X3_travellerNamed Td Na z36).bind (fun z45 => if z45 = (-1) then ((f_X8_advance T1 J1 V V2).bind (fun z59 => (f_X8_isWord z59.1 4).bind (fun z67 => if z67 = 0 then (f_X4_takeTraveller_93 V V2 z36 0 z59.1 z59.2 Td Na Li) else ((f_X8_advance z59.1 z59.2 V V2).bind (fun z74 => (f_X8_isNumber z74.1 0 16).bind (fun z81 => if z81.1 = 0 then (some (0, z81.2, z74.2, Td, Na, Li)) else ((f_X8_number z81.2).bind (fun z90 => (f_X8_advance z81.2 z74.2 V V2).bind (fun z96 => f_X4_takeTraveller_93 V V2 z36 z90 z96.1 z96.2 Td Na Li))))))))) else ((f_X8_blame T1 3).bind (fun z54 => ck (bz z54.1) (some (z54.1, z54.2, J1, Td, Na, Li)))))))) := by
      rw [f_X4_takeTraveller, t4, if_pos lt5, a1]; rfl
    have i1 := e8_isName hX hS1.1
    have i2 := e12_isName hX hS1.1
    by_cases en : k1 = 1 ∧ wx b p1 q1 = 23 ∧ q1 - p1 ≤ 8
    · rw [if_pos en] at i1 i2
      obtain ⟨j1, j2⟩ := name_J hS1 en.1 en.2.2
      have n1 := e3_nam (J := J1) (w := w) (m := d 2) (by omega) t4 hkr.2.2.2.1 j2
      have n2 : f_X12_named Jm1 c W 4 = some (oN (nmO (fun k => W (5 * 4 + k)) Jm1 (d 2))) := e12_nam (B := 4) (by decide) (by omega) c1490
      rw [nmO_cg (w2 := w) (d 2) hw, ← j1] at n2
      rw [i1, Option.bind_some, if_neg (by decide), f_X8_nameCode, Option.bind_some, n1, Option.bind_some] at k0
      rw [i2, Option.bind_some, if_neg (by decide), f_X12_readNew_47, if_pos hS1.2, ← j1, n2, Option.bind_some] at m0
      cases ho : nmO w J1 (d 2) with
      | some i =>
        rw [ho] at k0 m0
        have hi := nmO_lt _ ho
        obtain ⟨T', Tm', b1, b2, b3, b4⟩ := p_fail hS1 (w := 3) (by decide) (by omega)
        refine Or.inl ⟨T', J1, Td, Na, Li, Tm', J1, c, W, ?_, ?_, b3, (fr2.t b4).n, frB.r c, frW.r W⟩
        · rw [k0, oN, if_neg (iN_ne_m1 (by omega)), show (3 : Int32) = iN 3 from rfl, b1]; rfl
        · rw [m0, oN, if_neg (by rw [show (0 : Int32) = iN 0 from rfl, iN_lt (by omega) (by omega)]; omega), show (3 : Int32) = iN 3 from rfl, b2, Option.bind_some, b_new71 b3.b]
      | none =>
        rw [ho] at k0 m0
        rw [oN, if_pos rfl] at k0
        rw [oN, if_pos (by decide), f_X12_readNew_71, if_pos hS1.2, show (20 + iN (d 2) : Int32) = iN (20 + d 2) from iN_add 20 _, ck_iN (by omega) (by omega), iN_nn (by omega)] at m0
        obtain ⟨W1, hW1⟩ : ∃ W1, W1 = vp_updL W (20 + d 2) J1 := ⟨_, rfl⟩
        rw [← hW1] at m0
        have w1a : ∀ i, i < d 2 → W1 (20 + i) = w i := fun i hi => by
          rw [hW1]
          unfold vp_updL
          rw [if_neg (by omega)]; exact hw i hi
        have w1b : W1 (20 + d 2) = J1 := by rw [hW1]; exact if_pos rfl
        have w1c : frW W W1 := fun j hj => by rw [hW1]; exact if_neg (by omega)
        obtain ⟨T2, J2, Tm2, Jm2, x1, x2, fr3, fr4, p2, q2, k2, hS2, hp2⟩ := p_adv hX hC hS1
        rw [← j1] at x2
        have mm : f_X12_must Tm1 J1 Vm 1 = some (Tm2, Jm2) := p_must1 hS1.2 x2
        rw [f_X12_readNew_91, mm, Option.bind_some] at m0
        rw [x1, Option.bind_some] at k0
        dsimp only at m0 k0
        have l1 : f_X8_isWord T2 4 = some (if k2 = 1 ∧ wx b p2 q2 = 4 then 1 else 0) := e8_isWord hS2.1 (i := 4) (by decide)
        have l2 := e12_isLies hS2.1
        rw [l1, Option.bind_some] at k0
        rw [l2, Option.bind_some, f_X12_perhaps, if_neg (by rw [hS2.2]; decide)] at m0
        by_cases el : k2 = 1 ∧ wx b p2 q2 = 4
        · rw [if_pos el, if_neg (show ¬ (1 : Int32) = 0 by decide)] at k0 m0
          obtain ⟨T3, J3, Tm3, Jm3, y1, y2, fr5, fr6, p3, q3, k3, hS3, hp3⟩ := p_adv hX hC hS2
          rw [y1, Option.bind_some] at k0
          rw [y2, Option.bind_some, Option.bind_some] at m0
          dsimp only at m0 k0
          rw [if_neg (show ¬ (1 : Int32) = 0 by decide)] at m0
          rcases p_num hX hC hS3 0 16 with ⟨T', Tm', u1, u2, u3, u4⟩ | ⟨v, T4, J4, Tm4, Jm4, hk4, hv, hr, u1, u2, u3, u4, u5, u6, gr1, gr2, p4, q4, k4, hS4, hp4⟩
          · refine Or.inl ⟨T', J3, Td, Na, Li, Tm', Jm3, c, W1, ?_, ?_, u3, (((fr2.t fr4).t fr6).t u4).n, frB.r c, w1c⟩
            · rw [k0, u1, Option.bind_some, if_pos rfl]
            · obtain ⟨v2, h2⟩ := t_isHeard Tm' Jm3
              rw [m0, u2, Option.bind_some]
              dsimp only
              rw [f_X12_readNew_118, h2, Option.bind_some, b_perhaps u3.b, Option.bind_some, if_neg u3.b.le]
          · have hv16 : v ≤ 16 := by
              have := hr.2
              rw [show (16 : Int32).toInt = 16 from rfl] at this
              omega
            obtain ⟨T', J', Td', Na', Li', Tm', Jm', c', d', w', z1, z2, z3, z4, z5, z6, z7, z8, z9, p5, q5, k5, hS5, hp5⟩ := d_heard hX hC hS4 hd hc hkr w1a e5 hv16 w1b
            have f24 : ∀ j, j = 24 ∨ j = 25 → Tm' j = Tm j := fun j hj => by rw [z4 j (by omega), gr2 j (by omega), fr6 j (by omega), fr4 j (by omega), fr2 j (by omega)]
            refine Or.inr ⟨T', J', Td', Na', Li', Tm', Jm', c', W1, d', w', ?_, ?_, (((fr1.t fr3).t fr5).t gr1).t z3, ((((fr2.t fr4).t fr6).t gr2).t z4).n, z5, w1c, p5, q5, k5, ⟨hS5, ⟨?_, ?_⟩, z6, z7, z8, z9⟩, ?_⟩
            · rw [k0, u1, Option.bind_some, if_neg (show ¬ (1 : Int32) = 0 by decide), u2, Option.bind_some, u4, Option.bind_some]; exact z1
            · rw [m0, u6, Option.bind_some]; exact z2
            · rw [f24 24 (by omega)]; exact hf1
            · rw [f24 25 (by omega)]; exact hf2
            · have := tkS_pq hS1.1; have := tkS_pq hS2.1; have := tkS_pq hS3.1; omega
        · rw [if_neg el, if_pos rfl] at k0 m0
          rw [Option.bind_some] at m0
          dsimp only at m0
          rw [if_pos rfl] at m0
          obtain ⟨T', J', Td', Na', Li', Tm', Jm', c', d', w', z1, z2, z3, z4, z5, z6, z7, z8, z9, p5, q5, k5, hS5, hp5⟩ := d_heard hX hC hS2 hd hc hkr w1a e5 (show 0 ≤ 16 by decide) w1b
          have f24 : ∀ j, j = 24 ∨ j = 25 → Tm' j = Tm j := fun j hj => by rw [z4 j (by omega), fr4 j (by omega), fr2 j (by omega)]
          refine Or.inr ⟨T', J', Td', Na', Li', Tm', Jm', c', W1, d', w', ?_, ?_, (fr1.t fr3).t z3, ((fr2.t fr4).t z4).n, z5, w1c, p5, q5, k5, ⟨hS5, ⟨?_, ?_⟩, z6, z7, z8, z9⟩, ?_⟩
          · rw [k0]; exact z1
          · rw [m0]; exact z2
          · rw [f24 24 (by omega)]; exact hf1
          · rw [f24 25 (by omega)]; exact hf2
          · have := tkS_pq hS1.1; omega
    · rw [if_neg en] at i1 i2
      rw [i1, Option.bind_some, if_pos rfl] at k0
      rw [i2, Option.bind_some, if_pos rfl] at m0
      obtain ⟨T', Tm', b1, b2, b3, b4⟩ := p_amiss hS1
      refine Or.inl ⟨T', J1, Td, Na, Li, Tm', Jm1, c, W, ?_, ?_, b3, (fr2.t b4).n, frB.r c, frW.r W⟩
      · rw [k0, b1]; rfl
      · rw [m0, b2, Option.bind_some, b_new47 b3.b]
  · obtain ⟨T', Tm', b1, b2, b3, b4⟩ := p_fail hS (w := 6) (by decide) hk
    refine Or.inl ⟨T', J, Td, Na, Li, Tm', Jm, c, W, ?_, ?_, b3, b4.n, frB.r c, frW.r W⟩
    · rw [f_X4_takeTraveller, t4, if_neg (by rw [show (5 : Int32) = iN 5 from rfl, iN_lt (by omega) (by omega)]; exact e5), show (6 : Int32) = iN 6 from rfl, b1]; rfl
    · rw [f_X12_readNew, ck_y g1490, n1490, c1490, if_pos (show iN (d 2) = (5 : Int32) from congrArg iN (show d 2 = 5 by omega)), show (6 : Int32) = iN 6 from rfl, b2, Option.bind_some, b_new24 b3.b]
end DY2
