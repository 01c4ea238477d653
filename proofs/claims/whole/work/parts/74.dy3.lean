/-! The duchy read: a telling. -/
section DY3
variable {b : Nat → Nat} {n p q k : Nat} {V Vm T Tm : Nat → Int32} {J Jm : Int64} {V2 : Nat → Int64} {d : Nat → Nat} {w Na W : Nat → Int64} {c Rr Td S Li By Of Fe Mi : Nat → Int32}
theorem blkN (B : Nat) : ∀ j : Nat, (372 * iN B + iN j : Int32) = iN (372 * B + j) := fun j => by rw [show (372 : Int32) = iN 372 from rfl, iN_mul, iN_add]
theorem e12_telB {B : Nat} (hB : B ≤ 4) (hd : dInv d) (hc : bB (372 * B) d c) {x : Nat} (hx : x < 36) : f_X12_tellingsOf c (iN B) (iN x) = some (iN (tellOf d x)) := by
  have h3 := hd.many.2
  have h36 := hd.c36
  have e3 : (372 * iN B + 3 : Int32) = iN (372 * B + 3) := blkN B 3
  have e64 : ∀ t, (372 * iN B + 64 + iN t : Int32) = iN (372 * B + (64 + t)) := fun t => by
    rw [show (372 * iN B + 64 : Int32) = iN (372 * B + 64) from blkN B 64, iN_add, Nat.add_assoc]
  refine iter_run (d 3) (fun k (φ : Int32 → Int32 → Option Int32) => φ (iN (sm k (fun t => if d (64 + t) = x then 1 else 0))) (iN k) = some (iN (tellOf d x))) (by omega) (fun k F hk h => ?_) (fun F => ?_)
  · have ho := hd.tell hk
    rw [sm_succ] at h
    rw [g_X12_tellingsOf_5, e3, ck_iN (by omega) (by omega), iN_nn (by omega), hc 3 (by omega), if_neg (by rw [iN_le (by omega) (by omega)]; omega), e64, ck_iN (by omega) (by omega), iN_nn (by omega), hc (64 + k) (by omega), f_X12_tellingsOf_48, f_X12_tellingsOf_48, show (iN k + 1 : Int32) = iN (k + 1) from iN_add k 1, show ∀ z, (iN z + 1 : Int32) = iN (z + 1) from fun z => iN_add z 1, show ∀ z, (iN z + 0 : Int32) = iN z from fun z => iN_add z 0]
    by_cases e : d (64 + k) = x
    · rw [if_pos (congrArg iN e)]; rw [if_pos e] at h; exact h
    · rw [if_neg (iN_ne (by omega) (by omega) e)]; rw [if_neg e] at h; exact h
  · rw [g_X12_tellingsOf_5, e3, ck_iN (by omega) (by omega), iN_nn (by omega), hc 3 (by omega), if_pos (by rw [iN_le (by omega) (by omega)]; omega)]; rfl
theorem e12_tellsB {B : Nat} (hB : B ≤ 4) (hd : dInv d) (hc : bB (372 * B) d c) {i x g m : Nat} (h : d 3 < 12) : ∃ c', f_X12_tells c (iN B) (iN i) (iN x) (iN g) (iN m) = some c' ∧ bB (372 * B) (tld d i x g m) c' ∧ ∀ j, j < 372 * B ∨ 372 * B + 100 ≤ j → c' j = c j := by
  have e3 : (372 * iN B + 3 : Int32) = iN (372 * B + 3) := blkN B 3
  refine ⟨upd (upd (upd (upd (upd c (372 * B + (52 + d 3)) (iN i)) (372 * B + (64 + d 3)) (iN x)) (372 * B + (76 + d 3)) (iN g)) (372 * B + (88 + d 3)) (iN m)) (372 * B + 3) (iN (d 3 + 1)), ?_, bB_upd (bB_upd (bB_upd (bB_upd (bB_upd hc _ _) _ _) _ _) _ _) _ _, fun j hj => by rw [upd_n (by omega), upd_n (by omega), upd_n (by omega), upd_n (by omega), upd_n (by omega)]⟩
  have et : ∀ o : Nat, (iN (372 * B + d 3) + iN o : Int32) = iN (372 * B + (o + d 3)) := fun o => by
    rw [iN_add]
    congr 1
    omega
  rw [f_X12_tells, e3, ck_iN (by omega) (by omega), iN_nn (by omega), hc 3 (by omega), letv, show (372 * iN B + iN (d 3) : Int32) = iN (372 * B + d 3) from blkN B (d 3), show (52 : Int32) = iN 52 from rfl, show (64 : Int32) = iN 64 from rfl, show (76 : Int32) = iN 76 from rfl, show (88 : Int32) = iN 88 from rfl, et, et, et, et, ck_iN (by omega) (by omega), ck_iN (by omega) (by omega), ck_iN (by omega) (by omega), ck_iN (by omega) (by omega), ck_iN (by omega) (by omega), ck_iN (by omega) (by omega), iN_nn (by omega), iN_nn (by omega), iN_nn (by omega), iN_nn (by omega), upd_n (show 372 * B + 3 ≠ 372 * B + (88 + d 3) by omega), upd_n (show 372 * B + 3 ≠ 372 * B + (76 + d 3) by omega), upd_n (show 372 * B + 3 ≠ 372 * B + (64 + d 3) by omega), upd_n (show 372 * B + 3 ≠ 372 * B + (52 + d 3) by omega), hc 3 (by omega), show (iN (d 3) + 1 : Int32) = iN (d 3 + 1) from iN_add _ 1]
theorem b_tel66 (h : bad T) (V : Nat → Int32) (W : Nat → Int64) (x y : Int32) (c : Nat → Int32) : f_X12_readTelling_66 V W x y T J c = some (T, J, c) := by
  obtain ⟨v1, h1⟩ := t_isMissed T J
  rw [f_X12_readTelling_66, b_must h, Option.bind_some]
  dsimp only
  rw [b_readFeeling h, Option.bind_some]
  dsimp only
  rw [h1, Option.bind_some, b_perhaps h, Option.bind_some, if_pos rfl, f_X12_readTelling_98, if_neg h.ne]
theorem b_tel23c (h : bad T) (V : Nat → Int32) (W : Nat → Int64) (x : Int32) (c : Nat → Int32) : ((f_X12_readCell T J c V 4).bind (fun z36 => if (z36.2.1 12) = 0 then ((f_X12_tellingsOf c 4 z36.1).bind (fun z50 => if z50 = 5 then ((f_X12_fail z36.2.1 5 (z36.2.1 15)).bind (fun z63 => f_X12_readTelling_66 V W x z36.1 z63 z36.2.2 c)) else (f_X12_readTelling_66 V W x z36.1 z36.2.1 z36.2.2 c))) else (f_X12_readTelling_66 V W x z36.1 z36.2.1 z36.2.2 c))) = some (T, J, c) := by
  rw [b_readCell h _ _ (show gd (372 * 4) 1860 = true by decide), Option.bind_some, if_neg h.ne, b_tel66 h]
theorem b_tel23 (h : bad T) (V : Nat → Int32) (W : Nat → Int64) (c : Nat → Int32) : f_X12_readTelling_23 V W T J c = some (T, J, c) := by
  rw [f_X12_readTelling_23, b_must h, Option.bind_some]
  dsimp only
  rw [b_readTraveller h, Option.bind_some]
  exact b_tel23c h V W 0 c
/-- the last of a telling: the feeling, by how much it is missed -/
theorem d_feel (hX : tX b n V Vm) (hC : cOk V2) (hS : rdS b n p q k T J Tm Jm) (hd : dInv d) (hc : bB 1488 d c) (hkr : kRep d w Td S Li Na By Of Fe Mi) (W : Nat → Int64) (e12 : d 3 < 12) {i x : Nat} (hi : i < d 2) (hx : x < cells d) (h5 : tellOf d x < 5) (Jp : Int64) {Tp : Nat → Int32} (hp : f_X12_must Tp Jp Vm 1 = some (Tm, Jm)) : (∃ (T' : Nat → Int32) (J' : Int64) (Td' Of' By' Fe' Mi' Tm' : Nat → Int32) (Jm' : Int64), f_X4_takeFeeling T J V V2 Td Of By Fe Mi (iN i) (iN x) = some (0, T', J', Td', Of', By', Fe', Mi') ∧ f_X12_readTelling_66 Vm W (iN i) (iN x) Tp Jp c = some (Tm', Jm', c) ∧ flS T' Tm' ∧ frM Tm Tm') ∨ (∃ (T' : Nat → Int32) (J' : Int64) (Td' Of' By' Fe' Mi' Tm' : Nat → Int32) (Jm' : Int64) (c' : Nat → Int32) (d' : Nat → Nat), f_X4_takeFeeling T J V V2 Td Of By Fe Mi (iN i) (iN x) = some (1, T', J', Td', Of', By', Fe', Mi') ∧ f_X12_readTelling_66 Vm W (iN i) (iN x) Tp Jp c = some (Tm', Jm', c') ∧ frC T T' ∧ frM Tm Tm' ∧ frB c c' ∧ dInv d' ∧ bB 1488 d' c' ∧ kRep d' w Td' S Li Na By' Of' Fe' Mi' ∧ d' 2 = d 2 ∧ ∃ p' q' k', rdS b n p' q' k' T' J' Tm' Jm' ∧ q ≤ p') := by
  have h36 := hd.c36
  have hm9 := hd.many
  have st : f_X12_readTelling_66 Vm W (iN i) (iN x) Tp Jp c = (f_X12_readFeeling Tm Jm Vm).bind (fun z72 => (f_X12_isMissed z72.2.1 z72.2.2).bind (fun z78 => (f_X12_perhaps z72.2.1 z72.2.2 Vm z78).bind (fun z81 => if z81.1 = 0 then (f_X12_readTelling_98 Vm W (iN i) (iN x) z72.1 0 z81.2.1 z81.2.2 c) else ((f_X12_count z81.2.1 z81.2.2 Vm 0 9).bind (fun z91 => f_X12_readTelling_98 Vm W (iN i) (iN x) z72.1 z91.1 z91.2.1 z91.2.2 c))))) := by
    rw [f_X12_readTelling_66, hp, Option.bind_some]
  have fin : ∀ (T1 : Nat → Int32) (J1 : Int64) (Tm1 : Nat → Int32) (Jm1 : Int64) (g m : Nat), Tm1 12 = 0 → g < 4 → m ≤ 9 → ∃ (Td' Of' By' Fe' Mi' c' : Nat → Int32) (d' : Nat → Nat), f_X4_takeFeeling_60 V V2 (iN i) (iN x) (iN g) (iN m) T1 J1 Td Of By Fe Mi = some (1, T1, J1, Td', Of', By', Fe', Mi') ∧ f_X12_readTelling_98 Vm W (iN i) (iN x) (iN g) (iN m) Tm1 Jm1 c = some (Tm1, Jm1, c') ∧ frB c c' ∧ dInv d' ∧ bB 1488 d' c' ∧ kRep d' w Td' S Li Na By' Of' Fe' Mi' ∧ d' 2 = d 2 := fun T1 J1 Tm1 Jm1 g m h12 hg hm => by
    obtain ⟨c', y1, y2, y3⟩ := e12_tellsB (B := 4) (by decide) hd (c := c) hc (i := i) (x := x) (g := g) (m := m) e12
    have a1 := e3_addTelling hd hkr (show x < 36 by omega) (iN i) (iN g) (iN m)
    rw [if_pos ⟨e12, h5⟩] at a1
    refine ⟨_, _, _, _, _, c', tld d i x g m, ?_, ?_, fun j hj => y3 j (by omega), tld_inv hd e12 hi hx hg hm h5, y2, tld_k hd hkr e12, tld_n (by omega)⟩
    · rw [f_X4_takeFeeling_60, a1, Option.bind_some, ck_y (show bz 1 = true by decide)]
    · rw [f_X12_readTelling_98, if_pos h12, show (4 : Int32) = iN 4 from rfl, y1]; rfl
  rcases p_feel hX hC hS with ⟨T', Tm', a1, a2, a3, a4, a5⟩ | ⟨g, T1, J1, Tm1, Jm1, hg, a1, a2, a3, fr1, fr2, p1, q1, k1, hS1, hp1⟩
  · obtain ⟨v1, h1⟩ := t_isMissed Tm' Jm
    refine Or.inl ⟨T', J, Td, Of, By, Fe, Mi, Tm', Jm, ?_, ?_, a4, a5⟩
    · rw [f_X4_takeFeeling, a1, Option.bind_some, if_pos rfl, a2]; rfl
    · rw [st, a3, Option.bind_some]
      dsimp only
      rw [h1, Option.bind_some, b_perhaps a4.b, Option.bind_some, if_pos rfl, f_X12_readTelling_98, if_neg a4.b.ne]
  · have l1 : f_X8_isWord T1 7 = some (if k1 = 1 ∧ wx b p1 q1 = 7 then 1 else 0) := e8_isWord hS1.1 (i := 7) (by decide)
    have l2 := e12_isMissed hS1.1
    have kk : f_X4_takeFeeling T J V V2 Td Of By Fe Mi (iN i) (iN x) = (f_X8_isWord T1 7).bind (fun z28 => if z28 = 0 then (f_X4_takeFeeling_60 V V2 (iN i) (iN x) (iN g) 0 T1 J1 Td Of By Fe Mi) else ((f_X8_advance T1 J1 V V2).bind (fun z35 => (f_X8_isNumber z35.1 0 9).bind (fun z42 => if z42.1 = 0 then (some (0, z42.2, z35.2, Td, Of, By, Fe, Mi)) else ((f_X8_number z42.2).bind (fun z51 => (f_X8_advance z42.2 z35.2 V V2).bind (fun z57 => f_X4_takeFeeling_60 V V2 (iN i) (iN x) (iN g) z51 z57.1 z57.2 Td Of By Fe Mi))))))) := by
      rw [f_X4_takeFeeling, a1, Option.bind_some, if_neg (iN_ne_m1 (by omega)), a2]; rfl
    rw [a3, Option.bind_some] at st
    dsimp only at st
    rw [l2, Option.bind_some, f_X12_perhaps, if_neg (by rw [hS1.2]; decide)] at st
    rw [l1, Option.bind_some] at kk
    by_cases el : k1 = 1 ∧ wx b p1 q1 = 7
    · rw [if_pos el, if_neg (show ¬ (1 : Int32) = 0 by decide)] at kk st
      obtain ⟨T2, J2, Tm2, Jm2, x1, x2, fr3, fr4, p2, q2, k2, hS2, hp2⟩ := p_adv hX hC hS1
      rw [x1, Option.bind_some] at kk
      rw [x2, Option.bind_some, Option.bind_some] at st
      dsimp only at kk st
      rw [if_neg (show ¬ (1 : Int32) = 0 by decide)] at st
      rcases p_num hX hC hS2 0 9 with ⟨T', Tm', u1, u2, u3, u4⟩ | ⟨v, T3, J3, Tm3, Jm3, hk3, hv, hr, u1, u2, u3, u4, u5, u6, gr1, gr2, p3, q3, k3, hS3, hp3⟩
      · refine Or.inl ⟨T', J2, Td, Of, By, Fe, Mi, Tm', Jm2, ?_, ?_, u3, (fr2.t fr4).t u4⟩
        · rw [kk, u1, Option.bind_some, if_pos rfl]
        · rw [st, u2, Option.bind_some]
          dsimp only
          rw [f_X12_readTelling_98, if_neg u3.b.ne]
      · have hv9 : v ≤ 9 := by
          have := hr.2
          rw [show (9 : Int32).toInt = 9 from rfl] at this
          omega
        obtain ⟨Td', Of', By', Fe', Mi', c', d', z1, z2, z3, z4, z5, z6, z7⟩ := fin T3 J3 Tm3 Jm3 g v hS3.2 hg hv9
        refine Or.inr ⟨T3, J3, Td', Of', By', Fe', Mi', Tm3, Jm3, c', d', ?_, ?_, (fr1.t fr3).t gr1, (fr2.t fr4).t gr2, z3, z4, z5, z6, z7, p3, q3, k3, hS3, by have := tkS_pq hS1.1; have := tkS_pq hS2.1; omega⟩
        · rw [kk, u1, Option.bind_some, if_neg (show ¬ (1 : Int32) = 0 by decide), u2, Option.bind_some, u4, Option.bind_some]; exact z1
        · rw [st, u6, Option.bind_some]; exact z2
    · rw [if_neg el, if_pos rfl] at kk st
      rw [Option.bind_some] at st
      dsimp only at st
      rw [if_pos rfl] at st
      obtain ⟨Td', Of', By', Fe', Mi', c', d', z1, z2, z3, z4, z5, z6, z7⟩ := fin T1 J1 Tm1 Jm1 g 0 hS1.2 hg (by decide)
      exact Or.inr ⟨T1, J1, Td', Of', By', Fe', Mi', Tm1, Jm1, c', d', kk.trans z1, st.trans z2, fr1, fr2, z3, z4, z5, z6, z7, p1, q1, k1, hS1, hp1⟩
theorem d_told (hX : tX b n V Vm) (hC : cOk V2) (H : dyS b n p q k Rr T J Td S Li Na By Of Fe Mi Tm Jm c W d w) (hk : ¬ k = 4) : (∃ (T' : Nat → Int32) (J' : Int64) (Td' Of' By' Fe' Mi' Tm' : Nat → Int32) (Jm' : Int64) (c' : Nat → Int32), f_X4_takeTold T J Td V V2 Na Of By Fe Mi = some (0, T', J', Td', Of', By', Fe', Mi') ∧ f_X12_readTelling Tm Jm c Vm W = some (Tm', Jm', c') ∧ flS T' Tm' ∧ frN Tm Tm' ∧ frB c c') ∨ (∃ (T' : Nat → Int32) (J' : Int64) (Td' Of' By' Fe' Mi' Tm' : Nat → Int32) (Jm' : Int64) (c' : Nat → Int32) (d' : Nat → Nat), f_X4_takeTold T J Td V V2 Na Of By Fe Mi = some (1, T', J', Td', Of', By', Fe', Mi') ∧ f_X12_readTelling Tm Jm c Vm W = some (Tm', Jm', c') ∧ frC T T' ∧ frN Tm Tm' ∧ frB c c' ∧ ∃ p' q' k', dyS b n p' q' k' Rr T' J' Td' S Li Na By' Of' Fe' Mi' Tm' Jm' c' W d' w ∧ q ≤ p') := by
  obtain ⟨hS, ⟨hf1, hf2⟩, hd, hc, hkr, hw⟩ := H
  have hm9 := hd.many
  have h36 := hd.c36
  have t6 : Td 6 = iN (d 3) := hkr.1.2.2.2.2.2.2
  have t0 : Td 0 = iN (d 0) := hkr.1.1
  have t1 : Td 1 = iN (d 1) := hkr.1.2.1
  have t4 : Td 4 = iN (d 2) := hkr.1.2.2.2.2.1
  have c1491 : c 1491 = iN (d 3) := hc 3 (by omega)
  have g1491 : gd 1491 1860 = true := by decide
  have n1491 : (1491 : Int32).toNatClampNeg = 1491 := by decide
  by_cases e12 : d 3 < 12
  · have lt12 : (iN (d 3) < (12 : Int32)) := by
      rw [show (12 : Int32) = iN 12 from rfl, iN_lt (by omega) (by omega)]; exact e12
    obtain ⟨T1, J1, Tm1, Jm1, a1, a2, fr1, fr2, p1, q1, k1, hS1, hp1⟩ := p_adv hX hC hS
    have m0 : f_X12_readTelling Tm Jm c Vm W = (f_X12_readTraveller Tm1 Jm1 Vm c W 4).bind (fun z30 => (f_X12_readCell z30.2.1 z30.2.2 c Vm 4).bind (fun z36 => if (z36.2.1 12) = 0 then ((f_X12_tellingsOf c 4 z36.1).bind (fun z50 => if z50 = 5 then ((f_X12_fail z36.2.1 5 (z36.2.1 15)).bind (fun z63 => f_X12_readTelling_66 Vm W z30.1 z36.1 z63 z36.2.2 c)) else (f_X12_readTelling_66 Vm W z30.1 z36.1 z36.2.1 z36.2.2 c))) else (f_X12_readTelling_66 Vm W z30.1 z36.1 z36.2.1 z36.2.2 c))) := by
      rw [f_X12_readTelling, ck_y g1491, n1491, c1491, if_neg (show ¬ iN (d 3) = (12 : Int32) from iN_ne (b := 12) (by omega) (by decide) (by omega)), f_X12_readTelling_23, p_must1 hS.2 a2]; rfl
    rcases p_trav hX hC hS1 (Td := Td) (c := c) (Na := Na) (w := w) (W := W) (B := 4) (m := d 2) (by decide) (by omega) t4 (hc 2 (by omega)) hkr.2.2.2.1 hw with ⟨T', Tm', i1, i2, i3, i4, i5⟩ | ⟨T', Tm', i1, i2, i3, i4, i5, i6⟩ | ⟨i, T2, J2, Tm2, Jm2, hi, i1, i2, i3, i4, fr3, fr4, p2, q2, k2, hS2, hp2⟩
    · have i3' : f_X12_readTraveller Tm1 Jm1 Vm c W 4 = some (0, Tm', Jm1) := i3
      refine Or.inl ⟨T', J1, Td, Of, By, Fe, Mi, Tm', Jm1, c, ?_, ?_, i4, (fr2.t i5).n, frB.r c⟩
      · rw [f_X4_takeTold, t6, if_pos lt12, a1, Option.bind_some]
        dsimp only
        rw [i1, Option.bind_some, if_pos rfl, i2]; rfl
      · rw [m0, i3', Option.bind_some]
        exact b_tel23c i4.b Vm W 0 c
    · have i4' : f_X12_readTraveller Tm1 Jm1 Vm c W 4 = some (0, Tm', Jm1) := i4
      refine Or.inl ⟨T', J1, Td, Of, By, Fe, Mi, Tm', Jm1, c, ?_, ?_, i5, (fr2.t i6).n, frB.r c⟩
      · rw [f_X4_takeTold, t6, if_pos lt12, a1, Option.bind_some]
        dsimp only
        rw [i1, Option.bind_some, if_neg (show ¬ (1 : Int32) = 0 by decide), f_X8_nameCode, Option.bind_some, i2, Option.bind_some, if_pos rfl, i3]; rfl
      · rw [m0, i4', Option.bind_some]
        exact b_tel23c i5.b Vm W 0 c
    · have i4' : f_X12_readTraveller Tm1 Jm1 Vm c W 4 = some (iN i, Tm2, Jm2) := i4
      rw [i4', Option.bind_some] at m0
      dsimp only at m0
      have k0 : f_X4_takeTold T J Td V V2 Na Of By Fe Mi = (f_X8_isNumber T2 0 (iN (d 0) - 1)).bind (fun z74 => if z74.1 = 0 then (some (0, z74.2, J2, Td, Of, By, Fe, Mi)) else ((f_X8_number z74.2).bind (fun z83 => (f_X8_advance z74.2 J2 V V2).bind (fun z88 => (f_X8_isNumber z88.1 0 (iN (d 1) - 1)).bind (fun z102 => if z102.1 = 0 then (some (0, z102.2, z88.2, Td, Of, By, Fe, Mi)) else ((f_X8_number z102.2).bind (fun z120 => (f_X3_tellingsOf Td Of ((z83 * iN (d 1)) + z120)).bind (fun z132 => if z132 < 5 then ((f_X8_advance z102.2 z88.2 V V2).bind (fun z146 => (f_X4_takeFeeling z146.1 z146.2 V V2 Td Of By Fe Mi (iN i) ((z83 * iN (d 1)) + z120)).bind (fun z154 => ck (bz z154.1) (some (z154.1, z154.2.1, z154.2.2.1, z154.2.2.2.1, z154.2.2.2.2.1, z154.2.2.2.2.2.1, z154.2.2.2.2.2.2.1, z154.2.2.2.2.2.2.2))))) else ((f_X8_blame z102.2 5).bind (fun z141 => ck (bz z141.1) (some (z141.1, z141.2, z88.2, Td, Of, By, Fe, Mi)))))))))))) := by
        rw [f_X4_takeTold, t6, if_pos lt12, a1, Option.bind_some]
        dsimp only
        rw [i1, Option.bind_some, if_neg (show ¬ (1 : Int32) = 0 by decide), f_X8_nameCode, Option.bind_some, i2, Option.bind_some, if_neg (iN_ne_m1 (by omega)), i3, Option.bind_some, t0, t1]
      rcases p_cell hX hC hS2 (c := c) (B := 4) (by decide) hd.1.1 hd.1.2.1 (hc 0 (by omega)) (hc 1 (by omega)) with ⟨T', Tm', c1, c2, c3, c4⟩ | ⟨v, T3, J3, hv, c1, c2, c3, h2⟩
      · have c2' : f_X12_readCell Tm2 Jm2 c Vm 4 = some (0, Tm', Jm2) := c2
        refine Or.inl ⟨T', J2, Td, Of, By, Fe, Mi, Tm', Jm2, c, ?_, ?_, c3, ((fr2.t fr4).t c4).n, frB.r c⟩
        · rw [k0, c1, Option.bind_some, if_pos rfl]
        · rw [m0, c2', Option.bind_some, if_neg c3.b.ne, b_tel66 c3.b]
      · rw [c1, Option.bind_some, if_neg (show ¬ (1 : Int32) = 0 by decide), c2, Option.bind_some, c3, Option.bind_some] at k0
        dsimp only at k0
        rcases h2 with ⟨T', Tm', Jm', d1, d2, d3, d4⟩ | ⟨u, Tm3, Jm3, hu, d1, d2, d3, fr5, fr6, p3, q3, hS3, hp3⟩
        · have d2' : f_X12_readCell Tm2 Jm2 c Vm 4 = some (0, Tm', Jm') := d2
          refine Or.inl ⟨T', J3, Td, Of, By, Fe, Mi, Tm', Jm', c, ?_, ?_, d3, ((fr2.t fr4).t d4).n, frB.r c⟩
          · rw [k0, d1, Option.bind_some, if_pos rfl]
          · rw [m0, d2', Option.bind_some, if_neg d3.b.ne, b_tel66 d3.b]
        · have d3' : f_X12_readCell Tm2 Jm2 c Vm 4 = some (iN (v * d 1 + u), Tm3, Jm3) := d3
          have hcell : v * d 1 + u < cells d := mul_lt hv hu
          have tc := e3_tellingsOf hd hkr.1 hkr.2.2.2.2.2.1 (show v * d 1 + u < 36 by omega)
          have tm : f_X12_tellingsOf c 4 (iN (v * d 1 + u)) = some (iN (tellOf d (v * d 1 + u))) := e12_telB (B := 4) (by decide) hd hc (by omega)
          have t5 := hd.2.2.2.2 (v * d 1 + u)
          rw [d1, Option.bind_some, if_neg (show ¬ (1 : Int32) = 0 by decide), d2, Option.bind_some, iN_mul, iN_add, tc, Option.bind_some] at k0
          rw [d3', Option.bind_some] at m0
          dsimp only at m0
          rw [if_pos hS3.2, tm, Option.bind_some] at m0
          by_cases h5 : tellOf d (v * d 1 + u) < 5
          · rw [if_pos (by rw [show (5 : Int32) = iN 5 from rfl, iN_lt (by omega) (by omega)]; exact h5)] at k0
            rw [if_neg (show ¬ iN (tellOf d (v * d 1 + u)) = (5 : Int32) from iN_ne (b := 5) (by omega) (by decide) (by omega))] at m0
            obtain ⟨T4, J4, Tm4, Jm4, e1, e2, fr7, fr8, p4, q4, k4, hS4, hp4⟩ := p_adv hX hC hS3
            rw [e1, Option.bind_some] at k0
            have pq := tkS_pq hS1.1
            have pq2 := tkS_pq hS2.1
            have pq3 := tkS_pq hS3.1
            have pq4 := tkS_pq hS4.1
            rcases d_feel hX hC hS4 hd hc hkr W e12 hi hcell h5 Jm3 (p_must1 hS3.2 e2) with ⟨T', J', Td', Of', By', Fe', Mi', Tm', Jm', y1, y2, y3, y4⟩ | ⟨T', J', Td', Of', By', Fe', Mi', Tm', Jm', c', d', y1, y2, y3, y4, y5, y6, y7, y8, y9, p5, q5, k5, hS5, hp5⟩
            · refine Or.inl ⟨T', J', Td', Of', By', Fe', Mi', Tm', Jm', c, ?_, m0.trans y2, y3, ((((fr2.t fr4).t fr6).t fr8).t y4).n, frB.r c⟩
              rw [k0, y1]; rfl
            · have f24 : ∀ j, j = 24 ∨ j = 25 → Tm' j = Tm j := fun j hj => by rw [y4 j (by omega), fr8 j (by omega), fr6 j (by omega), fr4 j (by omega), fr2 j (by omega)]
              refine Or.inr ⟨T', J', Td', Of', By', Fe', Mi', Tm', Jm', c', d', ?_, m0.trans y2, (((fr1.t fr3).t fr5).t fr7).t y3, ((((fr2.t fr4).t fr6).t fr8).t y4).n, y5, p5, q5, k5, ⟨hS5, ⟨?_, ?_⟩, y6, y7, y8, ?_⟩, by omega⟩
              · rw [k0, y1]; rfl
              · rw [f24 24 (by omega)]; exact hf1
              · rw [f24 25 (by omega)]; exact hf2
              · rw [y9]; exact hw
          · rw [if_neg (by rw [show (5 : Int32) = iN 5 from rfl, iN_lt (by omega) (by omega)]; exact h5)] at k0
            rw [if_pos (show iN (tellOf d (v * d 1 + u)) = (5 : Int32) from congrArg iN (show tellOf d (v * d 1 + u) = 5 by omega))] at m0
            obtain ⟨T', Tm', b1, b2, b3, b4⟩ := p_fail hS3 (w := 5) (by decide) (by decide)
            have b1' : f_X8_blame T3 5 = some (0, T') := b1
            have b2' : f_X12_fail Tm3 5 (Tm3 15) = some Tm' := b2
            refine Or.inl ⟨T', J3, Td, Of, By, Fe, Mi, Tm', Jm3, c, ?_, ?_, b3, (((fr2.t fr4).t fr6).t b4).n, frB.r c⟩
            · rw [k0, b1']; rfl
            · rw [m0, b2', Option.bind_some, b_tel66 b3.b]
  · obtain ⟨T', Tm', b1, b2, b3, b4⟩ := p_fail hS (w := 6) (by decide) hk
    refine Or.inl ⟨T', J, Td, Of, By, Fe, Mi, Tm', Jm, c, ?_, ?_, b3, b4.n, frB.r c⟩
    · rw [f_X4_takeTold, t6, if_neg (by rw [show (12 : Int32) = iN 12 from rfl, iN_lt (by omega) (by omega)]; exact e12), show (6 : Int32) = iN 6 from rfl, b1]; rfl
    · rw [f_X12_readTelling, ck_y g1491, n1491, c1491, if_pos (show iN (d 3) = (12 : Int32) from congrArg iN (show d 3 = 12 by omega)), show (6 : Int32) = iN 6 from rfl, b2, Option.bind_some, b_tel23 b3.b]
end DY3
