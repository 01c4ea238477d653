/-! Calls: game, moveOf: the model's side. -/
def sg (e : Bool) (z : Int) : Int := if e then z else -z
def msb (d : Nat → Nat) (g : Nat → Int) (s : Nat) (e : Bool) (t : Nat) : Int32 := match mst d g s t with
  | none => 0
  | some x => iZ (sg e x.1)
def msw (d : Nat → Nat) (g : Nat → Int) (s t : Nat) : Int32 := match mst d g s t with
  | none => -1
  | some x => iN x.2
section GAME2
variable {d : Nat → Nat} {w Na : Nat → Int64} {c T T0 Tm S Li By Of Fe Mi : Nat → Int32} {L : Int32} {K : Int32 × Int32}
theorem dS_bit {d : Nat → Nat} {s t : Nat} (ht : t < d 2) : dS d (s ||| 2 ^ t) = updN (dS d s) (47 + t) 1 := by
  funext j
  unfold updN
  by_cases e : j = 47 + t
  · rw [if_pos e, e, dS_h ht, Nat.testBit_or, Nat.testBit_two_pow]
    simp [b1]
  · rw [if_neg e]
    by_cases q : 47 ≤ j ∧ j < 47 + d 2
    · obtain ⟨k, rfl⟩ : ∃ k, j = 47 + k := ⟨j - 47, by omega⟩
      rw [dS_h (by omega), dS_h (by omega), Nat.testBit_or, Nat.testBit_two_pow, decide_eq_false (show ¬ t = k by omega), Bool.or_false]
    · rw [dS_o q, dS_o q]
theorem mEx_in {s t : Nat} {c1 : Nat → Int32} (hd : dInv d) (h : mEx d s c c1) (ht : t < d 2) : mEx d (s ||| 2 ^ t) c (upd c1 (47 + t) 1) := by
  have hm := hd.many
  refine ⟨?_, fun j hj => by rw [upd_n (by omega)]; exact h.2 j hj⟩
  rw [dS_bit ht]
  exact mRep_upd h.1 (47 + t) 1
theorem mEx_out {s t : Nat} {c1 : Nat → Int32} (hd : dInv d) (h : mEx d (s ||| 2 ^ t) c c1) (ht : t < d 2) (hb : s.testBit t = false) : mEx d s c (upd c1 (47 + t) 0) := by
  have hm := hd.many
  refine ⟨?_, fun j hj => by rw [upd_n (by omega)]; exact h.2 j hj⟩
  have e : dS d s = updN (dS d (s ||| 2 ^ t)) (47 + t) 0 := by
    rw [dS_bit ht]
    funext j
    unfold updN
    by_cases e : j = 47 + t
    · rw [if_pos e, e, dS_h ht, hb]; rfl
    · rw [if_neg e, if_neg e]
  rw [e]
  exact mRep_upd h.1 (47 + t) 0
theorem e12_hears1 {s t : Nat} {c1 : Nat → Int32} (hd : dInv d) (h : mEx d s c c1) (ht : t < d 2) : f_X12_hears c1 (iN t) 1 = some (if s.testBit t = true then ((0 : Int32), c1) else ((1 : Int32), upd c1 (47 + t) 1)) := by
  have hm := hd.many
  have e2 : dS d s 2 = d 2 := dS_o (by omega)
  have h1 := e12_hears (dInv_S hd s) h.1 (i := t) (b := 1) (by rw [e2]; exact ht) (by decide)
  rw [dS_h ht] at h1
  refine Eq.trans h1 ?_
  cases s.testBit t <;> rfl
theorem e12_hears0 {s t : Nat} {c1 : Nat → Int32} (hd : dInv d) (h : mEx d (s ||| 2 ^ t) c c1) (ht : t < d 2) : f_X12_hears c1 (iN t) 0 = some ((1 : Int32), upd c1 (47 + t) 0) := by
  have hm := hd.many
  have e2 : dS d (s ||| 2 ^ t) 2 = d 2 := dS_o (by omega)
  have h1 := e12_hears (dInv_S hd (s ||| 2 ^ t)) h.1 (i := t) (b := 0) (by rw [e2]; exact ht) (by decide)
  rw [dS_h ht, Nat.testBit_or, Nat.testBit_two_pow, decide_eq_true rfl, Bool.or_true] at h1
  exact Eq.trans h1 rfl
theorem e12_knownsS {s : Nat} {c1 : Nat → Int32} (hd : dInv d) (h : mEx d s c c1) : f_X12_knowns c1 = some (iN (knownS d s)) := by
  have h1 := whites_S hd s
  rw [e12_knowns (dInv_S hd s) h.1, cells_S, show cells d - whites (dS d s) = knownS d s by omega]
theorem sg_b {e : Bool} {z B : Int} (h : -B ≤ z ∧ z ≤ B) : -B ≤ sg e z ∧ sg e z ≤ B := by
  unfold sg
  cases e
  · exact ⟨by show -B ≤ -z; omega, by show -z ≤ B; omega⟩
  · exact h
theorem sg_n (e : Bool) (z : Int) : sg (!e) z = - sg e z := by
  cases e
  · show z = - -z; omega
  · rfl
theorem even_tab : ∀ k, k < 5 → (iN k - iN k / 2 * 2 : Int32) = iN (k % 2) := by decide +kernel
/-- what is left of the game -/
theorem e12_plays (hd : dInv d) {n : Nat} (hn : n ≤ 4) : ∀ j k, k + j = n → ∀ (m s : Nat) (c1 U : Nat → Int32), s < 2 ^ d 2 → mEx d s c c1 → ∃ c2, r_X12_plays (m + j + 1) U c1 (iN k) (iN n) = some (iZ (sg (decide (k % 2 = 0)) (gv d j s)), if k = 0 ∧ 0 < j then upd U 30 (iN (mfin d (gv d (j - 1)) s).2) else U, c2) ∧ mEx d s c c2 := by
  intro j
  have hm := hd.many
  have h32 := pow_le hm.1
  induction j with
  | zero =>
    intro k hk m s c1 U hs hE
    refine ⟨c1, ?_, hE⟩
    have e : k = n := by omega
    show o_X12_plays _ _ _ _ _ = _
    rw [o_X12_plays, if_pos (congrArg iN e), if_neg (by omega), gv]
    cases decide (k % 2 = 0) <;> rfl
  | succ j ih =>
    intro k hk m s c1 U hs hE
    have e2 : ∀ {s c1}, mEx d s c c1 → c1 2 = iN (d 2) := fun h => by rw [h.1 2 (by omega), dS_o (by omega)]
    have g2 : gd 2 1860 = true := by decide
    have n2 : (2 : Int32).toNatClampNeg = 2 := by decide
    obtain ⟨e, he⟩ : ∃ e, e = decide (k % 2 = 0) := ⟨_, rfl⟩
    have he1 : decide ((k + 1) % 2 = 0) = !e := by
      rw [he]
      rcases (show k % 2 = 0 ∨ k % 2 = 1 by omega) with q | q
      · rw [decide_eq_true q, decide_eq_false (by omega)]; rfl
      · rw [decide_eq_false (show ¬ k % 2 = 0 by omega), decide_eq_true (by omega)]; rfl
    have gb : ∀ u, -144 ≤ gv d j u ∧ gv d j u ≤ 144 := gv_s hd (by omega)
    have kb := kn_le hd
    have main : ∀ x3 : Int32, x3 = (if e = true then 1 else 0) → ∃ c2, f_X12_plays_18 (r_X12_plays (m + j + 1)) (iN k) (iN n) x3 U c1 = some (iZ (sg e (gv d (j + 1) s)), (if k = 0 ∧ 0 < j + 1 then upd U 30 (iN (mfin d (gv d j) s).2) else U), c2) ∧ mEx d s c c2 := fun x3 hx3 => by
      rw [f_X12_plays_18, e12_knownsS hd hE, Option.bind_some]
      have l := iter_run (g := g_X12_plays_34 (r_X12_plays (m + j + 1)) (iN k) (iN n)) (z := fun _ _ _ _ _ _ _ => none) (d 2 + 1) (fun t (φ : Int32 → Int32 → Int32 → Int32 → Int32 → (Nat → Int32) → (Nat → Int32) → Option (Int32 × (Nat → Int32) × (Nat → Int32))) => ∀ c1, mEx d s c c1 → ∃ c2, φ x3 (iN (knownS d s)) (if t ≤ d 2 then msb d (gv d j) s e t else iZ (sg e (mfin d (gv d j) s).1)) (if t ≤ d 2 then msw d (gv d j) s t else iN (mfin d (gv d j) s).2) (iN t) U c1 = some (iZ (sg e (gv d (j + 1) s)), (if k = 0 ∧ 0 < j + 1 then upd U 30 (iN (mfin d (gv d j) s).2) else U), c2) ∧ mEx d s c c2) (by omega) (fun t F ht ih2 => fun c1 hE => ?_) (fun F => fun c1 hE => ?_)
      · obtain ⟨c2, l1, l2⟩ := l c1 hE
        exact ⟨c2, l1, l2⟩
      · have et : (iN t + 1 : Int32) = iN (t + 1) := iN_add t 1
        rw [if_pos (by omega), if_pos (by omega), g_X12_plays_34, ck_y g2, n2, e2 hE, if_neg (by rw [iN_lt (by omega) (by omega)]; omega), ck_y g2]
        have mo := mst_ok d (gv d j) s t
        -- the choice between what was best and a new one
        have pick : ∀ (v : Int) (t9 : Nat) (c2 : Nat → Int32), -1000 ≤ v ∧ v ≤ 1000 → t9 = t → mEx d s c c2 → ((if t + 1 ≤ d 2 then msb d (gv d j) s e (t + 1) else iZ (sg e (mfin d (gv d j) s).1)) = (match mst d (gv d j) s t with | none => iZ (sg e v) | some x => if x.1 < v then iZ (sg e v) else iZ (sg e x.1))) → ((if t + 1 ≤ d 2 then msw d (gv d j) s (t + 1) else iN (mfin d (gv d j) s).2) = (match mst d (gv d j) s t with | none => iN t | some x => if x.1 < v then iN t else iN x.2)) → ∃ c3, f_X12_plays_135 (r_X12_plays (m + j + 1)) (iN k) (iN n) F x3 (iN (knownS d s)) (msb d (gv d j) s e t) (msw d (gv d j) s t) (iN t) (iZ (sg e v)) U c2 = some (iZ (sg e (gv d (j + 1) s)), (if k = 0 ∧ 0 < j + 1 then upd U 30 (iN (mfin d (gv d j) s).2) else U), c3) ∧ mEx d s c c3 := fun v t9 c2 hv _ h2 w1 w2 => by
          have i9 := ih2 c2 h2
          rw [w1, w2] at i9
          rw [f_X12_plays_135, f_X12_plays_164, et]
          unfold msb msw
          cases hmt : mst d (gv d j) s t with
          | none =>
            rw [hmt] at i9
            dsimp only at i9 ⊢
            rw [if_pos (by decide)]
            exact i9
          | some x =>
            rw [hmt] at i9 mo
            dsimp only at i9 ⊢
            obtain ⟨m1, m2, m3, m4, m5⟩ := mo
            have hxb := cmv_b hd (B := 144) gb s x.2
            rw [m3] at hxb
            have sv := sg_b (e := e) (B := 1000) hv
            have sx := sg_b (e := e) (B := 180) (z := x.1) (by omega)
            rw [if_neg (by rw [show (0 : Int32) = iN 0 from rfl, iN_lt (by omega) (by omega)]; omega), hx3]
            cases e with
            | true =>
              rw [if_neg (show ¬ (if true = true then (1 : Int32) else 0) = 0 by decide)]
              by_cases q : x.1 < v
              · rw [if_pos q, if_pos q] at i9
                rw [if_pos (by rw [iZ_lt (by omega) (by omega)]; exact q)]; rw [hx3] at i9; exact i9
              · rw [if_neg q, if_neg q] at i9
                rw [if_neg (by rw [iZ_lt (by omega) (by omega)]; exact q)]; rw [hx3] at i9; exact i9
            | false =>
              rw [if_pos (show (if false = true then (1 : Int32) else 0) = 0 from rfl)]
              by_cases q : x.1 < v
              · rw [if_pos q, if_pos q] at i9
                rw [if_pos (by rw [iZ_lt (by omega) (by omega)]; show -v < -x.1; omega)]; rw [hx3] at i9; exact i9
              · rw [if_neg q, if_neg q] at i9
                rw [if_neg (by rw [iZ_lt (by omega) (by omega)]; show ¬ -v < -x.1; omega)]; rw [hx3] at i9; exact i9
        by_cases q : t = d 2
        · -- nothing
          rw [if_pos (congrArg iN q), f_X12_plays_61, if_neg (show ¬ (1 : Int32) = 0 by decide), f_X12_plays_81, if_neg (show ¬ (1 : Int32) = 0 by decide), f_X12_plays_97, f_X12_plays_111, f_X12_plays_111]
          obtain ⟨c2, p1, p2⟩ := ih (k + 1) (by omega) m s c1 U hs hE
          rw [if_neg (by omega), he1] at p1
          rw [show (iN k + 1 : Int32) = iN (k + 1) from iN_add k 1, p1, Option.bind_some, Option.bind_some]
          dsimp only
          rw [if_neg (show ¬ (1 : Int32) = 0 by decide), if_neg (show ¬ (1 : Int32) = 0 by decide)]
          have hz : (if x3 = 0 then f_X12_plays_135 (r_X12_plays (m + j + 1)) (iN k) (iN n) F x3 (iN (knownS d s)) (msb d (gv d j) s e t) (msw d (gv d j) s t) (iN t) (-0 + iZ (sg (!e) (gv d j s))) U c2 else f_X12_plays_135 (r_X12_plays (m + j + 1)) (iN k) (iN n) F x3 (iN (knownS d s)) (msb d (gv d j) s e t) (msw d (gv d j) s t) (iN t) (0 + iZ (sg (!e) (gv d j s))) U c2) = f_X12_plays_135 (r_X12_plays (m + j + 1)) (iN k) (iN n) F x3 (iN (knownS d s)) (msb d (gv d j) s e t) (msw d (gv d j) s t) (iN t) (iZ (sg e (- gv d j s))) U c2 := by
            have z1 : (-0 + iZ (sg (!e) (gv d j s)) : Int32) = iZ (sg e (- gv d j s)) := by
              rw [show (-0 : Int32) = iZ 0 from rfl, iZ_add, sg_n]
              congr 1
              cases e
              · show 0 + - -gv d j s = - -gv d j s; omega
              · show 0 + -gv d j s = -gv d j s; omega
            have z2 : (0 + iZ (sg (!e) (gv d j s)) : Int32) = iZ (sg e (- gv d j s)) := z1
            rw [z1, z2]
            split <;> rfl
          rw [hz]
          refine pick _ t c2 (by have := gb s; omega) rfl p2 ?_ ?_
          · rw [if_neg (by omega)]
            unfold mfin
            rw [← q]
            cases mst d (gv d j) s t with
            | none => rfl
            | some x =>
              dsimp only
              split <;> rfl
          · rw [if_neg (by omega)]
            unfold mfin
            rw [← q]
            cases mst d (gv d j) s t with
            | none => rfl
            | some x =>
              dsimp only
              split <;> rfl
        · -- a traveller
          have ht2 : t < d 2 := by omega
          rw [if_neg (iN_ne (by omega) (by omega) q), f_X12_plays_61, if_pos rfl, e12_hears1 hd hE ht2, Option.bind_some]
          have m1 : mst d (gv d j) s (t + 1) = if s.testBit t = true then mst d (gv d j) s t else match mst d (gv d j) s t with | none => some (cmv d (gv d j) s t, t) | some x => if x.1 < cmv d (gv d j) s t then some (cmv d (gv d j) s t, t) else some x := rfl
          cases hb : s.testBit t with
          | true =>
            rw [hb, if_pos rfl] at m1
            rw [if_pos rfl]
            dsimp only
            rw [if_pos rfl, et]
            have i9 := ih2 c1 hE
            rw [if_pos (by omega), if_pos (by omega)] at i9
            unfold msb msw at i9 ⊢
            rw [m1] at i9
            exact i9
          | false =>
            rw [hb, if_neg (by decide)] at m1
            rw [if_neg Bool.false_ne_true]
            dsimp only
            rw [if_neg (show ¬ (1 : Int32) = 0 by decide), f_X12_plays_81, if_pos rfl]
            have hE2 := mEx_in hd hE ht2
            rw [e12_knownsS hd hE2, Option.bind_some, show (iN (knownS d (s ||| 2 ^ t)) - iN (knownS d s) : Int32) = iZ (((knownS d (s ||| 2 ^ t) : Nat) : Int) - ((knownS d s : Nat) : Int)) from by rw [iN_Z, iN_Z, iZ_sub], f_X12_plays_97, f_X12_plays_111, f_X12_plays_111]
            obtain ⟨c2, p1, p2⟩ := ih (k + 1) (by omega) m (s ||| 2 ^ t) _ U (two_lt hs ht2) hE2
            rw [if_neg (by omega), he1] at p1
            rw [show (iN k + 1 : Int32) = iN (k + 1) from iN_add k 1, p1, Option.bind_some, Option.bind_some]
            dsimp only
            rw [if_pos rfl, if_pos rfl, e12_hears0 hd p2 ht2, Option.bind_some, Option.bind_some]
            dsimp only
            have hE3 := mEx_out hd p2 ht2 hb
            have kb1 := kb s
            have kb2 := kb (s ||| 2 ^ t)
            have gb2 := gb (s ||| 2 ^ t)
            have cb := cmv_b hd (B := 144) gb s t
            have hz : (if x3 = 0 then f_X12_plays_135 (r_X12_plays (m + j + 1)) (iN k) (iN n) F x3 (iN (knownS d s)) (msb d (gv d j) s e t) (msw d (gv d j) s t) (iN t) (-iZ (↑(knownS d (s ||| 2 ^ t)) - ↑(knownS d s)) + iZ (sg (!e) (gv d j (s ||| 2 ^ t)))) U (upd c2 (47 + t) 0) else f_X12_plays_135 (r_X12_plays (m + j + 1)) (iN k) (iN n) F x3 (iN (knownS d s)) (msb d (gv d j) s e t) (msw d (gv d j) s t) (iN t) (iZ (↑(knownS d (s ||| 2 ^ t)) - ↑(knownS d s)) + iZ (sg (!e) (gv d j (s ||| 2 ^ t)))) U (upd c2 (47 + t) 0)) = f_X12_plays_135 (r_X12_plays (m + j + 1)) (iN k) (iN n) F x3 (iN (knownS d s)) (msb d (gv d j) s e t) (msw d (gv d j) s t) (iN t) (iZ (sg e (cmv d (gv d j) s t))) U (upd c2 (47 + t) 0) := by
              rw [iZ_neg, iZ_add, iZ_add, sg_n, hx3]
              cases e
              · rw [if_pos (show (if false = true then (1 : Int32) else 0) = 0 from rfl)]
                congr 2
                show -(((knownS d (s ||| 2 ^ t) : Nat) : Int) - ((knownS d s : Nat) : Int)) + - - gv d j (s ||| 2 ^ t) = -(((knownS d (s ||| 2 ^ t) : Nat) : Int) - ((knownS d s : Nat) : Int) - gv d j (s ||| 2 ^ t))
                omega
              · rw [if_neg (show ¬ (if true = true then (1 : Int32) else 0) = 0 by decide)]
                rfl
            rw [hz]
            refine pick _ t _ (by omega) rfl hE3 ?_ ?_
            · rw [if_pos (by omega)]
              unfold msb
              rw [m1]
              cases mst d (gv d j) s t with
              | none => rfl
              | some x =>
                dsimp only
                by_cases q9 : x.1 < cmv d (gv d j) s t
                · rw [if_pos q9, if_pos q9]
                · rw [if_neg q9, if_neg q9]
            · rw [if_pos (by omega)]
              unfold msw
              rw [m1]
              cases mst d (gv d j) s t with
              | none => rfl
              | some x =>
                dsimp only
                by_cases q9 : x.1 < cmv d (gv d j) s t
                · rw [if_pos q9, if_pos q9]
                · rw [if_neg q9, if_neg q9]
      · rw [if_neg (by omega), if_neg (by omega), g_X12_plays_34, ck_y g2, n2, e2 hE, if_pos (by rw [iN_lt (by omega) (by omega)]; omega), mfin_1]
        refine ⟨c1, ?_, hE⟩
        by_cases q : k = 0
        · rw [if_pos (show iN k = (0 : Int32) from congrArg iN q), if_pos ⟨q, by omega⟩]; rfl
        · rw [if_neg (show ¬ iN k = (0 : Int32) from iN_ne (by omega) (by decide) q), if_neg (fun h9 => q h9.1)]; rfl
    show ∃ c2, o_X12_plays (r_X12_plays (m + j + 1)) U c1 (iN k) (iN n) = _ ∧ _
    rw [o_X12_plays, if_neg (iN_ne (by omega) (by omega) (by omega)), ck_y (by decide), even_tab k (by omega), ← he]
    by_cases q : k % 2 = 0
    · rw [if_pos (show iN (k % 2) = (0 : Int32) from congrArg iN q)]
      exact main 1 (by rw [he, decide_eq_true q]; rfl)
    · rw [if_neg (show ¬ iN (k % 2) = (0 : Int32) from iN_ne (by omega) (by decide) q)]
      exact main 0 (by rw [he, decide_eq_false q]; rfl)
theorem q_game (hd : dInv d) (hc : mRep d c) (hk : kRep d w T S Li Na By Of Fe Mi) (hs : sR T0 Tm L K) (x : Int32) (V4 V8 V9 : Nat → Int32) : ∃ v U W Y Z Um, f_X11_game T0 T V4 Of Fe By V8 V9 x = some (v, U, W, Y, Z) ∧ f_X12_game Tm c x = some (v, Um, c) ∧ sR U Um L K := by
  have hm := hd.many
  have h32 := pow_le hm.1
  have hs2 := hset_2 hd
  have e1 := e_within_4 x
  have e2 := e_isIn_4 x
  by_cases hx : inR x 5
  · rw [if_pos hx] at e1 e2
    obtain ⟨n, hn, rfl⟩ := hx.eq (by decide)
    obtain ⟨W, Y, f1, f2⟩ := e2_weigh hd hk V4 V8
    obtain ⟨Z, p1, p2⟩ := e2_play hd hk f2 V9 (show n ≤ 4 by omega)
    obtain ⟨c2, m1, m2⟩ := e12_plays (c := c) hd (show n ≤ 4 by omega) n 0 (by omega) (5 - n) (hset d) c (upd (upd Tm 1 0) 0 0) hs2 (mEx_0 hd hc)
    have ec := mEx_self hd hc m2
    rw [ec, show 5 - n + n + 1 = 6 by omega] at m1
    generalize hU9 : (if 0 = 0 ∧ 0 < n then upd (upd (upd Tm 1 0) 0 0) 30 (iN (mfin d (gv d (n - 1)) (hset d)).2) else upd (upd Tm 1 0) 0 0) = U9 at m1
    refine ⟨iZ (gv d n (hset d)), upd T0 14 0, W, Y, Z, U9, ?_, ?_, ?_⟩
    · rw [f_X11_game, e1, Option.bind_some, if_neg (by decide), f1, Option.bind_some]
      dsimp only
      rw [p1, Option.bind_some, hk.1.2.2.2.2.2.1, e2_creditFrom Z (by omega), p2 _ hs2 (Nat.and_self _) (Nat.zero_le _)]
      rfl
    · rw [f_X12_game, e2, Option.bind_some, if_neg (by decide), f_X12_plays, show (0 : Int32) = iN 0 from rfl]
      exact congrArg (fun o => Option.bind o (fun z25 => some (z25.1, z25.2.1, z25.2.2))) m1
    · by_cases q : 0 < n
      · rw [← hU9, if_pos ⟨rfl, q⟩]
        exact sR_u (sR_ok hs) (Or.inr rfl) (fun j hj => upd_n hj)
      · rw [← hU9, if_neg (fun h9 => q h9.2)]; exact sR_ok hs
  · rw [if_neg hx] at e1 e2
    refine ⟨-1, upd T0 14 5, V4, V8, V9, upd (upd (upd Tm 1 0) 0 0) 0 5, ?_, ?_, sR_no hs⟩
    · rw [f_X11_game, e1]; rfl
    · rw [f_X12_game, e2]; rfl
theorem e_within_14 (x : Int32) : f_X11_within x 1 4 = some (if inR x 5 ∧ ¬ x = 0 then 1 else 0) := by
  rw [e_within_i]
  refine congrArg some (ifc ?_)
  unfold inR
  rw [show (1 : Int32).toInt = 1 from rfl, show (4 : Int32).toInt = 4 from rfl, ← Int32.toInt_inj, show (0 : Int32).toInt = 0 from rfl]
  omega
theorem e_isIn_14 (x : Int32) : f_X12_isIn (Int32.toInt64 x) 1 4 = some (if inR x 5 ∧ ¬ x = 0 then 1 else 0) := by
  rw [e_isIn_i, Int32.toInt_toInt64]
  refine congrArg some (ifc ?_)
  unfold inR
  rw [show (1 : Int64).toInt = 1 from rfl, show (4 : Int64).toInt = 4 from rfl, ← Int32.toInt_inj, show (0 : Int32).toInt = 0 from rfl]
  omega
theorem e2_firstMove (hd : dInv d) (hk : kRep d w T S Li Na By Of Fe Mi) {Y V : Nat → Int32} (hY : knR d Y (2 ^ d 2)) {g : Nat → Int} (hg : ∀ u, -144 ≤ g u ∧ g u ≤ 144) (hW : wtR d g V 0) : f_X2_firstBestMove T V Y = some (if (mfin d g (hset d)).2 = d 2 then -1 else iN (mfin d g (hset d)).2) := by
  have hm := hd.many
  have h32 := pow_le hm.1
  have hs2 := hset_2 hd
  have hW2 : wtR d g V (hset d) := fun u hu he _ => hW u hu he (Nat.zero_le _)
  have hb := bcF_b hd (B := 144) hg (hset d) (d 2)
  have ha : hset d &&& hset d = hset d := Nat.and_self _
  rw [f_X2_firstBestMove, hk.1.2.2.2.2.2.1, e2_bestCredit hd hk hY hg hW2 hs2 ha, Option.bind_some]
  have mf := mfin_2 d g (hset d)
  obtain ⟨r, hr⟩ : ∃ r, r = (mfin d g (hset d)).2 := ⟨_, rfl⟩
  rw [← hr] at mf ⊢
  have hrl : r ≤ d 2 := by omega
  have test : ∀ t, t < d 2 → f_X3_isHeard T (iN t) = some (if (hset d).testBit t = true then 1 else 0) := fun t ht => by
    rw [f_X3_isHeard, hk.1.2.2.2.2.2.1, isIn_tab _ (by omega) t (by omega), Option.bind_some, ck_bz]
  refine iter_run (g := g_X2_firstBestMove_12 T V Y) (z := fun _ _ => none) r (fun t (φ : Int32 → Int32 → Option Int32) => φ (iZ (bcF d g (hset d) (d 2))) (iN t) = some (if r = d 2 then -1 else iN r)) (by omega) (fun t F ht ih => ?_) (fun F => ?_)
  · have hc9 := cmv_b hd (B := 144) hg (hset d) t
    rw [g_X2_firstBestMove_12, hk.1.2.2.2.2.1, if_neg (by rw [iN_le (by omega) (by omega)]; omega), test t (by omega), Option.bind_some, hk.1.2.2.2.2.2.1, e2_creditOfMove hd hY hW2 hs2 ha (by omega), Option.bind_some, show (iN t + 1 : Int32) = iN (t + 1) from iN_add t 1]
    cases hb2 : (hset d).testBit t
    · rw [if_pos (show (if false = true then (1 : Int32) else 0) = 0 from rfl), if_neg (by
        rw [iZ_eq (by omega) (by omega)]
        rcases mf with ⟨q1, q2⟩ | ⟨q1, q2, q3, q4⟩
        · exact q2 t (by omega) hb2
        · exact q4 t ht hb2)]
      exact ih
    · rw [if_neg (show ¬ (if true = true then (1 : Int32) else 0) = 0 by decide)]
      exact ih
  · rw [g_X2_firstBestMove_12, hk.1.2.2.2.2.1]
    rcases mf with ⟨q1, q2⟩ | ⟨q1, q2, q3, q4⟩
    · rw [if_pos (by rw [iN_le (by omega) (by omega)]; omega), if_pos q1]
    · rw [if_neg (by rw [iN_le (by omega) (by omega)]; omega), test r q1, Option.bind_some, q2, if_pos (show (if false = true then (1 : Int32) else 0) = 0 from rfl), hk.1.2.2.2.2.2.1, e2_creditOfMove hd hY hW2 hs2 ha q1, Option.bind_some, if_pos (congrArg iZ q3), if_neg (by omega)]
theorem q_moveOf (hd : dInv d) (hc : mRep d c) (hk : kRep d w T S Li Na By Of Fe Mi) (hs : sR T0 Tm L K) (x : Int32) (V4 V8 V9 : Nat → Int32) : ∃ v U W Y Z Um, f_X11_moveOf T0 T V4 Of Fe By V8 V9 x = some (v, U, W, Y, Z) ∧ f_X12_moveOf Tm c x = some (v, Um, c) ∧ sR U Um L K := by
  have hm := hd.many
  have h32 := pow_le hm.1
  have hs2 := hset_2 hd
  have e1 := e_within_14 x
  have e2 := e_isIn_14 x
  by_cases hx : inR x 5 ∧ ¬ x = 0
  · rw [if_pos hx] at e1 e2
    obtain ⟨hx1, hx0⟩ := hx
    obtain ⟨n0, hn0, rfl⟩ := hx1.eq (by decide)
    obtain ⟨n, rfl⟩ : ∃ n, n0 = n + 1 := ⟨n0 - 1, by
      have : ¬ n0 = 0 := fun e => hx0 (by rw [e]; rfl)
      omega⟩
    obtain ⟨W, Y, f1, f2⟩ := e2_weigh hd hk V4 V8
    obtain ⟨Z, p1, p2⟩ := e2_play hd hk f2 V9 (show n ≤ 4 by omega)
    obtain ⟨c2, m1, m2⟩ := e12_plays (c := c) hd (show n + 1 ≤ 4 by omega) (n + 1) 0 (by omega) (4 - n) (hset d) c (upd (upd Tm 1 0) 0 0) hs2 (mEx_0 hd hc)
    have ec := mEx_self hd hc m2
    rw [ec, show 4 - n + (n + 1) + 1 = 6 by omega, if_pos ⟨rfl, by omega⟩, Nat.add_sub_cancel] at m1
    have fm := e2_firstMove hd hk f2 (gv_s hd (show n ≤ 4 by omega)) p2
    have mf := mfin_2 d (gv d n) (hset d)
    obtain ⟨r, hr⟩ : ∃ r, r = (mfin d (gv d n) (hset d)).2 := ⟨_, rfl⟩
    rw [← hr] at mf m1 fm
    have hrl : r ≤ d 2 := by omega
    have g2 : gd 2 1860 = true := by decide
    have n2 : (2 : Int32).toNatClampNeg = 2 := by decide
    have m3 : f_X12_plays (upd (upd Tm 1 0) 0 0) c 0 (iN (n + 1)) = some (iZ (sg (decide (0 % 2 = 0)) (gv d (n + 1) (hset d))), upd (upd (upd Tm 1 0) 0 0) 30 (iN r), c) := m1
    have s9 : sR (upd T0 14 0) (upd (upd (upd Tm 1 0) 0 0) 30 (iN r)) L K := sR_u (sR_ok hs) (Or.inr rfl) (fun j hj => upd_n hj)
    by_cases q : r = d 2
    · rw [if_pos q] at fm
      refine ⟨-1, upd T0 14 8, W, Y, Z, upd (upd (upd (upd Tm 1 0) 0 0) 30 (iN r)) 0 8, ?_, ?_, ⟨rfl, s9.2⟩⟩
      · rw [f_X11_moveOf, e1, Option.bind_some, if_neg (by decide), f1, Option.bind_some]
        dsimp only
        rw [show (iN (n + 1) - 1 : Int32) = iN n from iN_sub (a := n + 1) (b := 1) (by omega), p1, Option.bind_some, fm, Option.bind_some, if_pos rfl]
        rfl
      · rw [f_X12_moveOf, e2, Option.bind_some, if_neg (by decide), m3, Option.bind_some, ck_y g2]
        dsimp only
        rw [if_pos (by rw [upd_s, n2, hc 2 (by omega), q])]
        rfl
    · rw [if_neg q] at fm
      refine ⟨iN r, upd T0 14 0, W, Y, Z, upd (upd (upd Tm 1 0) 0 0) 30 (iN r), ?_, ?_, s9⟩
      · rw [f_X11_moveOf, e1, Option.bind_some, if_neg (by decide), f1, Option.bind_some]
        dsimp only
        rw [show (iN (n + 1) - 1 : Int32) = iN n from iN_sub (a := n + 1) (b := 1) (by omega), p1, Option.bind_some, fm, Option.bind_some, if_neg (iN_ne_m1 (by omega))]
        rfl
      · rw [f_X12_moveOf, e2, Option.bind_some, if_neg (by decide), m3, Option.bind_some, ck_y g2]
        dsimp only
        rw [if_neg (by rw [upd_s, n2, hc 2 (by omega)]; exact iN_ne (by omega) (by omega) q), upd_s]
  · rw [if_neg hx] at e1 e2
    refine ⟨-1, upd T0 14 5, V4, V8, V9, upd (upd (upd Tm 1 0) 0 0) 0 5, ?_, ?_, sR_no hs⟩
    · rw [f_X11_moveOf, e1]; rfl
    · rw [f_X12_moveOf, e2]; rfl
end GAME2
