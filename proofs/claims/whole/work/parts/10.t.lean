theorem dJ7_fill_53178_0 : decode cJ7_fill_53178 0 = .ok (.iconst 0, 1) := by decide +kernel
theorem dJ7_fill_53178_1 : decode cJ7_fill_53178 1 = .ok (.istore_n 2, 1) := by decide +kernel
theorem dJ7_fill_53178_2 : decode cJ7_fill_53178 2 = .ok (.aload_n 0, 1) := by decide +kernel
theorem dJ7_fill_53178_3 : decode cJ7_fill_53178 3 = .ok (.arraylength, 1) := by decide +kernel
theorem dJ7_fill_53178_4 : decode cJ7_fill_53178 4 = .ok (.istore_n 3, 1) := by decide +kernel
theorem dJ7_fill_53178_5 : decode cJ7_fill_53178 5 = .ok (.iload_n 2, 1) := by decide +kernel
theorem dJ7_fill_53178_6 : decode cJ7_fill_53178 6 = .ok (.iload_n 3, 1) := by decide +kernel
theorem dJ7_fill_53178_7 : decode cJ7_fill_53178 7 = .ok (.if_icmp .ge 13, 3) := by decide +kernel
theorem dJ7_fill_53178_10 : decode cJ7_fill_53178 10 = .ok (.aload_n 0, 1) := by decide +kernel
theorem dJ7_fill_53178_11 : decode cJ7_fill_53178 11 = .ok (.iload_n 2, 1) := by decide +kernel
theorem dJ7_fill_53178_12 : decode cJ7_fill_53178 12 = .ok (.iload_n 1, 1) := by decide +kernel
theorem dJ7_fill_53178_13 : decode cJ7_fill_53178 13 = .ok (.iastore, 1) := by decide +kernel
theorem dJ7_fill_53178_14 : decode cJ7_fill_53178 14 = .ok (.iinc 2 1, 3) := by decide +kernel
theorem dJ7_fill_53178_17 : decode cJ7_fill_53178 17 = .ok (.goto (-12), 3) := by decide +kernel
theorem dJ7_fill_53178_20 : decode cJ7_fill_53178 20 = .ok (.return_, 1) := by decide +kernel
def g_J7_fill_53178_5 (N0 : Nat) (x1 : Int32)  (k5 : Int32 → Int32 → (Nat → Int32) → Option ((Nat → Int32))) : Int32 → Int32 → (Nat → Int32) → Option ((Nat → Int32)) := fun x2 x3 V0 => if x3 ≤ x2 then (some V0) else (ck (gd x2 N0) (k5 (x2 + 1) x3 (upd V0 (Int32.toNatClampNeg x2) x1)))
def f_J7_fill_53178_5 (N0 : Nat) (x1 : Int32)  (n : Nat) : Int32 → Int32 → (Nat → Int32) → Option ((Nat → Int32)) := iter (g_J7_fill_53178_5 N0 x1 ) (fun _ _ _ => none) n
def f_J7_fill_53178 (V0 : Nat → Int32) (N0 : Nat) (x1 : Int32) : Option ((Nat → Int32)) := f_J7_fill_53178_5 N0 x1 xF 0 (Int32.ofNat N0) V0
set_option maxRecDepth 100000 in
theorem c_J7_fill_53178 (l : Launch) (E : xE) (a0 : Nat) {V0 : Nat → Int32} {N0 : Nat} {x1 : Int32} {z : (Nat → Int32)} (hf : f_J7_fill_53178 V0 N0 x1 = some z) (sz : Nat) : Met l yJ7_fill_53178 (Cond.code yJ7_fill_53178 cJ7_fill_53178 4 none :: gw) ({ frames := 0, cells := 0, slots := 0, locals := 0 }) (xPc E [.ref a0, .int x1] [(a0, ai E N0 V0)] sz) (xQv E [(a0, ai E N0 V0)] [(a0, ai E N0 z)] sz) 0 0 (va_A [(a0, ai E N0 V0)] sz) := by
  refine xM_v (by decide +kernel) (Nat.le_of_ble_eq_true rfl) ?_
  intro p e s m args below meth c A Q hx hb hml hown htg hK hG hA ret0 H locs ls hP hD hS hl
  have ret : ∀ (z' : (Nat → Int32)) {H : Heap} {locs : List Loc} {pc : Nat} {ls : Array Slot}, some z' = some z → va_P E.1 vwCl [(a0, ai E N0 z')] H → va_S A s.heap H locs → decode cJ7_fill_53178 pc = .ok (.return_, 1) → W p l e ({ frames := 0, cells := 0, slots := 0, locals := 0 } : Room) s m args below meth c H locs 0 0 Q (F0 m pc ls []) := by
    intro z' H locs pc ls h
    cases h
    exact ret0
  replace hl : lv_has ls 4 [(0, .ref a0), (1, .int x1)] := hl
  have b5 : ∀ (n : Nat) (x2 : Int32) (x3 : Int32) (V0 : Nat → Int32) (H : Heap) (locs : List Loc) (ls : Array Slot), f_J7_fill_53178_5 N0 x1 n x2 x3 V0 = some z → va_P E.1 vwCl [(a0, ai E N0 V0)] H → va_D A [(a0, ai E N0 V0)] → va_S A s.heap H locs → lv_has ls 4 [(0, .ref a0), (1, .int x1), (2, .int x2), (3, .int x3)] → W p l e ({ frames := 0, cells := 0, slots := 0, locals := 0 } : Room) s m args below meth c H locs 0 0 Q (F0 m 5 ls []) := by
    intro n
    induction n with
    | zero => intro x2 x3 V0 H locs ls hf; exact (nn_s hf).elim
    | succ n ih5 =>
      obtain ⟨k5, ek5⟩ : ∃ k, k = f_J7_fill_53178_5 N0 x1 n := ⟨_, rfl⟩
      rw [← ek5] at ih5
      intro x2 x3 V0 H locs ls hf hP hD hS hl
      replace hf : g_J7_fill_53178_5 N0 x1 k5 x2 x3 V0 = some z := by rw [ek5]; exact hf
      unfold g_J7_fill_53178_5 at hf
      refine lv_iload_n hx hb dJ7_fill_53178_5 rfl (lv_at hl 2 rfl) ?_
      refine lv_iload_n hx hb dJ7_fill_53178_6 rfl (lv_at hl 3 rfl) ?_
      refine lv_icmp_ge (tgt := 20) hx hb dJ7_fill_53178_7 (by decide) (fun c7 => ?_) (fun c7 => ?_)
      · have hf := it_t c7 hf
        exact ret _ hf hP hS dJ7_fill_53178_20
      · have hf := it_f c7 hf
        refine lv_aload_n hx hb dJ7_fill_53178_10 rfl (lv_at hl 0 rfl) ?_
        refine lv_iload_n hx hb dJ7_fill_53178_11 rfl (lv_at hl 2 rfl) ?_
        refine lv_iload_n hx hb dJ7_fill_53178_12 rfl (lv_at hl 1 rfl) ?_
        obtain ⟨g13, hf⟩ := ck_s hf
        refine xiast hx hb hK hP hD hS 0 rfl g13 dJ7_fill_53178_13 (fun H locs hP hD hS => ?_)
        refine lv_iinc (v := x2 + 1) (lv' := [(2, .int (x2 + 1)), (0, .ref a0), (1, .int x1), (3, .int x3)]) hx hb dJ7_fill_53178_14 hl (k := 2) rfl rfl (by decide) rfl (fun ls hl => ?_)
        refine lv_goto (tgt := 5) hx hb dJ7_fill_53178_17 (by decide) ?_
        exact ih5 (x2 + 1) x3 (upd V0 (Int32.toNatClampNeg x2) x1) _ _ _ hf hP hD hS (lv_sub hl [1, 2, 0, 3] rfl)
  unfold f_J7_fill_53178 at hf
  refine lv_iconst (v := 0) hx hb dJ7_fill_53178_0 rfl ?_
  refine lv_istore_n (lv' := [(2, .int 0), (0, .ref a0), (1, .int x1)]) hx hb dJ7_fill_53178_1 rfl hl (by decide) rfl (fun ls hl => ?_)
  refine lv_aload_n hx hb dJ7_fill_53178_2 rfl (lv_at hl 1 rfl) ?_
  refine va_alen (v := Int32.ofNat N0) hx hb hK hP 0 1 rfl rfl rfl dJ7_fill_53178_3 ?_
  refine lv_istore_n (lv' := [(3, .int (Int32.ofNat N0)), (2, .int 0), (0, .ref a0), (1, .int x1)]) hx hb dJ7_fill_53178_4 rfl hl (by decide) rfl (fun ls hl => ?_)
  exact b5 xF 0 (Int32.ofNat N0) V0 _ _ _ hf hP hD hS (lv_sub hl [2, 3, 1, 0] rfl)
theorem dX3_isIn_0 : decode cX3_isIn 0 = .ok (.iload_n 1, 1) := by decide +kernel
theorem dX3_isIn_1 : decode cX3_isIn 1 = .ok (.iload_n 0, 1) := by decide +kernel
theorem dX3_isIn_2 : decode cX3_isIn 2 = .ok (.ishr, 1) := by decide +kernel
theorem dX3_isIn_3 : decode cX3_isIn 3 = .ok (.iconst 1, 1) := by decide +kernel
theorem dX3_isIn_4 : decode cX3_isIn 4 = .ok (.iand, 1) := by decide +kernel
theorem dX3_isIn_5 : decode cX3_isIn 5 = .ok (.iconst 1, 1) := by decide +kernel
theorem dX3_isIn_6 : decode cX3_isIn 6 = .ok (.if_icmp .ne 7, 3) := by decide +kernel
theorem dX3_isIn_9 : decode cX3_isIn 9 = .ok (.iconst 1, 1) := by decide +kernel
theorem dX3_isIn_10 : decode cX3_isIn 10 = .ok (.goto 4, 3) := by decide +kernel
theorem dX3_isIn_13 : decode cX3_isIn 13 = .ok (.iconst 0, 1) := by decide +kernel
theorem dX3_isIn_14 : decode cX3_isIn 14 = .ok (.ireturn, 1) := by decide +kernel
def f_X3_isIn (x0 : Int32) (x1 : Int32) : Option (Int32) := if ((x1 >>> (x0 &&& 31)) &&& 1) = 1 then (some 1) else (some 0)
set_option maxRecDepth 100000 in
theorem c_X3_isIn (l : Launch) (E : xE) {x0 : Int32} {x1 : Int32} {z : Int32} (hf : f_X3_isIn x0 x1 = some z) (sz : Nat) : Met l yX3_isIn (Cond.code yX3_isIn cX3_isIn 2 (some .boolean) :: gw) ({ frames := 0, cells := 0, slots := 0, locals := 0 }) (xPc E [.int x0, .int x1] [] sz) (xQi E z [] [] sz) 0 0 (va_A [] sz) := by
  refine xM_i (by decide +kernel) (Nat.le_of_ble_eq_true rfl) ?_
  intro p e s m args below meth c A Q hx hb hml hown htg hK hG hA ret0 H locs ls hP hD hS hl
  have ret : ∀ (z' : Int32) {H : Heap} {locs : List Loc} {pc : Nat} {ls : Array Slot}, some z' = some z → narrow .boolean (.int z') = .int z' → va_P E.1 vwCl [] H → va_S A s.heap H locs → decode cX3_isIn pc = .ok (.ireturn, 1) → W p l e ({ frames := 0, cells := 0, slots := 0, locals := 0 } : Room) s m args below meth c H locs 0 0 Q (F0 m pc ls [.int z']) := by
    intro z' H locs pc ls h
    cases h
    exact ret0
  replace hl : lv_has ls 2 [(0, .int x0), (1, .int x1)] := hl
  unfold f_X3_isIn at hf
  refine lv_iload_n hx hb dX3_isIn_0 rfl (lv_at hl 1 rfl) ?_
  refine lv_iload_n hx hb dX3_isIn_1 rfl (lv_at hl 0 rfl) ?_
  refine lv_ishr hx hb dX3_isIn_2 ?_
  refine lv_iconst (v := 1) hx hb dX3_isIn_3 rfl ?_
  refine lv_iand hx hb dX3_isIn_4 ?_
  refine lv_iconst (v := 1) hx hb dX3_isIn_5 rfl ?_
  refine lv_icmp_ne (tgt := 13) hx hb dX3_isIn_6 (by decide) (fun c6 => ?_) (fun c6 => ?_)
  · have hf := it_f c6 hf
    refine lv_iconst (v := 0) hx hb dX3_isIn_13 rfl ?_
    exact ret _ hf rfl hP hS dX3_isIn_14
  · have hf := it_t c6 hf
    refine lv_iconst (v := 1) hx hb dX3_isIn_9 rfl ?_
    refine lv_goto (tgt := 14) hx hb dX3_isIn_10 (by decide) ?_
    exact ret _ hf rfl hP hS dX3_isIn_14
theorem dX11_within_0 : decode cX11_within 0 = .ok (.iload_n 0, 1) := by decide +kernel
theorem dX11_within_1 : decode cX11_within 1 = .ok (.iload_n 1, 1) := by decide +kernel
theorem dX11_within_2 : decode cX11_within 2 = .ok (.if_icmp .lt 12, 3) := by decide +kernel
theorem dX11_within_5 : decode cX11_within 5 = .ok (.iload_n 0, 1) := by decide +kernel
theorem dX11_within_6 : decode cX11_within 6 = .ok (.iload_n 2, 1) := by decide +kernel
theorem dX11_within_7 : decode cX11_within 7 = .ok (.if_icmp .gt 7, 3) := by decide +kernel
theorem dX11_within_10 : decode cX11_within 10 = .ok (.iconst 1, 1) := by decide +kernel
theorem dX11_within_11 : decode cX11_within 11 = .ok (.goto 4, 3) := by decide +kernel
theorem dX11_within_14 : decode cX11_within 14 = .ok (.iconst 0, 1) := by decide +kernel
theorem dX11_within_15 : decode cX11_within 15 = .ok (.ireturn, 1) := by decide +kernel
def f_X11_within (x0 : Int32) (x1 : Int32) (x2 : Int32) : Option (Int32) := if x0 < x1 then (some 0) else (if x2 < x0 then (some 0) else (some 1))
set_option maxRecDepth 100000 in
theorem c_X11_within (l : Launch) (E : xE) {x0 : Int32} {x1 : Int32} {x2 : Int32} {z : Int32} (hf : f_X11_within x0 x1 x2 = some z) (sz : Nat) : Met l yX11_within (Cond.code yX11_within cX11_within 3 (some .boolean) :: gw) ({ frames := 0, cells := 0, slots := 0, locals := 0 }) (xPc E [.int x0, .int x1, .int x2] [] sz) (xQi E z [] [] sz) 0 0 (va_A [] sz) := by
  refine xM_i (by decide +kernel) (Nat.le_of_ble_eq_true rfl) ?_
  intro p e s m args below meth c A Q hx hb hml hown htg hK hG hA ret0 H locs ls hP hD hS hl
  have ret : ∀ (z' : Int32) {H : Heap} {locs : List Loc} {pc : Nat} {ls : Array Slot}, some z' = some z → narrow .boolean (.int z') = .int z' → va_P E.1 vwCl [] H → va_S A s.heap H locs → decode cX11_within pc = .ok (.ireturn, 1) → W p l e ({ frames := 0, cells := 0, slots := 0, locals := 0 } : Room) s m args below meth c H locs 0 0 Q (F0 m pc ls [.int z']) := by
    intro z' H locs pc ls h
    cases h
    exact ret0
  replace hl : lv_has ls 3 [(0, .int x0), (1, .int x1), (2, .int x2)] := hl
  unfold f_X11_within at hf
  refine lv_iload_n hx hb dX11_within_0 rfl (lv_at hl 0 rfl) ?_
  refine lv_iload_n hx hb dX11_within_1 rfl (lv_at hl 1 rfl) ?_
  refine lv_icmp_lt (tgt := 14) hx hb dX11_within_2 (by decide) (fun c2 => ?_) (fun c2 => ?_)
  · have hf := it_t c2 hf
    refine lv_iconst (v := 0) hx hb dX11_within_14 rfl ?_
    exact ret _ hf rfl hP hS dX11_within_15
  · have hf := it_f c2 hf
    refine lv_iload_n hx hb dX11_within_5 rfl (lv_at hl 0 rfl) ?_
    refine lv_iload_n hx hb dX11_within_6 rfl (lv_at hl 2 rfl) ?_
    refine lv_icmp_gt (tgt := 14) hx hb dX11_within_7 (by decide) (fun c7 => ?_) (fun c7 => ?_)
    · have hf := it_t c7 hf
      refine lv_iconst (v := 0) hx hb dX11_within_14 rfl ?_
      exact ret _ hf rfl hP hS dX11_within_15
    · have hf := it_f c7 hf
      refine lv_iconst (v := 1) hx hb dX11_within_10 rfl ?_
      refine lv_goto (tgt := 15) hx hb dX11_within_11 (by decide) ?_
      exact ret _ hf rfl hP hS dX11_within_15
theorem dX7_take_0 : decode cX7_take 0 = .ok (.aload_n 0, 1) := by decide +kernel
theorem dX7_take_1 : decode cX7_take 1 = .ok (.getfield 9, 3) := by decide +kernel
theorem dX7_take_4 : decode cX7_take 4 = .ok (.iconst 0, 1) := by decide +kernel
theorem dX7_take_5 : decode cX7_take 5 = .ok (.invokestatic 15, 3) := by decide +kernel
theorem dX7_take_8 : decode cX7_take 8 = .ok (.iconst 0, 1) := by decide +kernel
theorem dX7_take_9 : decode cX7_take 9 = .ok (.istore_n 3, 1) := by decide +kernel
theorem dX7_take_10 : decode cX7_take 10 = .ok (.iload_n 3, 1) := by decide +kernel
theorem dX7_take_11 : decode cX7_take 11 = .ok (.aload_n 1, 1) := by decide +kernel
theorem dX7_take_12 : decode cX7_take 12 = .ok (.getfield 21, 3) := by decide +kernel
theorem dX7_take_15 : decode cX7_take 15 = .ok (.if_icmp .ge 66, 3) := by decide +kernel
theorem dX7_take_18 : decode cX7_take 18 = .ok (.aload_n 1, 1) := by decide +kernel
theorem dX7_take_19 : decode cX7_take 19 = .ok (.getfield 27, 3) := by decide +kernel
theorem dX7_take_22 : decode cX7_take 22 = .ok (.iload_n 3, 1) := by decide +kernel
theorem dX7_take_23 : decode cX7_take 23 = .ok (.iaload, 1) := by decide +kernel
theorem dX7_take_24 : decode cX7_take 24 = .ok (.iconst 4, 1) := by decide +kernel
theorem dX7_take_25 : decode cX7_take 25 = .ok (.imul, 1) := by decide +kernel
theorem dX7_take_26 : decode cX7_take 26 = .ok (.aload_n 1, 1) := by decide +kernel
theorem dX7_take_27 : decode cX7_take 27 = .ok (.getfield 30, 3) := by decide +kernel
theorem dX7_take_30 : decode cX7_take 30 = .ok (.iload_n 3, 1) := by decide +kernel
theorem dX7_take_31 : decode cX7_take 31 = .ok (.iaload, 1) := by decide +kernel
theorem dX7_take_32 : decode cX7_take 32 = .ok (.iadd, 1) := by decide +kernel
theorem dX7_take_33 : decode cX7_take 33 = .ok (.istore 4, 2) := by decide +kernel
theorem dX7_take_35 : decode cX7_take 35 = .ok (.aload_n 1, 1) := by decide +kernel
theorem dX7_take_36 : decode cX7_take 36 = .ok (.getfield 33, 3) := by decide +kernel
theorem dX7_take_39 : decode cX7_take 39 = .ok (.iload_n 3, 1) := by decide +kernel
theorem dX7_take_40 : decode cX7_take 40 = .ok (.iaload, 1) := by decide +kernel
theorem dX7_take_41 : decode cX7_take 41 = .ok (.iload_n 2, 1) := by decide +kernel
theorem dX7_take_42 : decode cX7_take 42 = .ok (.invokestatic 36, 3) := by decide +kernel
theorem dX7_take_45 : decode cX7_take 45 = .ok (.ifCond .eq 30, 3) := by decide +kernel
theorem dX7_take_48 : decode cX7_take 48 = .ok (.iload 4, 2) := by decide +kernel
theorem dX7_take_50 : decode cX7_take 50 = .ok (.iconst 0, 1) := by decide +kernel
theorem dX7_take_51 : decode cX7_take 51 = .ok (.aload_n 0, 1) := by decide +kernel
theorem dX7_take_52 : decode cX7_take 52 = .ok (.getfield 9, 3) := by decide +kernel
theorem dX7_take_55 : decode cX7_take 55 = .ok (.arraylength, 1) := by decide +kernel
theorem dX7_take_56 : decode cX7_take 56 = .ok (.iconst 1, 1) := by decide +kernel
theorem dX7_take_57 : decode cX7_take 57 = .ok (.isub, 1) := by decide +kernel
theorem dX7_take_58 : decode cX7_take 58 = .ok (.invokestatic 40, 3) := by decide +kernel
theorem dX7_take_61 : decode cX7_take 61 = .ok (.ifCond .eq 14, 3) := by decide +kernel
theorem dX7_take_64 : decode cX7_take 64 = .ok (.aload_n 0, 1) := by decide +kernel
theorem dX7_take_65 : decode cX7_take 65 = .ok (.getfield 9, 3) := by decide +kernel
theorem dX7_take_68 : decode cX7_take 68 = .ok (.iload 4, 2) := by decide +kernel
theorem dX7_take_70 : decode cX7_take 70 = .ok (.dup2, 1) := by decide +kernel
theorem dX7_take_71 : decode cX7_take 71 = .ok (.iaload, 1) := by decide +kernel
theorem dX7_take_72 : decode cX7_take 72 = .ok (.iconst 1, 1) := by decide +kernel
theorem dX7_take_73 : decode cX7_take 73 = .ok (.iadd, 1) := by decide +kernel
theorem dX7_take_74 : decode cX7_take 74 = .ok (.iastore, 1) := by decide +kernel
theorem dX7_take_75 : decode cX7_take 75 = .ok (.iinc 3 1, 3) := by decide +kernel
theorem dX7_take_78 : decode cX7_take 78 = .ok (.goto (-68), 3) := by decide +kernel
theorem dX7_take_81 : decode cX7_take 81 = .ok (.return_, 1) := by decide +kernel
def g_X7_take_10 (T1 : Nat → Int32) (V3 : Nat → Int32) (V4 : Nat → Int32) (V5 : Nat → Int32) (x2 : Int32)  (k10 : Int32 → (Nat → Int32) → Option ((Nat → Int32))) : Int32 → (Nat → Int32) → Option ((Nat → Int32)) := fun x3 V2 => if (T1 6) ≤ x3 then (some V2) else (ck (gd x3 12) (ck (gd x3 12) (letv (((V3 (Int32.toNatClampNeg x3)) * 4) + (V4 (Int32.toNatClampNeg x3))) (fun x4_33 => ck (gd x3 12) ((f_X3_isIn (V5 (Int32.toNatClampNeg x3)) x2).bind (fun z42 => if z42 = 0 then (k10 (x3 + 1) V2) else ((f_X11_within x4_33 0 (144 - 1)).bind (fun z58 => if z58 = 0 then (k10 (x3 + 1) V2) else (ck (gd x4_33 144) (ck (gd x4_33 144) (k10 (x3 + 1) (upd V2 (Int32.toNatClampNeg x4_33) ((V2 (Int32.toNatClampNeg x4_33)) + 1)))))))))))))
def f_X7_take_10 (T1 : Nat → Int32) (V3 : Nat → Int32) (V4 : Nat → Int32) (V5 : Nat → Int32) (x2 : Int32)  (n : Nat) : Int32 → (Nat → Int32) → Option ((Nat → Int32)) := iter (g_X7_take_10 T1 V3 V4 V5 x2 ) (fun _ _ => none) n
def f_X7_take (T1 : Nat → Int32) (V2 : Nat → Int32) (V3 : Nat → Int32) (V4 : Nat → Int32) (V5 : Nat → Int32) (x2 : Int32) : Option ((Nat → Int32)) := (f_J7_fill_53178 V2 144 0).bind (fun z5 => f_X7_take_10 T1 V3 V4 V5 x2 xF 0 z5)
set_option maxRecDepth 100000 in
theorem c_X7_take (l : Launch) (E : xE) (a0 a1 a2 a3 a4 a5 : Nat) {T1 : Nat → Int32} {V2 : Nat → Int32} {V3 : Nat → Int32} {V4 : Nat → Int32} {V5 : Nat → Int32} {u1_7 u1_8 u1_9 u1_13 u1_14 : Nat} {x2 : Int32} {z : (Nat → Int32)} (hf : f_X7_take T1 V2 V3 V4 V5 x2 = some z) (sz : Nat) : Met l yX7_take (Cond.code yX7_take cX7_take 5 none :: gw) ({ frames := 1, cells := 0, slots := 0, locals := 23 }) (xPc E [.ref a0, .ref a1, .int x2] [(a0, o7 a2), (a1, o3 T1 u1_7 u1_8 u1_9 a5 a3 a4 u1_13 u1_14), (a2, ai E 144 V2), (a3, ai E 12 V3), (a4, ai E 12 V4), (a5, ai E 12 V5)] sz) (xQv E [(a0, o7 a2), (a1, o3 T1 u1_7 u1_8 u1_9 a5 a3 a4 u1_13 u1_14), (a2, ai E 144 V2), (a3, ai E 12 V3), (a4, ai E 12 V4), (a5, ai E 12 V5)] [(a0, o7 a2), (a1, o3 T1 u1_7 u1_8 u1_9 a5 a3 a4 u1_13 u1_14), (a2, ai E 144 z), (a3, ai E 12 V3), (a4, ai E 12 V4), (a5, ai E 12 V5)] sz) 0 0 (va_A [(a0, o7 a2), (a1, o3 T1 u1_7 u1_8 u1_9 a5 a3 a4 u1_13 u1_14), (a2, ai E 144 V2), (a3, ai E 12 V3), (a4, ai E 12 V4), (a5, ai E 12 V5)] sz) := by
  refine xM_v (by decide +kernel) (Nat.le_of_ble_eq_true rfl) ?_
  intro p e s m args below meth c A Q hx hb hml hown htg hK hG hA ret0 H locs ls hP hD hS hl
  have ret : ∀ (z' : (Nat → Int32)) {H : Heap} {locs : List Loc} {pc : Nat} {ls : Array Slot}, some z' = some z → va_P E.1 vwCl [(a0, o7 a2), (a1, o3 T1 u1_7 u1_8 u1_9 a5 a3 a4 u1_13 u1_14), (a2, ai E 144 z'), (a3, ai E 12 V3), (a4, ai E 12 V4), (a5, ai E 12 V5)] H → va_S A s.heap H locs → decode cX7_take pc = .ok (.return_, 1) → W p l e ({ frames := 1, cells := 0, slots := 0, locals := 23 } : Room) s m args below meth c H locs 0 0 Q (F0 m pc ls []) := by
    intro z' H locs pc ls h
    cases h
    exact ret0
  replace hl : lv_has ls 5 [(0, .ref a0), (1, .ref a1), (2, .int x2)] := hl
  have b10 : ∀ (n : Nat) (x3 : Int32) (V2 : Nat → Int32) (H : Heap) (locs : List Loc) (ls : Array Slot), f_X7_take_10 T1 V3 V4 V5 x2 n x3 V2 = some z → va_P E.1 vwCl [(a0, o7 a2), (a1, o3 T1 u1_7 u1_8 u1_9 a5 a3 a4 u1_13 u1_14), (a2, ai E 144 V2), (a3, ai E 12 V3), (a4, ai E 12 V4), (a5, ai E 12 V5)] H → va_D A [(a0, o7 a2), (a1, o3 T1 u1_7 u1_8 u1_9 a5 a3 a4 u1_13 u1_14), (a2, ai E 144 V2), (a3, ai E 12 V3), (a4, ai E 12 V4), (a5, ai E 12 V5)] → va_S A s.heap H locs → lv_has ls 5 [(0, .ref a0), (1, .ref a1), (2, .int x2), (3, .int x3)] → W p l e ({ frames := 1, cells := 0, slots := 0, locals := 23 } : Room) s m args below meth c H locs 0 0 Q (F0 m 10 ls []) := by
    intro n
    induction n with
    | zero => intro x3 V2 H locs ls hf; exact (nn_s hf).elim
    | succ n ih10 =>
      obtain ⟨k10, ek10⟩ : ∃ k, k = f_X7_take_10 T1 V3 V4 V5 x2 n := ⟨_, rfl⟩
      rw [← ek10] at ih10
      intro x3 V2 H locs ls hf hP hD hS hl
      replace hf : g_X7_take_10 T1 V3 V4 V5 x2 k10 x3 V2 = some z := by rw [ek10]; exact hf
      unfold g_X7_take_10 at hf
      refine lv_iload_n hx hb dX7_take_10 rfl (lv_at hl 3 rfl) ?_
      refine lv_aload_n hx hb dX7_take_11 rfl (lv_at hl 1 rfl) ?_
      refine G7_21 hx hb htg hown hK hP 1 rfl dX7_take_12 ?_
      refine lv_icmp_ge (tgt := 81) hx hb dX7_take_15 (by decide) (fun c15 => ?_) (fun c15 => ?_)
      · have hf := it_t c15 hf
        exact ret _ hf hP hS dX7_take_81
      · have hf := it_f c15 hf
        refine lv_aload_n hx hb dX7_take_18 rfl (lv_at hl 1 rfl) ?_
        refine G7_27 hx hb htg hown hK hP 1 rfl dX7_take_19 ?_
        refine lv_iload_n hx hb dX7_take_22 rfl (lv_at hl 3 rfl) ?_
        obtain ⟨g23, hf⟩ := ck_s hf
        refine xiald hx hb hK hP 3 rfl g23 dX7_take_23 ?_
        refine lv_iconst (v := 4) hx hb dX7_take_24 rfl ?_
        refine lv_imul hx hb dX7_take_25 ?_
        refine lv_aload_n hx hb dX7_take_26 rfl (lv_at hl 1 rfl) ?_
        refine G7_30 hx hb htg hown hK hP 1 rfl dX7_take_27 ?_
        refine lv_iload_n hx hb dX7_take_30 rfl (lv_at hl 3 rfl) ?_
        obtain ⟨g31, hf⟩ := ck_s hf
        refine xiald hx hb hK hP 4 rfl g31 dX7_take_31 ?_
        refine lv_iadd hx hb dX7_take_32 ?_
        refine lv_topi (fun x4_33 ex4_33 => ?_)
        have hf := letv_s ex4_33 hf
        refine lv_istore (lv' := [(4, .int x4_33), (0, .ref a0), (1, .ref a1), (2, .int x2), (3, .int x3)]) hx hb dX7_take_33 hl (by decide) rfl (fun ls hl => ?_)
        refine lv_aload_n hx hb dX7_take_35 rfl (lv_at hl 2 rfl) ?_
        refine G7_33 hx hb htg hown hK hP 1 rfl dX7_take_36 ?_
        refine lv_iload_n hx hb dX7_take_39 rfl (lv_at hl 4 rfl) ?_
        obtain ⟨g40, hf⟩ := ck_s hf
        refine xiald hx hb hK hP 5 rfl g40 dX7_take_40 ?_
        refine lv_iload_n hx hb dX7_take_41 rfl (lv_at hl 3 rfl) ?_
        obtain ⟨z42, hz42, hf⟩ := bind_s hf
        refine xN_ir hx hb hml hown htg L7_36 17 rfl (c_X3_isIn l E hz42 _) ⟨⟨rfl, rfl⟩, Nat.le_of_ble_eq_true rfl, Nat.le_of_ble_eq_true rfl⟩ hK hG hA hP hD hS (is := []) rfl rfl rfl hl.1 rfl (Nat.le_of_ble_eq_true rfl) dX7_take_42 (fun H locs hP hD hS => ?_)
        refine lv_if_eq (tgt := 75) hx hb dX7_take_45 (by decide) (fun c45 => ?_) (fun c45 => ?_)
        · have hf := it_t c45 hf
          refine lv_iinc (v := x3 + 1) (lv' := [(3, .int (x3 + 1)), (4, .int x4_33), (0, .ref a0), (1, .ref a1), (2, .int x2)]) hx hb dX7_take_75 hl (k := 4) rfl rfl (by decide) rfl (fun ls hl => ?_)
          refine lv_goto (tgt := 10) hx hb dX7_take_78 (by decide) ?_
          exact ih10 (x3 + 1) V2 _ _ _ hf hP hD hS (lv_sub hl [2, 3, 4, 0] rfl)
        · have hf := it_f c45 hf
          refine lv_iload hx hb dX7_take_48 (lv_at hl 0 rfl) ?_
          refine lv_iconst (v := 0) hx hb dX7_take_50 rfl ?_
          refine lv_aload_n hx hb dX7_take_51 rfl (lv_at hl 1 rfl) ?_
          refine G7_9 hx hb htg hown hK hP 0 rfl dX7_take_52 ?_
          refine va_alen (v := 144) hx hb hK hP 2 1 rfl rfl rfl dX7_take_55 ?_
          refine lv_iconst (v := 1) hx hb dX7_take_56 rfl ?_
          refine lv_isub hx hb dX7_take_57 ?_
          obtain ⟨z58, hz58, hf⟩ := bind_s hf
          refine xN_ir hx hb hml hown htg L7_40 18 rfl (c_X11_within l E hz58 _) ⟨⟨rfl, rfl⟩, Nat.le_of_ble_eq_true rfl, Nat.le_of_ble_eq_true rfl⟩ hK hG hA hP hD hS (is := []) rfl rfl rfl hl.1 rfl (Nat.le_of_ble_eq_true rfl) dX7_take_58 (fun H locs hP hD hS => ?_)
          refine lv_if_eq (tgt := 75) hx hb dX7_take_61 (by decide) (fun c61 => ?_) (fun c61 => ?_)
          · have hf := it_t c61 hf
            refine lv_iinc (v := x3 + 1) (lv' := [(3, .int (x3 + 1)), (4, .int x4_33), (0, .ref a0), (1, .ref a1), (2, .int x2)]) hx hb dX7_take_75 hl (k := 4) rfl rfl (by decide) rfl (fun ls hl => ?_)
            refine lv_goto (tgt := 10) hx hb dX7_take_78 (by decide) ?_
            exact ih10 (x3 + 1) V2 _ _ _ hf hP hD hS (lv_sub hl [2, 3, 4, 0] rfl)
          · have hf := it_f c61 hf
            refine lv_aload_n hx hb dX7_take_64 rfl (lv_at hl 1 rfl) ?_
            refine G7_9 hx hb htg hown hK hP 0 rfl dX7_take_65 ?_
            refine lv_iload hx hb dX7_take_68 (lv_at hl 0 rfl) ?_
            refine lv_dup2_11 hx hb dX7_take_70 rfl rfl ?_
            obtain ⟨g71, hf⟩ := ck_s hf
            refine xiald hx hb hK hP 2 rfl g71 dX7_take_71 ?_
            refine lv_iconst (v := 1) hx hb dX7_take_72 rfl ?_
            refine lv_iadd hx hb dX7_take_73 ?_
            obtain ⟨g74, hf⟩ := ck_s hf
            refine xiast hx hb hK hP hD hS 2 rfl g74 dX7_take_74 (fun H locs hP hD hS => ?_)
            refine lv_iinc (v := x3 + 1) (lv' := [(3, .int (x3 + 1)), (4, .int x4_33), (0, .ref a0), (1, .ref a1), (2, .int x2)]) hx hb dX7_take_75 hl (k := 4) rfl rfl (by decide) rfl (fun ls hl => ?_)
            refine lv_goto (tgt := 10) hx hb dX7_take_78 (by decide) ?_
            exact ih10 (x3 + 1) (upd V2 (Int32.toNatClampNeg x4_33) ((V2 (Int32.toNatClampNeg x4_33)) + 1)) _ _ _ hf hP hD hS (lv_sub hl [2, 3, 4, 0] rfl)
  unfold f_X7_take at hf
  refine lv_aload_n hx hb dX7_take_0 rfl (lv_at hl 0 rfl) ?_
  refine G7_9 hx hb htg hown hK hP 0 rfl dX7_take_1 ?_
  refine lv_iconst (v := 0) hx hb dX7_take_4 rfl ?_
  obtain ⟨z5, hz5, hf⟩ := bind_s hf
  refine xS_vw hx hb hml hown htg L7_15 (c_J7_fill_53178 l E a2 hz5 _) ⟨⟨rfl, rfl⟩, Nat.le_of_ble_eq_true rfl, Nat.le_of_ble_eq_true rfl⟩ hK hG hA hP hD hS (is := [2]) rfl rfl rfl rfl hl.1 rfl (Nat.le_of_ble_eq_true rfl) dX7_take_5 (fun H locs hP hD hS => ?_)
  replace hP : va_P E.1 vwCl [(a0, o7 a2), (a1, o3 T1 u1_7 u1_8 u1_9 a5 a3 a4 u1_13 u1_14), (a2, ai E 144 z5), (a3, ai E 12 V3), (a4, ai E 12 V4), (a5, ai E 12 V5)] H := hP
  replace hD : va_D A [(a0, o7 a2), (a1, o3 T1 u1_7 u1_8 u1_9 a5 a3 a4 u1_13 u1_14), (a2, ai E 144 z5), (a3, ai E 12 V3), (a4, ai E 12 V4), (a5, ai E 12 V5)] := hD
  refine lv_iconst (v := 0) hx hb dX7_take_8 rfl ?_
  refine lv_istore_n (lv' := [(3, .int 0), (0, .ref a0), (1, .ref a1), (2, .int x2)]) hx hb dX7_take_9 rfl hl (by decide) rfl (fun ls hl => ?_)
  exact b10 xF 0 z5 _ _ _ hf hP hD hS (lv_sub hl [1, 2, 3, 0] rfl)
theorem dX7_drawnAs_0 : decode cX7_drawnAs 0 = .ok (.iload_n 1, 1) := by decide +kernel
theorem dX7_drawnAs_1 : decode cX7_drawnAs 1 = .ok (.iconst 4, 1) := by decide +kernel
theorem dX7_drawnAs_2 : decode cX7_drawnAs 2 = .ok (.imul, 1) := by decide +kernel
theorem dX7_drawnAs_3 : decode cX7_drawnAs 3 = .ok (.istore_n 2, 1) := by decide +kernel
theorem dX7_drawnAs_4 : decode cX7_drawnAs 4 = .ok (.iload_n 2, 1) := by decide +kernel
theorem dX7_drawnAs_5 : decode cX7_drawnAs 5 = .ok (.ifCond .lt 14, 3) := by decide +kernel
theorem dX7_drawnAs_8 : decode cX7_drawnAs 8 = .ok (.iload_n 2, 1) := by decide +kernel
theorem dX7_drawnAs_9 : decode cX7_drawnAs 9 = .ok (.iconst 4, 1) := by decide +kernel
theorem dX7_drawnAs_10 : decode cX7_drawnAs 10 = .ok (.iadd, 1) := by decide +kernel
theorem dX7_drawnAs_11 : decode cX7_drawnAs 11 = .ok (.aload_n 0, 1) := by decide +kernel
theorem dX7_drawnAs_12 : decode cX7_drawnAs 12 = .ok (.getfield 9, 3) := by decide +kernel
theorem dX7_drawnAs_15 : decode cX7_drawnAs 15 = .ok (.arraylength, 1) := by decide +kernel
theorem dX7_drawnAs_16 : decode cX7_drawnAs 16 = .ok (.if_icmp .le 5, 3) := by decide +kernel
theorem dX7_drawnAs_19 : decode cX7_drawnAs 19 = .ok (.iconst 4, 1) := by decide +kernel
theorem dX7_drawnAs_20 : decode cX7_drawnAs 20 = .ok (.ireturn, 1) := by decide +kernel
theorem dX7_drawnAs_21 : decode cX7_drawnAs 21 = .ok (.iconst 4, 1) := by decide +kernel
theorem dX7_drawnAs_22 : decode cX7_drawnAs 22 = .ok (.istore_n 3, 1) := by decide +kernel
theorem dX7_drawnAs_23 : decode cX7_drawnAs 23 = .ok (.iconst 0, 1) := by decide +kernel
theorem dX7_drawnAs_24 : decode cX7_drawnAs 24 = .ok (.istore 4, 2) := by decide +kernel
theorem dX7_drawnAs_26 : decode cX7_drawnAs 26 = .ok (.iconst 0, 1) := by decide +kernel
theorem dX7_drawnAs_27 : decode cX7_drawnAs 27 = .ok (.istore 5, 2) := by decide +kernel
theorem dX7_drawnAs_29 : decode cX7_drawnAs 29 = .ok (.iload 5, 2) := by decide +kernel
theorem dX7_drawnAs_31 : decode cX7_drawnAs 31 = .ok (.iconst 4, 1) := by decide +kernel
theorem dX7_drawnAs_32 : decode cX7_drawnAs 32 = .ok (.if_icmp .ge 46, 3) := by decide +kernel
theorem dX7_drawnAs_35 : decode cX7_drawnAs 35 = .ok (.aload_n 0, 1) := by decide +kernel
theorem dX7_drawnAs_36 : decode cX7_drawnAs 36 = .ok (.getfield 9, 3) := by decide +kernel
theorem dX7_drawnAs_39 : decode cX7_drawnAs 39 = .ok (.iload_n 2, 1) := by decide +kernel
theorem dX7_drawnAs_40 : decode cX7_drawnAs 40 = .ok (.iload 5, 2) := by decide +kernel
theorem dX7_drawnAs_42 : decode cX7_drawnAs 42 = .ok (.iadd, 1) := by decide +kernel
theorem dX7_drawnAs_43 : decode cX7_drawnAs 43 = .ok (.iaload, 1) := by decide +kernel
theorem dX7_drawnAs_44 : decode cX7_drawnAs 44 = .ok (.istore 6, 2) := by decide +kernel
theorem dX7_drawnAs_46 : decode cX7_drawnAs 46 = .ok (.iload 6, 2) := by decide +kernel
theorem dX7_drawnAs_48 : decode cX7_drawnAs 48 = .ok (.iload 4, 2) := by decide +kernel
theorem dX7_drawnAs_50 : decode cX7_drawnAs 50 = .ok (.if_icmp .le 13, 3) := by decide +kernel
theorem dX7_drawnAs_53 : decode cX7_drawnAs 53 = .ok (.iload 6, 2) := by decide +kernel
theorem dX7_drawnAs_55 : decode cX7_drawnAs 55 = .ok (.istore 4, 2) := by decide +kernel
theorem dX7_drawnAs_57 : decode cX7_drawnAs 57 = .ok (.iload 5, 2) := by decide +kernel
theorem dX7_drawnAs_59 : decode cX7_drawnAs 59 = .ok (.istore_n 3, 1) := by decide +kernel
theorem dX7_drawnAs_60 : decode cX7_drawnAs 60 = .ok (.goto 12, 3) := by decide +kernel
theorem dX7_drawnAs_63 : decode cX7_drawnAs 63 = .ok (.iload 6, 2) := by decide +kernel
theorem dX7_drawnAs_65 : decode cX7_drawnAs 65 = .ok (.iload 4, 2) := by decide +kernel
theorem dX7_drawnAs_67 : decode cX7_drawnAs 67 = .ok (.if_icmp .ne 5, 3) := by decide +kernel
theorem dX7_drawnAs_70 : decode cX7_drawnAs 70 = .ok (.iconst 4, 1) := by decide +kernel
theorem dX7_drawnAs_71 : decode cX7_drawnAs 71 = .ok (.istore_n 3, 1) := by decide +kernel
theorem dX7_drawnAs_72 : decode cX7_drawnAs 72 = .ok (.iinc 5 1, 3) := by decide +kernel
theorem dX7_drawnAs_75 : decode cX7_drawnAs 75 = .ok (.goto (-46), 3) := by decide +kernel
theorem dX7_drawnAs_78 : decode cX7_drawnAs 78 = .ok (.iload_n 3, 1) := by decide +kernel
theorem dX7_drawnAs_79 : decode cX7_drawnAs 79 = .ok (.ireturn, 1) := by decide +kernel
def g_X7_drawnAs_29 (V1 : Nat → Int32) (x1 : Int32)  (k29 : Int32 → Int32 → Int32 → Int32 → Option (Int32)) : Int32 → Int32 → Int32 → Int32 → Option (Int32) := fun x2 x3 x4 x5 => if 4 ≤ x5 then (some x3) else (ck (gd (x2 + x5) 144) (if (V1 (Int32.toNatClampNeg (x2 + x5))) ≤ x4 then (if (V1 (Int32.toNatClampNeg (x2 + x5))) = x4 then (k29 x2 4 x4 (x5 + 1)) else (k29 x2 x3 x4 (x5 + 1))) else (k29 x2 x5 (V1 (Int32.toNatClampNeg (x2 + x5))) (x5 + 1))))
def f_X7_drawnAs_29 (V1 : Nat → Int32) (x1 : Int32)  (n : Nat) : Int32 → Int32 → Int32 → Int32 → Option (Int32) := iter (g_X7_drawnAs_29 V1 x1 ) (fun _ _ _ _ => none) n
def f_X7_drawnAs (V1 : Nat → Int32) (x1 : Int32) : Option (Int32) := if (x1 * 4) < 0 then (some 4) else (if ((x1 * 4) + 4) ≤ 144 then (f_X7_drawnAs_29 V1 x1 xF (x1 * 4) 4 0 0) else (some 4))
set_option maxRecDepth 100000 in
theorem c_X7_drawnAs (l : Launch) (E : xE) (a0 a1 : Nat) {V1 : Nat → Int32} {x1 : Int32} {z : Int32} (hf : f_X7_drawnAs V1 x1 = some z) (sz : Nat) : Met l yX7_drawnAs (Cond.code yX7_drawnAs cX7_drawnAs 7 (some .int) :: gw) ({ frames := 0, cells := 0, slots := 0, locals := 0 }) (xPc E [.ref a0, .int x1] [(a0, o7 a1), (a1, ai E 144 V1)] sz) (xQi E z [(a0, o7 a1), (a1, ai E 144 V1)] [(a0, o7 a1), (a1, ai E 144 V1)] sz) 0 0 (va_A [(a0, o7 a1), (a1, ai E 144 V1)] sz) := by
  refine xM_i (by decide +kernel) (Nat.le_of_ble_eq_true rfl) ?_
  intro p e s m args below meth c A Q hx hb hml hown htg hK hG hA ret0 H locs ls hP hD hS hl
  have ret : ∀ (z' : Int32) {H : Heap} {locs : List Loc} {pc : Nat} {ls : Array Slot}, some z' = some z → narrow .int (.int z') = .int z' → va_P E.1 vwCl [(a0, o7 a1), (a1, ai E 144 V1)] H → va_S A s.heap H locs → decode cX7_drawnAs pc = .ok (.ireturn, 1) → W p l e ({ frames := 0, cells := 0, slots := 0, locals := 0 } : Room) s m args below meth c H locs 0 0 Q (F0 m pc ls [.int z']) := by
    intro z' H locs pc ls h
    cases h
    exact ret0
  replace hl : lv_has ls 7 [(0, .ref a0), (1, .int x1)] := hl
  have b29 : ∀ (n : Nat) (x2 : Int32) (x3 : Int32) (x4 : Int32) (x5 : Int32) (H : Heap) (locs : List Loc) (ls : Array Slot), f_X7_drawnAs_29 V1 x1 n x2 x3 x4 x5 = some z → va_P E.1 vwCl [(a0, o7 a1), (a1, ai E 144 V1)] H → va_D A [(a0, o7 a1), (a1, ai E 144 V1)] → va_S A s.heap H locs → lv_has ls 7 [(0, .ref a0), (2, .int x2), (3, .int x3), (4, .int x4), (5, .int x5)] → W p l e ({ frames := 0, cells := 0, slots := 0, locals := 0 } : Room) s m args below meth c H locs 0 0 Q (F0 m 29 ls []) := by
    intro n
    induction n with
    | zero => intro x2 x3 x4 x5 H locs ls hf; exact (nn_s hf).elim
    | succ n ih29 =>
      obtain ⟨k29, ek29⟩ : ∃ k, k = f_X7_drawnAs_29 V1 x1 n := ⟨_, rfl⟩
      rw [← ek29] at ih29
      intro x2 x3 x4 x5 H locs ls hf hP hD hS hl
      replace hf : g_X7_drawnAs_29 V1 x1 k29 x2 x3 x4 x5 = some z := by rw [ek29]; exact hf
      unfold g_X7_drawnAs_29 at hf
      refine lv_iload hx hb dX7_drawnAs_29 (lv_at hl 4 rfl) ?_
      refine lv_iconst (v := 4) hx hb dX7_drawnAs_31 rfl ?_
      refine lv_icmp_ge (tgt := 78) hx hb dX7_drawnAs_32 (by decide) (fun c32 => ?_) (fun c32 => ?_)
      · have hf := it_t c32 hf
        refine lv_iload_n hx hb dX7_drawnAs_78 rfl (lv_at hl 2 rfl) ?_
        exact ret _ hf rfl hP hS dX7_drawnAs_79
      · have hf := it_f c32 hf
        refine lv_aload_n hx hb dX7_drawnAs_35 rfl (lv_at hl 0 rfl) ?_
        refine G7_9 hx hb htg hown hK hP 0 rfl dX7_drawnAs_36 ?_
        refine lv_iload_n hx hb dX7_drawnAs_39 rfl (lv_at hl 1 rfl) ?_
        refine lv_iload hx hb dX7_drawnAs_40 (lv_at hl 4 rfl) ?_
        refine lv_iadd hx hb dX7_drawnAs_42 ?_
        obtain ⟨g43, hf⟩ := ck_s hf
        refine xiald hx hb hK hP 1 rfl g43 dX7_drawnAs_43 ?_
        refine lv_istore (lv' := [(6, .int (V1 (Int32.toNatClampNeg (x2 + x5)))), (0, .ref a0), (2, .int x2), (3, .int x3), (4, .int x4), (5, .int x5)]) hx hb dX7_drawnAs_44 hl (by decide) rfl (fun ls hl => ?_)
        refine lv_iload hx hb dX7_drawnAs_46 (lv_at hl 0 rfl) ?_
        refine lv_iload hx hb dX7_drawnAs_48 (lv_at hl 4 rfl) ?_
        refine lv_icmp_le (tgt := 63) hx hb dX7_drawnAs_50 (by decide) (fun c50 => ?_) (fun c50 => ?_)
        · have hf := it_t c50 hf
          refine lv_iload hx hb dX7_drawnAs_63 (lv_at hl 0 rfl) ?_
          refine lv_iload hx hb dX7_drawnAs_65 (lv_at hl 4 rfl) ?_
          refine lv_icmp_ne (tgt := 72) hx hb dX7_drawnAs_67 (by decide) (fun c67 => ?_) (fun c67 => ?_)
          · have hf := it_f c67 hf
            refine lv_iinc (v := x5 + 1) (lv' := [(5, .int (x5 + 1)), (6, .int (V1 (Int32.toNatClampNeg (x2 + x5)))), (0, .ref a0), (2, .int x2), (3, .int x3), (4, .int x4)]) hx hb dX7_drawnAs_72 hl (k := 5) rfl rfl (by decide) rfl (fun ls hl => ?_)
            refine lv_goto (tgt := 29) hx hb dX7_drawnAs_75 (by decide) ?_
            exact ih29 x2 x3 x4 (x5 + 1) _ _ _ hf hP hD hS (lv_sub hl [2, 3, 4, 5, 0] rfl)
          · have hf := it_t c67 hf
            refine lv_iconst (v := 4) hx hb dX7_drawnAs_70 rfl ?_
            refine lv_istore_n (lv' := [(3, .int 4), (6, .int (V1 (Int32.toNatClampNeg (x2 + x5)))), (0, .ref a0), (2, .int x2), (4, .int x4), (5, .int x5)]) hx hb dX7_drawnAs_71 rfl hl (by decide) rfl (fun ls hl => ?_)
            refine lv_iinc (v := x5 + 1) (lv' := [(5, .int (x5 + 1)), (3, .int 4), (6, .int (V1 (Int32.toNatClampNeg (x2 + x5)))), (0, .ref a0), (2, .int x2), (4, .int x4)]) hx hb dX7_drawnAs_72 hl (k := 5) rfl rfl (by decide) rfl (fun ls hl => ?_)
            refine lv_goto (tgt := 29) hx hb dX7_drawnAs_75 (by decide) ?_
            exact ih29 x2 4 x4 (x5 + 1) _ _ _ hf hP hD hS (lv_sub hl [3, 4, 1, 5, 0] rfl)
        · have hf := it_f c50 hf
          refine lv_iload hx hb dX7_drawnAs_53 (lv_at hl 0 rfl) ?_
          refine lv_istore (lv' := [(4, .int (V1 (Int32.toNatClampNeg (x2 + x5)))), (6, .int (V1 (Int32.toNatClampNeg (x2 + x5)))), (0, .ref a0), (2, .int x2), (3, .int x3), (5, .int x5)]) hx hb dX7_drawnAs_55 hl (by decide) rfl (fun ls hl => ?_)
          refine lv_iload hx hb dX7_drawnAs_57 (lv_at hl 5 rfl) ?_
          refine lv_istore_n (lv' := [(3, .int x5), (4, .int (V1 (Int32.toNatClampNeg (x2 + x5)))), (6, .int (V1 (Int32.toNatClampNeg (x2 + x5)))), (0, .ref a0), (2, .int x2), (5, .int x5)]) hx hb dX7_drawnAs_59 rfl hl (by decide) rfl (fun ls hl => ?_)
          refine lv_goto (tgt := 72) hx hb dX7_drawnAs_60 (by decide) ?_
          refine lv_iinc (v := x5 + 1) (lv' := [(5, .int (x5 + 1)), (3, .int x5), (4, .int (V1 (Int32.toNatClampNeg (x2 + x5)))), (6, .int (V1 (Int32.toNatClampNeg (x2 + x5)))), (0, .ref a0), (2, .int x2)]) hx hb dX7_drawnAs_72 hl (k := 5) rfl rfl (by decide) rfl (fun ls hl => ?_)
          refine lv_goto (tgt := 29) hx hb dX7_drawnAs_75 (by decide) ?_
          exact ih29 x2 x5 (V1 (Int32.toNatClampNeg (x2 + x5))) (x5 + 1) _ _ _ hf hP hD hS (lv_sub hl [4, 5, 1, 2, 0] rfl)
  unfold f_X7_drawnAs at hf
  refine lv_iload_n hx hb dX7_drawnAs_0 rfl (lv_at hl 1 rfl) ?_
  refine lv_iconst (v := 4) hx hb dX7_drawnAs_1 rfl ?_
  refine lv_imul hx hb dX7_drawnAs_2 ?_
  refine lv_istore_n (lv' := [(2, .int (x1 * 4)), (0, .ref a0), (1, .int x1)]) hx hb dX7_drawnAs_3 rfl hl (by decide) rfl (fun ls hl => ?_)
  refine lv_iload_n hx hb dX7_drawnAs_4 rfl (lv_at hl 0 rfl) ?_
  refine lv_if_lt (tgt := 19) hx hb dX7_drawnAs_5 (by decide) (fun c5 => ?_) (fun c5 => ?_)
  · have hf := it_t c5 hf
    refine lv_iconst (v := 4) hx hb dX7_drawnAs_19 rfl ?_
    exact ret _ hf rfl hP hS dX7_drawnAs_20
  · have hf := it_f c5 hf
    refine lv_iload_n hx hb dX7_drawnAs_8 rfl (lv_at hl 0 rfl) ?_
    refine lv_iconst (v := 4) hx hb dX7_drawnAs_9 rfl ?_
    refine lv_iadd hx hb dX7_drawnAs_10 ?_
    refine lv_aload_n hx hb dX7_drawnAs_11 rfl (lv_at hl 1 rfl) ?_
    refine G7_9 hx hb htg hown hK hP 0 rfl dX7_drawnAs_12 ?_
    refine va_alen (v := 144) hx hb hK hP 1 1 rfl rfl rfl dX7_drawnAs_15 ?_
    refine lv_icmp_le (tgt := 21) hx hb dX7_drawnAs_16 (by decide) (fun c16 => ?_) (fun c16 => ?_)
    · have hf := it_t c16 hf
      refine lv_iconst (v := 4) hx hb dX7_drawnAs_21 rfl ?_
      refine lv_istore_n (lv' := [(3, .int 4), (2, .int (x1 * 4)), (0, .ref a0), (1, .int x1)]) hx hb dX7_drawnAs_22 rfl hl (by decide) rfl (fun ls hl => ?_)
      refine lv_iconst (v := 0) hx hb dX7_drawnAs_23 rfl ?_
      refine lv_istore (lv' := [(4, .int 0), (3, .int 4), (2, .int (x1 * 4)), (0, .ref a0), (1, .int x1)]) hx hb dX7_drawnAs_24 hl (by decide) rfl (fun ls hl => ?_)
      refine lv_iconst (v := 0) hx hb dX7_drawnAs_26 rfl ?_
      refine lv_istore (lv' := [(5, .int 0), (4, .int 0), (3, .int 4), (2, .int (x1 * 4)), (0, .ref a0), (1, .int x1)]) hx hb dX7_drawnAs_27 hl (by decide) rfl (fun ls hl => ?_)
      exact b29 xF (x1 * 4) 4 0 0 _ _ _ hf hP hD hS (lv_sub hl [4, 3, 2, 1, 0] rfl)
    · have hf := it_f c16 hf
      refine lv_iconst (v := 4) hx hb dX7_drawnAs_19 rfl ?_
      exact ret _ hf rfl hP hS dX7_drawnAs_20
theorem dX3_cellCount_0 : decode cX3_cellCount 0 = .ok (.aload_n 0, 1) := by decide +kernel
theorem dX3_cellCount_1 : decode cX3_cellCount 1 = .ok (.getfield 45, 3) := by decide +kernel
theorem dX3_cellCount_4 : decode cX3_cellCount 4 = .ok (.aload_n 0, 1) := by decide +kernel
theorem dX3_cellCount_5 : decode cX3_cellCount 5 = .ok (.getfield 48, 3) := by decide +kernel
theorem dX3_cellCount_8 : decode cX3_cellCount 8 = .ok (.imul, 1) := by decide +kernel
theorem dX3_cellCount_9 : decode cX3_cellCount 9 = .ok (.ireturn, 1) := by decide +kernel
def f_X3_cellCount (T0 : Nat → Int32) : Option (Int32) := some ((T0 0) * (T0 1))
set_option maxRecDepth 100000 in
theorem c_X3_cellCount (l : Launch) (E : xE) (a0 : Nat) {T0 : Nat → Int32} {u0_7 u0_8 u0_9 u0_10 u0_11 u0_12 u0_13 u0_14 : Nat} {z : Int32} (hf : f_X3_cellCount T0 = some z) (sz : Nat) : Met l yX3_cellCount (Cond.code yX3_cellCount cX3_cellCount 1 (some .int) :: gw) ({ frames := 0, cells := 0, slots := 0, locals := 0 }) (xPc E [.ref a0] [(a0, o3 T0 u0_7 u0_8 u0_9 u0_10 u0_11 u0_12 u0_13 u0_14)] sz) (xQi E z [(a0, o3 T0 u0_7 u0_8 u0_9 u0_10 u0_11 u0_12 u0_13 u0_14)] [(a0, o3 T0 u0_7 u0_8 u0_9 u0_10 u0_11 u0_12 u0_13 u0_14)] sz) 0 0 (va_A [(a0, o3 T0 u0_7 u0_8 u0_9 u0_10 u0_11 u0_12 u0_13 u0_14)] sz) := by
  refine xM_i (by decide +kernel) (Nat.le_of_ble_eq_true rfl) ?_
  intro p e s m args below meth c A Q hx hb hml hown htg hK hG hA ret0 H locs ls hP hD hS hl
  have ret : ∀ (z' : Int32) {H : Heap} {locs : List Loc} {pc : Nat} {ls : Array Slot}, some z' = some z → narrow .int (.int z') = .int z' → va_P E.1 vwCl [(a0, o3 T0 u0_7 u0_8 u0_9 u0_10 u0_11 u0_12 u0_13 u0_14)] H → va_S A s.heap H locs → decode cX3_cellCount pc = .ok (.ireturn, 1) → W p l e ({ frames := 0, cells := 0, slots := 0, locals := 0 } : Room) s m args below meth c H locs 0 0 Q (F0 m pc ls [.int z']) := by
    intro z' H locs pc ls h
    cases h
    exact ret0
  replace hl : lv_has ls 1 [(0, .ref a0)] := hl
  unfold f_X3_cellCount at hf
  refine lv_aload_n hx hb dX3_cellCount_0 rfl (lv_at hl 0 rfl) ?_
  refine G3_45 hx hb htg hown hK hP 0 rfl dX3_cellCount_1 ?_
  refine lv_aload_n hx hb dX3_cellCount_4 rfl (lv_at hl 0 rfl) ?_
  refine G3_48 hx hb htg hown hK hP 0 rfl dX3_cellCount_5 ?_
  refine lv_imul hx hb dX3_cellCount_8 ?_
  exact ret _ hf rfl hP hS dX3_cellCount_9
theorem dX7_knownCells_0 : decode cX7_knownCells 0 = .ok (.iconst 0, 1) := by decide +kernel
theorem dX7_knownCells_1 : decode cX7_knownCells 1 = .ok (.istore_n 2, 1) := by decide +kernel
theorem dX7_knownCells_2 : decode cX7_knownCells 2 = .ok (.iconst 0, 1) := by decide +kernel
theorem dX7_knownCells_3 : decode cX7_knownCells 3 = .ok (.istore_n 3, 1) := by decide +kernel
theorem dX7_knownCells_4 : decode cX7_knownCells 4 = .ok (.iload_n 3, 1) := by decide +kernel
theorem dX7_knownCells_5 : decode cX7_knownCells 5 = .ok (.aload_n 1, 1) := by decide +kernel
theorem dX7_knownCells_6 : decode cX7_knownCells 6 = .ok (.invokevirtual 52, 3) := by decide +kernel
theorem dX7_knownCells_9 : decode cX7_knownCells 9 = .ok (.if_icmp .ge 26, 3) := by decide +kernel
theorem dX7_knownCells_12 : decode cX7_knownCells 12 = .ok (.iload_n 2, 1) := by decide +kernel
theorem dX7_knownCells_13 : decode cX7_knownCells 13 = .ok (.aload_n 0, 1) := by decide +kernel
theorem dX7_knownCells_14 : decode cX7_knownCells 14 = .ok (.iload_n 3, 1) := by decide +kernel
theorem dX7_knownCells_15 : decode cX7_knownCells 15 = .ok (.invokevirtual 44, 3) := by decide +kernel
theorem dX7_knownCells_18 : decode cX7_knownCells 18 = .ok (.iconst 4, 1) := by decide +kernel
theorem dX7_knownCells_19 : decode cX7_knownCells 19 = .ok (.if_icmp .ne 7, 3) := by decide +kernel
theorem dX7_knownCells_22 : decode cX7_knownCells 22 = .ok (.iconst 0, 1) := by decide +kernel
theorem dX7_knownCells_23 : decode cX7_knownCells 23 = .ok (.goto 4, 3) := by decide +kernel
theorem dX7_knownCells_26 : decode cX7_knownCells 26 = .ok (.iconst 1, 1) := by decide +kernel
theorem dX7_knownCells_27 : decode cX7_knownCells 27 = .ok (.iadd, 1) := by decide +kernel
theorem dX7_knownCells_28 : decode cX7_knownCells 28 = .ok (.istore_n 2, 1) := by decide +kernel
theorem dX7_knownCells_29 : decode cX7_knownCells 29 = .ok (.iinc 3 1, 3) := by decide +kernel
theorem dX7_knownCells_32 : decode cX7_knownCells 32 = .ok (.goto (-28), 3) := by decide +kernel
theorem dX7_knownCells_35 : decode cX7_knownCells 35 = .ok (.iload_n 2, 1) := by decide +kernel
theorem dX7_knownCells_36 : decode cX7_knownCells 36 = .ok (.ireturn, 1) := by decide +kernel
def f_X7_knownCells_27 (T1 : Nat → Int32) (V2 : Nat → Int32) (k4 : Int32 → Int32 → Option (Int32)) (x3 : Int32) (s0 : Int32) (s1 : Int32) : Option (Int32) := k4 (s0 + s1) (x3 + 1)
def g_X7_knownCells_4 (T1 : Nat → Int32) (V2 : Nat → Int32)  (k4 : Int32 → Int32 → Option (Int32)) : Int32 → Int32 → Option (Int32) := fun x2 x3 => (f_X3_cellCount T1).bind (fun z6 => if z6 ≤ x3 then (some x2) else ((f_X7_drawnAs V2 x3).bind (fun z15 => if z15 = 4 then (f_X7_knownCells_27 T1 V2 k4 x3 x2 0) else (f_X7_knownCells_27 T1 V2 k4 x3 x2 1))))
def f_X7_knownCells_4 (T1 : Nat → Int32) (V2 : Nat → Int32)  (n : Nat) : Int32 → Int32 → Option (Int32) := iter (g_X7_knownCells_4 T1 V2 ) (fun _ _ => none) n
def f_X7_knownCells (T1 : Nat → Int32) (V2 : Nat → Int32) : Option (Int32) := f_X7_knownCells_4 T1 V2 xF 0 0
set_option maxRecDepth 100000 in
theorem c_X7_knownCells (l : Launch) (E : xE) (a0 a1 a2 : Nat) {T1 : Nat → Int32} {V2 : Nat → Int32} {u1_7 u1_8 u1_9 u1_10 u1_11 u1_12 u1_13 u1_14 : Nat} {z : Int32} (hf : f_X7_knownCells T1 V2 = some z) (sz : Nat) : Met l yX7_knownCells (Cond.code yX7_knownCells cX7_knownCells 4 (some .int) :: gw) ({ frames := 1, cells := 0, slots := 0, locals := 26 }) (xPc E [.ref a0, .ref a1] [(a0, o7 a2), (a1, o3 T1 u1_7 u1_8 u1_9 u1_10 u1_11 u1_12 u1_13 u1_14), (a2, ai E 144 V2)] sz) (xQi E z [(a0, o7 a2), (a1, o3 T1 u1_7 u1_8 u1_9 u1_10 u1_11 u1_12 u1_13 u1_14), (a2, ai E 144 V2)] [(a0, o7 a2), (a1, o3 T1 u1_7 u1_8 u1_9 u1_10 u1_11 u1_12 u1_13 u1_14), (a2, ai E 144 V2)] sz) 0 0 (va_A [(a0, o7 a2), (a1, o3 T1 u1_7 u1_8 u1_9 u1_10 u1_11 u1_12 u1_13 u1_14), (a2, ai E 144 V2)] sz) := by
  refine xM_i (by decide +kernel) (Nat.le_of_ble_eq_true rfl) ?_
  intro p e s m args below meth c A Q hx hb hml hown htg hK hG hA ret0 H locs ls hP hD hS hl
  have ret : ∀ (z' : Int32) {H : Heap} {locs : List Loc} {pc : Nat} {ls : Array Slot}, some z' = some z → narrow .int (.int z') = .int z' → va_P E.1 vwCl [(a0, o7 a2), (a1, o3 T1 u1_7 u1_8 u1_9 u1_10 u1_11 u1_12 u1_13 u1_14), (a2, ai E 144 V2)] H → va_S A s.heap H locs → decode cX7_knownCells pc = .ok (.ireturn, 1) → W p l e ({ frames := 1, cells := 0, slots := 0, locals := 26 } : Room) s m args below meth c H locs 0 0 Q (F0 m pc ls [.int z']) := by
    intro z' H locs pc ls h
    cases h
    exact ret0
  replace hl : lv_has ls 4 [(0, .ref a0), (1, .ref a1)] := hl
  have b4 : ∀ (n : Nat) (x2 : Int32) (x3 : Int32) (H : Heap) (locs : List Loc) (ls : Array Slot), f_X7_knownCells_4 T1 V2 n x2 x3 = some z → va_P E.1 vwCl [(a0, o7 a2), (a1, o3 T1 u1_7 u1_8 u1_9 u1_10 u1_11 u1_12 u1_13 u1_14), (a2, ai E 144 V2)] H → va_D A [(a0, o7 a2), (a1, o3 T1 u1_7 u1_8 u1_9 u1_10 u1_11 u1_12 u1_13 u1_14), (a2, ai E 144 V2)] → va_S A s.heap H locs → lv_has ls 4 [(0, .ref a0), (1, .ref a1), (2, .int x2), (3, .int x3)] → W p l e ({ frames := 1, cells := 0, slots := 0, locals := 26 } : Room) s m args below meth c H locs 0 0 Q (F0 m 4 ls []) := by
    intro n
    induction n with
    | zero => intro x2 x3 H locs ls hf; exact (nn_s hf).elim
    | succ n ih4 =>
      obtain ⟨k4, ek4⟩ : ∃ k, k = f_X7_knownCells_4 T1 V2 n := ⟨_, rfl⟩
      rw [← ek4] at ih4
      have b27 : ∀ (x3 : Int32) (s0 : Int32) (s1 : Int32) (H : Heap) (locs : List Loc) (ls : Array Slot), f_X7_knownCells_27 T1 V2 k4 x3 s0 s1 = some z → va_P E.1 vwCl [(a0, o7 a2), (a1, o3 T1 u1_7 u1_8 u1_9 u1_10 u1_11 u1_12 u1_13 u1_14), (a2, ai E 144 V2)] H → va_D A [(a0, o7 a2), (a1, o3 T1 u1_7 u1_8 u1_9 u1_10 u1_11 u1_12 u1_13 u1_14), (a2, ai E 144 V2)] → va_S A s.heap H locs → lv_has ls 4 [(0, .ref a0), (1, .ref a1), (3, .int x3)] → W p l e ({ frames := 1, cells := 0, slots := 0, locals := 26 } : Room) s m args below meth c H locs 0 0 Q (F0 m 27 ls [.int s1, .int s0]) := by
        intro x3 s0 s1 H locs ls hf hP hD hS hl
        unfold f_X7_knownCells_27 at hf
        refine lv_iadd hx hb dX7_knownCells_27 ?_
        refine lv_istore_n (lv' := [(2, .int (s0 + s1)), (0, .ref a0), (1, .ref a1), (3, .int x3)]) hx hb dX7_knownCells_28 rfl hl (by decide) rfl (fun ls hl => ?_)
        refine lv_iinc (v := x3 + 1) (lv' := [(3, .int (x3 + 1)), (2, .int (s0 + s1)), (0, .ref a0), (1, .ref a1)]) hx hb dX7_knownCells_29 hl (k := 3) rfl rfl (by decide) rfl (fun ls hl => ?_)
        refine lv_goto (tgt := 4) hx hb dX7_knownCells_32 (by decide) ?_
        exact ih4 (s0 + s1) (x3 + 1) _ _ _ hf hP hD hS (lv_sub hl [2, 3, 1, 0] rfl)
      intro x2 x3 H locs ls hf hP hD hS hl
      replace hf : g_X7_knownCells_4 T1 V2 k4 x2 x3 = some z := by rw [ek4]; exact hf
      unfold g_X7_knownCells_4 at hf
      refine lv_iload_n hx hb dX7_knownCells_4 rfl (lv_at hl 3 rfl) ?_
      refine lv_aload_n hx hb dX7_knownCells_5 rfl (lv_at hl 1 rfl) ?_
      obtain ⟨z6, hz6, hf⟩ := bind_s hf
      refine xV_ir hx hb hml hown htg L7_52 (c_X3_cellCount l E a1 hz6 _) ⟨⟨rfl, rfl⟩, Nat.le_of_ble_eq_true rfl, Nat.le_of_ble_eq_true rfl⟩ hK hG hA hP hD hS (is := [1]) rfl rfl (xrecv hK hP (q0 := 1) (ci := 3) rfl rfl) rfl hl.1 rfl (Nat.le_of_ble_eq_true rfl) dX7_knownCells_6 (fun H locs hP hD hS => ?_)
      refine lv_icmp_ge (tgt := 35) hx hb dX7_knownCells_9 (by decide) (fun c9 => ?_) (fun c9 => ?_)
      · have hf := it_t c9 hf
        refine lv_iload_n hx hb dX7_knownCells_35 rfl (lv_at hl 2 rfl) ?_
        exact ret _ hf rfl hP hS dX7_knownCells_36
      · have hf := it_f c9 hf
        refine lv_iload_n hx hb dX7_knownCells_12 rfl (lv_at hl 2 rfl) ?_
        refine lv_aload_n hx hb dX7_knownCells_13 rfl (lv_at hl 0 rfl) ?_
        refine lv_iload_n hx hb dX7_knownCells_14 rfl (lv_at hl 3 rfl) ?_
        obtain ⟨z15, hz15, hf⟩ := bind_s hf
        refine xV_ir hx hb hml hown htg L7_44 (c_X7_drawnAs l E a0 a2 hz15 _) ⟨⟨rfl, rfl⟩, Nat.le_of_ble_eq_true rfl, Nat.le_of_ble_eq_true rfl⟩ hK hG hA hP hD hS (is := [0, 2]) rfl rfl (xrecv hK hP (q0 := 0) (ci := 7) rfl rfl) rfl hl.1 rfl (Nat.le_of_ble_eq_true rfl) dX7_knownCells_15 (fun H locs hP hD hS => ?_)
        refine lv_iconst (v := 4) hx hb dX7_knownCells_18 rfl ?_
        refine lv_icmp_ne (tgt := 26) hx hb dX7_knownCells_19 (by decide) (fun c19 => ?_) (fun c19 => ?_)
        · have hf := it_f c19 hf
          refine lv_iconst (v := 1) hx hb dX7_knownCells_26 rfl ?_
          exact b27 x3 x2 1 _ _ _ hf hP hD hS (lv_sub hl [0, 1, 3] rfl)
        · have hf := it_t c19 hf
          refine lv_iconst (v := 0) hx hb dX7_knownCells_22 rfl ?_
          refine lv_goto (tgt := 27) hx hb dX7_knownCells_23 (by decide) ?_
          exact b27 x3 x2 0 _ _ _ hf hP hD hS (lv_sub hl [0, 1, 3] rfl)
  unfold f_X7_knownCells at hf
  refine lv_iconst (v := 0) hx hb dX7_knownCells_0 rfl ?_
  refine lv_istore_n (lv' := [(2, .int 0), (0, .ref a0), (1, .ref a1)]) hx hb dX7_knownCells_1 rfl hl (by decide) rfl (fun ls hl => ?_)
  refine lv_iconst (v := 0) hx hb dX7_knownCells_2 rfl ?_
  refine lv_istore_n (lv' := [(3, .int 0), (2, .int 0), (0, .ref a0), (1, .ref a1)]) hx hb dX7_knownCells_3 rfl hl (by decide) rfl (fun ls hl => ?_)
  exact b4 xF 0 0 _ _ _ hf hP hD hS (lv_sub hl [2, 3, 1, 0] rfl)
theorem dX3_tellingsOf_0 : decode cX3_tellingsOf 0 = .ok (.iconst 0, 1) := by decide +kernel
theorem dX3_tellingsOf_1 : decode cX3_tellingsOf 1 = .ok (.istore_n 2, 1) := by decide +kernel
theorem dX3_tellingsOf_2 : decode cX3_tellingsOf 2 = .ok (.iconst 0, 1) := by decide +kernel
theorem dX3_tellingsOf_3 : decode cX3_tellingsOf 3 = .ok (.istore_n 3, 1) := by decide +kernel
theorem dX3_tellingsOf_4 : decode cX3_tellingsOf 4 = .ok (.iload_n 3, 1) := by decide +kernel
theorem dX3_tellingsOf_5 : decode cX3_tellingsOf 5 = .ok (.aload_n 0, 1) := by decide +kernel
theorem dX3_tellingsOf_6 : decode cX3_tellingsOf 6 = .ok (.getfield 60, 3) := by decide +kernel
theorem dX3_tellingsOf_9 : decode cX3_tellingsOf 9 = .ok (.if_icmp .ge 27, 3) := by decide +kernel
theorem dX3_tellingsOf_12 : decode cX3_tellingsOf 12 = .ok (.iload_n 2, 1) := by decide +kernel
theorem dX3_tellingsOf_13 : decode cX3_tellingsOf 13 = .ok (.aload_n 0, 1) := by decide +kernel
theorem dX3_tellingsOf_14 : decode cX3_tellingsOf 14 = .ok (.getfield 29, 3) := by decide +kernel
theorem dX3_tellingsOf_17 : decode cX3_tellingsOf 17 = .ok (.iload_n 3, 1) := by decide +kernel
theorem dX3_tellingsOf_18 : decode cX3_tellingsOf 18 = .ok (.iaload, 1) := by decide +kernel
theorem dX3_tellingsOf_19 : decode cX3_tellingsOf 19 = .ok (.iload_n 1, 1) := by decide +kernel
theorem dX3_tellingsOf_20 : decode cX3_tellingsOf 20 = .ok (.if_icmp .ne 7, 3) := by decide +kernel
theorem dX3_tellingsOf_23 : decode cX3_tellingsOf 23 = .ok (.iconst 1, 1) := by decide +kernel
theorem dX3_tellingsOf_24 : decode cX3_tellingsOf 24 = .ok (.goto 4, 3) := by decide +kernel
theorem dX3_tellingsOf_27 : decode cX3_tellingsOf 27 = .ok (.iconst 0, 1) := by decide +kernel
theorem dX3_tellingsOf_28 : decode cX3_tellingsOf 28 = .ok (.iadd, 1) := by decide +kernel
theorem dX3_tellingsOf_29 : decode cX3_tellingsOf 29 = .ok (.istore_n 2, 1) := by decide +kernel
theorem dX3_tellingsOf_30 : decode cX3_tellingsOf 30 = .ok (.iinc 3 1, 3) := by decide +kernel
theorem dX3_tellingsOf_33 : decode cX3_tellingsOf 33 = .ok (.goto (-29), 3) := by decide +kernel
theorem dX3_tellingsOf_36 : decode cX3_tellingsOf 36 = .ok (.iload_n 2, 1) := by decide +kernel
theorem dX3_tellingsOf_37 : decode cX3_tellingsOf 37 = .ok (.ireturn, 1) := by decide +kernel
def f_X3_tellingsOf_28 (T0 : Nat → Int32) (V1 : Nat → Int32) (x1 : Int32) (k4 : Int32 → Int32 → Option (Int32)) (x3 : Int32) (s0 : Int32) (s1 : Int32) : Option (Int32) := k4 (s0 + s1) (x3 + 1)
def g_X3_tellingsOf_4 (T0 : Nat → Int32) (V1 : Nat → Int32) (x1 : Int32)  (k4 : Int32 → Int32 → Option (Int32)) : Int32 → Int32 → Option (Int32) := fun x2 x3 => if (T0 6) ≤ x3 then (some x2) else (ck (gd x3 12) (if (V1 (Int32.toNatClampNeg x3)) = x1 then (f_X3_tellingsOf_28 T0 V1 x1 k4 x3 x2 1) else (f_X3_tellingsOf_28 T0 V1 x1 k4 x3 x2 0)))
def f_X3_tellingsOf_4 (T0 : Nat → Int32) (V1 : Nat → Int32) (x1 : Int32)  (n : Nat) : Int32 → Int32 → Option (Int32) := iter (g_X3_tellingsOf_4 T0 V1 x1 ) (fun _ _ => none) n
def f_X3_tellingsOf (T0 : Nat → Int32) (V1 : Nat → Int32) (x1 : Int32) : Option (Int32) := f_X3_tellingsOf_4 T0 V1 x1 xF 0 0
set_option maxRecDepth 100000 in
theorem c_X3_tellingsOf (l : Launch) (E : xE) (a0 a1 : Nat) {T0 : Nat → Int32} {V1 : Nat → Int32} {u0_7 u0_8 u0_9 u0_10 u0_12 u0_13 u0_14 : Nat} {x1 : Int32} {z : Int32} (hf : f_X3_tellingsOf T0 V1 x1 = some z) (sz : Nat) : Met l yX3_tellingsOf (Cond.code yX3_tellingsOf cX3_tellingsOf 4 (some .int) :: gw) ({ frames := 0, cells := 0, slots := 0, locals := 0 }) (xPc E [.ref a0, .int x1] [(a0, o3 T0 u0_7 u0_8 u0_9 u0_10 a1 u0_12 u0_13 u0_14), (a1, ai E 12 V1)] sz) (xQi E z [(a0, o3 T0 u0_7 u0_8 u0_9 u0_10 a1 u0_12 u0_13 u0_14), (a1, ai E 12 V1)] [(a0, o3 T0 u0_7 u0_8 u0_9 u0_10 a1 u0_12 u0_13 u0_14), (a1, ai E 12 V1)] sz) 0 0 (va_A [(a0, o3 T0 u0_7 u0_8 u0_9 u0_10 a1 u0_12 u0_13 u0_14), (a1, ai E 12 V1)] sz) := by
  refine xM_i (by decide +kernel) (Nat.le_of_ble_eq_true rfl) ?_
  intro p e s m args below meth c A Q hx hb hml hown htg hK hG hA ret0 H locs ls hP hD hS hl
  have ret : ∀ (z' : Int32) {H : Heap} {locs : List Loc} {pc : Nat} {ls : Array Slot}, some z' = some z → narrow .int (.int z') = .int z' → va_P E.1 vwCl [(a0, o3 T0 u0_7 u0_8 u0_9 u0_10 a1 u0_12 u0_13 u0_14), (a1, ai E 12 V1)] H → va_S A s.heap H locs → decode cX3_tellingsOf pc = .ok (.ireturn, 1) → W p l e ({ frames := 0, cells := 0, slots := 0, locals := 0 } : Room) s m args below meth c H locs 0 0 Q (F0 m pc ls [.int z']) := by
    intro z' H locs pc ls h
    cases h
    exact ret0
  replace hl : lv_has ls 4 [(0, .ref a0), (1, .int x1)] := hl
  have b4 : ∀ (n : Nat) (x2 : Int32) (x3 : Int32) (H : Heap) (locs : List Loc) (ls : Array Slot), f_X3_tellingsOf_4 T0 V1 x1 n x2 x3 = some z → va_P E.1 vwCl [(a0, o3 T0 u0_7 u0_8 u0_9 u0_10 a1 u0_12 u0_13 u0_14), (a1, ai E 12 V1)] H → va_D A [(a0, o3 T0 u0_7 u0_8 u0_9 u0_10 a1 u0_12 u0_13 u0_14), (a1, ai E 12 V1)] → va_S A s.heap H locs → lv_has ls 4 [(0, .ref a0), (1, .int x1), (2, .int x2), (3, .int x3)] → W p l e ({ frames := 0, cells := 0, slots := 0, locals := 0 } : Room) s m args below meth c H locs 0 0 Q (F0 m 4 ls []) := by
    intro n
    induction n with
    | zero => intro x2 x3 H locs ls hf; exact (nn_s hf).elim
    | succ n ih4 =>
      obtain ⟨k4, ek4⟩ : ∃ k, k = f_X3_tellingsOf_4 T0 V1 x1 n := ⟨_, rfl⟩
      rw [← ek4] at ih4
      have b28 : ∀ (x3 : Int32) (s0 : Int32) (s1 : Int32) (H : Heap) (locs : List Loc) (ls : Array Slot), f_X3_tellingsOf_28 T0 V1 x1 k4 x3 s0 s1 = some z → va_P E.1 vwCl [(a0, o3 T0 u0_7 u0_8 u0_9 u0_10 a1 u0_12 u0_13 u0_14), (a1, ai E 12 V1)] H → va_D A [(a0, o3 T0 u0_7 u0_8 u0_9 u0_10 a1 u0_12 u0_13 u0_14), (a1, ai E 12 V1)] → va_S A s.heap H locs → lv_has ls 4 [(0, .ref a0), (1, .int x1), (3, .int x3)] → W p l e ({ frames := 0, cells := 0, slots := 0, locals := 0 } : Room) s m args below meth c H locs 0 0 Q (F0 m 28 ls [.int s1, .int s0]) := by
        intro x3 s0 s1 H locs ls hf hP hD hS hl
        unfold f_X3_tellingsOf_28 at hf
        refine lv_iadd hx hb dX3_tellingsOf_28 ?_
        refine lv_istore_n (lv' := [(2, .int (s0 + s1)), (0, .ref a0), (1, .int x1), (3, .int x3)]) hx hb dX3_tellingsOf_29 rfl hl (by decide) rfl (fun ls hl => ?_)
        refine lv_iinc (v := x3 + 1) (lv' := [(3, .int (x3 + 1)), (2, .int (s0 + s1)), (0, .ref a0), (1, .int x1)]) hx hb dX3_tellingsOf_30 hl (k := 3) rfl rfl (by decide) rfl (fun ls hl => ?_)
        refine lv_goto (tgt := 4) hx hb dX3_tellingsOf_33 (by decide) ?_
        exact ih4 (s0 + s1) (x3 + 1) _ _ _ hf hP hD hS (lv_sub hl [2, 3, 1, 0] rfl)
      intro x2 x3 H locs ls hf hP hD hS hl
      replace hf : g_X3_tellingsOf_4 T0 V1 x1 k4 x2 x3 = some z := by rw [ek4]; exact hf
      unfold g_X3_tellingsOf_4 at hf
      refine lv_iload_n hx hb dX3_tellingsOf_4 rfl (lv_at hl 3 rfl) ?_
      refine lv_aload_n hx hb dX3_tellingsOf_5 rfl (lv_at hl 0 rfl) ?_
      refine G3_60 hx hb htg hown hK hP 0 rfl dX3_tellingsOf_6 ?_
      refine lv_icmp_ge (tgt := 36) hx hb dX3_tellingsOf_9 (by decide) (fun c9 => ?_) (fun c9 => ?_)
      · have hf := it_t c9 hf
        refine lv_iload_n hx hb dX3_tellingsOf_36 rfl (lv_at hl 2 rfl) ?_
        exact ret _ hf rfl hP hS dX3_tellingsOf_37
      · have hf := it_f c9 hf
        refine lv_iload_n hx hb dX3_tellingsOf_12 rfl (lv_at hl 2 rfl) ?_
        refine lv_aload_n hx hb dX3_tellingsOf_13 rfl (lv_at hl 0 rfl) ?_
        refine G3_29 hx hb htg hown hK hP 0 rfl dX3_tellingsOf_14 ?_
        refine lv_iload_n hx hb dX3_tellingsOf_17 rfl (lv_at hl 3 rfl) ?_
        obtain ⟨g18, hf⟩ := ck_s hf
        refine xiald hx hb hK hP 1 rfl g18 dX3_tellingsOf_18 ?_
        refine lv_iload_n hx hb dX3_tellingsOf_19 rfl (lv_at hl 1 rfl) ?_
        refine lv_icmp_ne (tgt := 27) hx hb dX3_tellingsOf_20 (by decide) (fun c20 => ?_) (fun c20 => ?_)
        · have hf := it_f c20 hf
          refine lv_iconst (v := 0) hx hb dX3_tellingsOf_27 rfl ?_
          exact b28 x3 x2 0 _ _ _ hf hP hD hS (lv_sub hl [0, 1, 3] rfl)
        · have hf := it_t c20 hf
          refine lv_iconst (v := 1) hx hb dX3_tellingsOf_23 rfl ?_
          refine lv_goto (tgt := 28) hx hb dX3_tellingsOf_24 (by decide) ?_
          exact b28 x3 x2 1 _ _ _ hf hP hD hS (lv_sub hl [0, 1, 3] rfl)
  unfold f_X3_tellingsOf at hf
  refine lv_iconst (v := 0) hx hb dX3_tellingsOf_0 rfl ?_
  refine lv_istore_n (lv' := [(2, .int 0), (0, .ref a0), (1, .int x1)]) hx hb dX3_tellingsOf_1 rfl hl (by decide) rfl (fun ls hl => ?_)
  refine lv_iconst (v := 0) hx hb dX3_tellingsOf_2 rfl ?_
  refine lv_istore_n (lv' := [(3, .int 0), (2, .int 0), (0, .ref a0), (1, .int x1)]) hx hb dX3_tellingsOf_3 rfl hl (by decide) rfl (fun ls hl => ?_)
  exact b4 xF 0 0 _ _ _ hf hP hD hS (lv_sub hl [2, 3, 1, 0] rfl)
