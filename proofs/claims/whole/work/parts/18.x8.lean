theorem dX8_blame_0 : decode cX8_blame 0 = .ok (.aload_n 0, 1) := by decide +kernel
theorem dX8_blame_1 : decode cX8_blame 1 = .ok (.aload_n 0, 1) := by decide +kernel
theorem dX8_blame_2 : decode cX8_blame 2 = .ok (.getfield 62, 3) := by decide +kernel
theorem dX8_blame_5 : decode cX8_blame 5 = .ok (.iconst 4, 1) := by decide +kernel
theorem dX8_blame_6 : decode cX8_blame 6 = .ok (.if_icmp .ne 7, 3) := by decide +kernel
theorem dX8_blame_9 : decode cX8_blame 9 = .ok (.iconst 1, 1) := by decide +kernel
theorem dX8_blame_10 : decode cX8_blame 10 = .ok (.goto 4, 3) := by decide +kernel
theorem dX8_blame_13 : decode cX8_blame 13 = .ok (.iload_n 1, 1) := by decide +kernel
theorem dX8_blame_14 : decode cX8_blame 14 = .ok (.putfield 53, 3) := by decide +kernel
theorem dX8_blame_17 : decode cX8_blame 17 = .ok (.aload_n 0, 1) := by decide +kernel
theorem dX8_blame_18 : decode cX8_blame 18 = .ok (.aload_n 0, 1) := by decide +kernel
theorem dX8_blame_19 : decode cX8_blame 19 = .ok (.getfield 65, 3) := by decide +kernel
theorem dX8_blame_22 : decode cX8_blame 22 = .ok (.putfield 56, 3) := by decide +kernel
theorem dX8_blame_25 : decode cX8_blame 25 = .ok (.iconst 0, 1) := by decide +kernel
theorem dX8_blame_26 : decode cX8_blame 26 = .ok (.ireturn, 1) := by decide +kernel
set_option maxRecDepth 100000 in
theorem c_X8_blame (l : Launch) (E : xE) (a0 : Nat) {T0 : Nat → Int32} {J0_8 : Int64} {u0_0 u0_1 : Nat} {x1 : Int32} {z : Int32 × (Nat → Int32)} (hf : f_X8_blame T0 x1 = some z) (sz : Nat) : Met l yX8_blame (Cond.code yX8_blame cX8_blame 2 (some .boolean) :: gw) ({ frames := 0, cells := 0, slots := 0, locals := 0 }) (xPc E [.ref a0, .int x1] [(a0, o8 T0 J0_8 u0_0 u0_1)] sz) (xQi E z.1 [(a0, o8 T0 J0_8 u0_0 u0_1)] [(a0, o8 z.2 J0_8 u0_0 u0_1)] sz) 0 0 (va_A [(a0, o8 T0 J0_8 u0_0 u0_1)] sz) := by
  refine xM_i (by decide +kernel) (Nat.le_of_ble_eq_true rfl) ?_
  intro p e s m args below meth c A Q hx hb hml hown htg hK hG hA ret0 H locs ls hP hD hS hl
  have ret : ∀ (z' : Int32 × (Nat → Int32)) {H : Heap} {locs : List Loc} {pc : Nat} {ls : Array Slot}, some z' = some z → narrow .boolean (.int z'.1) = .int z'.1 → va_P E.1 vwCl [(a0, o8 z'.2 J0_8 u0_0 u0_1)] H → va_S A s.heap H locs → decode cX8_blame pc = .ok (.ireturn, 1) → W p l e ({ frames := 0, cells := 0, slots := 0, locals := 0 } : Room) s m args below meth c H locs 0 0 Q (F0 m pc ls [.int z'.1]) := by
    intro z' H locs pc ls h
    cases h
    exact ret0
  replace hl : lv_has ls 2 [(0, .ref a0), (1, .int x1)] := hl
  have b14 : ∀ (s1 : Int32) (T0 : Nat → Int32) (H : Heap) (locs : List Loc) (ls : Array Slot), f_X8_blame_14 x1 s1 T0 = some z → va_P E.1 vwCl [(a0, o8 T0 J0_8 u0_0 u0_1)] H → va_D A [(a0, o8 T0 J0_8 u0_0 u0_1)] → va_S A s.heap H locs → lv_has ls 2 [(0, .ref a0)] → W p l e ({ frames := 0, cells := 0, slots := 0, locals := 0 } : Room) s m args below meth c H locs 0 0 Q (F0 m 14 ls [.int s1, .ref a0]) := by
    intro s1 T0 H locs ls hf hP hD hS hl
    unfold f_X8_blame_14 at hf
    refine P8_53 hx hb htg hown hK hP hD hS 0 rfl dX8_blame_14 (fun H locs hP hD hS => ?_)
    refine lv_aload_n hx hb dX8_blame_17 rfl (lv_at hl 0 rfl) ?_
    refine lv_aload_n hx hb dX8_blame_18 rfl (lv_at hl 0 rfl) ?_
    refine G8_65 hx hb htg hown hK hP 0 rfl dX8_blame_19 ?_
    refine P8_56 hx hb htg hown hK hP hD hS 0 rfl dX8_blame_22 (fun H locs hP hD hS => ?_)
    refine lv_iconst (v := 0) hx hb dX8_blame_25 rfl ?_
    exact ret (0, upd (upd T0 9 s1) 10 ((upd T0 9 s1) 5)) hf nz0 hP hS dX8_blame_26
  unfold f_X8_blame at hf
  refine lv_aload_n hx hb dX8_blame_0 rfl (lv_at hl 0 rfl) ?_
  refine lv_aload_n hx hb dX8_blame_1 rfl (lv_at hl 0 rfl) ?_
  refine G8_62 hx hb htg hown hK hP 0 rfl dX8_blame_2 ?_
  refine lv_iconst (v := 4) hx hb dX8_blame_5 rfl ?_
  refine lv_icmp_ne (tgt := 13) hx hb dX8_blame_6 (by decide) (fun c6 => ?_) (fun c6 => ?_)
  · have hf := it_f c6 hf
    refine lv_iload_n hx hb dX8_blame_13 rfl (lv_at hl 1 rfl) ?_
    exact b14 x1 T0 _ _ _ hf hP hD hS (lv_sub hl [0] rfl)
  · have hf := it_t c6 hf
    refine lv_iconst (v := 1) hx hb dX8_blame_9 rfl ?_
    refine lv_goto (tgt := 14) hx hb dX8_blame_10 (by decide) ?_
    exact b14 1 T0 _ _ _ hf hP hD hS (lv_sub hl [0] rfl)
theorem dX8_isBlank_0 : decode cX8_isBlank 0 = .ok (.iload_n 0, 1) := by decide +kernel
theorem dX8_isBlank_1 : decode cX8_isBlank 1 = .ok (.bipush 10, 2) := by decide +kernel
theorem dX8_isBlank_3 : decode cX8_isBlank 3 = .ok (.if_icmp .eq 9, 3) := by decide +kernel
theorem dX8_isBlank_6 : decode cX8_isBlank 6 = .ok (.iload_n 0, 1) := by decide +kernel
theorem dX8_isBlank_7 : decode cX8_isBlank 7 = .ok (.bipush 32, 2) := by decide +kernel
theorem dX8_isBlank_9 : decode cX8_isBlank 9 = .ok (.if_icmp .ne 7, 3) := by decide +kernel
theorem dX8_isBlank_12 : decode cX8_isBlank 12 = .ok (.iconst 1, 1) := by decide +kernel
theorem dX8_isBlank_13 : decode cX8_isBlank 13 = .ok (.goto 4, 3) := by decide +kernel
theorem dX8_isBlank_16 : decode cX8_isBlank 16 = .ok (.iconst 0, 1) := by decide +kernel
theorem dX8_isBlank_17 : decode cX8_isBlank 17 = .ok (.ireturn, 1) := by decide +kernel
set_option maxRecDepth 100000 in
theorem c_X8_isBlank (l : Launch) (E : xE) {x0 : Int32} {z : Int32} (hf : f_X8_isBlank x0 = some z) (sz : Nat) : Met l yX8_isBlank (Cond.code yX8_isBlank cX8_isBlank 1 (some .boolean) :: gw) ({ frames := 0, cells := 0, slots := 0, locals := 0 }) (xPc E [.int x0] [] sz) (xQi E z [] [] sz) 0 0 (va_A [] sz) := by
  refine xM_i (by decide +kernel) (Nat.le_of_ble_eq_true rfl) ?_
  intro p e s m args below meth c A Q hx hb hml hown htg hK hG hA ret0 H locs ls hP hD hS hl
  have ret : ∀ (z' : Int32) {H : Heap} {locs : List Loc} {pc : Nat} {ls : Array Slot}, some z' = some z → narrow .boolean (.int z') = .int z' → va_P E.1 vwCl [] H → va_S A s.heap H locs → decode cX8_isBlank pc = .ok (.ireturn, 1) → W p l e ({ frames := 0, cells := 0, slots := 0, locals := 0 } : Room) s m args below meth c H locs 0 0 Q (F0 m pc ls [.int z']) := by
    intro z' H locs pc ls h
    cases h
    exact ret0
  replace hl : lv_has ls 1 [(0, .int x0)] := hl
  unfold f_X8_isBlank at hf
  refine lv_iload_n hx hb dX8_isBlank_0 rfl (lv_at hl 0 rfl) ?_
  refine lv_bipush (v := 10) hx hb dX8_isBlank_1 rfl ?_
  refine lv_icmp_eq (tgt := 12) hx hb dX8_isBlank_3 (by decide) (fun c3 => ?_) (fun c3 => ?_)
  · have hf := it_t c3 hf
    refine lv_iconst (v := 1) hx hb dX8_isBlank_12 rfl ?_
    refine lv_goto (tgt := 17) hx hb dX8_isBlank_13 (by decide) ?_
    exact ret 1 hf nz1 hP hS dX8_isBlank_17
  · have hf := it_f c3 hf
    refine lv_iload_n hx hb dX8_isBlank_6 rfl (lv_at hl 0 rfl) ?_
    refine lv_bipush (v := 32) hx hb dX8_isBlank_7 rfl ?_
    refine lv_icmp_ne (tgt := 16) hx hb dX8_isBlank_9 (by decide) (fun c9 => ?_) (fun c9 => ?_)
    · have hf := it_f c9 hf
      refine lv_iconst (v := 0) hx hb dX8_isBlank_16 rfl ?_
      exact ret 0 hf nz0 hP hS dX8_isBlank_17
    · have hf := it_t c9 hf
      refine lv_iconst (v := 1) hx hb dX8_isBlank_12 rfl ?_
      refine lv_goto (tgt := 17) hx hb dX8_isBlank_13 (by decide) ?_
      exact ret 1 hf nz1 hP hS dX8_isBlank_17
theorem dX8_kindOf_0 : decode cX8_kindOf 0 = .ok (.iload_n 0, 1) := by decide +kernel
theorem dX8_kindOf_1 : decode cX8_kindOf 1 = .ok (.bipush 97, 2) := by decide +kernel
theorem dX8_kindOf_3 : decode cX8_kindOf 3 = .ok (.if_icmp .lt 11, 3) := by decide +kernel
theorem dX8_kindOf_6 : decode cX8_kindOf 6 = .ok (.iload_n 0, 1) := by decide +kernel
theorem dX8_kindOf_7 : decode cX8_kindOf 7 = .ok (.bipush 122, 2) := by decide +kernel
theorem dX8_kindOf_9 : decode cX8_kindOf 9 = .ok (.if_icmp .gt 5, 3) := by decide +kernel
theorem dX8_kindOf_12 : decode cX8_kindOf 12 = .ok (.iconst 1, 1) := by decide +kernel
theorem dX8_kindOf_13 : decode cX8_kindOf 13 = .ok (.ireturn, 1) := by decide +kernel
theorem dX8_kindOf_14 : decode cX8_kindOf 14 = .ok (.iload_n 0, 1) := by decide +kernel
theorem dX8_kindOf_15 : decode cX8_kindOf 15 = .ok (.bipush 48, 2) := by decide +kernel
theorem dX8_kindOf_17 : decode cX8_kindOf 17 = .ok (.if_icmp .lt 11, 3) := by decide +kernel
theorem dX8_kindOf_20 : decode cX8_kindOf 20 = .ok (.iload_n 0, 1) := by decide +kernel
theorem dX8_kindOf_21 : decode cX8_kindOf 21 = .ok (.bipush 57, 2) := by decide +kernel
theorem dX8_kindOf_23 : decode cX8_kindOf 23 = .ok (.if_icmp .gt 5, 3) := by decide +kernel
theorem dX8_kindOf_26 : decode cX8_kindOf 26 = .ok (.iconst 2, 1) := by decide +kernel
theorem dX8_kindOf_27 : decode cX8_kindOf 27 = .ok (.ireturn, 1) := by decide +kernel
theorem dX8_kindOf_28 : decode cX8_kindOf 28 = .ok (.iload_n 0, 1) := by decide +kernel
theorem dX8_kindOf_29 : decode cX8_kindOf 29 = .ok (.bipush 59, 2) := by decide +kernel
theorem dX8_kindOf_31 : decode cX8_kindOf 31 = .ok (.if_icmp .eq 21, 3) := by decide +kernel
theorem dX8_kindOf_34 : decode cX8_kindOf 34 = .ok (.iload_n 0, 1) := by decide +kernel
theorem dX8_kindOf_35 : decode cX8_kindOf 35 = .ok (.bipush 60, 2) := by decide +kernel
theorem dX8_kindOf_37 : decode cX8_kindOf 37 = .ok (.if_icmp .eq 15, 3) := by decide +kernel
theorem dX8_kindOf_40 : decode cX8_kindOf 40 = .ok (.iload_n 0, 1) := by decide +kernel
theorem dX8_kindOf_41 : decode cX8_kindOf 41 = .ok (.bipush 62, 2) := by decide +kernel
theorem dX8_kindOf_43 : decode cX8_kindOf 43 = .ok (.if_icmp .eq 9, 3) := by decide +kernel
theorem dX8_kindOf_46 : decode cX8_kindOf 46 = .ok (.iload_n 0, 1) := by decide +kernel
theorem dX8_kindOf_47 : decode cX8_kindOf 47 = .ok (.bipush 61, 2) := by decide +kernel
theorem dX8_kindOf_49 : decode cX8_kindOf 49 = .ok (.if_icmp .ne 7, 3) := by decide +kernel
theorem dX8_kindOf_52 : decode cX8_kindOf 52 = .ok (.iconst 3, 1) := by decide +kernel
theorem dX8_kindOf_53 : decode cX8_kindOf 53 = .ok (.goto 4, 3) := by decide +kernel
theorem dX8_kindOf_56 : decode cX8_kindOf 56 = .ok (.iconst 4, 1) := by decide +kernel
theorem dX8_kindOf_57 : decode cX8_kindOf 57 = .ok (.ireturn, 1) := by decide +kernel
set_option maxRecDepth 100000 in
theorem c_X8_kindOf (l : Launch) (E : xE) {x0 : Int32} {z : Int32} (hf : f_X8_kindOf x0 = some z) (sz : Nat) : Met l yX8_kindOf (Cond.code yX8_kindOf cX8_kindOf 1 (some .int) :: gw) ({ frames := 0, cells := 0, slots := 0, locals := 0 }) (xPc E [.int x0] [] sz) (xQi E z [] [] sz) 0 0 (va_A [] sz) := by
  refine xM_i (by decide +kernel) (Nat.le_of_ble_eq_true rfl) ?_
  intro p e s m args below meth c A Q hx hb hml hown htg hK hG hA ret0 H locs ls hP hD hS hl
  have ret : ∀ (z' : Int32) {H : Heap} {locs : List Loc} {pc : Nat} {ls : Array Slot}, some z' = some z → narrow .int (.int z') = .int z' → va_P E.1 vwCl [] H → va_S A s.heap H locs → decode cX8_kindOf pc = .ok (.ireturn, 1) → W p l e ({ frames := 0, cells := 0, slots := 0, locals := 0 } : Room) s m args below meth c H locs 0 0 Q (F0 m pc ls [.int z']) := by
    intro z' H locs pc ls h
    cases h
    exact ret0
  replace hl : lv_has ls 1 [(0, .int x0)] := hl
  have b28 : ∀  (H : Heap) (locs : List Loc) (ls : Array Slot), f_X8_kindOf_28 x0 = some z → va_P E.1 vwCl [] H → va_D A [] → va_S A s.heap H locs → lv_has ls 1 [(0, .int x0)] → W p l e ({ frames := 0, cells := 0, slots := 0, locals := 0 } : Room) s m args below meth c H locs 0 0 Q (F0 m 28 ls []) := by
    intro  H locs ls hf hP hD hS hl
    unfold f_X8_kindOf_28 at hf
    refine lv_iload_n hx hb dX8_kindOf_28 rfl (lv_at hl 0 rfl) ?_
    refine lv_bipush (v := 59) hx hb dX8_kindOf_29 rfl ?_
    refine lv_icmp_eq (tgt := 52) hx hb dX8_kindOf_31 (by decide) (fun c31 => ?_) (fun c31 => ?_)
    · have hf := it_t c31 hf
      refine lv_iconst (v := 3) hx hb dX8_kindOf_52 rfl ?_
      refine lv_goto (tgt := 57) hx hb dX8_kindOf_53 (by decide) ?_
      exact ret 3 hf nzi hP hS dX8_kindOf_57
    · have hf := it_f c31 hf
      refine lv_iload_n hx hb dX8_kindOf_34 rfl (lv_at hl 0 rfl) ?_
      refine lv_bipush (v := 60) hx hb dX8_kindOf_35 rfl ?_
      refine lv_icmp_eq (tgt := 52) hx hb dX8_kindOf_37 (by decide) (fun c37 => ?_) (fun c37 => ?_)
      · have hf := it_t c37 hf
        refine lv_iconst (v := 3) hx hb dX8_kindOf_52 rfl ?_
        refine lv_goto (tgt := 57) hx hb dX8_kindOf_53 (by decide) ?_
        exact ret 3 hf nzi hP hS dX8_kindOf_57
      · have hf := it_f c37 hf
        refine lv_iload_n hx hb dX8_kindOf_40 rfl (lv_at hl 0 rfl) ?_
        refine lv_bipush (v := 62) hx hb dX8_kindOf_41 rfl ?_
        refine lv_icmp_eq (tgt := 52) hx hb dX8_kindOf_43 (by decide) (fun c43 => ?_) (fun c43 => ?_)
        · have hf := it_t c43 hf
          refine lv_iconst (v := 3) hx hb dX8_kindOf_52 rfl ?_
          refine lv_goto (tgt := 57) hx hb dX8_kindOf_53 (by decide) ?_
          exact ret 3 hf nzi hP hS dX8_kindOf_57
        · have hf := it_f c43 hf
          refine lv_iload_n hx hb dX8_kindOf_46 rfl (lv_at hl 0 rfl) ?_
          refine lv_bipush (v := 61) hx hb dX8_kindOf_47 rfl ?_
          refine lv_icmp_ne (tgt := 56) hx hb dX8_kindOf_49 (by decide) (fun c49 => ?_) (fun c49 => ?_)
          · have hf := it_f c49 hf
            refine lv_iconst (v := 4) hx hb dX8_kindOf_56 rfl ?_
            exact ret 4 hf nzi hP hS dX8_kindOf_57
          · have hf := it_t c49 hf
            refine lv_iconst (v := 3) hx hb dX8_kindOf_52 rfl ?_
            refine lv_goto (tgt := 57) hx hb dX8_kindOf_53 (by decide) ?_
            exact ret 3 hf nzi hP hS dX8_kindOf_57
  have b14 : ∀  (H : Heap) (locs : List Loc) (ls : Array Slot), f_X8_kindOf_14 x0 = some z → va_P E.1 vwCl [] H → va_D A [] → va_S A s.heap H locs → lv_has ls 1 [(0, .int x0)] → W p l e ({ frames := 0, cells := 0, slots := 0, locals := 0 } : Room) s m args below meth c H locs 0 0 Q (F0 m 14 ls []) := by
    intro  H locs ls hf hP hD hS hl
    unfold f_X8_kindOf_14 at hf
    refine lv_iload_n hx hb dX8_kindOf_14 rfl (lv_at hl 0 rfl) ?_
    refine lv_bipush (v := 48) hx hb dX8_kindOf_15 rfl ?_
    refine lv_icmp_lt (tgt := 28) hx hb dX8_kindOf_17 (by decide) (fun c17 => ?_) (fun c17 => ?_)
    · have hf := it_t c17 hf
      exact b28  _ _ _ hf hP hD hS (lv_sub hl [0] rfl)
    · have hf := it_f c17 hf
      refine lv_iload_n hx hb dX8_kindOf_20 rfl (lv_at hl 0 rfl) ?_
      refine lv_bipush (v := 57) hx hb dX8_kindOf_21 rfl ?_
      refine lv_icmp_gt (tgt := 28) hx hb dX8_kindOf_23 (by decide) (fun c23 => ?_) (fun c23 => ?_)
      · have hf := it_t c23 hf
        exact b28  _ _ _ hf hP hD hS (lv_sub hl [0] rfl)
      · have hf := it_f c23 hf
        refine lv_iconst (v := 2) hx hb dX8_kindOf_26 rfl ?_
        exact ret 2 hf nzi hP hS dX8_kindOf_27
  unfold f_X8_kindOf at hf
  refine lv_iload_n hx hb dX8_kindOf_0 rfl (lv_at hl 0 rfl) ?_
  refine lv_bipush (v := 97) hx hb dX8_kindOf_1 rfl ?_
  refine lv_icmp_lt (tgt := 14) hx hb dX8_kindOf_3 (by decide) (fun c3 => ?_) (fun c3 => ?_)
  · have hf := it_t c3 hf
    exact b14  _ _ _ hf hP hD hS (lv_sub hl [0] rfl)
  · have hf := it_f c3 hf
    refine lv_iload_n hx hb dX8_kindOf_6 rfl (lv_at hl 0 rfl) ?_
    refine lv_bipush (v := 122) hx hb dX8_kindOf_7 rfl ?_
    refine lv_icmp_gt (tgt := 14) hx hb dX8_kindOf_9 (by decide) (fun c9 => ?_) (fun c9 => ?_)
    · have hf := it_t c9 hf
      exact b14  _ _ _ hf hP hD hS (lv_sub hl [0] rfl)
    · have hf := it_f c9 hf
      refine lv_iconst (v := 1) hx hb dX8_kindOf_12 rfl ?_
      exact ret 1 hf nzi hP hS dX8_kindOf_13
theorem dX8_isLong_0 : decode cX8_isLong 0 = .ok (.iload_n 0, 1) := by decide +kernel
theorem dX8_isLong_1 : decode cX8_isLong 1 = .ok (.iconst 1, 1) := by decide +kernel
theorem dX8_isLong_2 : decode cX8_isLong 2 = .ok (.if_icmp .eq 8, 3) := by decide +kernel
theorem dX8_isLong_5 : decode cX8_isLong 5 = .ok (.iload_n 0, 1) := by decide +kernel
theorem dX8_isLong_6 : decode cX8_isLong 6 = .ok (.iconst 2, 1) := by decide +kernel
theorem dX8_isLong_7 : decode cX8_isLong 7 = .ok (.if_icmp .ne 7, 3) := by decide +kernel
theorem dX8_isLong_10 : decode cX8_isLong 10 = .ok (.iconst 1, 1) := by decide +kernel
theorem dX8_isLong_11 : decode cX8_isLong 11 = .ok (.goto 4, 3) := by decide +kernel
theorem dX8_isLong_14 : decode cX8_isLong 14 = .ok (.iconst 0, 1) := by decide +kernel
theorem dX8_isLong_15 : decode cX8_isLong 15 = .ok (.ireturn, 1) := by decide +kernel
set_option maxRecDepth 100000 in
theorem c_X8_isLong (l : Launch) (E : xE) {x0 : Int32} {z : Int32} (hf : f_X8_isLong x0 = some z) (sz : Nat) : Met l yX8_isLong (Cond.code yX8_isLong cX8_isLong 1 (some .boolean) :: gw) ({ frames := 0, cells := 0, slots := 0, locals := 0 }) (xPc E [.int x0] [] sz) (xQi E z [] [] sz) 0 0 (va_A [] sz) := by
  refine xM_i (by decide +kernel) (Nat.le_of_ble_eq_true rfl) ?_
  intro p e s m args below meth c A Q hx hb hml hown htg hK hG hA ret0 H locs ls hP hD hS hl
  have ret : ∀ (z' : Int32) {H : Heap} {locs : List Loc} {pc : Nat} {ls : Array Slot}, some z' = some z → narrow .boolean (.int z') = .int z' → va_P E.1 vwCl [] H → va_S A s.heap H locs → decode cX8_isLong pc = .ok (.ireturn, 1) → W p l e ({ frames := 0, cells := 0, slots := 0, locals := 0 } : Room) s m args below meth c H locs 0 0 Q (F0 m pc ls [.int z']) := by
    intro z' H locs pc ls h
    cases h
    exact ret0
  replace hl : lv_has ls 1 [(0, .int x0)] := hl
  unfold f_X8_isLong at hf
  refine lv_iload_n hx hb dX8_isLong_0 rfl (lv_at hl 0 rfl) ?_
  refine lv_iconst (v := 1) hx hb dX8_isLong_1 rfl ?_
  refine lv_icmp_eq (tgt := 10) hx hb dX8_isLong_2 (by decide) (fun c2 => ?_) (fun c2 => ?_)
  · have hf := it_t c2 hf
    refine lv_iconst (v := 1) hx hb dX8_isLong_10 rfl ?_
    refine lv_goto (tgt := 15) hx hb dX8_isLong_11 (by decide) ?_
    exact ret 1 hf nz1 hP hS dX8_isLong_15
  · have hf := it_f c2 hf
    refine lv_iload_n hx hb dX8_isLong_5 rfl (lv_at hl 0 rfl) ?_
    refine lv_iconst (v := 2) hx hb dX8_isLong_6 rfl ?_
    refine lv_icmp_ne (tgt := 14) hx hb dX8_isLong_7 (by decide) (fun c7 => ?_) (fun c7 => ?_)
    · have hf := it_f c7 hf
      refine lv_iconst (v := 0) hx hb dX8_isLong_14 rfl ?_
      exact ret 0 hf nz0 hP hS dX8_isLong_15
    · have hf := it_t c7 hf
      refine lv_iconst (v := 1) hx hb dX8_isLong_10 rfl ?_
      refine lv_goto (tgt := 15) hx hb dX8_isLong_11 (by decide) ?_
      exact ret 1 hf nz1 hP hS dX8_isLong_15
theorem dX8_readWord_0 : decode cX8_readWord 0 = .ok (.aload_n 0, 1) := by decide +kernel
theorem dX8_readWord_1 : decode cX8_readWord 1 = .ok (.getfield 65, 3) := by decide +kernel
theorem dX8_readWord_4 : decode cX8_readWord 4 = .ok (.istore_n 1, 1) := by decide +kernel
theorem dX8_readWord_5 : decode cX8_readWord 5 = .ok (.iload_n 1, 1) := by decide +kernel
theorem dX8_readWord_6 : decode cX8_readWord 6 = .ok (.aload_n 0, 1) := by decide +kernel
theorem dX8_readWord_7 : decode cX8_readWord 7 = .ok (.getfield 50, 3) := by decide +kernel
theorem dX8_readWord_10 : decode cX8_readWord 10 = .ok (.if_icmp .ge 33, 3) := by decide +kernel
theorem dX8_readWord_13 : decode cX8_readWord 13 = .ok (.aload_n 0, 1) := by decide +kernel
theorem dX8_readWord_14 : decode cX8_readWord 14 = .ok (.aload_n 0, 1) := by decide +kernel
theorem dX8_readWord_15 : decode cX8_readWord 15 = .ok (.getfield 78, 3) := by decide +kernel
theorem dX8_readWord_18 : decode cX8_readWord 18 = .ok (.ldc2_w 31, 3) := by decide +kernel
theorem dX8_readWord_21 : decode cX8_readWord 21 = .ok (.lmul, 1) := by decide +kernel
theorem dX8_readWord_22 : decode cX8_readWord 22 = .ok (.aload_n 0, 1) := by decide +kernel
theorem dX8_readWord_23 : decode cX8_readWord 23 = .ok (.getfield 11, 3) := by decide +kernel
theorem dX8_readWord_26 : decode cX8_readWord 26 = .ok (.iload_n 1, 1) := by decide +kernel
theorem dX8_readWord_27 : decode cX8_readWord 27 = .ok (.baload, 1) := by decide +kernel
theorem dX8_readWord_28 : decode cX8_readWord 28 = .ok (.i2l, 1) := by decide +kernel
theorem dX8_readWord_29 : decode cX8_readWord 29 = .ok (.ladd, 1) := by decide +kernel
theorem dX8_readWord_30 : decode cX8_readWord 30 = .ok (.ldc2_w 33, 3) := by decide +kernel
theorem dX8_readWord_33 : decode cX8_readWord 33 = .ok (.lsub, 1) := by decide +kernel
theorem dX8_readWord_34 : decode cX8_readWord 34 = .ok (.putfield 78, 3) := by decide +kernel
theorem dX8_readWord_37 : decode cX8_readWord 37 = .ok (.iinc 1 1, 3) := by decide +kernel
theorem dX8_readWord_40 : decode cX8_readWord 40 = .ok (.goto (-35), 3) := by decide +kernel
theorem dX8_readWord_43 : decode cX8_readWord 43 = .ok (.aload_n 0, 1) := by decide +kernel
theorem dX8_readWord_44 : decode cX8_readWord 44 = .ok (.getfield 50, 3) := by decide +kernel
theorem dX8_readWord_47 : decode cX8_readWord 47 = .ok (.aload_n 0, 1) := by decide +kernel
theorem dX8_readWord_48 : decode cX8_readWord 48 = .ok (.getfield 65, 3) := by decide +kernel
theorem dX8_readWord_51 : decode cX8_readWord 51 = .ok (.isub, 1) := by decide +kernel
theorem dX8_readWord_52 : decode cX8_readWord 52 = .ok (.bipush 12, 2) := by decide +kernel
theorem dX8_readWord_54 : decode cX8_readWord 54 = .ok (.if_icmp .le 8, 3) := by decide +kernel
theorem dX8_readWord_57 : decode cX8_readWord 57 = .ok (.aload_n 0, 1) := by decide +kernel
theorem dX8_readWord_58 : decode cX8_readWord 58 = .ok (.lconst 0, 1) := by decide +kernel
theorem dX8_readWord_59 : decode cX8_readWord 59 = .ok (.putfield 78, 3) := by decide +kernel
theorem dX8_readWord_62 : decode cX8_readWord 62 = .ok (.iconst 0, 1) := by decide +kernel
theorem dX8_readWord_63 : decode cX8_readWord 63 = .ok (.istore_n 1, 1) := by decide +kernel
theorem dX8_readWord_64 : decode cX8_readWord 64 = .ok (.iload_n 1, 1) := by decide +kernel
theorem dX8_readWord_65 : decode cX8_readWord 65 = .ok (.bipush 23, 2) := by decide +kernel
theorem dX8_readWord_67 : decode cX8_readWord 67 = .ok (.if_icmp .ge 36, 3) := by decide +kernel
theorem dX8_readWord_70 : decode cX8_readWord 70 = .ok (.aload_n 0, 1) := by decide +kernel
theorem dX8_readWord_71 : decode cX8_readWord 71 = .ok (.getfield 68, 3) := by decide +kernel
theorem dX8_readWord_74 : decode cX8_readWord 74 = .ok (.iconst (-1), 1) := by decide +kernel
theorem dX8_readWord_75 : decode cX8_readWord 75 = .ok (.if_icmp .ne 28, 3) := by decide +kernel
theorem dX8_readWord_78 : decode cX8_readWord 78 = .ok (.aload_n 0, 1) := by decide +kernel
theorem dX8_readWord_79 : decode cX8_readWord 79 = .ok (.getfield 15, 3) := by decide +kernel
theorem dX8_readWord_82 : decode cX8_readWord 82 = .ok (.iload_n 1, 1) := by decide +kernel
theorem dX8_readWord_83 : decode cX8_readWord 83 = .ok (.laload, 1) := by decide +kernel
theorem dX8_readWord_84 : decode cX8_readWord 84 = .ok (.aload_n 0, 1) := by decide +kernel
theorem dX8_readWord_85 : decode cX8_readWord 85 = .ok (.getfield 78, 3) := by decide +kernel
theorem dX8_readWord_88 : decode cX8_readWord 88 = .ok (.lcmp, 1) := by decide +kernel
theorem dX8_readWord_89 : decode cX8_readWord 89 = .ok (.ifCond .ne 8, 3) := by decide +kernel
theorem dX8_readWord_92 : decode cX8_readWord 92 = .ok (.aload_n 0, 1) := by decide +kernel
theorem dX8_readWord_93 : decode cX8_readWord 93 = .ok (.iload_n 1, 1) := by decide +kernel
theorem dX8_readWord_94 : decode cX8_readWord 94 = .ok (.putfield 68, 3) := by decide +kernel
theorem dX8_readWord_97 : decode cX8_readWord 97 = .ok (.iinc 1 1, 3) := by decide +kernel
theorem dX8_readWord_100 : decode cX8_readWord 100 = .ok (.goto (-36), 3) := by decide +kernel
theorem dX8_readWord_103 : decode cX8_readWord 103 = .ok (.return_, 1) := by decide +kernel
set_option maxRecDepth 100000 in
theorem c_X8_readWord (l : Launch) (E : xE) (a0 a1 a2 : Nat) {T0 : Nat → Int32} {J0_8 : Int64} {V1 : Nat → Int32} {V2 : Nat → Int64} {z : (Nat → Int32) × Int64} (hf : f_X8_readWord T0 J0_8 V1 V2 = some z) (sz : Nat) : Met l yX8_readWord (Cond.code yX8_readWord cX8_readWord 2 none :: gw) ({ frames := 0, cells := 0, slots := 0, locals := 0 }) (xPc E [.ref a0] [(a0, o8 T0 J0_8 a1 a2), (a1, ab E 900 V1), (a2, al E 23 V2)] sz) (xQv E [(a0, o8 T0 J0_8 a1 a2), (a1, ab E 900 V1), (a2, al E 23 V2)] [(a0, o8 z.1 z.2 a1 a2), (a1, ab E 900 V1), (a2, al E 23 V2)] sz) 0 0 (va_A [(a0, o8 T0 J0_8 a1 a2), (a1, ab E 900 V1), (a2, al E 23 V2)] sz) := by
  refine xM_v (by decide +kernel) (Nat.le_of_ble_eq_true rfl) ?_
  intro p e s m args below meth c A Q hx hb hml hown htg hK hG hA ret0 H locs ls hP hD hS hl
  have ret : ∀ (z' : (Nat → Int32) × Int64) {H : Heap} {locs : List Loc} {pc : Nat} {ls : Array Slot}, some z' = some z → va_P E.1 vwCl [(a0, o8 z'.1 z'.2 a1 a2), (a1, ab E 900 V1), (a2, al E 23 V2)] H → va_S A s.heap H locs → decode cX8_readWord pc = .ok (.return_, 1) → W p l e ({ frames := 0, cells := 0, slots := 0, locals := 0 } : Room) s m args below meth c H locs 0 0 Q (F0 m pc ls []) := by
    intro z' H locs pc ls h
    cases h
    exact ret0
  replace hl : lv_has ls 2 [(0, .ref a0)] := hl
  have b64 : ∀ (n : Nat) (x1 : Int32) (T0 : Nat → Int32) (J0_8 : Int64) (H : Heap) (locs : List Loc) (ls : Array Slot), f_X8_readWord_64 V1 V2 n x1 T0 J0_8 = some z → va_P E.1 vwCl [(a0, o8 T0 J0_8 a1 a2), (a1, ab E 900 V1), (a2, al E 23 V2)] H → va_D A [(a0, o8 T0 J0_8 a1 a2), (a1, ab E 900 V1), (a2, al E 23 V2)] → va_S A s.heap H locs → lv_has ls 2 [(0, .ref a0), (1, .int x1)] → W p l e ({ frames := 0, cells := 0, slots := 0, locals := 0 } : Room) s m args below meth c H locs 0 0 Q (F0 m 64 ls []) := by
    intro n
    induction n with
    | zero => intro x1 T0 J0_8 H locs ls hf; exact (nn_s hf).elim
    | succ n ih64 =>
      obtain ⟨k64, ek64⟩ : ∃ k, k = f_X8_readWord_64 V1 V2 n := ⟨_, rfl⟩
      rw [← ek64] at ih64
      intro x1 T0 J0_8 H locs ls hf hP hD hS hl
      replace hf : g_X8_readWord_64 V1 V2 k64 x1 T0 J0_8 = some z := by rw [ek64]; exact hf
      unfold g_X8_readWord_64 at hf
      refine lv_iload_n hx hb dX8_readWord_64 rfl (lv_at hl 1 rfl) ?_
      refine lv_bipush (v := 23) hx hb dX8_readWord_65 rfl ?_
      refine lv_icmp_ge (tgt := 103) hx hb dX8_readWord_67 (by decide) (fun c67 => ?_) (fun c67 => ?_)
      · have hf := it_t c67 hf
        exact ret (T0, J0_8) hf hP hS dX8_readWord_103
      · have hf := it_f c67 hf
        refine lv_aload_n hx hb dX8_readWord_70 rfl (lv_at hl 0 rfl) ?_
        refine G8_68 hx hb htg hown hK hP 0 rfl dX8_readWord_71 ?_
        refine lv_iconst (v := (-1)) hx hb dX8_readWord_74 rfl ?_
        refine lv_icmp_ne (tgt := 103) hx hb dX8_readWord_75 (by decide) (fun c75 => ?_) (fun c75 => ?_)
        · have hf := it_f c75 hf
          exact ret (T0, J0_8) hf hP hS dX8_readWord_103
        · have hf := it_t c75 hf
          refine lv_aload_n hx hb dX8_readWord_78 rfl (lv_at hl 0 rfl) ?_
          refine G8_15 hx hb htg hown hK hP 0 rfl dX8_readWord_79 ?_
          refine lv_iload_n hx hb dX8_readWord_82 rfl (lv_at hl 1 rfl) ?_
          obtain ⟨g83, hf⟩ := ck_s hf
          refine xlald hx hb hK hP 2 rfl g83 dX8_readWord_83 ?_
          refine lv_aload_n hx hb dX8_readWord_84 rfl (lv_at hl 0 rfl) ?_
          refine G8_78 hx hb htg hown hK hP 0 rfl dX8_readWord_85 ?_
          refine W.lcmp hx hb dX8_readWord_88 ?_
          refine lv_if_ne (tgt := 97) hx hb dX8_readWord_89 (by decide) (fun c89 => ?_) (fun c89 => ?_)
          · have hf := it_f c89 hf
            refine lv_iinc (v := x1 + 1) (lv' := [(1, .int (x1 + 1)), (0, .ref a0)]) hx hb dX8_readWord_97 hl (k := 1) rfl rfl (by decide) rfl (fun ls hl => ?_)
            refine lv_goto (tgt := 64) hx hb dX8_readWord_100 (by decide) ?_
            exact ih64 (x1 + 1) T0 J0_8 _ _ _ hf hP hD hS (lv_sub hl [1, 0] rfl)
          · have hf := it_t c89 hf
            refine lv_aload_n hx hb dX8_readWord_92 rfl (lv_at hl 0 rfl) ?_
            refine lv_iload_n hx hb dX8_readWord_93 rfl (lv_at hl 1 rfl) ?_
            refine P8_68 hx hb htg hown hK hP hD hS 0 rfl dX8_readWord_94 (fun H locs hP hD hS => ?_)
            refine lv_iinc (v := x1 + 1) (lv' := [(1, .int (x1 + 1)), (0, .ref a0)]) hx hb dX8_readWord_97 hl (k := 1) rfl rfl (by decide) rfl (fun ls hl => ?_)
            refine lv_goto (tgt := 64) hx hb dX8_readWord_100 (by decide) ?_
            exact ih64 (x1 + 1) (upd T0 7 x1) J0_8 _ _ _ hf hP hD hS (lv_sub hl [1, 0] rfl)
  have b62 : ∀ (T0 : Nat → Int32) (J0_8 : Int64) (H : Heap) (locs : List Loc) (ls : Array Slot), f_X8_readWord_62 V1 V2 T0 J0_8 = some z → va_P E.1 vwCl [(a0, o8 T0 J0_8 a1 a2), (a1, ab E 900 V1), (a2, al E 23 V2)] H → va_D A [(a0, o8 T0 J0_8 a1 a2), (a1, ab E 900 V1), (a2, al E 23 V2)] → va_S A s.heap H locs → lv_has ls 2 [(0, .ref a0)] → W p l e ({ frames := 0, cells := 0, slots := 0, locals := 0 } : Room) s m args below meth c H locs 0 0 Q (F0 m 62 ls []) := by
    intro T0 J0_8 H locs ls hf hP hD hS hl
    unfold f_X8_readWord_62 at hf
    refine lv_iconst (v := 0) hx hb dX8_readWord_62 rfl ?_
    refine lv_istore_n (lv' := [(1, .int 0), (0, .ref a0)]) hx hb dX8_readWord_63 rfl hl (by decide) rfl (fun ls hl => ?_)
    exact b64 xF 0 T0 J0_8 _ _ _ hf hP hD hS (lv_sub hl [1, 0] rfl)
  have b5 : ∀ (n : Nat) (x1 : Int32) (T0 : Nat → Int32) (J0_8 : Int64) (H : Heap) (locs : List Loc) (ls : Array Slot), f_X8_readWord_5 V1 V2 n x1 T0 J0_8 = some z → va_P E.1 vwCl [(a0, o8 T0 J0_8 a1 a2), (a1, ab E 900 V1), (a2, al E 23 V2)] H → va_D A [(a0, o8 T0 J0_8 a1 a2), (a1, ab E 900 V1), (a2, al E 23 V2)] → va_S A s.heap H locs → lv_has ls 2 [(0, .ref a0), (1, .int x1)] → W p l e ({ frames := 0, cells := 0, slots := 0, locals := 0 } : Room) s m args below meth c H locs 0 0 Q (F0 m 5 ls []) := by
    intro n
    induction n with
    | zero => intro x1 T0 J0_8 H locs ls hf; exact (nn_s hf).elim
    | succ n ih5 =>
      obtain ⟨k5, ek5⟩ : ∃ k, k = f_X8_readWord_5 V1 V2 n := ⟨_, rfl⟩
      rw [← ek5] at ih5
      intro x1 T0 J0_8 H locs ls hf hP hD hS hl
      replace hf : g_X8_readWord_5 V1 V2 k5 x1 T0 J0_8 = some z := by rw [ek5]; exact hf
      unfold g_X8_readWord_5 at hf
      refine lv_iload_n hx hb dX8_readWord_5 rfl (lv_at hl 1 rfl) ?_
      refine lv_aload_n hx hb dX8_readWord_6 rfl (lv_at hl 0 rfl) ?_
      refine G8_50 hx hb htg hown hK hP 0 rfl dX8_readWord_7 ?_
      refine lv_icmp_ge (tgt := 43) hx hb dX8_readWord_10 (by decide) (fun c10 => ?_) (fun c10 => ?_)
      · have hf := it_t c10 hf
        refine lv_aload_n hx hb dX8_readWord_43 rfl (lv_at hl 0 rfl) ?_
        refine G8_50 hx hb htg hown hK hP 0 rfl dX8_readWord_44 ?_
        refine lv_aload_n hx hb dX8_readWord_47 rfl (lv_at hl 0 rfl) ?_
        refine G8_65 hx hb htg hown hK hP 0 rfl dX8_readWord_48 ?_
        refine lv_isub hx hb dX8_readWord_51 ?_
        refine lv_bipush (v := 12) hx hb dX8_readWord_52 rfl ?_
        refine lv_icmp_le (tgt := 62) hx hb dX8_readWord_54 (by decide) (fun c54 => ?_) (fun c54 => ?_)
        · have hf := it_t c54 hf
          exact b62 T0 J0_8 _ _ _ hf hP hD hS (lv_sub hl [0] rfl)
        · have hf := it_f c54 hf
          refine lv_aload_n hx hb dX8_readWord_57 rfl (lv_at hl 0 rfl) ?_
          refine lv_lconst (v := 0) hx hb dX8_readWord_58 rfl ?_
          refine P8_78 hx hb htg hown hK hP hD hS 0 rfl dX8_readWord_59 (fun H locs hP hD hS => ?_)
          exact b62 T0 0 _ _ _ hf hP hD hS (lv_sub hl [0] rfl)
      · have hf := it_f c10 hf
        refine lv_aload_n hx hb dX8_readWord_13 rfl (lv_at hl 0 rfl) ?_
        refine lv_aload_n hx hb dX8_readWord_14 rfl (lv_at hl 0 rfl) ?_
        refine G8_78 hx hb htg hown hK hP 0 rfl dX8_readWord_15 ?_
        refine lv_ldc2 hx hb hown (htg _ (gw_t (tb1 109 rfl) rfl)) dX8_readWord_18 ?_
        refine lv_lmul hx hb dX8_readWord_21 ?_
        refine lv_aload_n hx hb dX8_readWord_22 rfl (lv_at hl 0 rfl) ?_
        refine G8_11 hx hb htg hown hK hP 0 rfl dX8_readWord_23 ?_
        refine lv_iload_n hx hb dX8_readWord_26 rfl (lv_at hl 1 rfl) ?_
        obtain ⟨g27, hf⟩ := ck_s hf
        refine xbald hx hb hK hP 1 rfl g27 dX8_readWord_27 ?_
        refine lv_i2l hx hb dX8_readWord_28 rfl ?_
        refine lv_ladd hx hb dX8_readWord_29 ?_
        refine lv_ldc2 hx hb hown (htg _ (gw_t (tb1 110 rfl) rfl)) dX8_readWord_30 ?_
        refine lv_lsub hx hb dX8_readWord_33 ?_
        refine P8_78 hx hb htg hown hK hP hD hS 0 rfl dX8_readWord_34 (fun H locs hP hD hS => ?_)
        refine lv_iinc (v := x1 + 1) (lv' := [(1, .int (x1 + 1)), (0, .ref a0)]) hx hb dX8_readWord_37 hl (k := 1) rfl rfl (by decide) rfl (fun ls hl => ?_)
        refine lv_goto (tgt := 5) hx hb dX8_readWord_40 (by decide) ?_
        exact ih5 (x1 + 1) T0 (((J0_8 * 32) + (Int32.toInt64 (V1 (Int32.toNatClampNeg x1)))) - 96) _ _ _ hf hP hD hS (lv_sub hl [1, 0] rfl)
  unfold f_X8_readWord at hf
  refine lv_aload_n hx hb dX8_readWord_0 rfl (lv_at hl 0 rfl) ?_
  refine G8_65 hx hb htg hown hK hP 0 rfl dX8_readWord_1 ?_
  refine lv_istore_n (lv' := [(1, .int (T0 5)), (0, .ref a0)]) hx hb dX8_readWord_4 rfl hl (by decide) rfl (fun ls hl => ?_)
  exact b5 xF (T0 5) T0 J0_8 _ _ _ hf hP hD hS (lv_sub hl [1, 0] rfl)
theorem dX8_readNumber_0 : decode cX8_readNumber 0 = .ok (.aload_n 0, 1) := by decide +kernel
theorem dX8_readNumber_1 : decode cX8_readNumber 1 = .ok (.iconst 0, 1) := by decide +kernel
theorem dX8_readNumber_2 : decode cX8_readNumber 2 = .ok (.putfield 68, 3) := by decide +kernel
theorem dX8_readNumber_5 : decode cX8_readNumber 5 = .ok (.aload_n 0, 1) := by decide +kernel
theorem dX8_readNumber_6 : decode cX8_readNumber 6 = .ok (.getfield 65, 3) := by decide +kernel
theorem dX8_readNumber_9 : decode cX8_readNumber 9 = .ok (.istore_n 1, 1) := by decide +kernel
theorem dX8_readNumber_10 : decode cX8_readNumber 10 = .ok (.iload_n 1, 1) := by decide +kernel
theorem dX8_readNumber_11 : decode cX8_readNumber 11 = .ok (.aload_n 0, 1) := by decide +kernel
theorem dX8_readNumber_12 : decode cX8_readNumber 12 = .ok (.getfield 50, 3) := by decide +kernel
theorem dX8_readNumber_15 : decode cX8_readNumber 15 = .ok (.if_icmp .ge 30, 3) := by decide +kernel
theorem dX8_readNumber_18 : decode cX8_readNumber 18 = .ok (.aload_n 0, 1) := by decide +kernel
theorem dX8_readNumber_19 : decode cX8_readNumber 19 = .ok (.aload_n 0, 1) := by decide +kernel
theorem dX8_readNumber_20 : decode cX8_readNumber 20 = .ok (.getfield 68, 3) := by decide +kernel
theorem dX8_readNumber_23 : decode cX8_readNumber 23 = .ok (.bipush 10, 2) := by decide +kernel
theorem dX8_readNumber_25 : decode cX8_readNumber 25 = .ok (.imul, 1) := by decide +kernel
theorem dX8_readNumber_26 : decode cX8_readNumber 26 = .ok (.aload_n 0, 1) := by decide +kernel
theorem dX8_readNumber_27 : decode cX8_readNumber 27 = .ok (.getfield 11, 3) := by decide +kernel
theorem dX8_readNumber_30 : decode cX8_readNumber 30 = .ok (.iload_n 1, 1) := by decide +kernel
theorem dX8_readNumber_31 : decode cX8_readNumber 31 = .ok (.baload, 1) := by decide +kernel
theorem dX8_readNumber_32 : decode cX8_readNumber 32 = .ok (.iadd, 1) := by decide +kernel
theorem dX8_readNumber_33 : decode cX8_readNumber 33 = .ok (.bipush 48, 2) := by decide +kernel
theorem dX8_readNumber_35 : decode cX8_readNumber 35 = .ok (.isub, 1) := by decide +kernel
theorem dX8_readNumber_36 : decode cX8_readNumber 36 = .ok (.putfield 68, 3) := by decide +kernel
theorem dX8_readNumber_39 : decode cX8_readNumber 39 = .ok (.iinc 1 1, 3) := by decide +kernel
theorem dX8_readNumber_42 : decode cX8_readNumber 42 = .ok (.goto (-32), 3) := by decide +kernel
theorem dX8_readNumber_45 : decode cX8_readNumber 45 = .ok (.aload_n 0, 1) := by decide +kernel
theorem dX8_readNumber_46 : decode cX8_readNumber 46 = .ok (.getfield 50, 3) := by decide +kernel
theorem dX8_readNumber_49 : decode cX8_readNumber 49 = .ok (.aload_n 0, 1) := by decide +kernel
theorem dX8_readNumber_50 : decode cX8_readNumber 50 = .ok (.getfield 65, 3) := by decide +kernel
theorem dX8_readNumber_53 : decode cX8_readNumber 53 = .ok (.isub, 1) := by decide +kernel
theorem dX8_readNumber_54 : decode cX8_readNumber 54 = .ok (.iconst 4, 1) := by decide +kernel
theorem dX8_readNumber_55 : decode cX8_readNumber 55 = .ok (.if_icmp .le 8, 3) := by decide +kernel
theorem dX8_readNumber_58 : decode cX8_readNumber 58 = .ok (.aload_n 0, 1) := by decide +kernel
theorem dX8_readNumber_59 : decode cX8_readNumber 59 = .ok (.iconst 4, 1) := by decide +kernel
theorem dX8_readNumber_60 : decode cX8_readNumber 60 = .ok (.putfield 62, 3) := by decide +kernel
theorem dX8_readNumber_63 : decode cX8_readNumber 63 = .ok (.return_, 1) := by decide +kernel
set_option maxRecDepth 100000 in
theorem c_X8_readNumber (l : Launch) (E : xE) (a0 a1 : Nat) {T0 : Nat → Int32} {J0_8 : Int64} {V1 : Nat → Int32} {u0_1 : Nat} {z : (Nat → Int32)} (hf : f_X8_readNumber T0 V1 = some z) (sz : Nat) : Met l yX8_readNumber (Cond.code yX8_readNumber cX8_readNumber 2 none :: gw) ({ frames := 0, cells := 0, slots := 0, locals := 0 }) (xPc E [.ref a0] [(a0, o8 T0 J0_8 a1 u0_1), (a1, ab E 900 V1)] sz) (xQv E [(a0, o8 T0 J0_8 a1 u0_1), (a1, ab E 900 V1)] [(a0, o8 z J0_8 a1 u0_1), (a1, ab E 900 V1)] sz) 0 0 (va_A [(a0, o8 T0 J0_8 a1 u0_1), (a1, ab E 900 V1)] sz) := by
  refine xM_v (by decide +kernel) (Nat.le_of_ble_eq_true rfl) ?_
  intro p e s m args below meth c A Q hx hb hml hown htg hK hG hA ret0 H locs ls hP hD hS hl
  have ret : ∀ (z' : (Nat → Int32)) {H : Heap} {locs : List Loc} {pc : Nat} {ls : Array Slot}, some z' = some z → va_P E.1 vwCl [(a0, o8 z' J0_8 a1 u0_1), (a1, ab E 900 V1)] H → va_S A s.heap H locs → decode cX8_readNumber pc = .ok (.return_, 1) → W p l e ({ frames := 0, cells := 0, slots := 0, locals := 0 } : Room) s m args below meth c H locs 0 0 Q (F0 m pc ls []) := by
    intro z' H locs pc ls h
    cases h
    exact ret0
  replace hl : lv_has ls 2 [(0, .ref a0)] := hl
  have b10 : ∀ (n : Nat) (x1 : Int32) (T0 : Nat → Int32) (H : Heap) (locs : List Loc) (ls : Array Slot), f_X8_readNumber_10 V1 n x1 T0 = some z → va_P E.1 vwCl [(a0, o8 T0 J0_8 a1 u0_1), (a1, ab E 900 V1)] H → va_D A [(a0, o8 T0 J0_8 a1 u0_1), (a1, ab E 900 V1)] → va_S A s.heap H locs → lv_has ls 2 [(0, .ref a0), (1, .int x1)] → W p l e ({ frames := 0, cells := 0, slots := 0, locals := 0 } : Room) s m args below meth c H locs 0 0 Q (F0 m 10 ls []) := by
    intro n
    induction n with
    | zero => intro x1 T0 H locs ls hf; exact (nn_s hf).elim
    | succ n ih10 =>
      obtain ⟨k10, ek10⟩ : ∃ k, k = f_X8_readNumber_10 V1 n := ⟨_, rfl⟩
      rw [← ek10] at ih10
      intro x1 T0 H locs ls hf hP hD hS hl
      replace hf : g_X8_readNumber_10 V1 k10 x1 T0 = some z := by rw [ek10]; exact hf
      unfold g_X8_readNumber_10 at hf
      refine lv_iload_n hx hb dX8_readNumber_10 rfl (lv_at hl 1 rfl) ?_
      refine lv_aload_n hx hb dX8_readNumber_11 rfl (lv_at hl 0 rfl) ?_
      refine G8_50 hx hb htg hown hK hP 0 rfl dX8_readNumber_12 ?_
      refine lv_icmp_ge (tgt := 45) hx hb dX8_readNumber_15 (by decide) (fun c15 => ?_) (fun c15 => ?_)
      · have hf := it_t c15 hf
        refine lv_aload_n hx hb dX8_readNumber_45 rfl (lv_at hl 0 rfl) ?_
        refine G8_50 hx hb htg hown hK hP 0 rfl dX8_readNumber_46 ?_
        refine lv_aload_n hx hb dX8_readNumber_49 rfl (lv_at hl 0 rfl) ?_
        refine G8_65 hx hb htg hown hK hP 0 rfl dX8_readNumber_50 ?_
        refine lv_isub hx hb dX8_readNumber_53 ?_
        refine lv_iconst (v := 4) hx hb dX8_readNumber_54 rfl ?_
        refine lv_icmp_le (tgt := 63) hx hb dX8_readNumber_55 (by decide) (fun c55 => ?_) (fun c55 => ?_)
        · have hf := it_t c55 hf
          exact ret T0 hf hP hS dX8_readNumber_63
        · have hf := it_f c55 hf
          refine lv_aload_n hx hb dX8_readNumber_58 rfl (lv_at hl 0 rfl) ?_
          refine lv_iconst (v := 4) hx hb dX8_readNumber_59 rfl ?_
          refine P8_62 hx hb htg hown hK hP hD hS 0 rfl dX8_readNumber_60 (fun H locs hP hD hS => ?_)
          exact ret (upd T0 4 4) hf hP hS dX8_readNumber_63
      · have hf := it_f c15 hf
        refine lv_aload_n hx hb dX8_readNumber_18 rfl (lv_at hl 0 rfl) ?_
        refine lv_aload_n hx hb dX8_readNumber_19 rfl (lv_at hl 0 rfl) ?_
        refine G8_68 hx hb htg hown hK hP 0 rfl dX8_readNumber_20 ?_
        refine lv_bipush (v := 10) hx hb dX8_readNumber_23 rfl ?_
        refine lv_imul hx hb dX8_readNumber_25 ?_
        refine lv_aload_n hx hb dX8_readNumber_26 rfl (lv_at hl 0 rfl) ?_
        refine G8_11 hx hb htg hown hK hP 0 rfl dX8_readNumber_27 ?_
        refine lv_iload_n hx hb dX8_readNumber_30 rfl (lv_at hl 1 rfl) ?_
        obtain ⟨g31, hf⟩ := ck_s hf
        refine xbald hx hb hK hP 1 rfl g31 dX8_readNumber_31 ?_
        refine lv_iadd hx hb dX8_readNumber_32 ?_
        refine lv_bipush (v := 48) hx hb dX8_readNumber_33 rfl ?_
        refine lv_isub hx hb dX8_readNumber_35 ?_
        refine P8_68 hx hb htg hown hK hP hD hS 0 rfl dX8_readNumber_36 (fun H locs hP hD hS => ?_)
        refine lv_iinc (v := x1 + 1) (lv' := [(1, .int (x1 + 1)), (0, .ref a0)]) hx hb dX8_readNumber_39 hl (k := 1) rfl rfl (by decide) rfl (fun ls hl => ?_)
        refine lv_goto (tgt := 10) hx hb dX8_readNumber_42 (by decide) ?_
        exact ih10 (x1 + 1) (upd T0 7 ((((T0 7) * 10) + (V1 (Int32.toNatClampNeg x1))) - 48)) _ _ _ hf hP hD hS (lv_sub hl [1, 0] rfl)
  unfold f_X8_readNumber at hf
  refine lv_aload_n hx hb dX8_readNumber_0 rfl (lv_at hl 0 rfl) ?_
  refine lv_iconst (v := 0) hx hb dX8_readNumber_1 rfl ?_
  refine P8_68 hx hb htg hown hK hP hD hS 0 rfl dX8_readNumber_2 (fun H locs hP hD hS => ?_)
  refine lv_aload_n hx hb dX8_readNumber_5 rfl (lv_at hl 0 rfl) ?_
  refine G8_65 hx hb htg hown hK hP 0 rfl dX8_readNumber_6 ?_
  refine lv_istore_n (lv' := [(1, .int ((upd T0 7 0) 5)), (0, .ref a0)]) hx hb dX8_readNumber_9 rfl hl (by decide) rfl (fun ls hl => ?_)
  exact b10 xF ((upd T0 7 0) 5) (upd T0 7 0) _ _ _ hf hP hD hS (lv_sub hl [1, 0] rfl)
theorem dX8_advance_0 : decode cX8_advance 0 = .ok (.aload_n 0, 1) := by decide +kernel
theorem dX8_advance_1 : decode cX8_advance 1 = .ok (.aload_n 0, 1) := by decide +kernel
theorem dX8_advance_2 : decode cX8_advance 2 = .ok (.getfield 50, 3) := by decide +kernel
theorem dX8_advance_5 : decode cX8_advance 5 = .ok (.putfield 65, 3) := by decide +kernel
theorem dX8_advance_8 : decode cX8_advance 8 = .ok (.aload_n 0, 1) := by decide +kernel
theorem dX8_advance_9 : decode cX8_advance 9 = .ok (.getfield 65, 3) := by decide +kernel
theorem dX8_advance_12 : decode cX8_advance 12 = .ok (.aload_n 0, 1) := by decide +kernel
theorem dX8_advance_13 : decode cX8_advance 13 = .ok (.getfield 47, 3) := by decide +kernel
theorem dX8_advance_16 : decode cX8_advance 16 = .ok (.if_icmp .ge 31, 3) := by decide +kernel
theorem dX8_advance_19 : decode cX8_advance 19 = .ok (.aload_n 0, 1) := by decide +kernel
theorem dX8_advance_20 : decode cX8_advance 20 = .ok (.getfield 11, 3) := by decide +kernel
theorem dX8_advance_23 : decode cX8_advance 23 = .ok (.aload_n 0, 1) := by decide +kernel
theorem dX8_advance_24 : decode cX8_advance 24 = .ok (.getfield 65, 3) := by decide +kernel
theorem dX8_advance_27 : decode cX8_advance 27 = .ok (.baload, 1) := by decide +kernel
theorem dX8_advance_28 : decode cX8_advance 28 = .ok (.invokestatic 86, 3) := by decide +kernel
theorem dX8_advance_31 : decode cX8_advance 31 = .ok (.ifCond .eq 16, 3) := by decide +kernel
theorem dX8_advance_34 : decode cX8_advance 34 = .ok (.aload_n 0, 1) := by decide +kernel
theorem dX8_advance_35 : decode cX8_advance 35 = .ok (.dup, 1) := by decide +kernel
theorem dX8_advance_36 : decode cX8_advance 36 = .ok (.getfield 65, 3) := by decide +kernel
theorem dX8_advance_39 : decode cX8_advance 39 = .ok (.iconst 1, 1) := by decide +kernel
theorem dX8_advance_40 : decode cX8_advance 40 = .ok (.iadd, 1) := by decide +kernel
theorem dX8_advance_41 : decode cX8_advance 41 = .ok (.putfield 65, 3) := by decide +kernel
theorem dX8_advance_44 : decode cX8_advance 44 = .ok (.goto (-36), 3) := by decide +kernel
theorem dX8_advance_47 : decode cX8_advance 47 = .ok (.aload_n 0, 1) := by decide +kernel
theorem dX8_advance_48 : decode cX8_advance 48 = .ok (.aload_n 0, 1) := by decide +kernel
theorem dX8_advance_49 : decode cX8_advance 49 = .ok (.getfield 65, 3) := by decide +kernel
theorem dX8_advance_52 : decode cX8_advance 52 = .ok (.putfield 50, 3) := by decide +kernel
theorem dX8_advance_55 : decode cX8_advance 55 = .ok (.aload_n 0, 1) := by decide +kernel
theorem dX8_advance_56 : decode cX8_advance 56 = .ok (.iconst (-1), 1) := by decide +kernel
theorem dX8_advance_57 : decode cX8_advance 57 = .ok (.putfield 68, 3) := by decide +kernel
theorem dX8_advance_60 : decode cX8_advance 60 = .ok (.aload_n 0, 1) := by decide +kernel
theorem dX8_advance_61 : decode cX8_advance 61 = .ok (.lconst 0, 1) := by decide +kernel
theorem dX8_advance_62 : decode cX8_advance 62 = .ok (.putfield 78, 3) := by decide +kernel
theorem dX8_advance_65 : decode cX8_advance 65 = .ok (.aload_n 0, 1) := by decide +kernel
theorem dX8_advance_66 : decode cX8_advance 66 = .ok (.getfield 65, 3) := by decide +kernel
theorem dX8_advance_69 : decode cX8_advance 69 = .ok (.aload_n 0, 1) := by decide +kernel
theorem dX8_advance_70 : decode cX8_advance 70 = .ok (.getfield 47, 3) := by decide +kernel
theorem dX8_advance_73 : decode cX8_advance 73 = .ok (.if_icmp .lt 9, 3) := by decide +kernel
theorem dX8_advance_76 : decode cX8_advance 76 = .ok (.aload_n 0, 1) := by decide +kernel
theorem dX8_advance_77 : decode cX8_advance 77 = .ok (.iconst 0, 1) := by decide +kernel
theorem dX8_advance_78 : decode cX8_advance 78 = .ok (.putfield 62, 3) := by decide +kernel
theorem dX8_advance_81 : decode cX8_advance 81 = .ok (.return_, 1) := by decide +kernel
theorem dX8_advance_82 : decode cX8_advance 82 = .ok (.aload_n 0, 1) := by decide +kernel
theorem dX8_advance_83 : decode cX8_advance 83 = .ok (.aload_n 0, 1) := by decide +kernel
theorem dX8_advance_84 : decode cX8_advance 84 = .ok (.getfield 11, 3) := by decide +kernel
theorem dX8_advance_87 : decode cX8_advance 87 = .ok (.aload_n 0, 1) := by decide +kernel
theorem dX8_advance_88 : decode cX8_advance 88 = .ok (.getfield 65, 3) := by decide +kernel
theorem dX8_advance_91 : decode cX8_advance 91 = .ok (.baload, 1) := by decide +kernel
theorem dX8_advance_92 : decode cX8_advance 92 = .ok (.invokestatic 89, 3) := by decide +kernel
theorem dX8_advance_95 : decode cX8_advance 95 = .ok (.putfield 62, 3) := by decide +kernel
theorem dX8_advance_98 : decode cX8_advance 98 = .ok (.aload_n 0, 1) := by decide +kernel
theorem dX8_advance_99 : decode cX8_advance 99 = .ok (.aload_n 0, 1) := by decide +kernel
theorem dX8_advance_100 : decode cX8_advance 100 = .ok (.getfield 65, 3) := by decide +kernel
theorem dX8_advance_103 : decode cX8_advance 103 = .ok (.iconst 1, 1) := by decide +kernel
theorem dX8_advance_104 : decode cX8_advance 104 = .ok (.iadd, 1) := by decide +kernel
theorem dX8_advance_105 : decode cX8_advance 105 = .ok (.putfield 50, 3) := by decide +kernel
theorem dX8_advance_108 : decode cX8_advance 108 = .ok (.aload_n 0, 1) := by decide +kernel
theorem dX8_advance_109 : decode cX8_advance 109 = .ok (.getfield 50, 3) := by decide +kernel
theorem dX8_advance_112 : decode cX8_advance 112 = .ok (.aload_n 0, 1) := by decide +kernel
theorem dX8_advance_113 : decode cX8_advance 113 = .ok (.getfield 47, 3) := by decide +kernel
theorem dX8_advance_116 : decode cX8_advance 116 = .ok (.if_icmp .ge 45, 3) := by decide +kernel
theorem dX8_advance_119 : decode cX8_advance 119 = .ok (.aload_n 0, 1) := by decide +kernel
theorem dX8_advance_120 : decode cX8_advance 120 = .ok (.getfield 62, 3) := by decide +kernel
theorem dX8_advance_123 : decode cX8_advance 123 = .ok (.invokestatic 93, 3) := by decide +kernel
theorem dX8_advance_126 : decode cX8_advance 126 = .ok (.ifCond .eq 35, 3) := by decide +kernel
theorem dX8_advance_129 : decode cX8_advance 129 = .ok (.aload_n 0, 1) := by decide +kernel
theorem dX8_advance_130 : decode cX8_advance 130 = .ok (.getfield 11, 3) := by decide +kernel
theorem dX8_advance_133 : decode cX8_advance 133 = .ok (.aload_n 0, 1) := by decide +kernel
theorem dX8_advance_134 : decode cX8_advance 134 = .ok (.getfield 50, 3) := by decide +kernel
theorem dX8_advance_137 : decode cX8_advance 137 = .ok (.baload, 1) := by decide +kernel
theorem dX8_advance_138 : decode cX8_advance 138 = .ok (.invokestatic 89, 3) := by decide +kernel
theorem dX8_advance_141 : decode cX8_advance 141 = .ok (.aload_n 0, 1) := by decide +kernel
theorem dX8_advance_142 : decode cX8_advance 142 = .ok (.getfield 62, 3) := by decide +kernel
theorem dX8_advance_145 : decode cX8_advance 145 = .ok (.if_icmp .ne 16, 3) := by decide +kernel
theorem dX8_advance_148 : decode cX8_advance 148 = .ok (.aload_n 0, 1) := by decide +kernel
theorem dX8_advance_149 : decode cX8_advance 149 = .ok (.dup, 1) := by decide +kernel
theorem dX8_advance_150 : decode cX8_advance 150 = .ok (.getfield 50, 3) := by decide +kernel
theorem dX8_advance_153 : decode cX8_advance 153 = .ok (.iconst 1, 1) := by decide +kernel
theorem dX8_advance_154 : decode cX8_advance 154 = .ok (.iadd, 1) := by decide +kernel
theorem dX8_advance_155 : decode cX8_advance 155 = .ok (.putfield 50, 3) := by decide +kernel
theorem dX8_advance_158 : decode cX8_advance 158 = .ok (.goto (-50), 3) := by decide +kernel
theorem dX8_advance_161 : decode cX8_advance 161 = .ok (.aload_n 0, 1) := by decide +kernel
theorem dX8_advance_162 : decode cX8_advance 162 = .ok (.getfield 62, 3) := by decide +kernel
theorem dX8_advance_165 : decode cX8_advance 165 = .ok (.iconst 1, 1) := by decide +kernel
theorem dX8_advance_166 : decode cX8_advance 166 = .ok (.if_icmp .ne 10, 3) := by decide +kernel
theorem dX8_advance_169 : decode cX8_advance 169 = .ok (.aload_n 0, 1) := by decide +kernel
theorem dX8_advance_170 : decode cX8_advance 170 = .ok (.invokevirtual 96, 3) := by decide +kernel
theorem dX8_advance_173 : decode cX8_advance 173 = .ok (.goto 31, 3) := by decide +kernel
theorem dX8_advance_176 : decode cX8_advance 176 = .ok (.aload_n 0, 1) := by decide +kernel
theorem dX8_advance_177 : decode cX8_advance 177 = .ok (.getfield 62, 3) := by decide +kernel
theorem dX8_advance_180 : decode cX8_advance 180 = .ok (.iconst 2, 1) := by decide +kernel
theorem dX8_advance_181 : decode cX8_advance 181 = .ok (.if_icmp .ne 10, 3) := by decide +kernel
theorem dX8_advance_184 : decode cX8_advance 184 = .ok (.aload_n 0, 1) := by decide +kernel
theorem dX8_advance_185 : decode cX8_advance 185 = .ok (.invokevirtual 99, 3) := by decide +kernel
theorem dX8_advance_188 : decode cX8_advance 188 = .ok (.goto 16, 3) := by decide +kernel
theorem dX8_advance_191 : decode cX8_advance 191 = .ok (.aload_n 0, 1) := by decide +kernel
theorem dX8_advance_192 : decode cX8_advance 192 = .ok (.aload_n 0, 1) := by decide +kernel
theorem dX8_advance_193 : decode cX8_advance 193 = .ok (.getfield 11, 3) := by decide +kernel
theorem dX8_advance_196 : decode cX8_advance 196 = .ok (.aload_n 0, 1) := by decide +kernel
theorem dX8_advance_197 : decode cX8_advance 197 = .ok (.getfield 65, 3) := by decide +kernel
theorem dX8_advance_200 : decode cX8_advance 200 = .ok (.baload, 1) := by decide +kernel
theorem dX8_advance_201 : decode cX8_advance 201 = .ok (.putfield 68, 3) := by decide +kernel
theorem dX8_advance_204 : decode cX8_advance 204 = .ok (.return_, 1) := by decide +kernel
set_option maxRecDepth 100000 in
theorem c_X8_advance (l : Launch) (E : xE) (a0 a1 a2 : Nat) {T0 : Nat → Int32} {J0_8 : Int64} {V1 : Nat → Int32} {V2 : Nat → Int64} {z : (Nat → Int32) × Int64} (hf : f_X8_advance T0 J0_8 V1 V2 = some z) (sz : Nat) : Met l yX8_advance (Cond.code yX8_advance cX8_advance 1 none :: gw) ({ frames := 1, cells := 0, slots := 0, locals := 21 }) (xPc E [.ref a0] [(a0, o8 T0 J0_8 a1 a2), (a1, ab E 900 V1), (a2, al E 23 V2)] sz) (xQv E [(a0, o8 T0 J0_8 a1 a2), (a1, ab E 900 V1), (a2, al E 23 V2)] [(a0, o8 z.1 z.2 a1 a2), (a1, ab E 900 V1), (a2, al E 23 V2)] sz) 0 0 (va_A [(a0, o8 T0 J0_8 a1 a2), (a1, ab E 900 V1), (a2, al E 23 V2)] sz) := by
  refine xM_v (by decide +kernel) (Nat.le_of_ble_eq_true rfl) ?_
  intro p e s m args below meth c A Q hx hb hml hown htg hK hG hA ret0 H locs ls hP hD hS hl
  have ret : ∀ (z' : (Nat → Int32) × Int64) {H : Heap} {locs : List Loc} {pc : Nat} {ls : Array Slot}, some z' = some z → va_P E.1 vwCl [(a0, o8 z'.1 z'.2 a1 a2), (a1, ab E 900 V1), (a2, al E 23 V2)] H → va_S A s.heap H locs → decode cX8_advance pc = .ok (.return_, 1) → W p l e ({ frames := 1, cells := 0, slots := 0, locals := 21 } : Room) s m args below meth c H locs 0 0 Q (F0 m pc ls []) := by
    intro z' H locs pc ls h
    cases h
    exact ret0
  replace hl : lv_has ls 1 [(0, .ref a0)] := hl
  have b161 : ∀ (T0 : Nat → Int32) (J0_8 : Int64) (H : Heap) (locs : List Loc) (ls : Array Slot), f_X8_advance_161 V1 V2 T0 J0_8 = some z → va_P E.1 vwCl [(a0, o8 T0 J0_8 a1 a2), (a1, ab E 900 V1), (a2, al E 23 V2)] H → va_D A [(a0, o8 T0 J0_8 a1 a2), (a1, ab E 900 V1), (a2, al E 23 V2)] → va_S A s.heap H locs → lv_has ls 1 [(0, .ref a0)] → W p l e ({ frames := 1, cells := 0, slots := 0, locals := 21 } : Room) s m args below meth c H locs 0 0 Q (F0 m 161 ls []) := by
    intro T0 J0_8 H locs ls hf hP hD hS hl
    unfold f_X8_advance_161 at hf
    refine lv_aload_n hx hb dX8_advance_161 rfl (lv_at hl 0 rfl) ?_
    refine G8_62 hx hb htg hown hK hP 0 rfl dX8_advance_162 ?_
    refine lv_iconst (v := 1) hx hb dX8_advance_165 rfl ?_
    refine lv_icmp_ne (tgt := 176) hx hb dX8_advance_166 (by decide) (fun c166 => ?_) (fun c166 => ?_)
    · have hf := it_f c166 hf
      refine lv_aload_n hx hb dX8_advance_176 rfl (lv_at hl 0 rfl) ?_
      refine G8_62 hx hb htg hown hK hP 0 rfl dX8_advance_177 ?_
      refine lv_iconst (v := 2) hx hb dX8_advance_180 rfl ?_
      refine lv_icmp_ne (tgt := 191) hx hb dX8_advance_181 (by decide) (fun c181 => ?_) (fun c181 => ?_)
      · have hf := it_f c181 hf
        refine lv_aload_n hx hb dX8_advance_191 rfl (lv_at hl 0 rfl) ?_
        refine lv_aload_n hx hb dX8_advance_192 rfl (lv_at hl 0 rfl) ?_
        refine G8_11 hx hb htg hown hK hP 0 rfl dX8_advance_193 ?_
        refine lv_aload_n hx hb dX8_advance_196 rfl (lv_at hl 0 rfl) ?_
        refine G8_65 hx hb htg hown hK hP 0 rfl dX8_advance_197 ?_
        obtain ⟨g200, hf⟩ := ck_s hf
        refine xbald hx hb hK hP 1 rfl g200 dX8_advance_200 ?_
        refine P8_68 hx hb htg hown hK hP hD hS 0 rfl dX8_advance_201 (fun H locs hP hD hS => ?_)
        exact ret (upd T0 7 (V1 (Int32.toNatClampNeg (T0 5))), J0_8) hf hP hS dX8_advance_204
      · have hf := it_t c181 hf
        refine lv_aload_n hx hb dX8_advance_184 rfl (lv_at hl 0 rfl) ?_
        obtain ⟨z185, hz185, hf⟩ := bind_s hf
        refine xV_vu hx hb hml hown htg L8_99 (c_X8_readNumber l E a0 a1 hz185 _) ⟨⟨rfl, rfl⟩, Nat.le_of_ble_eq_true rfl, Nat.le_of_ble_eq_true rfl⟩ hK hG hA hP hD hS (is := [0, 1]) (sel := [some 0, some 1, none]) (ws2 := [(a0, o8 z185 J0_8 a1 a2), (a1, ab E 900 V1), (a2, al E 23 V2)]) rfl rfl rfl rfl rfl (xrecv hK hP (q0 := 0) (ci := 8) rfl rfl) rfl hl.1 rfl (Nat.le_of_ble_eq_true rfl) dX8_advance_185 (fun H locs hP hD hS => ?_)
        refine lv_goto (tgt := 204) hx hb dX8_advance_188 (by decide) ?_
        exact ret (z185, J0_8) hf hP hS dX8_advance_204
    · have hf := it_t c166 hf
      refine lv_aload_n hx hb dX8_advance_169 rfl (lv_at hl 0 rfl) ?_
      obtain ⟨z170, hz170, hf⟩ := bind_s hf
      refine xV_vu hx hb hml hown htg L8_96 (c_X8_readWord l E a0 a1 a2 hz170 _) ⟨⟨rfl, rfl⟩, Nat.le_of_ble_eq_true rfl, Nat.le_of_ble_eq_true rfl⟩ hK hG hA hP hD hS (is := [0, 1, 2]) (sel := [some 0, some 1, some 2]) (ws2 := [(a0, o8 z170.1 z170.2 a1 a2), (a1, ab E 900 V1), (a2, al E 23 V2)]) rfl rfl rfl rfl rfl (xrecv hK hP (q0 := 0) (ci := 8) rfl rfl) rfl hl.1 rfl (Nat.le_of_ble_eq_true rfl) dX8_advance_170 (fun H locs hP hD hS => ?_)
      refine lv_goto (tgt := 204) hx hb dX8_advance_173 (by decide) ?_
      exact ret (z170.1, z170.2) hf hP hS dX8_advance_204
  have b108 : ∀ (n : Nat) (T0 : Nat → Int32) (J0_8 : Int64) (H : Heap) (locs : List Loc) (ls : Array Slot), f_X8_advance_108 V1 V2 n T0 J0_8 = some z → va_P E.1 vwCl [(a0, o8 T0 J0_8 a1 a2), (a1, ab E 900 V1), (a2, al E 23 V2)] H → va_D A [(a0, o8 T0 J0_8 a1 a2), (a1, ab E 900 V1), (a2, al E 23 V2)] → va_S A s.heap H locs → lv_has ls 1 [(0, .ref a0)] → W p l e ({ frames := 1, cells := 0, slots := 0, locals := 21 } : Room) s m args below meth c H locs 0 0 Q (F0 m 108 ls []) := by
    intro n
    induction n with
    | zero => intro T0 J0_8 H locs ls hf; exact (nn_s hf).elim
    | succ n ih108 =>
      obtain ⟨k108, ek108⟩ : ∃ k, k = f_X8_advance_108 V1 V2 n := ⟨_, rfl⟩
      rw [← ek108] at ih108
      intro T0 J0_8 H locs ls hf hP hD hS hl
      replace hf : g_X8_advance_108 V1 V2 k108 T0 J0_8 = some z := by rw [ek108]; exact hf
      unfold g_X8_advance_108 at hf
      refine lv_aload_n hx hb dX8_advance_108 rfl (lv_at hl 0 rfl) ?_
      refine G8_50 hx hb htg hown hK hP 0 rfl dX8_advance_109 ?_
      refine lv_aload_n hx hb dX8_advance_112 rfl (lv_at hl 0 rfl) ?_
      refine G8_47 hx hb htg hown hK hP 0 rfl dX8_advance_113 ?_
      refine lv_icmp_ge (tgt := 161) hx hb dX8_advance_116 (by decide) (fun c116 => ?_) (fun c116 => ?_)
      · have hf := it_t c116 hf
        exact b161 T0 J0_8 _ _ _ hf hP hD hS (lv_sub hl [0] rfl)
      · have hf := it_f c116 hf
        refine lv_aload_n hx hb dX8_advance_119 rfl (lv_at hl 0 rfl) ?_
        refine G8_62 hx hb htg hown hK hP 0 rfl dX8_advance_120 ?_
        obtain ⟨z123, hz123, hf⟩ := bind_s hf
        refine xS_ir hx hb hml hown htg L8_93 (c_X8_isLong l E hz123 _) ⟨⟨rfl, rfl⟩, Nat.le_of_ble_eq_true rfl, Nat.le_of_ble_eq_true rfl⟩ hK hG hA hP hD hS (is := []) rfl rfl rfl hl.1 rfl (Nat.le_of_ble_eq_true rfl) dX8_advance_123 (fun H locs hP hD hS => ?_)
        refine lv_if_eq (tgt := 161) hx hb dX8_advance_126 (by decide) (fun c126 => ?_) (fun c126 => ?_)
        · have hf := it_t c126 hf
          exact b161 T0 J0_8 _ _ _ hf hP hD hS (lv_sub hl [0] rfl)
        · have hf := it_f c126 hf
          refine lv_aload_n hx hb dX8_advance_129 rfl (lv_at hl 0 rfl) ?_
          refine G8_11 hx hb htg hown hK hP 0 rfl dX8_advance_130 ?_
          refine lv_aload_n hx hb dX8_advance_133 rfl (lv_at hl 0 rfl) ?_
          refine G8_50 hx hb htg hown hK hP 0 rfl dX8_advance_134 ?_
          obtain ⟨g137, hf⟩ := ck_s hf
          refine xbald hx hb hK hP 1 rfl g137 dX8_advance_137 ?_
          obtain ⟨z138, hz138, hf⟩ := bind_s hf
          refine xS_ir hx hb hml hown htg L8_89 (c_X8_kindOf l E hz138 _) ⟨⟨rfl, rfl⟩, Nat.le_of_ble_eq_true rfl, Nat.le_of_ble_eq_true rfl⟩ hK hG hA hP hD hS (is := []) rfl rfl rfl hl.1 rfl (Nat.le_of_ble_eq_true rfl) dX8_advance_138 (fun H locs hP hD hS => ?_)
          refine lv_aload_n hx hb dX8_advance_141 rfl (lv_at hl 0 rfl) ?_
          refine G8_62 hx hb htg hown hK hP 0 rfl dX8_advance_142 ?_
          refine lv_icmp_ne (tgt := 161) hx hb dX8_advance_145 (by decide) (fun c145 => ?_) (fun c145 => ?_)
          · have hf := it_f c145 hf
            exact b161 T0 J0_8 _ _ _ hf hP hD hS (lv_sub hl [0] rfl)
          · have hf := it_t c145 hf
            refine lv_aload_n hx hb dX8_advance_148 rfl (lv_at hl 0 rfl) ?_
            refine lv_dup hx hb dX8_advance_149 rfl ?_
            refine G8_50 hx hb htg hown hK hP 0 rfl dX8_advance_150 ?_
            refine lv_iconst (v := 1) hx hb dX8_advance_153 rfl ?_
            refine lv_iadd hx hb dX8_advance_154 ?_
            refine P8_50 hx hb htg hown hK hP hD hS 0 rfl dX8_advance_155 (fun H locs hP hD hS => ?_)
            refine lv_goto (tgt := 108) hx hb dX8_advance_158 (by decide) ?_
            exact ih108 (upd T0 6 ((T0 6) + 1)) J0_8 _ _ _ hf hP hD hS (lv_sub hl [0] rfl)
  have b47 : ∀ (T0 : Nat → Int32) (J0_8 : Int64) (H : Heap) (locs : List Loc) (ls : Array Slot), f_X8_advance_47 V1 V2 T0 J0_8 = some z → va_P E.1 vwCl [(a0, o8 T0 J0_8 a1 a2), (a1, ab E 900 V1), (a2, al E 23 V2)] H → va_D A [(a0, o8 T0 J0_8 a1 a2), (a1, ab E 900 V1), (a2, al E 23 V2)] → va_S A s.heap H locs → lv_has ls 1 [(0, .ref a0)] → W p l e ({ frames := 1, cells := 0, slots := 0, locals := 21 } : Room) s m args below meth c H locs 0 0 Q (F0 m 47 ls []) := by
    intro T0 J0_8 H locs ls hf hP hD hS hl
    unfold f_X8_advance_47 at hf
    refine lv_aload_n hx hb dX8_advance_47 rfl (lv_at hl 0 rfl) ?_
    refine lv_aload_n hx hb dX8_advance_48 rfl (lv_at hl 0 rfl) ?_
    refine G8_65 hx hb htg hown hK hP 0 rfl dX8_advance_49 ?_
    refine P8_50 hx hb htg hown hK hP hD hS 0 rfl dX8_advance_52 (fun H locs hP hD hS => ?_)
    refine lv_aload_n hx hb dX8_advance_55 rfl (lv_at hl 0 rfl) ?_
    refine lv_iconst (v := (-1)) hx hb dX8_advance_56 rfl ?_
    refine P8_68 hx hb htg hown hK hP hD hS 0 rfl dX8_advance_57 (fun H locs hP hD hS => ?_)
    refine lv_aload_n hx hb dX8_advance_60 rfl (lv_at hl 0 rfl) ?_
    refine lv_lconst (v := 0) hx hb dX8_advance_61 rfl ?_
    refine P8_78 hx hb htg hown hK hP hD hS 0 rfl dX8_advance_62 (fun H locs hP hD hS => ?_)
    replace hP : va_P E.1 vwCl [(a0, o8 (upd (upd T0 6 (T0 5)) 7 (-1)) 0 a1 a2), (a1, ab E 900 V1), (a2, al E 23 V2)] H := hP
    replace hD : va_D A [(a0, o8 (upd (upd T0 6 (T0 5)) 7 (-1)) 0 a1 a2), (a1, ab E 900 V1), (a2, al E 23 V2)] := hD
    refine lv_aload_n hx hb dX8_advance_65 rfl (lv_at hl 0 rfl) ?_
    refine G8_65 hx hb htg hown hK hP 0 rfl dX8_advance_66 ?_
    refine lv_aload_n hx hb dX8_advance_69 rfl (lv_at hl 0 rfl) ?_
    refine G8_47 hx hb htg hown hK hP 0 rfl dX8_advance_70 ?_
    refine lv_icmp_lt (tgt := 82) hx hb dX8_advance_73 (by decide) (fun c73 => ?_) (fun c73 => ?_)
    · have hf := it_t c73 hf
      refine lv_aload_n hx hb dX8_advance_82 rfl (lv_at hl 0 rfl) ?_
      refine lv_aload_n hx hb dX8_advance_83 rfl (lv_at hl 0 rfl) ?_
      refine G8_11 hx hb htg hown hK hP 0 rfl dX8_advance_84 ?_
      refine lv_aload_n hx hb dX8_advance_87 rfl (lv_at hl 0 rfl) ?_
      refine G8_65 hx hb htg hown hK hP 0 rfl dX8_advance_88 ?_
      obtain ⟨g91, hf⟩ := ck_s hf
      refine xbald hx hb hK hP 1 rfl g91 dX8_advance_91 ?_
      obtain ⟨z92, hz92, hf⟩ := bind_s hf
      refine xS_ir hx hb hml hown htg L8_89 (c_X8_kindOf l E hz92 _) ⟨⟨rfl, rfl⟩, Nat.le_of_ble_eq_true rfl, Nat.le_of_ble_eq_true rfl⟩ hK hG hA hP hD hS (is := []) rfl rfl rfl hl.1 rfl (Nat.le_of_ble_eq_true rfl) dX8_advance_92 (fun H locs hP hD hS => ?_)
      refine P8_62 hx hb htg hown hK hP hD hS 0 rfl dX8_advance_95 (fun H locs hP hD hS => ?_)
      refine lv_aload_n hx hb dX8_advance_98 rfl (lv_at hl 0 rfl) ?_
      refine lv_aload_n hx hb dX8_advance_99 rfl (lv_at hl 0 rfl) ?_
      refine G8_65 hx hb htg hown hK hP 0 rfl dX8_advance_100 ?_
      refine lv_iconst (v := 1) hx hb dX8_advance_103 rfl ?_
      refine lv_iadd hx hb dX8_advance_104 ?_
      refine P8_50 hx hb htg hown hK hP hD hS 0 rfl dX8_advance_105 (fun H locs hP hD hS => ?_)
      exact b108 xF (upd (upd (upd (upd T0 6 (T0 5)) 7 (-1)) 4 z92) 6 (((upd (upd (upd T0 6 (T0 5)) 7 (-1)) 4 z92) 5) + 1)) 0 _ _ _ hf hP hD hS (lv_sub hl [0] rfl)
    · have hf := it_f c73 hf
      refine lv_aload_n hx hb dX8_advance_76 rfl (lv_at hl 0 rfl) ?_
      refine lv_iconst (v := 0) hx hb dX8_advance_77 rfl ?_
      refine P8_62 hx hb htg hown hK hP hD hS 0 rfl dX8_advance_78 (fun H locs hP hD hS => ?_)
      exact ret (upd (upd (upd T0 6 (T0 5)) 7 (-1)) 4 0, 0) hf hP hS dX8_advance_81
  have b8 : ∀ (n : Nat) (T0 : Nat → Int32) (J0_8 : Int64) (H : Heap) (locs : List Loc) (ls : Array Slot), f_X8_advance_8 V1 V2 n T0 J0_8 = some z → va_P E.1 vwCl [(a0, o8 T0 J0_8 a1 a2), (a1, ab E 900 V1), (a2, al E 23 V2)] H → va_D A [(a0, o8 T0 J0_8 a1 a2), (a1, ab E 900 V1), (a2, al E 23 V2)] → va_S A s.heap H locs → lv_has ls 1 [(0, .ref a0)] → W p l e ({ frames := 1, cells := 0, slots := 0, locals := 21 } : Room) s m args below meth c H locs 0 0 Q (F0 m 8 ls []) := by
    intro n
    induction n with
    | zero => intro T0 J0_8 H locs ls hf; exact (nn_s hf).elim
    | succ n ih8 =>
      obtain ⟨k8, ek8⟩ : ∃ k, k = f_X8_advance_8 V1 V2 n := ⟨_, rfl⟩
      rw [← ek8] at ih8
      intro T0 J0_8 H locs ls hf hP hD hS hl
      replace hf : g_X8_advance_8 V1 V2 k8 T0 J0_8 = some z := by rw [ek8]; exact hf
      unfold g_X8_advance_8 at hf
      refine lv_aload_n hx hb dX8_advance_8 rfl (lv_at hl 0 rfl) ?_
      refine G8_65 hx hb htg hown hK hP 0 rfl dX8_advance_9 ?_
      refine lv_aload_n hx hb dX8_advance_12 rfl (lv_at hl 0 rfl) ?_
      refine G8_47 hx hb htg hown hK hP 0 rfl dX8_advance_13 ?_
      refine lv_icmp_ge (tgt := 47) hx hb dX8_advance_16 (by decide) (fun c16 => ?_) (fun c16 => ?_)
      · have hf := it_t c16 hf
        exact b47 T0 J0_8 _ _ _ hf hP hD hS (lv_sub hl [0] rfl)
      · have hf := it_f c16 hf
        refine lv_aload_n hx hb dX8_advance_19 rfl (lv_at hl 0 rfl) ?_
        refine G8_11 hx hb htg hown hK hP 0 rfl dX8_advance_20 ?_
        refine lv_aload_n hx hb dX8_advance_23 rfl (lv_at hl 0 rfl) ?_
        refine G8_65 hx hb htg hown hK hP 0 rfl dX8_advance_24 ?_
        obtain ⟨g27, hf⟩ := ck_s hf
        refine xbald hx hb hK hP 1 rfl g27 dX8_advance_27 ?_
        obtain ⟨z28, hz28, hf⟩ := bind_s hf
        refine xS_ir hx hb hml hown htg L8_86 (c_X8_isBlank l E hz28 _) ⟨⟨rfl, rfl⟩, Nat.le_of_ble_eq_true rfl, Nat.le_of_ble_eq_true rfl⟩ hK hG hA hP hD hS (is := []) rfl rfl rfl hl.1 rfl (Nat.le_of_ble_eq_true rfl) dX8_advance_28 (fun H locs hP hD hS => ?_)
        refine lv_if_eq (tgt := 47) hx hb dX8_advance_31 (by decide) (fun c31 => ?_) (fun c31 => ?_)
        · have hf := it_t c31 hf
          exact b47 T0 J0_8 _ _ _ hf hP hD hS (lv_sub hl [0] rfl)
        · have hf := it_f c31 hf
          refine lv_aload_n hx hb dX8_advance_34 rfl (lv_at hl 0 rfl) ?_
          refine lv_dup hx hb dX8_advance_35 rfl ?_
          refine G8_65 hx hb htg hown hK hP 0 rfl dX8_advance_36 ?_
          refine lv_iconst (v := 1) hx hb dX8_advance_39 rfl ?_
          refine lv_iadd hx hb dX8_advance_40 ?_
          refine P8_65 hx hb htg hown hK hP hD hS 0 rfl dX8_advance_41 (fun H locs hP hD hS => ?_)
          refine lv_goto (tgt := 8) hx hb dX8_advance_44 (by decide) ?_
          exact ih8 (upd T0 5 ((T0 5) + 1)) J0_8 _ _ _ hf hP hD hS (lv_sub hl [0] rfl)
  unfold f_X8_advance at hf
  refine lv_aload_n hx hb dX8_advance_0 rfl (lv_at hl 0 rfl) ?_
  refine lv_aload_n hx hb dX8_advance_1 rfl (lv_at hl 0 rfl) ?_
  refine G8_50 hx hb htg hown hK hP 0 rfl dX8_advance_2 ?_
  refine P8_65 hx hb htg hown hK hP hD hS 0 rfl dX8_advance_5 (fun H locs hP hD hS => ?_)
  exact b8 xF (upd T0 5 (T0 6)) J0_8 _ _ _ hf hP hD hS (lv_sub hl [0] rfl)
theorem dX8_isNumber_0 : decode cX8_isNumber 0 = .ok (.aload_n 0, 1) := by decide +kernel
theorem dX8_isNumber_1 : decode cX8_isNumber 1 = .ok (.getfield 62, 3) := by decide +kernel
theorem dX8_isNumber_4 : decode cX8_isNumber 4 = .ok (.iconst 2, 1) := by decide +kernel
theorem dX8_isNumber_5 : decode cX8_isNumber 5 = .ok (.if_icmp .eq 9, 3) := by decide +kernel
theorem dX8_isNumber_8 : decode cX8_isNumber 8 = .ok (.aload_n 0, 1) := by decide +kernel
theorem dX8_isNumber_9 : decode cX8_isNumber 9 = .ok (.iconst 2, 1) := by decide +kernel
theorem dX8_isNumber_10 : decode cX8_isNumber 10 = .ok (.invokevirtual 82, 3) := by decide +kernel
theorem dX8_isNumber_13 : decode cX8_isNumber 13 = .ok (.ireturn, 1) := by decide +kernel
theorem dX8_isNumber_14 : decode cX8_isNumber 14 = .ok (.aload_n 0, 1) := by decide +kernel
theorem dX8_isNumber_15 : decode cX8_isNumber 15 = .ok (.getfield 68, 3) := by decide +kernel
theorem dX8_isNumber_18 : decode cX8_isNumber 18 = .ok (.iload_n 1, 1) := by decide +kernel
theorem dX8_isNumber_19 : decode cX8_isNumber 19 = .ok (.iload_n 2, 1) := by decide +kernel
theorem dX8_isNumber_20 : decode cX8_isNumber 20 = .ok (.invokestatic 74, 3) := by decide +kernel
theorem dX8_isNumber_23 : decode cX8_isNumber 23 = .ok (.ifCond .ne 11, 3) := by decide +kernel
theorem dX8_isNumber_26 : decode cX8_isNumber 26 = .ok (.aload_n 0, 1) := by decide +kernel
theorem dX8_isNumber_27 : decode cX8_isNumber 27 = .ok (.iconst 4, 1) := by decide +kernel
theorem dX8_isNumber_28 : decode cX8_isNumber 28 = .ok (.invokevirtual 82, 3) := by decide +kernel
theorem dX8_isNumber_31 : decode cX8_isNumber 31 = .ok (.ifCond .eq 7, 3) := by decide +kernel
theorem dX8_isNumber_34 : decode cX8_isNumber 34 = .ok (.iconst 1, 1) := by decide +kernel
theorem dX8_isNumber_35 : decode cX8_isNumber 35 = .ok (.goto 4, 3) := by decide +kernel
theorem dX8_isNumber_38 : decode cX8_isNumber 38 = .ok (.iconst 0, 1) := by decide +kernel
theorem dX8_isNumber_39 : decode cX8_isNumber 39 = .ok (.ireturn, 1) := by decide +kernel
set_option maxRecDepth 100000 in
theorem c_X8_isNumber (l : Launch) (E : xE) (a0 : Nat) {T0 : Nat → Int32} {J0_8 : Int64} {u0_0 u0_1 : Nat} {x1 : Int32} {x2 : Int32} {z : Int32 × (Nat → Int32)} (hf : f_X8_isNumber T0 x1 x2 = some z) (sz : Nat) : Met l yX8_isNumber (Cond.code yX8_isNumber cX8_isNumber 3 (some .boolean) :: gw) ({ frames := 1, cells := 0, slots := 0, locals := 22 }) (xPc E [.ref a0, .int x1, .int x2] [(a0, o8 T0 J0_8 u0_0 u0_1)] sz) (xQi E z.1 [(a0, o8 T0 J0_8 u0_0 u0_1)] [(a0, o8 z.2 J0_8 u0_0 u0_1)] sz) 0 0 (va_A [(a0, o8 T0 J0_8 u0_0 u0_1)] sz) := by
  refine xM_i (by decide +kernel) (Nat.le_of_ble_eq_true rfl) ?_
  intro p e s m args below meth c A Q hx hb hml hown htg hK hG hA ret0 H locs ls hP hD hS hl
  have ret : ∀ (z' : Int32 × (Nat → Int32)) {H : Heap} {locs : List Loc} {pc : Nat} {ls : Array Slot}, some z' = some z → narrow .boolean (.int z'.1) = .int z'.1 → va_P E.1 vwCl [(a0, o8 z'.2 J0_8 u0_0 u0_1)] H → va_S A s.heap H locs → decode cX8_isNumber pc = .ok (.ireturn, 1) → W p l e ({ frames := 1, cells := 0, slots := 0, locals := 22 } : Room) s m args below meth c H locs 0 0 Q (F0 m pc ls [.int z'.1]) := by
    intro z' H locs pc ls h
    cases h
    exact ret0
  replace hl : lv_has ls 3 [(0, .ref a0), (1, .int x1), (2, .int x2)] := hl
  unfold f_X8_isNumber at hf
  refine lv_aload_n hx hb dX8_isNumber_0 rfl (lv_at hl 0 rfl) ?_
  refine G8_62 hx hb htg hown hK hP 0 rfl dX8_isNumber_1 ?_
  refine lv_iconst (v := 2) hx hb dX8_isNumber_4 rfl ?_
  refine lv_icmp_eq (tgt := 14) hx hb dX8_isNumber_5 (by decide) (fun c5 => ?_) (fun c5 => ?_)
  · have hf := it_t c5 hf
    refine lv_aload_n hx hb dX8_isNumber_14 rfl (lv_at hl 0 rfl) ?_
    refine G8_68 hx hb htg hown hK hP 0 rfl dX8_isNumber_15 ?_
    refine lv_iload_n hx hb dX8_isNumber_18 rfl (lv_at hl 1 rfl) ?_
    refine lv_iload_n hx hb dX8_isNumber_19 rfl (lv_at hl 2 rfl) ?_
    obtain ⟨z20, hz20, hf⟩ := bind_s hf
    refine xN_ir hx hb hml hown htg L8_74 13 rfl (c_X11_within l E hz20 _) ⟨⟨rfl, rfl⟩, Nat.le_of_ble_eq_true rfl, Nat.le_of_ble_eq_true rfl⟩ hK hG hA hP hD hS (is := []) rfl rfl rfl hl.1 rfl (Nat.le_of_ble_eq_true rfl) dX8_isNumber_20 (fun H locs hP hD hS => ?_)
    refine lv_if_ne (tgt := 34) hx hb dX8_isNumber_23 (by decide) (fun c23 => ?_) (fun c23 => ?_)
    · have hf := it_f c23 hf
      refine lv_iconst (v := 1) hx hb dX8_isNumber_34 rfl ?_
      refine lv_goto (tgt := 39) hx hb dX8_isNumber_35 (by decide) ?_
      exact ret (1, T0) hf nz1 hP hS dX8_isNumber_39
    · have hf := it_t c23 hf
      refine lv_aload_n hx hb dX8_isNumber_26 rfl (lv_at hl 0 rfl) ?_
      refine lv_iconst (v := 4) hx hb dX8_isNumber_27 rfl ?_
      obtain ⟨z28, hz28, hf⟩ := bind_s hf
      refine xV_iu hx hb hml hown htg L8_82 (c_X8_blame l E a0 hz28 _) ⟨⟨rfl, rfl⟩, Nat.le_of_ble_eq_true rfl, Nat.le_of_ble_eq_true rfl⟩ hK hG hA hP hD hS (is := [0]) (sel := [some 0]) (ws2 := [(a0, o8 z28.2 J0_8 u0_0 u0_1)]) rfl rfl rfl rfl rfl (xrecv hK hP (q0 := 0) (ci := 8) rfl rfl) rfl hl.1 rfl (Nat.le_of_ble_eq_true rfl) dX8_isNumber_28 (fun H locs hP hD hS => ?_)
      refine lv_if_eq (tgt := 38) hx hb dX8_isNumber_31 (by decide) (fun c31 => ?_) (fun c31 => ?_)
      · have hf := it_t c31 hf
        refine lv_iconst (v := 0) hx hb dX8_isNumber_38 rfl ?_
        exact ret (0, z28.2) hf nz0 hP hS dX8_isNumber_39
      · have hf := it_f c31 hf
        refine lv_iconst (v := 1) hx hb dX8_isNumber_34 rfl ?_
        refine lv_goto (tgt := 39) hx hb dX8_isNumber_35 (by decide) ?_
        exact ret (1, z28.2) hf nz1 hP hS dX8_isNumber_39
  · have hf := it_f c5 hf
    refine lv_aload_n hx hb dX8_isNumber_8 rfl (lv_at hl 0 rfl) ?_
    refine lv_iconst (v := 2) hx hb dX8_isNumber_9 rfl ?_
    obtain ⟨z10, hz10, hf⟩ := bind_s hf
    refine xV_iu hx hb hml hown htg L8_82 (c_X8_blame l E a0 hz10 _) ⟨⟨rfl, rfl⟩, Nat.le_of_ble_eq_true rfl, Nat.le_of_ble_eq_true rfl⟩ hK hG hA hP hD hS (is := [0]) (sel := [some 0]) (ws2 := [(a0, o8 z10.2 J0_8 u0_0 u0_1)]) rfl rfl rfl rfl rfl (xrecv hK hP (q0 := 0) (ci := 8) rfl rfl) rfl hl.1 rfl (Nat.le_of_ble_eq_true rfl) dX8_isNumber_10 (fun H locs hP hD hS => ?_)
    obtain ⟨g13, hf⟩ := ck_s hf
    exact ret (z10.1, z10.2) hf (bz_n g13).1 hP hS dX8_isNumber_13
theorem dX8_number_0 : decode cX8_number 0 = .ok (.aload_n 0, 1) := by decide +kernel
theorem dX8_number_1 : decode cX8_number 1 = .ok (.getfield 62, 3) := by decide +kernel
theorem dX8_number_4 : decode cX8_number 4 = .ok (.iconst 2, 1) := by decide +kernel
theorem dX8_number_5 : decode cX8_number 5 = .ok (.if_icmp .ne 10, 3) := by decide +kernel
theorem dX8_number_8 : decode cX8_number 8 = .ok (.aload_n 0, 1) := by decide +kernel
theorem dX8_number_9 : decode cX8_number 9 = .ok (.getfield 68, 3) := by decide +kernel
theorem dX8_number_12 : decode cX8_number 12 = .ok (.goto 4, 3) := by decide +kernel
theorem dX8_number_15 : decode cX8_number 15 = .ok (.iconst (-1), 1) := by decide +kernel
theorem dX8_number_16 : decode cX8_number 16 = .ok (.ireturn, 1) := by decide +kernel
set_option maxRecDepth 100000 in
theorem c_X8_number (l : Launch) (E : xE) (a0 : Nat) {T0 : Nat → Int32} {J0_8 : Int64} {u0_0 u0_1 : Nat} {z : Int32} (hf : f_X8_number T0 = some z) (sz : Nat) : Met l yX8_number (Cond.code yX8_number cX8_number 1 (some .int) :: gw) ({ frames := 0, cells := 0, slots := 0, locals := 0 }) (xPc E [.ref a0] [(a0, o8 T0 J0_8 u0_0 u0_1)] sz) (xQi E z [(a0, o8 T0 J0_8 u0_0 u0_1)] [(a0, o8 T0 J0_8 u0_0 u0_1)] sz) 0 0 (va_A [(a0, o8 T0 J0_8 u0_0 u0_1)] sz) := by
  refine xM_i (by decide +kernel) (Nat.le_of_ble_eq_true rfl) ?_
  intro p e s m args below meth c A Q hx hb hml hown htg hK hG hA ret0 H locs ls hP hD hS hl
  have ret : ∀ (z' : Int32) {H : Heap} {locs : List Loc} {pc : Nat} {ls : Array Slot}, some z' = some z → narrow .int (.int z') = .int z' → va_P E.1 vwCl [(a0, o8 T0 J0_8 u0_0 u0_1)] H → va_S A s.heap H locs → decode cX8_number pc = .ok (.ireturn, 1) → W p l e ({ frames := 0, cells := 0, slots := 0, locals := 0 } : Room) s m args below meth c H locs 0 0 Q (F0 m pc ls [.int z']) := by
    intro z' H locs pc ls h
    cases h
    exact ret0
  replace hl : lv_has ls 1 [(0, .ref a0)] := hl
  unfold f_X8_number at hf
  refine lv_aload_n hx hb dX8_number_0 rfl (lv_at hl 0 rfl) ?_
  refine G8_62 hx hb htg hown hK hP 0 rfl dX8_number_1 ?_
  refine lv_iconst (v := 2) hx hb dX8_number_4 rfl ?_
  refine lv_icmp_ne (tgt := 15) hx hb dX8_number_5 (by decide) (fun c5 => ?_) (fun c5 => ?_)
  · have hf := it_f c5 hf
    refine lv_iconst (v := (-1)) hx hb dX8_number_15 rfl ?_
    exact ret (-1) hf nzi hP hS dX8_number_16
  · have hf := it_t c5 hf
    refine lv_aload_n hx hb dX8_number_8 rfl (lv_at hl 0 rfl) ?_
    refine G8_68 hx hb htg hown hK hP 0 rfl dX8_number_9 ?_
    refine lv_goto (tgt := 16) hx hb dX8_number_12 (by decide) ?_
    exact ret (T0 7) hf nzi hP hS dX8_number_16
theorem dX8_letters_0 : decode cX8_letters 0 = .ok (.aload_n 0, 1) := by decide +kernel
theorem dX8_letters_1 : decode cX8_letters 1 = .ok (.getfield 62, 3) := by decide +kernel
theorem dX8_letters_4 : decode cX8_letters 4 = .ok (.iconst 1, 1) := by decide +kernel
theorem dX8_letters_5 : decode cX8_letters 5 = .ok (.if_icmp .ne 15, 3) := by decide +kernel
theorem dX8_letters_8 : decode cX8_letters 8 = .ok (.aload_n 0, 1) := by decide +kernel
theorem dX8_letters_9 : decode cX8_letters 9 = .ok (.getfield 50, 3) := by decide +kernel
theorem dX8_letters_12 : decode cX8_letters 12 = .ok (.aload_n 0, 1) := by decide +kernel
theorem dX8_letters_13 : decode cX8_letters 13 = .ok (.getfield 65, 3) := by decide +kernel
theorem dX8_letters_16 : decode cX8_letters 16 = .ok (.isub, 1) := by decide +kernel
theorem dX8_letters_17 : decode cX8_letters 17 = .ok (.goto 4, 3) := by decide +kernel
theorem dX8_letters_20 : decode cX8_letters 20 = .ok (.iconst 0, 1) := by decide +kernel
theorem dX8_letters_21 : decode cX8_letters 21 = .ok (.ireturn, 1) := by decide +kernel
set_option maxRecDepth 100000 in
theorem c_X8_letters (l : Launch) (E : xE) (a0 : Nat) {T0 : Nat → Int32} {J0_8 : Int64} {u0_0 u0_1 : Nat} {z : Int32} (hf : f_X8_letters T0 = some z) (sz : Nat) : Met l yX8_letters (Cond.code yX8_letters cX8_letters 1 (some .int) :: gw) ({ frames := 0, cells := 0, slots := 0, locals := 0 }) (xPc E [.ref a0] [(a0, o8 T0 J0_8 u0_0 u0_1)] sz) (xQi E z [(a0, o8 T0 J0_8 u0_0 u0_1)] [(a0, o8 T0 J0_8 u0_0 u0_1)] sz) 0 0 (va_A [(a0, o8 T0 J0_8 u0_0 u0_1)] sz) := by
  refine xM_i (by decide +kernel) (Nat.le_of_ble_eq_true rfl) ?_
  intro p e s m args below meth c A Q hx hb hml hown htg hK hG hA ret0 H locs ls hP hD hS hl
  have ret : ∀ (z' : Int32) {H : Heap} {locs : List Loc} {pc : Nat} {ls : Array Slot}, some z' = some z → narrow .int (.int z') = .int z' → va_P E.1 vwCl [(a0, o8 T0 J0_8 u0_0 u0_1)] H → va_S A s.heap H locs → decode cX8_letters pc = .ok (.ireturn, 1) → W p l e ({ frames := 0, cells := 0, slots := 0, locals := 0 } : Room) s m args below meth c H locs 0 0 Q (F0 m pc ls [.int z']) := by
    intro z' H locs pc ls h
    cases h
    exact ret0
  replace hl : lv_has ls 1 [(0, .ref a0)] := hl
  unfold f_X8_letters at hf
  refine lv_aload_n hx hb dX8_letters_0 rfl (lv_at hl 0 rfl) ?_
  refine G8_62 hx hb htg hown hK hP 0 rfl dX8_letters_1 ?_
  refine lv_iconst (v := 1) hx hb dX8_letters_4 rfl ?_
  refine lv_icmp_ne (tgt := 20) hx hb dX8_letters_5 (by decide) (fun c5 => ?_) (fun c5 => ?_)
  · have hf := it_f c5 hf
    refine lv_iconst (v := 0) hx hb dX8_letters_20 rfl ?_
    exact ret 0 hf nzi hP hS dX8_letters_21
  · have hf := it_t c5 hf
    refine lv_aload_n hx hb dX8_letters_8 rfl (lv_at hl 0 rfl) ?_
    refine G8_50 hx hb htg hown hK hP 0 rfl dX8_letters_9 ?_
    refine lv_aload_n hx hb dX8_letters_12 rfl (lv_at hl 0 rfl) ?_
    refine G8_65 hx hb htg hown hK hP 0 rfl dX8_letters_13 ?_
    refine lv_isub hx hb dX8_letters_16 ?_
    refine lv_goto (tgt := 21) hx hb dX8_letters_17 (by decide) ?_
    exact ret ((T0 6) - (T0 5)) hf nzi hP hS dX8_letters_21
theorem dX8_isName_0 : decode cX8_isName 0 = .ok (.aload_n 0, 1) := by decide +kernel
theorem dX8_isName_1 : decode cX8_isName 1 = .ok (.getfield 62, 3) := by decide +kernel
theorem dX8_isName_4 : decode cX8_isName 4 = .ok (.iconst 1, 1) := by decide +kernel
theorem dX8_isName_5 : decode cX8_isName 5 = .ok (.if_icmp .ne 24, 3) := by decide +kernel
theorem dX8_isName_8 : decode cX8_isName 8 = .ok (.aload_n 0, 1) := by decide +kernel
theorem dX8_isName_9 : decode cX8_isName 9 = .ok (.getfield 68, 3) := by decide +kernel
theorem dX8_isName_12 : decode cX8_isName 12 = .ok (.iconst (-1), 1) := by decide +kernel
theorem dX8_isName_13 : decode cX8_isName 13 = .ok (.if_icmp .ne 16, 3) := by decide +kernel
theorem dX8_isName_16 : decode cX8_isName 16 = .ok (.aload_n 0, 1) := by decide +kernel
theorem dX8_isName_17 : decode cX8_isName 17 = .ok (.invokevirtual 71, 3) := by decide +kernel
theorem dX8_isName_20 : decode cX8_isName 20 = .ok (.bipush 8, 2) := by decide +kernel
theorem dX8_isName_22 : decode cX8_isName 22 = .ok (.if_icmp .gt 7, 3) := by decide +kernel
theorem dX8_isName_25 : decode cX8_isName 25 = .ok (.iconst 1, 1) := by decide +kernel
theorem dX8_isName_26 : decode cX8_isName 26 = .ok (.goto 4, 3) := by decide +kernel
theorem dX8_isName_29 : decode cX8_isName 29 = .ok (.iconst 0, 1) := by decide +kernel
theorem dX8_isName_30 : decode cX8_isName 30 = .ok (.ireturn, 1) := by decide +kernel
set_option maxRecDepth 100000 in
theorem c_X8_isName (l : Launch) (E : xE) (a0 : Nat) {T0 : Nat → Int32} {J0_8 : Int64} {u0_0 u0_1 : Nat} {z : Int32} (hf : f_X8_isName T0 = some z) (sz : Nat) : Met l yX8_isName (Cond.code yX8_isName cX8_isName 1 (some .boolean) :: gw) ({ frames := 1, cells := 0, slots := 0, locals := 20 }) (xPc E [.ref a0] [(a0, o8 T0 J0_8 u0_0 u0_1)] sz) (xQi E z [(a0, o8 T0 J0_8 u0_0 u0_1)] [(a0, o8 T0 J0_8 u0_0 u0_1)] sz) 0 0 (va_A [(a0, o8 T0 J0_8 u0_0 u0_1)] sz) := by
  refine xM_i (by decide +kernel) (Nat.le_of_ble_eq_true rfl) ?_
  intro p e s m args below meth c A Q hx hb hml hown htg hK hG hA ret0 H locs ls hP hD hS hl
  have ret : ∀ (z' : Int32) {H : Heap} {locs : List Loc} {pc : Nat} {ls : Array Slot}, some z' = some z → narrow .boolean (.int z') = .int z' → va_P E.1 vwCl [(a0, o8 T0 J0_8 u0_0 u0_1)] H → va_S A s.heap H locs → decode cX8_isName pc = .ok (.ireturn, 1) → W p l e ({ frames := 1, cells := 0, slots := 0, locals := 20 } : Room) s m args below meth c H locs 0 0 Q (F0 m pc ls [.int z']) := by
    intro z' H locs pc ls h
    cases h
    exact ret0
  replace hl : lv_has ls 1 [(0, .ref a0)] := hl
  unfold f_X8_isName at hf
  refine lv_aload_n hx hb dX8_isName_0 rfl (lv_at hl 0 rfl) ?_
  refine G8_62 hx hb htg hown hK hP 0 rfl dX8_isName_1 ?_
  refine lv_iconst (v := 1) hx hb dX8_isName_4 rfl ?_
  refine lv_icmp_ne (tgt := 29) hx hb dX8_isName_5 (by decide) (fun c5 => ?_) (fun c5 => ?_)
  · have hf := it_f c5 hf
    refine lv_iconst (v := 0) hx hb dX8_isName_29 rfl ?_
    exact ret 0 hf nz0 hP hS dX8_isName_30
  · have hf := it_t c5 hf
    refine lv_aload_n hx hb dX8_isName_8 rfl (lv_at hl 0 rfl) ?_
    refine G8_68 hx hb htg hown hK hP 0 rfl dX8_isName_9 ?_
    refine lv_iconst (v := (-1)) hx hb dX8_isName_12 rfl ?_
    refine lv_icmp_ne (tgt := 29) hx hb dX8_isName_13 (by decide) (fun c13 => ?_) (fun c13 => ?_)
    · have hf := it_f c13 hf
      refine lv_iconst (v := 0) hx hb dX8_isName_29 rfl ?_
      exact ret 0 hf nz0 hP hS dX8_isName_30
    · have hf := it_t c13 hf
      refine lv_aload_n hx hb dX8_isName_16 rfl (lv_at hl 0 rfl) ?_
      obtain ⟨z17, hz17, hf⟩ := bind_s hf
      refine xV_ir hx hb hml hown htg L8_71 (c_X8_letters l E a0 hz17 _) ⟨⟨rfl, rfl⟩, Nat.le_of_ble_eq_true rfl, Nat.le_of_ble_eq_true rfl⟩ hK hG hA hP hD hS (is := [0]) rfl rfl (xrecv hK hP (q0 := 0) (ci := 8) rfl rfl) rfl hl.1 rfl (Nat.le_of_ble_eq_true rfl) dX8_isName_17 (fun H locs hP hD hS => ?_)
      refine lv_bipush (v := 8) hx hb dX8_isName_20 rfl ?_
      refine lv_icmp_gt (tgt := 29) hx hb dX8_isName_22 (by decide) (fun c22 => ?_) (fun c22 => ?_)
      · have hf := it_t c22 hf
        refine lv_iconst (v := 0) hx hb dX8_isName_29 rfl ?_
        exact ret 0 hf nz0 hP hS dX8_isName_30
      · have hf := it_f c22 hf
        refine lv_iconst (v := 1) hx hb dX8_isName_25 rfl ?_
        refine lv_goto (tgt := 30) hx hb dX8_isName_26 (by decide) ?_
        exact ret 1 hf nz1 hP hS dX8_isName_30
theorem dX8_nameCode_0 : decode cX8_nameCode 0 = .ok (.aload_n 0, 1) := by decide +kernel
theorem dX8_nameCode_1 : decode cX8_nameCode 1 = .ok (.getfield 78, 3) := by decide +kernel
theorem dX8_nameCode_4 : decode cX8_nameCode 4 = .ok (.lreturn, 1) := by decide +kernel
set_option maxRecDepth 100000 in
theorem c_X8_nameCode (l : Launch) (E : xE) (a0 : Nat) {T0 : Nat → Int32} {J0_8 : Int64} {u0_0 u0_1 : Nat} {z : Int64} (hf : f_X8_nameCode J0_8 = some z) (sz : Nat) : Met l yX8_nameCode (Cond.code yX8_nameCode cX8_nameCode 1 (some .long) :: gw) ({ frames := 0, cells := 0, slots := 0, locals := 0 }) (xPc E [.ref a0] [(a0, o8 T0 J0_8 u0_0 u0_1)] sz) (xQl E z [(a0, o8 T0 J0_8 u0_0 u0_1)] [(a0, o8 T0 J0_8 u0_0 u0_1)] sz) 0 0 (va_A [(a0, o8 T0 J0_8 u0_0 u0_1)] sz) := by
  refine xM_l (by decide +kernel) (Nat.le_of_ble_eq_true rfl) ?_
  intro p e s m args below meth c A Q hx hb hml hown htg hK hG hA ret0 H locs ls hP hD hS hl
  have ret : ∀ (z' : Int64) {H : Heap} {locs : List Loc} {pc : Nat} {ls : Array Slot}, some z' = some z → va_P E.1 vwCl [(a0, o8 T0 J0_8 u0_0 u0_1)] H → va_S A s.heap H locs → decode cX8_nameCode pc = .ok (.lreturn, 1) → W p l e ({ frames := 0, cells := 0, slots := 0, locals := 0 } : Room) s m args below meth c H locs 0 0 Q (F0 m pc ls [.long z']) := by
    intro z' H locs pc ls h
    cases h
    exact ret0
  replace hl : lv_has ls 1 [(0, .ref a0)] := hl
  unfold f_X8_nameCode at hf
  refine lv_aload_n hx hb dX8_nameCode_0 rfl (lv_at hl 0 rfl) ?_
  refine G8_78 hx hb htg hown hK hP 0 rfl dX8_nameCode_1 ?_
  exact ret J0_8 hf hP hS dX8_nameCode_4
theorem dX8_isWord_0 : decode cX8_isWord 0 = .ok (.aload_n 0, 1) := by decide +kernel
theorem dX8_isWord_1 : decode cX8_isWord 1 = .ok (.getfield 62, 3) := by decide +kernel
theorem dX8_isWord_4 : decode cX8_isWord 4 = .ok (.iconst 1, 1) := by decide +kernel
theorem dX8_isWord_5 : decode cX8_isWord 5 = .ok (.if_icmp .ne 15, 3) := by decide +kernel
theorem dX8_isWord_8 : decode cX8_isWord 8 = .ok (.aload_n 0, 1) := by decide +kernel
theorem dX8_isWord_9 : decode cX8_isWord 9 = .ok (.getfield 68, 3) := by decide +kernel
theorem dX8_isWord_12 : decode cX8_isWord 12 = .ok (.iload_n 1, 1) := by decide +kernel
theorem dX8_isWord_13 : decode cX8_isWord 13 = .ok (.if_icmp .ne 7, 3) := by decide +kernel
theorem dX8_isWord_16 : decode cX8_isWord 16 = .ok (.iconst 1, 1) := by decide +kernel
theorem dX8_isWord_17 : decode cX8_isWord 17 = .ok (.goto 4, 3) := by decide +kernel
theorem dX8_isWord_20 : decode cX8_isWord 20 = .ok (.iconst 0, 1) := by decide +kernel
theorem dX8_isWord_21 : decode cX8_isWord 21 = .ok (.ireturn, 1) := by decide +kernel
set_option maxRecDepth 100000 in
theorem c_X8_isWord (l : Launch) (E : xE) (a0 : Nat) {T0 : Nat → Int32} {J0_8 : Int64} {u0_0 u0_1 : Nat} {x1 : Int32} {z : Int32} (hf : f_X8_isWord T0 x1 = some z) (sz : Nat) : Met l yX8_isWord (Cond.code yX8_isWord cX8_isWord 2 (some .boolean) :: gw) ({ frames := 0, cells := 0, slots := 0, locals := 0 }) (xPc E [.ref a0, .int x1] [(a0, o8 T0 J0_8 u0_0 u0_1)] sz) (xQi E z [(a0, o8 T0 J0_8 u0_0 u0_1)] [(a0, o8 T0 J0_8 u0_0 u0_1)] sz) 0 0 (va_A [(a0, o8 T0 J0_8 u0_0 u0_1)] sz) := by
  refine xM_i (by decide +kernel) (Nat.le_of_ble_eq_true rfl) ?_
  intro p e s m args below meth c A Q hx hb hml hown htg hK hG hA ret0 H locs ls hP hD hS hl
  have ret : ∀ (z' : Int32) {H : Heap} {locs : List Loc} {pc : Nat} {ls : Array Slot}, some z' = some z → narrow .boolean (.int z') = .int z' → va_P E.1 vwCl [(a0, o8 T0 J0_8 u0_0 u0_1)] H → va_S A s.heap H locs → decode cX8_isWord pc = .ok (.ireturn, 1) → W p l e ({ frames := 0, cells := 0, slots := 0, locals := 0 } : Room) s m args below meth c H locs 0 0 Q (F0 m pc ls [.int z']) := by
    intro z' H locs pc ls h
    cases h
    exact ret0
  replace hl : lv_has ls 2 [(0, .ref a0), (1, .int x1)] := hl
  unfold f_X8_isWord at hf
  refine lv_aload_n hx hb dX8_isWord_0 rfl (lv_at hl 0 rfl) ?_
  refine G8_62 hx hb htg hown hK hP 0 rfl dX8_isWord_1 ?_
  refine lv_iconst (v := 1) hx hb dX8_isWord_4 rfl ?_
  refine lv_icmp_ne (tgt := 20) hx hb dX8_isWord_5 (by decide) (fun c5 => ?_) (fun c5 => ?_)
  · have hf := it_f c5 hf
    refine lv_iconst (v := 0) hx hb dX8_isWord_20 rfl ?_
    exact ret 0 hf nz0 hP hS dX8_isWord_21
  · have hf := it_t c5 hf
    refine lv_aload_n hx hb dX8_isWord_8 rfl (lv_at hl 0 rfl) ?_
    refine G8_68 hx hb htg hown hK hP 0 rfl dX8_isWord_9 ?_
    refine lv_iload_n hx hb dX8_isWord_12 rfl (lv_at hl 1 rfl) ?_
    refine lv_icmp_ne (tgt := 20) hx hb dX8_isWord_13 (by decide) (fun c13 => ?_) (fun c13 => ?_)
    · have hf := it_f c13 hf
      refine lv_iconst (v := 0) hx hb dX8_isWord_20 rfl ?_
      exact ret 0 hf nz0 hP hS dX8_isWord_21
    · have hf := it_t c13 hf
      refine lv_iconst (v := 1) hx hb dX8_isWord_16 rfl ?_
      refine lv_goto (tgt := 21) hx hb dX8_isWord_17 (by decide) ?_
      exact ret 1 hf nz1 hP hS dX8_isWord_21
theorem dX8_feeling_0 : decode cX8_feeling 0 = .ok (.aload_n 0, 1) := by decide +kernel
theorem dX8_feeling_1 : decode cX8_feeling 1 = .ok (.getfield 62, 3) := by decide +kernel
theorem dX8_feeling_4 : decode cX8_feeling 4 = .ok (.iconst 1, 1) := by decide +kernel
theorem dX8_feeling_5 : decode cX8_feeling 5 = .ok (.if_icmp .ne 27, 3) := by decide +kernel
theorem dX8_feeling_8 : decode cX8_feeling 8 = .ok (.aload_n 0, 1) := by decide +kernel
theorem dX8_feeling_9 : decode cX8_feeling 9 = .ok (.getfield 68, 3) := by decide +kernel
theorem dX8_feeling_12 : decode cX8_feeling 12 = .ok (.bipush 8, 2) := by decide +kernel
theorem dX8_feeling_14 : decode cX8_feeling 14 = .ok (.bipush 11, 2) := by decide +kernel
theorem dX8_feeling_16 : decode cX8_feeling 16 = .ok (.invokestatic 74, 3) := by decide +kernel
theorem dX8_feeling_19 : decode cX8_feeling 19 = .ok (.ifCond .eq 13, 3) := by decide +kernel
theorem dX8_feeling_22 : decode cX8_feeling 22 = .ok (.aload_n 0, 1) := by decide +kernel
theorem dX8_feeling_23 : decode cX8_feeling 23 = .ok (.getfield 68, 3) := by decide +kernel
theorem dX8_feeling_26 : decode cX8_feeling 26 = .ok (.bipush 8, 2) := by decide +kernel
theorem dX8_feeling_28 : decode cX8_feeling 28 = .ok (.isub, 1) := by decide +kernel
theorem dX8_feeling_29 : decode cX8_feeling 29 = .ok (.goto 4, 3) := by decide +kernel
theorem dX8_feeling_32 : decode cX8_feeling 32 = .ok (.iconst (-1), 1) := by decide +kernel
theorem dX8_feeling_33 : decode cX8_feeling 33 = .ok (.ireturn, 1) := by decide +kernel
set_option maxRecDepth 100000 in
theorem c_X8_feeling (l : Launch) (E : xE) (a0 : Nat) {T0 : Nat → Int32} {J0_8 : Int64} {u0_0 u0_1 : Nat} {z : Int32} (hf : f_X8_feeling T0 = some z) (sz : Nat) : Met l yX8_feeling (Cond.code yX8_feeling cX8_feeling 1 (some .int) :: gw) ({ frames := 1, cells := 0, slots := 0, locals := 22 }) (xPc E [.ref a0] [(a0, o8 T0 J0_8 u0_0 u0_1)] sz) (xQi E z [(a0, o8 T0 J0_8 u0_0 u0_1)] [(a0, o8 T0 J0_8 u0_0 u0_1)] sz) 0 0 (va_A [(a0, o8 T0 J0_8 u0_0 u0_1)] sz) := by
  refine xM_i (by decide +kernel) (Nat.le_of_ble_eq_true rfl) ?_
  intro p e s m args below meth c A Q hx hb hml hown htg hK hG hA ret0 H locs ls hP hD hS hl
  have ret : ∀ (z' : Int32) {H : Heap} {locs : List Loc} {pc : Nat} {ls : Array Slot}, some z' = some z → narrow .int (.int z') = .int z' → va_P E.1 vwCl [(a0, o8 T0 J0_8 u0_0 u0_1)] H → va_S A s.heap H locs → decode cX8_feeling pc = .ok (.ireturn, 1) → W p l e ({ frames := 1, cells := 0, slots := 0, locals := 22 } : Room) s m args below meth c H locs 0 0 Q (F0 m pc ls [.int z']) := by
    intro z' H locs pc ls h
    cases h
    exact ret0
  replace hl : lv_has ls 1 [(0, .ref a0)] := hl
  unfold f_X8_feeling at hf
  refine lv_aload_n hx hb dX8_feeling_0 rfl (lv_at hl 0 rfl) ?_
  refine G8_62 hx hb htg hown hK hP 0 rfl dX8_feeling_1 ?_
  refine lv_iconst (v := 1) hx hb dX8_feeling_4 rfl ?_
  refine lv_icmp_ne (tgt := 32) hx hb dX8_feeling_5 (by decide) (fun c5 => ?_) (fun c5 => ?_)
  · have hf := it_f c5 hf
    refine lv_iconst (v := (-1)) hx hb dX8_feeling_32 rfl ?_
    exact ret (-1) hf nzi hP hS dX8_feeling_33
  · have hf := it_t c5 hf
    refine lv_aload_n hx hb dX8_feeling_8 rfl (lv_at hl 0 rfl) ?_
    refine G8_68 hx hb htg hown hK hP 0 rfl dX8_feeling_9 ?_
    refine lv_bipush (v := 8) hx hb dX8_feeling_12 rfl ?_
    refine lv_bipush (v := 11) hx hb dX8_feeling_14 rfl ?_
    obtain ⟨z16, hz16, hf⟩ := bind_s hf
    refine xN_ir hx hb hml hown htg L8_74 13 rfl (c_X11_within l E hz16 _) ⟨⟨rfl, rfl⟩, Nat.le_of_ble_eq_true rfl, Nat.le_of_ble_eq_true rfl⟩ hK hG hA hP hD hS (is := []) rfl rfl rfl hl.1 rfl (Nat.le_of_ble_eq_true rfl) dX8_feeling_16 (fun H locs hP hD hS => ?_)
    refine lv_if_eq (tgt := 32) hx hb dX8_feeling_19 (by decide) (fun c19 => ?_) (fun c19 => ?_)
    · have hf := it_t c19 hf
      refine lv_iconst (v := (-1)) hx hb dX8_feeling_32 rfl ?_
      exact ret (-1) hf nzi hP hS dX8_feeling_33
    · have hf := it_f c19 hf
      refine lv_aload_n hx hb dX8_feeling_22 rfl (lv_at hl 0 rfl) ?_
      refine G8_68 hx hb htg hown hK hP 0 rfl dX8_feeling_23 ?_
      refine lv_bipush (v := 8) hx hb dX8_feeling_26 rfl ?_
      refine lv_isub hx hb dX8_feeling_28 ?_
      refine lv_goto (tgt := 33) hx hb dX8_feeling_29 (by decide) ?_
      exact ret ((T0 7) - 8) hf nzi hP hS dX8_feeling_33
theorem dX8_length_0 : decode cX8_length 0 = .ok (.aload_n 0, 1) := by decide +kernel
theorem dX8_length_1 : decode cX8_length 1 = .ok (.getfield 35, 3) := by decide +kernel
theorem dX8_length_4 : decode cX8_length 4 = .ok (.ireturn, 1) := by decide +kernel
set_option maxRecDepth 100000 in
theorem c_X8_length (l : Launch) (E : xE) (a0 : Nat) {T0 : Nat → Int32} {J0_8 : Int64} {u0_0 u0_1 : Nat} {z : Int32} (hf : f_X8_length T0 = some z) (sz : Nat) : Met l yX8_length (Cond.code yX8_length cX8_length 1 (some .int) :: gw) ({ frames := 0, cells := 0, slots := 0, locals := 0 }) (xPc E [.ref a0] [(a0, o8 T0 J0_8 u0_0 u0_1)] sz) (xQi E z [(a0, o8 T0 J0_8 u0_0 u0_1)] [(a0, o8 T0 J0_8 u0_0 u0_1)] sz) 0 0 (va_A [(a0, o8 T0 J0_8 u0_0 u0_1)] sz) := by
  refine xM_i (by decide +kernel) (Nat.le_of_ble_eq_true rfl) ?_
  intro p e s m args below meth c A Q hx hb hml hown htg hK hG hA ret0 H locs ls hP hD hS hl
  have ret : ∀ (z' : Int32) {H : Heap} {locs : List Loc} {pc : Nat} {ls : Array Slot}, some z' = some z → narrow .int (.int z') = .int z' → va_P E.1 vwCl [(a0, o8 T0 J0_8 u0_0 u0_1)] H → va_S A s.heap H locs → decode cX8_length pc = .ok (.ireturn, 1) → W p l e ({ frames := 0, cells := 0, slots := 0, locals := 0 } : Room) s m args below meth c H locs 0 0 Q (F0 m pc ls [.int z']) := by
    intro z' H locs pc ls h
    cases h
    exact ret0
  replace hl : lv_has ls 1 [(0, .ref a0)] := hl
  unfold f_X8_length at hf
  refine lv_aload_n hx hb dX8_length_0 rfl (lv_at hl 0 rfl) ?_
  refine G8_35 hx hb htg hown hK hP 0 rfl dX8_length_1 ?_
  exact ret (T0 2) hf nzi hP hS dX8_length_4
theorem dX8_hasRoom_0 : decode cX8_hasRoom 0 = .ok (.aload_n 0, 1) := by decide +kernel
theorem dX8_hasRoom_1 : decode cX8_hasRoom 1 = .ok (.getfield 35, 3) := by decide +kernel
theorem dX8_hasRoom_4 : decode cX8_hasRoom 4 = .ok (.bipush 20, 2) := by decide +kernel
theorem dX8_hasRoom_6 : decode cX8_hasRoom 6 = .ok (.iadd, 1) := by decide +kernel
theorem dX8_hasRoom_7 : decode cX8_hasRoom 7 = .ok (.sipush 900, 3) := by decide +kernel
theorem dX8_hasRoom_10 : decode cX8_hasRoom 10 = .ok (.if_icmp .gt 7, 3) := by decide +kernel
theorem dX8_hasRoom_13 : decode cX8_hasRoom 13 = .ok (.iconst 1, 1) := by decide +kernel
theorem dX8_hasRoom_14 : decode cX8_hasRoom 14 = .ok (.goto 4, 3) := by decide +kernel
theorem dX8_hasRoom_17 : decode cX8_hasRoom 17 = .ok (.iconst 0, 1) := by decide +kernel
theorem dX8_hasRoom_18 : decode cX8_hasRoom 18 = .ok (.ireturn, 1) := by decide +kernel
set_option maxRecDepth 100000 in
theorem c_X8_hasRoom (l : Launch) (E : xE) (a0 : Nat) {T0 : Nat → Int32} {J0_8 : Int64} {u0_0 u0_1 : Nat} {z : Int32} (hf : f_X8_hasRoom T0 = some z) (sz : Nat) : Met l yX8_hasRoom (Cond.code yX8_hasRoom cX8_hasRoom 1 (some .boolean) :: gw) ({ frames := 0, cells := 0, slots := 0, locals := 0 }) (xPc E [.ref a0] [(a0, o8 T0 J0_8 u0_0 u0_1)] sz) (xQi E z [(a0, o8 T0 J0_8 u0_0 u0_1)] [(a0, o8 T0 J0_8 u0_0 u0_1)] sz) 0 0 (va_A [(a0, o8 T0 J0_8 u0_0 u0_1)] sz) := by
  refine xM_i (by decide +kernel) (Nat.le_of_ble_eq_true rfl) ?_
  intro p e s m args below meth c A Q hx hb hml hown htg hK hG hA ret0 H locs ls hP hD hS hl
  have ret : ∀ (z' : Int32) {H : Heap} {locs : List Loc} {pc : Nat} {ls : Array Slot}, some z' = some z → narrow .boolean (.int z') = .int z' → va_P E.1 vwCl [(a0, o8 T0 J0_8 u0_0 u0_1)] H → va_S A s.heap H locs → decode cX8_hasRoom pc = .ok (.ireturn, 1) → W p l e ({ frames := 0, cells := 0, slots := 0, locals := 0 } : Room) s m args below meth c H locs 0 0 Q (F0 m pc ls [.int z']) := by
    intro z' H locs pc ls h
    cases h
    exact ret0
  replace hl : lv_has ls 1 [(0, .ref a0)] := hl
  unfold f_X8_hasRoom at hf
  refine lv_aload_n hx hb dX8_hasRoom_0 rfl (lv_at hl 0 rfl) ?_
  refine G8_35 hx hb htg hown hK hP 0 rfl dX8_hasRoom_1 ?_
  refine lv_bipush (v := 20) hx hb dX8_hasRoom_4 rfl ?_
  refine lv_iadd hx hb dX8_hasRoom_6 ?_
  refine lv_sipush (v := 900) hx hb dX8_hasRoom_7 rfl ?_
  refine lv_icmp_gt (tgt := 17) hx hb dX8_hasRoom_10 (by decide) (fun c10 => ?_) (fun c10 => ?_)
  · have hf := it_t c10 hf
    refine lv_iconst (v := 0) hx hb dX8_hasRoom_17 rfl ?_
    exact ret 0 hf nz0 hP hS dX8_hasRoom_18
  · have hf := it_f c10 hf
    refine lv_iconst (v := 1) hx hb dX8_hasRoom_13 rfl ?_
    refine lv_goto (tgt := 18) hx hb dX8_hasRoom_14 (by decide) ?_
    exact ret 1 hf nz1 hP hS dX8_hasRoom_18
theorem dX8_empty_0 : decode cX8_empty 0 = .ok (.aload_n 0, 1) := by decide +kernel
theorem dX8_empty_1 : decode cX8_empty 1 = .ok (.iconst 0, 1) := by decide +kernel
theorem dX8_empty_2 : decode cX8_empty 2 = .ok (.putfield 35, 3) := by decide +kernel
theorem dX8_empty_5 : decode cX8_empty 5 = .ok (.return_, 1) := by decide +kernel
set_option maxRecDepth 100000 in
theorem c_X8_empty (l : Launch) (E : xE) (a0 : Nat) {T0 : Nat → Int32} {J0_8 : Int64} {u0_0 u0_1 : Nat} {z : (Nat → Int32)} (hf : f_X8_empty T0 = some z) (sz : Nat) : Met l yX8_empty (Cond.code yX8_empty cX8_empty 1 none :: gw) ({ frames := 0, cells := 0, slots := 0, locals := 0 }) (xPc E [.ref a0] [(a0, o8 T0 J0_8 u0_0 u0_1)] sz) (xQv E [(a0, o8 T0 J0_8 u0_0 u0_1)] [(a0, o8 z J0_8 u0_0 u0_1)] sz) 0 0 (va_A [(a0, o8 T0 J0_8 u0_0 u0_1)] sz) := by
  refine xM_v (by decide +kernel) (Nat.le_of_ble_eq_true rfl) ?_
  intro p e s m args below meth c A Q hx hb hml hown htg hK hG hA ret0 H locs ls hP hD hS hl
  have ret : ∀ (z' : (Nat → Int32)) {H : Heap} {locs : List Loc} {pc : Nat} {ls : Array Slot}, some z' = some z → va_P E.1 vwCl [(a0, o8 z' J0_8 u0_0 u0_1)] H → va_S A s.heap H locs → decode cX8_empty pc = .ok (.return_, 1) → W p l e ({ frames := 0, cells := 0, slots := 0, locals := 0 } : Room) s m args below meth c H locs 0 0 Q (F0 m pc ls []) := by
    intro z' H locs pc ls h
    cases h
    exact ret0
  replace hl : lv_has ls 1 [(0, .ref a0)] := hl
  unfold f_X8_empty at hf
  refine lv_aload_n hx hb dX8_empty_0 rfl (lv_at hl 0 rfl) ?_
  refine lv_iconst (v := 0) hx hb dX8_empty_1 rfl ?_
  refine P8_35 hx hb htg hown hK hP hD hS 0 rfl dX8_empty_2 (fun H locs hP hD hS => ?_)
  exact ret (upd T0 2 0) hf hP hS dX8_empty_5
theorem dX8_add_0 : decode cX8_add 0 = .ok (.bipush 24, 2) := by decide +kernel
theorem dX8_add_2 : decode cX8_add 2 = .ok (.istore_n 2, 1) := by decide +kernel
theorem dX8_add_3 : decode cX8_add 3 = .ok (.iload_n 2, 1) := by decide +kernel
theorem dX8_add_4 : decode cX8_add 4 = .ok (.ifCond .lt 42, 3) := by decide +kernel
theorem dX8_add_7 : decode cX8_add 7 = .ok (.aload_n 0, 1) := by decide +kernel
theorem dX8_add_8 : decode cX8_add 8 = .ok (.getfield 35, 3) := by decide +kernel
theorem dX8_add_11 : decode cX8_add 11 = .ok (.sipush 900, 3) := by decide +kernel
theorem dX8_add_14 : decode cX8_add 14 = .ok (.if_icmp .ge 26, 3) := by decide +kernel
theorem dX8_add_17 : decode cX8_add 17 = .ok (.aload_n 0, 1) := by decide +kernel
theorem dX8_add_18 : decode cX8_add 18 = .ok (.getfield 11, 3) := by decide +kernel
theorem dX8_add_21 : decode cX8_add 21 = .ok (.aload_n 0, 1) := by decide +kernel
theorem dX8_add_22 : decode cX8_add 22 = .ok (.getfield 35, 3) := by decide +kernel
theorem dX8_add_25 : decode cX8_add 25 = .ok (.iload_n 1, 1) := by decide +kernel
theorem dX8_add_26 : decode cX8_add 26 = .ok (.iload_n 2, 1) := by decide +kernel
theorem dX8_add_27 : decode cX8_add 27 = .ok (.ishr, 1) := by decide +kernel
theorem dX8_add_28 : decode cX8_add 28 = .ok (.i2b, 1) := by decide +kernel
theorem dX8_add_29 : decode cX8_add 29 = .ok (.bastore, 1) := by decide +kernel
theorem dX8_add_30 : decode cX8_add 30 = .ok (.aload_n 0, 1) := by decide +kernel
theorem dX8_add_31 : decode cX8_add 31 = .ok (.dup, 1) := by decide +kernel
theorem dX8_add_32 : decode cX8_add 32 = .ok (.getfield 35, 3) := by decide +kernel
theorem dX8_add_35 : decode cX8_add 35 = .ok (.iconst 1, 1) := by decide +kernel
theorem dX8_add_36 : decode cX8_add 36 = .ok (.iadd, 1) := by decide +kernel
theorem dX8_add_37 : decode cX8_add 37 = .ok (.putfield 35, 3) := by decide +kernel
theorem dX8_add_40 : decode cX8_add 40 = .ok (.iinc 2 (-8), 3) := by decide +kernel
theorem dX8_add_43 : decode cX8_add 43 = .ok (.goto (-40), 3) := by decide +kernel
theorem dX8_add_46 : decode cX8_add 46 = .ok (.return_, 1) := by decide +kernel
set_option maxRecDepth 100000 in
theorem c_X8_add (l : Launch) (E : xE) (a0 a1 : Nat) {T0 : Nat → Int32} {J0_8 : Int64} {V1 : Nat → Int32} {u0_1 : Nat} {x1 : Int32} {z : (Nat → Int32) × (Nat → Int32)} (hf : f_X8_add T0 V1 x1 = some z) (sz : Nat) : Met l yX8_add (Cond.code yX8_add cX8_add 3 none :: gw) ({ frames := 0, cells := 0, slots := 0, locals := 0 }) (xPc E [.ref a0, .int x1] [(a0, o8 T0 J0_8 a1 u0_1), (a1, ab E 900 V1)] sz) (xQv E [(a0, o8 T0 J0_8 a1 u0_1), (a1, ab E 900 V1)] [(a0, o8 z.1 J0_8 a1 u0_1), (a1, ab E 900 z.2)] sz) 0 0 (va_A [(a0, o8 T0 J0_8 a1 u0_1), (a1, ab E 900 V1)] sz) := by
  refine xM_v (by decide +kernel) (Nat.le_of_ble_eq_true rfl) ?_
  intro p e s m args below meth c A Q hx hb hml hown htg hK hG hA ret0 H locs ls hP hD hS hl
  have ret : ∀ (z' : (Nat → Int32) × (Nat → Int32)) {H : Heap} {locs : List Loc} {pc : Nat} {ls : Array Slot}, some z' = some z → va_P E.1 vwCl [(a0, o8 z'.1 J0_8 a1 u0_1), (a1, ab E 900 z'.2)] H → va_S A s.heap H locs → decode cX8_add pc = .ok (.return_, 1) → W p l e ({ frames := 0, cells := 0, slots := 0, locals := 0 } : Room) s m args below meth c H locs 0 0 Q (F0 m pc ls []) := by
    intro z' H locs pc ls h
    cases h
    exact ret0
  replace hl : lv_has ls 3 [(0, .ref a0), (1, .int x1)] := hl
  have b3 : ∀ (n : Nat) (x2 : Int32) (T0 : Nat → Int32) (V1 : Nat → Int32) (H : Heap) (locs : List Loc) (ls : Array Slot), f_X8_add_3 x1 n x2 T0 V1 = some z → va_P E.1 vwCl [(a0, o8 T0 J0_8 a1 u0_1), (a1, ab E 900 V1)] H → va_D A [(a0, o8 T0 J0_8 a1 u0_1), (a1, ab E 900 V1)] → va_S A s.heap H locs → lv_has ls 3 [(0, .ref a0), (1, .int x1), (2, .int x2)] → W p l e ({ frames := 0, cells := 0, slots := 0, locals := 0 } : Room) s m args below meth c H locs 0 0 Q (F0 m 3 ls []) := by
    intro n
    induction n with
    | zero => intro x2 T0 V1 H locs ls hf; exact (nn_s hf).elim
    | succ n ih3 =>
      obtain ⟨k3, ek3⟩ : ∃ k, k = f_X8_add_3 x1 n := ⟨_, rfl⟩
      rw [← ek3] at ih3
      intro x2 T0 V1 H locs ls hf hP hD hS hl
      replace hf : g_X8_add_3 x1 k3 x2 T0 V1 = some z := by rw [ek3]; exact hf
      unfold g_X8_add_3 at hf
      refine lv_iload_n hx hb dX8_add_3 rfl (lv_at hl 2 rfl) ?_
      refine lv_if_lt (tgt := 46) hx hb dX8_add_4 (by decide) (fun c4 => ?_) (fun c4 => ?_)
      · have hf := it_t c4 hf
        exact ret (T0, V1) hf hP hS dX8_add_46
      · have hf := it_f c4 hf
        refine lv_aload_n hx hb dX8_add_7 rfl (lv_at hl 0 rfl) ?_
        refine G8_35 hx hb htg hown hK hP 0 rfl dX8_add_8 ?_
        refine lv_sipush (v := 900) hx hb dX8_add_11 rfl ?_
        refine lv_icmp_ge (tgt := 40) hx hb dX8_add_14 (by decide) (fun c14 => ?_) (fun c14 => ?_)
        · have hf := it_t c14 hf
          refine lv_iinc (v := x2 + (-8)) (lv' := [(2, .int (x2 + (-8))), (0, .ref a0), (1, .int x1)]) hx hb dX8_add_40 hl (k := 2) rfl rfl (by decide) rfl (fun ls hl => ?_)
          refine lv_goto (tgt := 3) hx hb dX8_add_43 (by decide) ?_
          exact ih3 (x2 + (-8)) T0 V1 _ _ _ hf hP hD hS (lv_sub hl [1, 2, 0] rfl)
        · have hf := it_f c14 hf
          refine lv_aload_n hx hb dX8_add_17 rfl (lv_at hl 0 rfl) ?_
          refine G8_11 hx hb htg hown hK hP 0 rfl dX8_add_18 ?_
          refine lv_aload_n hx hb dX8_add_21 rfl (lv_at hl 0 rfl) ?_
          refine G8_35 hx hb htg hown hK hP 0 rfl dX8_add_22 ?_
          refine lv_iload_n hx hb dX8_add_25 rfl (lv_at hl 1 rfl) ?_
          refine lv_iload_n hx hb dX8_add_26 rfl (lv_at hl 2 rfl) ?_
          refine lv_ishr hx hb dX8_add_27 ?_
          refine lv_i2b hx hb dX8_add_28 rfl ?_
          obtain ⟨g29, hf⟩ := ck_s hf
          refine xbast hx hb hK hP hD hS 1 rfl g29 dX8_add_29 (fun H locs hP hD hS => ?_)
          refine lv_aload_n hx hb dX8_add_30 rfl (lv_at hl 0 rfl) ?_
          refine lv_dup hx hb dX8_add_31 rfl ?_
          refine G8_35 hx hb htg hown hK hP 0 rfl dX8_add_32 ?_
          refine lv_iconst (v := 1) hx hb dX8_add_35 rfl ?_
          refine lv_iadd hx hb dX8_add_36 ?_
          refine P8_35 hx hb htg hown hK hP hD hS 0 rfl dX8_add_37 (fun H locs hP hD hS => ?_)
          refine lv_iinc (v := x2 + (-8)) (lv' := [(2, .int (x2 + (-8))), (0, .ref a0), (1, .int x1)]) hx hb dX8_add_40 hl (k := 2) rfl rfl (by decide) rfl (fun ls hl => ?_)
          refine lv_goto (tgt := 3) hx hb dX8_add_43 (by decide) ?_
          exact ih3 (x2 + (-8)) (upd T0 2 ((T0 2) + 1)) (upd V1 (Int32.toNatClampNeg (T0 2)) (vp_nar .byte (Int8.toInt32 (Int32.toInt8 (x1 >>> (x2 &&& 31)))))) _ _ _ hf hP hD hS (lv_sub hl [1, 2, 0] rfl)
  unfold f_X8_add at hf
  refine lv_bipush (v := 24) hx hb dX8_add_0 rfl ?_
  refine lv_istore_n (lv' := [(2, .int 24), (0, .ref a0), (1, .int x1)]) hx hb dX8_add_2 rfl hl (by decide) rfl (fun ls hl => ?_)
  exact b3 xF 24 T0 V1 _ _ _ hf hP hD hS (lv_sub hl [1, 2, 0] rfl)
theorem dX8_begin_0 : decode cX8_begin 0 = .ok (.aload_n 0, 1) := by decide +kernel
theorem dX8_begin_1 : decode cX8_begin 1 = .ok (.iconst 0, 1) := by decide +kernel
theorem dX8_begin_2 : decode cX8_begin 2 = .ok (.iload_n 1, 1) := by decide +kernel
theorem dX8_begin_3 : decode cX8_begin 3 = .ok (.aload_n 0, 1) := by decide +kernel
theorem dX8_begin_4 : decode cX8_begin 4 = .ok (.getfield 35, 3) := by decide +kernel
theorem dX8_begin_7 : decode cX8_begin 7 = .ok (.invokestatic 38, 3) := by decide +kernel
theorem dX8_begin_10 : decode cX8_begin 10 = .ok (.invokestatic 44, 3) := by decide +kernel
theorem dX8_begin_13 : decode cX8_begin 13 = .ok (.putfield 47, 3) := by decide +kernel
theorem dX8_begin_16 : decode cX8_begin 16 = .ok (.aload_n 0, 1) := by decide +kernel
theorem dX8_begin_17 : decode cX8_begin 17 = .ok (.iconst 0, 1) := by decide +kernel
theorem dX8_begin_18 : decode cX8_begin 18 = .ok (.putfield 50, 3) := by decide +kernel
theorem dX8_begin_21 : decode cX8_begin 21 = .ok (.aload_n 0, 1) := by decide +kernel
theorem dX8_begin_22 : decode cX8_begin 22 = .ok (.iconst 0, 1) := by decide +kernel
theorem dX8_begin_23 : decode cX8_begin 23 = .ok (.putfield 53, 3) := by decide +kernel
theorem dX8_begin_26 : decode cX8_begin 26 = .ok (.aload_n 0, 1) := by decide +kernel
theorem dX8_begin_27 : decode cX8_begin 27 = .ok (.iconst (-1), 1) := by decide +kernel
theorem dX8_begin_28 : decode cX8_begin 28 = .ok (.putfield 56, 3) := by decide +kernel
theorem dX8_begin_31 : decode cX8_begin 31 = .ok (.aload_n 0, 1) := by decide +kernel
theorem dX8_begin_32 : decode cX8_begin 32 = .ok (.invokevirtual 59, 3) := by decide +kernel
theorem dX8_begin_35 : decode cX8_begin 35 = .ok (.return_, 1) := by decide +kernel
set_option maxRecDepth 100000 in
theorem c_X8_begin (l : Launch) (E : xE) (a0 a1 a2 : Nat) {T0 : Nat → Int32} {J0_8 : Int64} {V1 : Nat → Int32} {V2 : Nat → Int64} {x1 : Int32} {z : (Nat → Int32) × Int64} (hf : f_X8_begin T0 J0_8 V1 V2 x1 = some z) (sz : Nat) : Met l yX8_begin (Cond.code yX8_begin cX8_begin 2 none :: gw) ({ frames := 2, cells := 0, slots := 0, locals := 41 }) (xPc E [.ref a0, .int x1] [(a0, o8 T0 J0_8 a1 a2), (a1, ab E 900 V1), (a2, al E 23 V2)] sz) (xQv E [(a0, o8 T0 J0_8 a1 a2), (a1, ab E 900 V1), (a2, al E 23 V2)] [(a0, o8 z.1 z.2 a1 a2), (a1, ab E 900 V1), (a2, al E 23 V2)] sz) 0 0 (va_A [(a0, o8 T0 J0_8 a1 a2), (a1, ab E 900 V1), (a2, al E 23 V2)] sz) := by
  refine xM_v (by decide +kernel) (Nat.le_of_ble_eq_true rfl) ?_
  intro p e s m args below meth c A Q hx hb hml hown htg hK hG hA ret0 H locs ls hP hD hS hl
  have ret : ∀ (z' : (Nat → Int32) × Int64) {H : Heap} {locs : List Loc} {pc : Nat} {ls : Array Slot}, some z' = some z → va_P E.1 vwCl [(a0, o8 z'.1 z'.2 a1 a2), (a1, ab E 900 V1), (a2, al E 23 V2)] H → va_S A s.heap H locs → decode cX8_begin pc = .ok (.return_, 1) → W p l e ({ frames := 2, cells := 0, slots := 0, locals := 41 } : Room) s m args below meth c H locs 0 0 Q (F0 m pc ls []) := by
    intro z' H locs pc ls h
    cases h
    exact ret0
  replace hl : lv_has ls 2 [(0, .ref a0), (1, .int x1)] := hl
  unfold f_X8_begin at hf
  refine lv_aload_n hx hb dX8_begin_0 rfl (lv_at hl 0 rfl) ?_
  refine lv_iconst (v := 0) hx hb dX8_begin_1 rfl ?_
  refine lv_iload_n hx hb dX8_begin_2 rfl (lv_at hl 1 rfl) ?_
  refine lv_aload_n hx hb dX8_begin_3 rfl (lv_at hl 0 rfl) ?_
  refine G8_35 hx hb htg hown hK hP 0 rfl dX8_begin_4 ?_
  refine xmin hx hb hml hl.1 hown htg ml8_38 (Nat.le_of_ble_eq_true rfl) (Nat.le_of_ble_eq_true rfl) dX8_begin_7 ?_
  refine lv_topi (fun w7 ew7 => ?_)
  have hf := letv_s ew7 hf
  refine xmax hx hb hml hl.1 hown htg ml8_44 (Nat.le_of_ble_eq_true rfl) (Nat.le_of_ble_eq_true rfl) dX8_begin_10 ?_
  refine lv_topi (fun w10 ew10 => ?_)
  have hf := letv_s ew10 hf
  refine P8_47 hx hb htg hown hK hP hD hS 0 rfl dX8_begin_13 (fun H locs hP hD hS => ?_)
  refine lv_aload_n hx hb dX8_begin_16 rfl (lv_at hl 0 rfl) ?_
  refine lv_iconst (v := 0) hx hb dX8_begin_17 rfl ?_
  refine P8_50 hx hb htg hown hK hP hD hS 0 rfl dX8_begin_18 (fun H locs hP hD hS => ?_)
  refine lv_aload_n hx hb dX8_begin_21 rfl (lv_at hl 0 rfl) ?_
  refine lv_iconst (v := 0) hx hb dX8_begin_22 rfl ?_
  refine P8_53 hx hb htg hown hK hP hD hS 0 rfl dX8_begin_23 (fun H locs hP hD hS => ?_)
  replace hP : va_P E.1 vwCl [(a0, o8 (upd (upd (upd T0 3 w10) 6 0) 9 0) J0_8 a1 a2), (a1, ab E 900 V1), (a2, al E 23 V2)] H := hP
  replace hD : va_D A [(a0, o8 (upd (upd (upd T0 3 w10) 6 0) 9 0) J0_8 a1 a2), (a1, ab E 900 V1), (a2, al E 23 V2)] := hD
  refine lv_aload_n hx hb dX8_begin_26 rfl (lv_at hl 0 rfl) ?_
  refine lv_iconst (v := (-1)) hx hb dX8_begin_27 rfl ?_
  refine P8_56 hx hb htg hown hK hP hD hS 0 rfl dX8_begin_28 (fun H locs hP hD hS => ?_)
  refine lv_aload_n hx hb dX8_begin_31 rfl (lv_at hl 0 rfl) ?_
  obtain ⟨z32, hz32, hf⟩ := bind_s hf
  refine xV_vu hx hb hml hown htg L8_59 (c_X8_advance l E a0 a1 a2 hz32 _) ⟨⟨rfl, rfl⟩, Nat.le_of_ble_eq_true rfl, Nat.le_of_ble_eq_true rfl⟩ hK hG hA hP hD hS (is := [0, 1, 2]) (sel := [some 0, some 1, some 2]) (ws2 := [(a0, o8 z32.1 z32.2 a1 a2), (a1, ab E 900 V1), (a2, al E 23 V2)]) rfl rfl rfl rfl rfl (xrecv hK hP (q0 := 0) (ci := 8) rfl rfl) rfl hl.1 rfl (Nat.le_of_ble_eq_true rfl) dX8_begin_32 (fun H locs hP hD hS => ?_)
  exact ret (z32.1, z32.2) hf hP hS dX8_begin_35
theorem dX8_blamedFor_0 : decode cX8_blamedFor 0 = .ok (.aload_n 0, 1) := by decide +kernel
theorem dX8_blamedFor_1 : decode cX8_blamedFor 1 = .ok (.getfield 53, 3) := by decide +kernel
theorem dX8_blamedFor_4 : decode cX8_blamedFor 4 = .ok (.ireturn, 1) := by decide +kernel
set_option maxRecDepth 100000 in
theorem c_X8_blamedFor (l : Launch) (E : xE) (a0 : Nat) {T0 : Nat → Int32} {J0_8 : Int64} {u0_0 u0_1 : Nat} {z : Int32} (hf : f_X8_blamedFor T0 = some z) (sz : Nat) : Met l yX8_blamedFor (Cond.code yX8_blamedFor cX8_blamedFor 1 (some .int) :: gw) ({ frames := 0, cells := 0, slots := 0, locals := 0 }) (xPc E [.ref a0] [(a0, o8 T0 J0_8 u0_0 u0_1)] sz) (xQi E z [(a0, o8 T0 J0_8 u0_0 u0_1)] [(a0, o8 T0 J0_8 u0_0 u0_1)] sz) 0 0 (va_A [(a0, o8 T0 J0_8 u0_0 u0_1)] sz) := by
  refine xM_i (by decide +kernel) (Nat.le_of_ble_eq_true rfl) ?_
  intro p e s m args below meth c A Q hx hb hml hown htg hK hG hA ret0 H locs ls hP hD hS hl
  have ret : ∀ (z' : Int32) {H : Heap} {locs : List Loc} {pc : Nat} {ls : Array Slot}, some z' = some z → narrow .int (.int z') = .int z' → va_P E.1 vwCl [(a0, o8 T0 J0_8 u0_0 u0_1)] H → va_S A s.heap H locs → decode cX8_blamedFor pc = .ok (.ireturn, 1) → W p l e ({ frames := 0, cells := 0, slots := 0, locals := 0 } : Room) s m args below meth c H locs 0 0 Q (F0 m pc ls [.int z']) := by
    intro z' H locs pc ls h
    cases h
    exact ret0
  replace hl : lv_has ls 1 [(0, .ref a0)] := hl
  unfold f_X8_blamedFor at hf
  refine lv_aload_n hx hb dX8_blamedFor_0 rfl (lv_at hl 0 rfl) ?_
  refine G8_53 hx hb htg hown hK hP 0 rfl dX8_blamedFor_1 ?_
  exact ret (T0 9) hf nzi hP hS dX8_blamedFor_4
theorem dX8_blamedAt_0 : decode cX8_blamedAt 0 = .ok (.aload_n 0, 1) := by decide +kernel
theorem dX8_blamedAt_1 : decode cX8_blamedAt 1 = .ok (.getfield 56, 3) := by decide +kernel
theorem dX8_blamedAt_4 : decode cX8_blamedAt 4 = .ok (.ireturn, 1) := by decide +kernel
set_option maxRecDepth 100000 in
theorem c_X8_blamedAt (l : Launch) (E : xE) (a0 : Nat) {T0 : Nat → Int32} {J0_8 : Int64} {u0_0 u0_1 : Nat} {z : Int32} (hf : f_X8_blamedAt T0 = some z) (sz : Nat) : Met l yX8_blamedAt (Cond.code yX8_blamedAt cX8_blamedAt 1 (some .int) :: gw) ({ frames := 0, cells := 0, slots := 0, locals := 0 }) (xPc E [.ref a0] [(a0, o8 T0 J0_8 u0_0 u0_1)] sz) (xQi E z [(a0, o8 T0 J0_8 u0_0 u0_1)] [(a0, o8 T0 J0_8 u0_0 u0_1)] sz) 0 0 (va_A [(a0, o8 T0 J0_8 u0_0 u0_1)] sz) := by
  refine xM_i (by decide +kernel) (Nat.le_of_ble_eq_true rfl) ?_
  intro p e s m args below meth c A Q hx hb hml hown htg hK hG hA ret0 H locs ls hP hD hS hl
  have ret : ∀ (z' : Int32) {H : Heap} {locs : List Loc} {pc : Nat} {ls : Array Slot}, some z' = some z → narrow .int (.int z') = .int z' → va_P E.1 vwCl [(a0, o8 T0 J0_8 u0_0 u0_1)] H → va_S A s.heap H locs → decode cX8_blamedAt pc = .ok (.ireturn, 1) → W p l e ({ frames := 0, cells := 0, slots := 0, locals := 0 } : Room) s m args below meth c H locs 0 0 Q (F0 m pc ls [.int z']) := by
    intro z' H locs pc ls h
    cases h
    exact ret0
  replace hl : lv_has ls 1 [(0, .ref a0)] := hl
  unfold f_X8_blamedAt at hf
  refine lv_aload_n hx hb dX8_blamedAt_0 rfl (lv_at hl 0 rfl) ?_
  refine G8_56 hx hb htg hown hK hP 0 rfl dX8_blamedAt_1 ?_
  exact ret (T0 10) hf nzi hP hS dX8_blamedAt_4
theorem dX8_atEnd_0 : decode cX8_atEnd 0 = .ok (.aload_n 0, 1) := by decide +kernel
theorem dX8_atEnd_1 : decode cX8_atEnd 1 = .ok (.getfield 62, 3) := by decide +kernel
theorem dX8_atEnd_4 : decode cX8_atEnd 4 = .ok (.ifCond .ne 7, 3) := by decide +kernel
theorem dX8_atEnd_7 : decode cX8_atEnd 7 = .ok (.iconst 1, 1) := by decide +kernel
theorem dX8_atEnd_8 : decode cX8_atEnd 8 = .ok (.goto 4, 3) := by decide +kernel
theorem dX8_atEnd_11 : decode cX8_atEnd 11 = .ok (.iconst 0, 1) := by decide +kernel
theorem dX8_atEnd_12 : decode cX8_atEnd 12 = .ok (.ireturn, 1) := by decide +kernel
set_option maxRecDepth 100000 in
theorem c_X8_atEnd (l : Launch) (E : xE) (a0 : Nat) {T0 : Nat → Int32} {J0_8 : Int64} {u0_0 u0_1 : Nat} {z : Int32} (hf : f_X8_atEnd T0 = some z) (sz : Nat) : Met l yX8_atEnd (Cond.code yX8_atEnd cX8_atEnd 1 (some .boolean) :: gw) ({ frames := 0, cells := 0, slots := 0, locals := 0 }) (xPc E [.ref a0] [(a0, o8 T0 J0_8 u0_0 u0_1)] sz) (xQi E z [(a0, o8 T0 J0_8 u0_0 u0_1)] [(a0, o8 T0 J0_8 u0_0 u0_1)] sz) 0 0 (va_A [(a0, o8 T0 J0_8 u0_0 u0_1)] sz) := by
  refine xM_i (by decide +kernel) (Nat.le_of_ble_eq_true rfl) ?_
  intro p e s m args below meth c A Q hx hb hml hown htg hK hG hA ret0 H locs ls hP hD hS hl
  have ret : ∀ (z' : Int32) {H : Heap} {locs : List Loc} {pc : Nat} {ls : Array Slot}, some z' = some z → narrow .boolean (.int z') = .int z' → va_P E.1 vwCl [(a0, o8 T0 J0_8 u0_0 u0_1)] H → va_S A s.heap H locs → decode cX8_atEnd pc = .ok (.ireturn, 1) → W p l e ({ frames := 0, cells := 0, slots := 0, locals := 0 } : Room) s m args below meth c H locs 0 0 Q (F0 m pc ls [.int z']) := by
    intro z' H locs pc ls h
    cases h
    exact ret0
  replace hl : lv_has ls 1 [(0, .ref a0)] := hl
  unfold f_X8_atEnd at hf
  refine lv_aload_n hx hb dX8_atEnd_0 rfl (lv_at hl 0 rfl) ?_
  refine G8_62 hx hb htg hown hK hP 0 rfl dX8_atEnd_1 ?_
  refine lv_if_ne (tgt := 11) hx hb dX8_atEnd_4 (by decide) (fun c4 => ?_) (fun c4 => ?_)
  · have hf := it_f c4 hf
    refine lv_iconst (v := 0) hx hb dX8_atEnd_11 rfl ?_
    exact ret 0 hf nz0 hP hS dX8_atEnd_12
  · have hf := it_t c4 hf
    refine lv_iconst (v := 1) hx hb dX8_atEnd_7 rfl ?_
    refine lv_goto (tgt := 12) hx hb dX8_atEnd_8 (by decide) ?_
    exact ret 1 hf nz1 hP hS dX8_atEnd_12
theorem dX8_isAnyWord_0 : decode cX8_isAnyWord 0 = .ok (.aload_n 0, 1) := by decide +kernel
theorem dX8_isAnyWord_1 : decode cX8_isAnyWord 1 = .ok (.getfield 62, 3) := by decide +kernel
theorem dX8_isAnyWord_4 : decode cX8_isAnyWord 4 = .ok (.iconst 1, 1) := by decide +kernel
theorem dX8_isAnyWord_5 : decode cX8_isAnyWord 5 = .ok (.if_icmp .ne 7, 3) := by decide +kernel
theorem dX8_isAnyWord_8 : decode cX8_isAnyWord 8 = .ok (.iconst 1, 1) := by decide +kernel
theorem dX8_isAnyWord_9 : decode cX8_isAnyWord 9 = .ok (.goto 4, 3) := by decide +kernel
theorem dX8_isAnyWord_12 : decode cX8_isAnyWord 12 = .ok (.iconst 0, 1) := by decide +kernel
theorem dX8_isAnyWord_13 : decode cX8_isAnyWord 13 = .ok (.ireturn, 1) := by decide +kernel
set_option maxRecDepth 100000 in
theorem c_X8_isAnyWord (l : Launch) (E : xE) (a0 : Nat) {T0 : Nat → Int32} {J0_8 : Int64} {u0_0 u0_1 : Nat} {z : Int32} (hf : f_X8_isAnyWord T0 = some z) (sz : Nat) : Met l yX8_isAnyWord (Cond.code yX8_isAnyWord cX8_isAnyWord 1 (some .boolean) :: gw) ({ frames := 0, cells := 0, slots := 0, locals := 0 }) (xPc E [.ref a0] [(a0, o8 T0 J0_8 u0_0 u0_1)] sz) (xQi E z [(a0, o8 T0 J0_8 u0_0 u0_1)] [(a0, o8 T0 J0_8 u0_0 u0_1)] sz) 0 0 (va_A [(a0, o8 T0 J0_8 u0_0 u0_1)] sz) := by
  refine xM_i (by decide +kernel) (Nat.le_of_ble_eq_true rfl) ?_
  intro p e s m args below meth c A Q hx hb hml hown htg hK hG hA ret0 H locs ls hP hD hS hl
  have ret : ∀ (z' : Int32) {H : Heap} {locs : List Loc} {pc : Nat} {ls : Array Slot}, some z' = some z → narrow .boolean (.int z') = .int z' → va_P E.1 vwCl [(a0, o8 T0 J0_8 u0_0 u0_1)] H → va_S A s.heap H locs → decode cX8_isAnyWord pc = .ok (.ireturn, 1) → W p l e ({ frames := 0, cells := 0, slots := 0, locals := 0 } : Room) s m args below meth c H locs 0 0 Q (F0 m pc ls [.int z']) := by
    intro z' H locs pc ls h
    cases h
    exact ret0
  replace hl : lv_has ls 1 [(0, .ref a0)] := hl
  unfold f_X8_isAnyWord at hf
  refine lv_aload_n hx hb dX8_isAnyWord_0 rfl (lv_at hl 0 rfl) ?_
  refine G8_62 hx hb htg hown hK hP 0 rfl dX8_isAnyWord_1 ?_
  refine lv_iconst (v := 1) hx hb dX8_isAnyWord_4 rfl ?_
  refine lv_icmp_ne (tgt := 12) hx hb dX8_isAnyWord_5 (by decide) (fun c5 => ?_) (fun c5 => ?_)
  · have hf := it_f c5 hf
    refine lv_iconst (v := 0) hx hb dX8_isAnyWord_12 rfl ?_
    exact ret 0 hf nz0 hP hS dX8_isAnyWord_13
  · have hf := it_t c5 hf
    refine lv_iconst (v := 1) hx hb dX8_isAnyWord_8 rfl ?_
    refine lv_goto (tgt := 13) hx hb dX8_isAnyWord_9 (by decide) ?_
    exact ret 1 hf nz1 hP hS dX8_isAnyWord_13
theorem dX8_word_0 : decode cX8_word 0 = .ok (.aload_n 0, 1) := by decide +kernel
theorem dX8_word_1 : decode cX8_word 1 = .ok (.getfield 62, 3) := by decide +kernel
theorem dX8_word_4 : decode cX8_word 4 = .ok (.iconst 1, 1) := by decide +kernel
theorem dX8_word_5 : decode cX8_word 5 = .ok (.if_icmp .ne 10, 3) := by decide +kernel
theorem dX8_word_8 : decode cX8_word 8 = .ok (.aload_n 0, 1) := by decide +kernel
theorem dX8_word_9 : decode cX8_word 9 = .ok (.getfield 68, 3) := by decide +kernel
theorem dX8_word_12 : decode cX8_word 12 = .ok (.goto 4, 3) := by decide +kernel
theorem dX8_word_15 : decode cX8_word 15 = .ok (.iconst (-1), 1) := by decide +kernel
theorem dX8_word_16 : decode cX8_word 16 = .ok (.ireturn, 1) := by decide +kernel
set_option maxRecDepth 100000 in
theorem c_X8_word (l : Launch) (E : xE) (a0 : Nat) {T0 : Nat → Int32} {J0_8 : Int64} {u0_0 u0_1 : Nat} {z : Int32} (hf : f_X8_word T0 = some z) (sz : Nat) : Met l yX8_word (Cond.code yX8_word cX8_word 1 (some .int) :: gw) ({ frames := 0, cells := 0, slots := 0, locals := 0 }) (xPc E [.ref a0] [(a0, o8 T0 J0_8 u0_0 u0_1)] sz) (xQi E z [(a0, o8 T0 J0_8 u0_0 u0_1)] [(a0, o8 T0 J0_8 u0_0 u0_1)] sz) 0 0 (va_A [(a0, o8 T0 J0_8 u0_0 u0_1)] sz) := by
  refine xM_i (by decide +kernel) (Nat.le_of_ble_eq_true rfl) ?_
  intro p e s m args below meth c A Q hx hb hml hown htg hK hG hA ret0 H locs ls hP hD hS hl
  have ret : ∀ (z' : Int32) {H : Heap} {locs : List Loc} {pc : Nat} {ls : Array Slot}, some z' = some z → narrow .int (.int z') = .int z' → va_P E.1 vwCl [(a0, o8 T0 J0_8 u0_0 u0_1)] H → va_S A s.heap H locs → decode cX8_word pc = .ok (.ireturn, 1) → W p l e ({ frames := 0, cells := 0, slots := 0, locals := 0 } : Room) s m args below meth c H locs 0 0 Q (F0 m pc ls [.int z']) := by
    intro z' H locs pc ls h
    cases h
    exact ret0
  replace hl : lv_has ls 1 [(0, .ref a0)] := hl
  unfold f_X8_word at hf
  refine lv_aload_n hx hb dX8_word_0 rfl (lv_at hl 0 rfl) ?_
  refine G8_62 hx hb htg hown hK hP 0 rfl dX8_word_1 ?_
  refine lv_iconst (v := 1) hx hb dX8_word_4 rfl ?_
  refine lv_icmp_ne (tgt := 15) hx hb dX8_word_5 (by decide) (fun c5 => ?_) (fun c5 => ?_)
  · have hf := it_f c5 hf
    refine lv_iconst (v := (-1)) hx hb dX8_word_15 rfl ?_
    exact ret (-1) hf nzi hP hS dX8_word_16
  · have hf := it_t c5 hf
    refine lv_aload_n hx hb dX8_word_8 rfl (lv_at hl 0 rfl) ?_
    refine G8_68 hx hb htg hown hK hP 0 rfl dX8_word_9 ?_
    refine lv_goto (tgt := 16) hx hb dX8_word_12 (by decide) ?_
    exact ret (T0 7) hf nzi hP hS dX8_word_16
theorem dX8_letter_0 : decode cX8_letter 0 = .ok (.iload_n 1, 1) := by decide +kernel
theorem dX8_letter_1 : decode cX8_letter 1 = .ok (.iconst 0, 1) := by decide +kernel
theorem dX8_letter_2 : decode cX8_letter 2 = .ok (.aload_n 0, 1) := by decide +kernel
theorem dX8_letter_3 : decode cX8_letter 3 = .ok (.invokevirtual 71, 3) := by decide +kernel
theorem dX8_letter_6 : decode cX8_letter 6 = .ok (.iconst 1, 1) := by decide +kernel
theorem dX8_letter_7 : decode cX8_letter 7 = .ok (.isub, 1) := by decide +kernel
theorem dX8_letter_8 : decode cX8_letter 8 = .ok (.invokestatic 74, 3) := by decide +kernel
theorem dX8_letter_11 : decode cX8_letter 11 = .ok (.ifCond .eq 17, 3) := by decide +kernel
theorem dX8_letter_14 : decode cX8_letter 14 = .ok (.aload_n 0, 1) := by decide +kernel
theorem dX8_letter_15 : decode cX8_letter 15 = .ok (.getfield 11, 3) := by decide +kernel
theorem dX8_letter_18 : decode cX8_letter 18 = .ok (.aload_n 0, 1) := by decide +kernel
theorem dX8_letter_19 : decode cX8_letter 19 = .ok (.getfield 65, 3) := by decide +kernel
theorem dX8_letter_22 : decode cX8_letter 22 = .ok (.iload_n 1, 1) := by decide +kernel
theorem dX8_letter_23 : decode cX8_letter 23 = .ok (.iadd, 1) := by decide +kernel
theorem dX8_letter_24 : decode cX8_letter 24 = .ok (.baload, 1) := by decide +kernel
theorem dX8_letter_25 : decode cX8_letter 25 = .ok (.goto 4, 3) := by decide +kernel
theorem dX8_letter_28 : decode cX8_letter 28 = .ok (.iconst 0, 1) := by decide +kernel
theorem dX8_letter_29 : decode cX8_letter 29 = .ok (.ireturn, 1) := by decide +kernel
set_option maxRecDepth 100000 in
theorem c_X8_letter (l : Launch) (E : xE) (a0 a1 : Nat) {T0 : Nat → Int32} {J0_8 : Int64} {V1 : Nat → Int32} {u0_1 : Nat} {x1 : Int32} {z : Int32} (hf : f_X8_letter T0 V1 x1 = some z) (sz : Nat) : Met l yX8_letter (Cond.code yX8_letter cX8_letter 2 (some .int) :: gw) ({ frames := 1, cells := 0, slots := 0, locals := 22 }) (xPc E [.ref a0, .int x1] [(a0, o8 T0 J0_8 a1 u0_1), (a1, ab E 900 V1)] sz) (xQi E z [(a0, o8 T0 J0_8 a1 u0_1), (a1, ab E 900 V1)] [(a0, o8 T0 J0_8 a1 u0_1), (a1, ab E 900 V1)] sz) 0 0 (va_A [(a0, o8 T0 J0_8 a1 u0_1), (a1, ab E 900 V1)] sz) := by
  refine xM_i (by decide +kernel) (Nat.le_of_ble_eq_true rfl) ?_
  intro p e s m args below meth c A Q hx hb hml hown htg hK hG hA ret0 H locs ls hP hD hS hl
  have ret : ∀ (z' : Int32) {H : Heap} {locs : List Loc} {pc : Nat} {ls : Array Slot}, some z' = some z → narrow .int (.int z') = .int z' → va_P E.1 vwCl [(a0, o8 T0 J0_8 a1 u0_1), (a1, ab E 900 V1)] H → va_S A s.heap H locs → decode cX8_letter pc = .ok (.ireturn, 1) → W p l e ({ frames := 1, cells := 0, slots := 0, locals := 22 } : Room) s m args below meth c H locs 0 0 Q (F0 m pc ls [.int z']) := by
    intro z' H locs pc ls h
    cases h
    exact ret0
  replace hl : lv_has ls 2 [(0, .ref a0), (1, .int x1)] := hl
  unfold f_X8_letter at hf
  refine lv_iload_n hx hb dX8_letter_0 rfl (lv_at hl 1 rfl) ?_
  refine lv_iconst (v := 0) hx hb dX8_letter_1 rfl ?_
  refine lv_aload_n hx hb dX8_letter_2 rfl (lv_at hl 0 rfl) ?_
  obtain ⟨z3, hz3, hf⟩ := bind_s hf
  refine xV_ir hx hb hml hown htg L8_71 (c_X8_letters l E a0 hz3 _) ⟨⟨rfl, rfl⟩, Nat.le_of_ble_eq_true rfl, Nat.le_of_ble_eq_true rfl⟩ hK hG hA hP hD hS (is := [0]) rfl rfl (xrecv hK hP (q0 := 0) (ci := 8) rfl rfl) rfl hl.1 rfl (Nat.le_of_ble_eq_true rfl) dX8_letter_3 (fun H locs hP hD hS => ?_)
  refine lv_iconst (v := 1) hx hb dX8_letter_6 rfl ?_
  refine lv_isub hx hb dX8_letter_7 ?_
  obtain ⟨z8, hz8, hf⟩ := bind_s hf
  refine xN_ir hx hb hml hown htg L8_74 13 rfl (c_X11_within l E hz8 _) ⟨⟨rfl, rfl⟩, Nat.le_of_ble_eq_true rfl, Nat.le_of_ble_eq_true rfl⟩ hK hG hA hP hD hS (is := []) rfl rfl rfl hl.1 rfl (Nat.le_of_ble_eq_true rfl) dX8_letter_8 (fun H locs hP hD hS => ?_)
  refine lv_if_eq (tgt := 28) hx hb dX8_letter_11 (by decide) (fun c11 => ?_) (fun c11 => ?_)
  · have hf := it_t c11 hf
    refine lv_iconst (v := 0) hx hb dX8_letter_28 rfl ?_
    exact ret 0 hf nzi hP hS dX8_letter_29
  · have hf := it_f c11 hf
    refine lv_aload_n hx hb dX8_letter_14 rfl (lv_at hl 0 rfl) ?_
    refine G8_11 hx hb htg hown hK hP 0 rfl dX8_letter_15 ?_
    refine lv_aload_n hx hb dX8_letter_18 rfl (lv_at hl 0 rfl) ?_
    refine G8_65 hx hb htg hown hK hP 0 rfl dX8_letter_19 ?_
    refine lv_iload_n hx hb dX8_letter_22 rfl (lv_at hl 1 rfl) ?_
    refine lv_iadd hx hb dX8_letter_23 ?_
    obtain ⟨g24, hf⟩ := ck_s hf
    refine xbald hx hb hK hP 1 rfl g24 dX8_letter_24 ?_
    refine lv_goto (tgt := 29) hx hb dX8_letter_25 (by decide) ?_
    exact ret (V1 (Int32.toNatClampNeg ((T0 5) + x1))) hf nzi hP hS dX8_letter_29
theorem dX8_passSign_0 : decode cX8_passSign 0 = .ok (.aload_n 0, 1) := by decide +kernel
theorem dX8_passSign_1 : decode cX8_passSign 1 = .ok (.getfield 62, 3) := by decide +kernel
theorem dX8_passSign_4 : decode cX8_passSign 4 = .ok (.iconst 3, 1) := by decide +kernel
theorem dX8_passSign_5 : decode cX8_passSign 5 = .ok (.if_icmp .ne 11, 3) := by decide +kernel
theorem dX8_passSign_8 : decode cX8_passSign 8 = .ok (.aload_n 0, 1) := by decide +kernel
theorem dX8_passSign_9 : decode cX8_passSign 9 = .ok (.getfield 68, 3) := by decide +kernel
theorem dX8_passSign_12 : decode cX8_passSign 12 = .ok (.iload_n 1, 1) := by decide +kernel
theorem dX8_passSign_13 : decode cX8_passSign 13 = .ok (.if_icmp .eq 9, 3) := by decide +kernel
theorem dX8_passSign_16 : decode cX8_passSign 16 = .ok (.aload_n 0, 1) := by decide +kernel
theorem dX8_passSign_17 : decode cX8_passSign 17 = .ok (.iconst 2, 1) := by decide +kernel
theorem dX8_passSign_18 : decode cX8_passSign 18 = .ok (.invokevirtual 82, 3) := by decide +kernel
theorem dX8_passSign_21 : decode cX8_passSign 21 = .ok (.ireturn, 1) := by decide +kernel
theorem dX8_passSign_22 : decode cX8_passSign 22 = .ok (.aload_n 0, 1) := by decide +kernel
theorem dX8_passSign_23 : decode cX8_passSign 23 = .ok (.invokevirtual 59, 3) := by decide +kernel
theorem dX8_passSign_26 : decode cX8_passSign 26 = .ok (.iconst 1, 1) := by decide +kernel
theorem dX8_passSign_27 : decode cX8_passSign 27 = .ok (.ireturn, 1) := by decide +kernel
set_option maxRecDepth 100000 in
theorem c_X8_passSign (l : Launch) (E : xE) (a0 a1 a2 : Nat) {T0 : Nat → Int32} {J0_8 : Int64} {V1 : Nat → Int32} {V2 : Nat → Int64} {x1 : Int32} {z : Int32 × (Nat → Int32) × Int64} (hf : f_X8_passSign T0 J0_8 V1 V2 x1 = some z) (sz : Nat) : Met l yX8_passSign (Cond.code yX8_passSign cX8_passSign 2 (some .boolean) :: gw) ({ frames := 2, cells := 0, slots := 0, locals := 41 }) (xPc E [.ref a0, .int x1] [(a0, o8 T0 J0_8 a1 a2), (a1, ab E 900 V1), (a2, al E 23 V2)] sz) (xQi E z.1 [(a0, o8 T0 J0_8 a1 a2), (a1, ab E 900 V1), (a2, al E 23 V2)] [(a0, o8 z.2.1 z.2.2 a1 a2), (a1, ab E 900 V1), (a2, al E 23 V2)] sz) 0 0 (va_A [(a0, o8 T0 J0_8 a1 a2), (a1, ab E 900 V1), (a2, al E 23 V2)] sz) := by
  refine xM_i (by decide +kernel) (Nat.le_of_ble_eq_true rfl) ?_
  intro p e s m args below meth c A Q hx hb hml hown htg hK hG hA ret0 H locs ls hP hD hS hl
  have ret : ∀ (z' : Int32 × (Nat → Int32) × Int64) {H : Heap} {locs : List Loc} {pc : Nat} {ls : Array Slot}, some z' = some z → narrow .boolean (.int z'.1) = .int z'.1 → va_P E.1 vwCl [(a0, o8 z'.2.1 z'.2.2 a1 a2), (a1, ab E 900 V1), (a2, al E 23 V2)] H → va_S A s.heap H locs → decode cX8_passSign pc = .ok (.ireturn, 1) → W p l e ({ frames := 2, cells := 0, slots := 0, locals := 41 } : Room) s m args below meth c H locs 0 0 Q (F0 m pc ls [.int z'.1]) := by
    intro z' H locs pc ls h
    cases h
    exact ret0
  replace hl : lv_has ls 2 [(0, .ref a0), (1, .int x1)] := hl
  have b16 : ∀ (T0 : Nat → Int32) (J0_8 : Int64) (H : Heap) (locs : List Loc) (ls : Array Slot), f_X8_passSign_16 V1 V2 x1 T0 J0_8 = some z → va_P E.1 vwCl [(a0, o8 T0 J0_8 a1 a2), (a1, ab E 900 V1), (a2, al E 23 V2)] H → va_D A [(a0, o8 T0 J0_8 a1 a2), (a1, ab E 900 V1), (a2, al E 23 V2)] → va_S A s.heap H locs → lv_has ls 2 [(0, .ref a0)] → W p l e ({ frames := 2, cells := 0, slots := 0, locals := 41 } : Room) s m args below meth c H locs 0 0 Q (F0 m 16 ls []) := by
    intro T0 J0_8 H locs ls hf hP hD hS hl
    unfold f_X8_passSign_16 at hf
    refine lv_aload_n hx hb dX8_passSign_16 rfl (lv_at hl 0 rfl) ?_
    refine lv_iconst (v := 2) hx hb dX8_passSign_17 rfl ?_
    obtain ⟨z18, hz18, hf⟩ := bind_s hf
    refine xV_iu hx hb hml hown htg L8_82 (c_X8_blame l E a0 hz18 _) ⟨⟨rfl, rfl⟩, Nat.le_of_ble_eq_true rfl, Nat.le_of_ble_eq_true rfl⟩ hK hG hA hP hD hS (is := [0]) (sel := [some 0, none, none]) (ws2 := [(a0, o8 z18.2 J0_8 a1 a2), (a1, ab E 900 V1), (a2, al E 23 V2)]) rfl rfl rfl rfl rfl (xrecv hK hP (q0 := 0) (ci := 8) rfl rfl) rfl hl.1 rfl (Nat.le_of_ble_eq_true rfl) dX8_passSign_18 (fun H locs hP hD hS => ?_)
    obtain ⟨g21, hf⟩ := ck_s hf
    exact ret (z18.1, z18.2, J0_8) hf (bz_n g21).1 hP hS dX8_passSign_21
  unfold f_X8_passSign at hf
  refine lv_aload_n hx hb dX8_passSign_0 rfl (lv_at hl 0 rfl) ?_
  refine G8_62 hx hb htg hown hK hP 0 rfl dX8_passSign_1 ?_
  refine lv_iconst (v := 3) hx hb dX8_passSign_4 rfl ?_
  refine lv_icmp_ne (tgt := 16) hx hb dX8_passSign_5 (by decide) (fun c5 => ?_) (fun c5 => ?_)
  · have hf := it_f c5 hf
    exact b16 T0 J0_8 _ _ _ hf hP hD hS (lv_sub hl [0] rfl)
  · have hf := it_t c5 hf
    refine lv_aload_n hx hb dX8_passSign_8 rfl (lv_at hl 0 rfl) ?_
    refine G8_68 hx hb htg hown hK hP 0 rfl dX8_passSign_9 ?_
    refine lv_iload_n hx hb dX8_passSign_12 rfl (lv_at hl 1 rfl) ?_
    refine lv_icmp_eq (tgt := 22) hx hb dX8_passSign_13 (by decide) (fun c13 => ?_) (fun c13 => ?_)
    · have hf := it_t c13 hf
      refine lv_aload_n hx hb dX8_passSign_22 rfl (lv_at hl 0 rfl) ?_
      obtain ⟨z23, hz23, hf⟩ := bind_s hf
      refine xV_vu hx hb hml hown htg L8_59 (c_X8_advance l E a0 a1 a2 hz23 _) ⟨⟨rfl, rfl⟩, Nat.le_of_ble_eq_true rfl, Nat.le_of_ble_eq_true rfl⟩ hK hG hA hP hD hS (is := [0, 1, 2]) (sel := [some 0, some 1, some 2]) (ws2 := [(a0, o8 z23.1 z23.2 a1 a2), (a1, ab E 900 V1), (a2, al E 23 V2)]) rfl rfl rfl rfl rfl (xrecv hK hP (q0 := 0) (ci := 8) rfl rfl) rfl hl.1 rfl (Nat.le_of_ble_eq_true rfl) dX8_passSign_23 (fun H locs hP hD hS => ?_)
      refine lv_iconst (v := 1) hx hb dX8_passSign_26 rfl ?_
      exact ret (1, z23.1, z23.2) hf nz1 hP hS dX8_passSign_27
    · have hf := it_f c13 hf
      exact b16 T0 J0_8 _ _ _ hf hP hD hS (lv_sub hl [0] rfl)
theorem dX8_comparison_0 : decode cX8_comparison 0 = .ok (.aload_n 0, 1) := by decide +kernel
theorem dX8_comparison_1 : decode cX8_comparison 1 = .ok (.getfield 62, 3) := by decide +kernel
theorem dX8_comparison_4 : decode cX8_comparison 4 = .ok (.iconst 3, 1) := by decide +kernel
theorem dX8_comparison_5 : decode cX8_comparison 5 = .ok (.if_icmp .ne 22, 3) := by decide +kernel
theorem dX8_comparison_8 : decode cX8_comparison 8 = .ok (.aload_n 0, 1) := by decide +kernel
theorem dX8_comparison_9 : decode cX8_comparison 9 = .ok (.getfield 68, 3) := by decide +kernel
theorem dX8_comparison_12 : decode cX8_comparison 12 = .ok (.bipush 59, 2) := by decide +kernel
theorem dX8_comparison_14 : decode cX8_comparison 14 = .ok (.if_icmp .eq 13, 3) := by decide +kernel
theorem dX8_comparison_17 : decode cX8_comparison 17 = .ok (.aload_n 0, 1) := by decide +kernel
theorem dX8_comparison_18 : decode cX8_comparison 18 = .ok (.getfield 68, 3) := by decide +kernel
theorem dX8_comparison_21 : decode cX8_comparison 21 = .ok (.bipush 61, 2) := by decide +kernel
theorem dX8_comparison_23 : decode cX8_comparison 23 = .ok (.isub, 1) := by decide +kernel
theorem dX8_comparison_24 : decode cX8_comparison 24 = .ok (.goto 4, 3) := by decide +kernel
theorem dX8_comparison_27 : decode cX8_comparison 27 = .ok (.iconst 2, 1) := by decide +kernel
theorem dX8_comparison_28 : decode cX8_comparison 28 = .ok (.ireturn, 1) := by decide +kernel
set_option maxRecDepth 100000 in
theorem c_X8_comparison (l : Launch) (E : xE) (a0 : Nat) {T0 : Nat → Int32} {J0_8 : Int64} {u0_0 u0_1 : Nat} {z : Int32} (hf : f_X8_comparison T0 = some z) (sz : Nat) : Met l yX8_comparison (Cond.code yX8_comparison cX8_comparison 1 (some .int) :: gw) ({ frames := 0, cells := 0, slots := 0, locals := 0 }) (xPc E [.ref a0] [(a0, o8 T0 J0_8 u0_0 u0_1)] sz) (xQi E z [(a0, o8 T0 J0_8 u0_0 u0_1)] [(a0, o8 T0 J0_8 u0_0 u0_1)] sz) 0 0 (va_A [(a0, o8 T0 J0_8 u0_0 u0_1)] sz) := by
  refine xM_i (by decide +kernel) (Nat.le_of_ble_eq_true rfl) ?_
  intro p e s m args below meth c A Q hx hb hml hown htg hK hG hA ret0 H locs ls hP hD hS hl
  have ret : ∀ (z' : Int32) {H : Heap} {locs : List Loc} {pc : Nat} {ls : Array Slot}, some z' = some z → narrow .int (.int z') = .int z' → va_P E.1 vwCl [(a0, o8 T0 J0_8 u0_0 u0_1)] H → va_S A s.heap H locs → decode cX8_comparison pc = .ok (.ireturn, 1) → W p l e ({ frames := 0, cells := 0, slots := 0, locals := 0 } : Room) s m args below meth c H locs 0 0 Q (F0 m pc ls [.int z']) := by
    intro z' H locs pc ls h
    cases h
    exact ret0
  replace hl : lv_has ls 1 [(0, .ref a0)] := hl
  unfold f_X8_comparison at hf
  refine lv_aload_n hx hb dX8_comparison_0 rfl (lv_at hl 0 rfl) ?_
  refine G8_62 hx hb htg hown hK hP 0 rfl dX8_comparison_1 ?_
  refine lv_iconst (v := 3) hx hb dX8_comparison_4 rfl ?_
  refine lv_icmp_ne (tgt := 27) hx hb dX8_comparison_5 (by decide) (fun c5 => ?_) (fun c5 => ?_)
  · have hf := it_f c5 hf
    refine lv_iconst (v := 2) hx hb dX8_comparison_27 rfl ?_
    exact ret 2 hf nzi hP hS dX8_comparison_28
  · have hf := it_t c5 hf
    refine lv_aload_n hx hb dX8_comparison_8 rfl (lv_at hl 0 rfl) ?_
    refine G8_68 hx hb htg hown hK hP 0 rfl dX8_comparison_9 ?_
    refine lv_bipush (v := 59) hx hb dX8_comparison_12 rfl ?_
    refine lv_icmp_eq (tgt := 27) hx hb dX8_comparison_14 (by decide) (fun c14 => ?_) (fun c14 => ?_)
    · have hf := it_t c14 hf
      refine lv_iconst (v := 2) hx hb dX8_comparison_27 rfl ?_
      exact ret 2 hf nzi hP hS dX8_comparison_28
    · have hf := it_f c14 hf
      refine lv_aload_n hx hb dX8_comparison_17 rfl (lv_at hl 0 rfl) ?_
      refine G8_68 hx hb htg hown hK hP 0 rfl dX8_comparison_18 ?_
      refine lv_bipush (v := 61) hx hb dX8_comparison_21 rfl ?_
      refine lv_isub hx hb dX8_comparison_23 ?_
      refine lv_goto (tgt := 28) hx hb dX8_comparison_24 (by decide) ?_
      exact ret ((T0 7) - 61) hf nzi hP hS dX8_comparison_28
