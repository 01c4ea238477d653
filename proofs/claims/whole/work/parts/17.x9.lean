theorem dX9_isTray_0 : decode cX9_isTray 0 = .ok (.iload_n 1, 1) := by decide +kernel
theorem dX9_isTray_1 : decode cX9_isTray 1 = .ok (.iconst 0, 1) := by decide +kernel
theorem dX9_isTray_2 : decode cX9_isTray 2 = .ok (.iconst 3, 1) := by decide +kernel
theorem dX9_isTray_3 : decode cX9_isTray 3 = .ok (.invokestatic 29, 3) := by decide +kernel
theorem dX9_isTray_6 : decode cX9_isTray 6 = .ok (.ireturn, 1) := by decide +kernel
set_option maxRecDepth 100000 in
theorem c_X9_isTray (l : Launch) (E : xE) (a0 : Nat) {u0_0 u0_1 u0_2 : Nat} {x1 : Int32} {z : Int32} (hf : f_X9_isTray x1 = some z) (sz : Nat) : Met l yX9_isTray (Cond.code yX9_isTray cX9_isTray 2 (some .boolean) :: gw) ({ frames := 1, cells := 0, slots := 0, locals := 22 }) (xPc E [.ref a0, .int x1] [(a0, o9 u0_0 u0_1 u0_2)] sz) (xQi E z [(a0, o9 u0_0 u0_1 u0_2)] [(a0, o9 u0_0 u0_1 u0_2)] sz) 0 0 (va_A [(a0, o9 u0_0 u0_1 u0_2)] sz) := by
  refine xM_i (by decide +kernel) (Nat.le_of_ble_eq_true rfl) ?_
  intro p e s m args below meth c A Q hx hb hml hown htg hK hG hA ret0 H locs ls hP hD hS hl
  have ret : ∀ (z' : Int32) {H : Heap} {locs : List Loc} {pc : Nat} {ls : Array Slot}, some z' = some z → narrow .boolean (.int z') = .int z' → va_P E.1 vwCl [(a0, o9 u0_0 u0_1 u0_2)] H → va_S A s.heap H locs → decode cX9_isTray pc = .ok (.ireturn, 1) → W p l e ({ frames := 1, cells := 0, slots := 0, locals := 22 } : Room) s m args below meth c H locs 0 0 Q (F0 m pc ls [.int z']) := by
    intro z' H locs pc ls h
    cases h
    exact ret0
  replace hl : lv_has ls 2 [(0, .ref a0), (1, .int x1)] := hl
  unfold f_X9_isTray at hf
  refine lv_iload_n hx hb dX9_isTray_0 rfl (lv_at hl 1 rfl) ?_
  refine lv_iconst (v := 0) hx hb dX9_isTray_1 rfl ?_
  refine lv_iconst (v := 3) hx hb dX9_isTray_2 rfl ?_
  obtain ⟨z3, hz3, hf⟩ := bind_s hf
  refine xN_ir hx hb hml hown htg L9_29 12 rfl (c_X11_within l E hz3 _) ⟨⟨rfl, rfl⟩, Nat.le_of_ble_eq_true rfl, Nat.le_of_ble_eq_true rfl⟩ hK hG hA hP hD hS (is := []) rfl rfl rfl hl.1 rfl (Nat.le_of_ble_eq_true rfl) dX9_isTray_3 (fun H locs hP hD hS => ?_)
  obtain ⟨g6, hf⟩ := ck_s hf
  exact ret z3 hf (bz_n g6).1 hP hS dX9_isTray_6
theorem dX9_isMissing_0 : decode cX9_isMissing 0 = .ok (.aload_n 0, 1) := by decide +kernel
theorem dX9_isMissing_1 : decode cX9_isMissing 1 = .ok (.iload_n 1, 1) := by decide +kernel
theorem dX9_isMissing_2 : decode cX9_isMissing 2 = .ok (.invokevirtual 33, 3) := by decide +kernel
theorem dX9_isMissing_5 : decode cX9_isMissing 5 = .ok (.ifCond .eq 13, 3) := by decide +kernel
theorem dX9_isMissing_8 : decode cX9_isMissing 8 = .ok (.aload_n 0, 1) := by decide +kernel
theorem dX9_isMissing_9 : decode cX9_isMissing 9 = .ok (.getfield 20, 3) := by decide +kernel
theorem dX9_isMissing_12 : decode cX9_isMissing 12 = .ok (.iload_n 1, 1) := by decide +kernel
theorem dX9_isMissing_13 : decode cX9_isMissing 13 = .ok (.iaload, 1) := by decide +kernel
theorem dX9_isMissing_14 : decode cX9_isMissing 14 = .ok (.iconst (-1), 1) := by decide +kernel
theorem dX9_isMissing_15 : decode cX9_isMissing 15 = .ok (.if_icmp .ne 7, 3) := by decide +kernel
theorem dX9_isMissing_18 : decode cX9_isMissing 18 = .ok (.iconst 1, 1) := by decide +kernel
theorem dX9_isMissing_19 : decode cX9_isMissing 19 = .ok (.goto 4, 3) := by decide +kernel
theorem dX9_isMissing_22 : decode cX9_isMissing 22 = .ok (.iconst 0, 1) := by decide +kernel
theorem dX9_isMissing_23 : decode cX9_isMissing 23 = .ok (.ireturn, 1) := by decide +kernel
set_option maxRecDepth 100000 in
theorem c_X9_isMissing (l : Launch) (E : xE) (a0 a1 : Nat) {V1 : Nat → Int32} {u0_0 u0_1 : Nat} {x1 : Int32} {z : Int32} (hf : f_X9_isMissing V1 x1 = some z) (sz : Nat) : Met l yX9_isMissing (Cond.code yX9_isMissing cX9_isMissing 2 (some .boolean) :: gw) ({ frames := 2, cells := 0, slots := 0, locals := 43 }) (xPc E [.ref a0, .int x1] [(a0, o9 u0_0 u0_1 a1), (a1, ai E 4 V1)] sz) (xQi E z [(a0, o9 u0_0 u0_1 a1), (a1, ai E 4 V1)] [(a0, o9 u0_0 u0_1 a1), (a1, ai E 4 V1)] sz) 0 0 (va_A [(a0, o9 u0_0 u0_1 a1), (a1, ai E 4 V1)] sz) := by
  refine xM_i (by decide +kernel) (Nat.le_of_ble_eq_true rfl) ?_
  intro p e s m args below meth c A Q hx hb hml hown htg hK hG hA ret0 H locs ls hP hD hS hl
  have ret : ∀ (z' : Int32) {H : Heap} {locs : List Loc} {pc : Nat} {ls : Array Slot}, some z' = some z → narrow .boolean (.int z') = .int z' → va_P E.1 vwCl [(a0, o9 u0_0 u0_1 a1), (a1, ai E 4 V1)] H → va_S A s.heap H locs → decode cX9_isMissing pc = .ok (.ireturn, 1) → W p l e ({ frames := 2, cells := 0, slots := 0, locals := 43 } : Room) s m args below meth c H locs 0 0 Q (F0 m pc ls [.int z']) := by
    intro z' H locs pc ls h
    cases h
    exact ret0
  replace hl : lv_has ls 2 [(0, .ref a0), (1, .int x1)] := hl
  unfold f_X9_isMissing at hf
  refine lv_aload_n hx hb dX9_isMissing_0 rfl (lv_at hl 0 rfl) ?_
  refine lv_iload_n hx hb dX9_isMissing_1 rfl (lv_at hl 1 rfl) ?_
  obtain ⟨z2, hz2, hf⟩ := bind_s hf
  refine xV_ir hx hb hml hown htg L9_33 (c_X9_isTray l E a0 hz2 _) ⟨⟨rfl, rfl⟩, Nat.le_of_ble_eq_true rfl, Nat.le_of_ble_eq_true rfl⟩ hK hG hA hP hD hS (is := [0]) rfl rfl (xrecv hK hP (q0 := 0) (ci := 9) rfl rfl) rfl hl.1 rfl (Nat.le_of_ble_eq_true rfl) dX9_isMissing_2 (fun H locs hP hD hS => ?_)
  refine lv_if_eq (tgt := 18) hx hb dX9_isMissing_5 (by decide) (fun c5 => ?_) (fun c5 => ?_)
  · have hf := it_t c5 hf
    refine lv_iconst (v := 1) hx hb dX9_isMissing_18 rfl ?_
    refine lv_goto (tgt := 23) hx hb dX9_isMissing_19 (by decide) ?_
    exact ret 1 hf nz1 hP hS dX9_isMissing_23
  · have hf := it_f c5 hf
    refine lv_aload_n hx hb dX9_isMissing_8 rfl (lv_at hl 0 rfl) ?_
    refine G9_20 hx hb htg hown hK hP 0 rfl dX9_isMissing_9 ?_
    refine lv_iload_n hx hb dX9_isMissing_12 rfl (lv_at hl 1 rfl) ?_
    obtain ⟨g13, hf⟩ := ck_s hf
    refine xiald hx hb hK hP 1 rfl g13 dX9_isMissing_13 ?_
    refine lv_iconst (v := (-1)) hx hb dX9_isMissing_14 rfl ?_
    refine lv_icmp_ne (tgt := 22) hx hb dX9_isMissing_15 (by decide) (fun c15 => ?_) (fun c15 => ?_)
    · have hf := it_f c15 hf
      refine lv_iconst (v := 0) hx hb dX9_isMissing_22 rfl ?_
      exact ret 0 hf nz0 hP hS dX9_isMissing_23
    · have hf := it_t c15 hf
      refine lv_iconst (v := 1) hx hb dX9_isMissing_18 rfl ?_
      refine lv_goto (tgt := 23) hx hb dX9_isMissing_19 (by decide) ?_
      exact ret 1 hf nz1 hP hS dX9_isMissing_23
theorem dX9_sortOf_0 : decode cX9_sortOf 0 = .ok (.aload_n 0, 1) := by decide +kernel
theorem dX9_sortOf_1 : decode cX9_sortOf 1 = .ok (.iload_n 1, 1) := by decide +kernel
theorem dX9_sortOf_2 : decode cX9_sortOf 2 = .ok (.invokevirtual 33, 3) := by decide +kernel
theorem dX9_sortOf_5 : decode cX9_sortOf 5 = .ok (.ifCond .eq 12, 3) := by decide +kernel
theorem dX9_sortOf_8 : decode cX9_sortOf 8 = .ok (.aload_n 0, 1) := by decide +kernel
theorem dX9_sortOf_9 : decode cX9_sortOf 9 = .ok (.getfield 16, 3) := by decide +kernel
theorem dX9_sortOf_12 : decode cX9_sortOf 12 = .ok (.iload_n 1, 1) := by decide +kernel
theorem dX9_sortOf_13 : decode cX9_sortOf 13 = .ok (.iaload, 1) := by decide +kernel
theorem dX9_sortOf_14 : decode cX9_sortOf 14 = .ok (.goto 4, 3) := by decide +kernel
theorem dX9_sortOf_17 : decode cX9_sortOf 17 = .ok (.iconst (-1), 1) := by decide +kernel
theorem dX9_sortOf_18 : decode cX9_sortOf 18 = .ok (.ireturn, 1) := by decide +kernel
set_option maxRecDepth 100000 in
theorem c_X9_sortOf (l : Launch) (E : xE) (a0 a1 : Nat) {V1 : Nat → Int32} {u0_0 u0_2 : Nat} {x1 : Int32} {z : Int32} (hf : f_X9_sortOf V1 x1 = some z) (sz : Nat) : Met l yX9_sortOf (Cond.code yX9_sortOf cX9_sortOf 2 (some .int) :: gw) ({ frames := 2, cells := 0, slots := 0, locals := 43 }) (xPc E [.ref a0, .int x1] [(a0, o9 u0_0 a1 u0_2), (a1, ai E 4 V1)] sz) (xQi E z [(a0, o9 u0_0 a1 u0_2), (a1, ai E 4 V1)] [(a0, o9 u0_0 a1 u0_2), (a1, ai E 4 V1)] sz) 0 0 (va_A [(a0, o9 u0_0 a1 u0_2), (a1, ai E 4 V1)] sz) := by
  refine xM_i (by decide +kernel) (Nat.le_of_ble_eq_true rfl) ?_
  intro p e s m args below meth c A Q hx hb hml hown htg hK hG hA ret0 H locs ls hP hD hS hl
  have ret : ∀ (z' : Int32) {H : Heap} {locs : List Loc} {pc : Nat} {ls : Array Slot}, some z' = some z → narrow .int (.int z') = .int z' → va_P E.1 vwCl [(a0, o9 u0_0 a1 u0_2), (a1, ai E 4 V1)] H → va_S A s.heap H locs → decode cX9_sortOf pc = .ok (.ireturn, 1) → W p l e ({ frames := 2, cells := 0, slots := 0, locals := 43 } : Room) s m args below meth c H locs 0 0 Q (F0 m pc ls [.int z']) := by
    intro z' H locs pc ls h
    cases h
    exact ret0
  replace hl : lv_has ls 2 [(0, .ref a0), (1, .int x1)] := hl
  unfold f_X9_sortOf at hf
  refine lv_aload_n hx hb dX9_sortOf_0 rfl (lv_at hl 0 rfl) ?_
  refine lv_iload_n hx hb dX9_sortOf_1 rfl (lv_at hl 1 rfl) ?_
  obtain ⟨z2, hz2, hf⟩ := bind_s hf
  refine xV_ir hx hb hml hown htg L9_33 (c_X9_isTray l E a0 hz2 _) ⟨⟨rfl, rfl⟩, Nat.le_of_ble_eq_true rfl, Nat.le_of_ble_eq_true rfl⟩ hK hG hA hP hD hS (is := [0]) rfl rfl (xrecv hK hP (q0 := 0) (ci := 9) rfl rfl) rfl hl.1 rfl (Nat.le_of_ble_eq_true rfl) dX9_sortOf_2 (fun H locs hP hD hS => ?_)
  refine lv_if_eq (tgt := 17) hx hb dX9_sortOf_5 (by decide) (fun c5 => ?_) (fun c5 => ?_)
  · have hf := it_t c5 hf
    refine lv_iconst (v := (-1)) hx hb dX9_sortOf_17 rfl ?_
    exact ret (-1) hf nzi hP hS dX9_sortOf_18
  · have hf := it_f c5 hf
    refine lv_aload_n hx hb dX9_sortOf_8 rfl (lv_at hl 0 rfl) ?_
    refine G9_16 hx hb htg hown hK hP 0 rfl dX9_sortOf_9 ?_
    refine lv_iload_n hx hb dX9_sortOf_12 rfl (lv_at hl 1 rfl) ?_
    obtain ⟨g13, hf⟩ := ck_s hf
    refine xiald hx hb hK hP 1 rfl g13 dX9_sortOf_13 ?_
    refine lv_goto (tgt := 18) hx hb dX9_sortOf_14 (by decide) ?_
    exact ret (V1 (Int32.toNatClampNeg x1)) hf nzi hP hS dX9_sortOf_18
theorem dX9_hasPlaces_0 : decode cX9_hasPlaces 0 = .ok (.aload_n 0, 1) := by decide +kernel
theorem dX9_hasPlaces_1 : decode cX9_hasPlaces 1 = .ok (.iload_n 1, 1) := by decide +kernel
theorem dX9_hasPlaces_2 : decode cX9_hasPlaces 2 = .ok (.invokevirtual 37, 3) := by decide +kernel
theorem dX9_hasPlaces_5 : decode cX9_hasPlaces 5 = .ok (.ifCond .ne 7, 3) := by decide +kernel
theorem dX9_hasPlaces_8 : decode cX9_hasPlaces 8 = .ok (.iload_n 3, 1) := by decide +kernel
theorem dX9_hasPlaces_9 : decode cX9_hasPlaces 9 = .ok (.ifCond .ge 5, 3) := by decide +kernel
theorem dX9_hasPlaces_12 : decode cX9_hasPlaces 12 = .ok (.iconst 0, 1) := by decide +kernel
theorem dX9_hasPlaces_13 : decode cX9_hasPlaces 13 = .ok (.ireturn, 1) := by decide +kernel
theorem dX9_hasPlaces_14 : decode cX9_hasPlaces 14 = .ok (.iload_n 2, 1) := by decide +kernel
theorem dX9_hasPlaces_15 : decode cX9_hasPlaces 15 = .ok (.iconst 0, 1) := by decide +kernel
theorem dX9_hasPlaces_16 : decode cX9_hasPlaces 16 = .ok (.aload_n 0, 1) := by decide +kernel
theorem dX9_hasPlaces_17 : decode cX9_hasPlaces 17 = .ok (.getfield 20, 3) := by decide +kernel
theorem dX9_hasPlaces_20 : decode cX9_hasPlaces 20 = .ok (.iload_n 1, 1) := by decide +kernel
theorem dX9_hasPlaces_21 : decode cX9_hasPlaces 21 = .ok (.iaload, 1) := by decide +kernel
theorem dX9_hasPlaces_22 : decode cX9_hasPlaces 22 = .ok (.invokestatic 29, 3) := by decide +kernel
theorem dX9_hasPlaces_25 : decode cX9_hasPlaces 25 = .ok (.ifCond .eq 19, 3) := by decide +kernel
theorem dX9_hasPlaces_28 : decode cX9_hasPlaces 28 = .ok (.iload_n 3, 1) := by decide +kernel
theorem dX9_hasPlaces_29 : decode cX9_hasPlaces 29 = .ok (.aload_n 0, 1) := by decide +kernel
theorem dX9_hasPlaces_30 : decode cX9_hasPlaces 30 = .ok (.getfield 20, 3) := by decide +kernel
theorem dX9_hasPlaces_33 : decode cX9_hasPlaces 33 = .ok (.iload_n 1, 1) := by decide +kernel
theorem dX9_hasPlaces_34 : decode cX9_hasPlaces 34 = .ok (.iaload, 1) := by decide +kernel
theorem dX9_hasPlaces_35 : decode cX9_hasPlaces 35 = .ok (.iload_n 2, 1) := by decide +kernel
theorem dX9_hasPlaces_36 : decode cX9_hasPlaces 36 = .ok (.isub, 1) := by decide +kernel
theorem dX9_hasPlaces_37 : decode cX9_hasPlaces 37 = .ok (.if_icmp .gt 7, 3) := by decide +kernel
theorem dX9_hasPlaces_40 : decode cX9_hasPlaces 40 = .ok (.iconst 1, 1) := by decide +kernel
theorem dX9_hasPlaces_41 : decode cX9_hasPlaces 41 = .ok (.goto 4, 3) := by decide +kernel
theorem dX9_hasPlaces_44 : decode cX9_hasPlaces 44 = .ok (.iconst 0, 1) := by decide +kernel
theorem dX9_hasPlaces_45 : decode cX9_hasPlaces 45 = .ok (.ireturn, 1) := by decide +kernel
set_option maxRecDepth 100000 in
theorem c_X9_hasPlaces (l : Launch) (E : xE) (a0 a1 : Nat) {V1 : Nat → Int32} {u0_0 u0_1 : Nat} {x1 : Int32} {x2 : Int32} {x3 : Int32} {z : Int32} (hf : f_X9_hasPlaces V1 x1 x2 x3 = some z) (sz : Nat) : Met l yX9_hasPlaces (Cond.code yX9_hasPlaces cX9_hasPlaces 4 (some .boolean) :: gw) ({ frames := 3, cells := 0, slots := 0, locals := 64 }) (xPc E [.ref a0, .int x1, .int x2, .int x3] [(a0, o9 u0_0 u0_1 a1), (a1, ai E 4 V1)] sz) (xQi E z [(a0, o9 u0_0 u0_1 a1), (a1, ai E 4 V1)] [(a0, o9 u0_0 u0_1 a1), (a1, ai E 4 V1)] sz) 0 0 (va_A [(a0, o9 u0_0 u0_1 a1), (a1, ai E 4 V1)] sz) := by
  refine xM_i (by decide +kernel) (Nat.le_of_ble_eq_true rfl) ?_
  intro p e s m args below meth c A Q hx hb hml hown htg hK hG hA ret0 H locs ls hP hD hS hl
  have ret : ∀ (z' : Int32) {H : Heap} {locs : List Loc} {pc : Nat} {ls : Array Slot}, some z' = some z → narrow .boolean (.int z') = .int z' → va_P E.1 vwCl [(a0, o9 u0_0 u0_1 a1), (a1, ai E 4 V1)] H → va_S A s.heap H locs → decode cX9_hasPlaces pc = .ok (.ireturn, 1) → W p l e ({ frames := 3, cells := 0, slots := 0, locals := 64 } : Room) s m args below meth c H locs 0 0 Q (F0 m pc ls [.int z']) := by
    intro z' H locs pc ls h
    cases h
    exact ret0
  replace hl : lv_has ls 4 [(0, .ref a0), (1, .int x1), (2, .int x2), (3, .int x3)] := hl
  unfold f_X9_hasPlaces at hf
  refine lv_aload_n hx hb dX9_hasPlaces_0 rfl (lv_at hl 0 rfl) ?_
  refine lv_iload_n hx hb dX9_hasPlaces_1 rfl (lv_at hl 1 rfl) ?_
  obtain ⟨z2, hz2, hf⟩ := bind_s hf
  refine xV_ir hx hb hml hown htg L9_37 (c_X9_isMissing l E a0 a1 hz2 _) ⟨⟨rfl, rfl⟩, Nat.le_of_ble_eq_true rfl, Nat.le_of_ble_eq_true rfl⟩ hK hG hA hP hD hS (is := [0, 1]) rfl rfl (xrecv hK hP (q0 := 0) (ci := 9) rfl rfl) rfl hl.1 rfl (Nat.le_of_ble_eq_true rfl) dX9_hasPlaces_2 (fun H locs hP hD hS => ?_)
  refine lv_if_ne (tgt := 12) hx hb dX9_hasPlaces_5 (by decide) (fun c5 => ?_) (fun c5 => ?_)
  · have hf := it_f c5 hf
    refine lv_iconst (v := 0) hx hb dX9_hasPlaces_12 rfl ?_
    exact ret 0 hf nz0 hP hS dX9_hasPlaces_13
  · have hf := it_t c5 hf
    refine lv_iload_n hx hb dX9_hasPlaces_8 rfl (lv_at hl 3 rfl) ?_
    refine lv_if_ge (tgt := 14) hx hb dX9_hasPlaces_9 (by decide) (fun c9 => ?_) (fun c9 => ?_)
    · have hf := it_t c9 hf
      refine lv_iload_n hx hb dX9_hasPlaces_14 rfl (lv_at hl 2 rfl) ?_
      refine lv_iconst (v := 0) hx hb dX9_hasPlaces_15 rfl ?_
      refine lv_aload_n hx hb dX9_hasPlaces_16 rfl (lv_at hl 0 rfl) ?_
      refine G9_20 hx hb htg hown hK hP 0 rfl dX9_hasPlaces_17 ?_
      refine lv_iload_n hx hb dX9_hasPlaces_20 rfl (lv_at hl 1 rfl) ?_
      obtain ⟨g21, hf⟩ := ck_s hf
      refine xiald hx hb hK hP 1 rfl g21 dX9_hasPlaces_21 ?_
      obtain ⟨z22, hz22, hf⟩ := bind_s hf
      refine xN_ir hx hb hml hown htg L9_29 12 rfl (c_X11_within l E hz22 _) ⟨⟨rfl, rfl⟩, Nat.le_of_ble_eq_true rfl, Nat.le_of_ble_eq_true rfl⟩ hK hG hA hP hD hS (is := []) rfl rfl rfl hl.1 rfl (Nat.le_of_ble_eq_true rfl) dX9_hasPlaces_22 (fun H locs hP hD hS => ?_)
      refine lv_if_eq (tgt := 44) hx hb dX9_hasPlaces_25 (by decide) (fun c25 => ?_) (fun c25 => ?_)
      · have hf := it_t c25 hf
        refine lv_iconst (v := 0) hx hb dX9_hasPlaces_44 rfl ?_
        exact ret 0 hf nz0 hP hS dX9_hasPlaces_45
      · have hf := it_f c25 hf
        refine lv_iload_n hx hb dX9_hasPlaces_28 rfl (lv_at hl 3 rfl) ?_
        refine lv_aload_n hx hb dX9_hasPlaces_29 rfl (lv_at hl 0 rfl) ?_
        refine G9_20 hx hb htg hown hK hP 0 rfl dX9_hasPlaces_30 ?_
        refine lv_iload_n hx hb dX9_hasPlaces_33 rfl (lv_at hl 1 rfl) ?_
        obtain ⟨g34, hf⟩ := ck_s hf
        refine xiald hx hb hK hP 1 rfl g34 dX9_hasPlaces_34 ?_
        refine lv_iload_n hx hb dX9_hasPlaces_35 rfl (lv_at hl 2 rfl) ?_
        refine lv_isub hx hb dX9_hasPlaces_36 ?_
        refine lv_icmp_gt (tgt := 44) hx hb dX9_hasPlaces_37 (by decide) (fun c37 => ?_) (fun c37 => ?_)
        · have hf := it_t c37 hf
          refine lv_iconst (v := 0) hx hb dX9_hasPlaces_44 rfl ?_
          exact ret 0 hf nz0 hP hS dX9_hasPlaces_45
        · have hf := it_f c37 hf
          refine lv_iconst (v := 1) hx hb dX9_hasPlaces_40 rfl ?_
          refine lv_goto (tgt := 45) hx hb dX9_hasPlaces_41 (by decide) ?_
          exact ret 1 hf nz1 hP hS dX9_hasPlaces_45
    · have hf := it_f c9 hf
      refine lv_iconst (v := 0) hx hb dX9_hasPlaces_12 rfl ?_
      exact ret 0 hf nz0 hP hS dX9_hasPlaces_13
theorem dX9_whyNoPlace_0 : decode cX9_whyNoPlace 0 = .ok (.aload_n 0, 1) := by decide +kernel
theorem dX9_whyNoPlace_1 : decode cX9_whyNoPlace 1 = .ok (.iload_n 1, 1) := by decide +kernel
theorem dX9_whyNoPlace_2 : decode cX9_whyNoPlace 2 = .ok (.invokevirtual 33, 3) := by decide +kernel
theorem dX9_whyNoPlace_5 : decode cX9_whyNoPlace 5 = .ok (.ifCond .ne 5, 3) := by decide +kernel
theorem dX9_whyNoPlace_8 : decode cX9_whyNoPlace 8 = .ok (.iconst 1, 1) := by decide +kernel
theorem dX9_whyNoPlace_9 : decode cX9_whyNoPlace 9 = .ok (.ireturn, 1) := by decide +kernel
theorem dX9_whyNoPlace_10 : decode cX9_whyNoPlace 10 = .ok (.aload_n 0, 1) := by decide +kernel
theorem dX9_whyNoPlace_11 : decode cX9_whyNoPlace 11 = .ok (.iload_n 1, 1) := by decide +kernel
theorem dX9_whyNoPlace_12 : decode cX9_whyNoPlace 12 = .ok (.invokevirtual 37, 3) := by decide +kernel
theorem dX9_whyNoPlace_15 : decode cX9_whyNoPlace 15 = .ok (.ifCond .eq 5, 3) := by decide +kernel
theorem dX9_whyNoPlace_18 : decode cX9_whyNoPlace 18 = .ok (.iconst 3, 1) := by decide +kernel
theorem dX9_whyNoPlace_19 : decode cX9_whyNoPlace 19 = .ok (.ireturn, 1) := by decide +kernel
theorem dX9_whyNoPlace_20 : decode cX9_whyNoPlace 20 = .ok (.aload_n 0, 1) := by decide +kernel
theorem dX9_whyNoPlace_21 : decode cX9_whyNoPlace 21 = .ok (.iload_n 1, 1) := by decide +kernel
theorem dX9_whyNoPlace_22 : decode cX9_whyNoPlace 22 = .ok (.iload_n 2, 1) := by decide +kernel
theorem dX9_whyNoPlace_23 : decode cX9_whyNoPlace 23 = .ok (.iconst 1, 1) := by decide +kernel
theorem dX9_whyNoPlace_24 : decode cX9_whyNoPlace 24 = .ok (.invokevirtual 40, 3) := by decide +kernel
theorem dX9_whyNoPlace_27 : decode cX9_whyNoPlace 27 = .ok (.ifCond .eq 7, 3) := by decide +kernel
theorem dX9_whyNoPlace_30 : decode cX9_whyNoPlace 30 = .ok (.iconst 0, 1) := by decide +kernel
theorem dX9_whyNoPlace_31 : decode cX9_whyNoPlace 31 = .ok (.goto 4, 3) := by decide +kernel
theorem dX9_whyNoPlace_34 : decode cX9_whyNoPlace 34 = .ok (.iconst 4, 1) := by decide +kernel
theorem dX9_whyNoPlace_35 : decode cX9_whyNoPlace 35 = .ok (.ireturn, 1) := by decide +kernel
set_option maxRecDepth 100000 in
theorem c_X9_whyNoPlace (l : Launch) (E : xE) (a0 a1 : Nat) {V1 : Nat → Int32} {u0_0 u0_1 : Nat} {x1 : Int32} {x2 : Int32} {z : Int32} (hf : f_X9_whyNoPlace V1 x1 x2 = some z) (sz : Nat) : Met l yX9_whyNoPlace (Cond.code yX9_whyNoPlace cX9_whyNoPlace 3 (some .int) :: gw) ({ frames := 4, cells := 0, slots := 0, locals := 87 }) (xPc E [.ref a0, .int x1, .int x2] [(a0, o9 u0_0 u0_1 a1), (a1, ai E 4 V1)] sz) (xQi E z [(a0, o9 u0_0 u0_1 a1), (a1, ai E 4 V1)] [(a0, o9 u0_0 u0_1 a1), (a1, ai E 4 V1)] sz) 0 0 (va_A [(a0, o9 u0_0 u0_1 a1), (a1, ai E 4 V1)] sz) := by
  refine xM_i (by decide +kernel) (Nat.le_of_ble_eq_true rfl) ?_
  intro p e s m args below meth c A Q hx hb hml hown htg hK hG hA ret0 H locs ls hP hD hS hl
  have ret : ∀ (z' : Int32) {H : Heap} {locs : List Loc} {pc : Nat} {ls : Array Slot}, some z' = some z → narrow .int (.int z') = .int z' → va_P E.1 vwCl [(a0, o9 u0_0 u0_1 a1), (a1, ai E 4 V1)] H → va_S A s.heap H locs → decode cX9_whyNoPlace pc = .ok (.ireturn, 1) → W p l e ({ frames := 4, cells := 0, slots := 0, locals := 87 } : Room) s m args below meth c H locs 0 0 Q (F0 m pc ls [.int z']) := by
    intro z' H locs pc ls h
    cases h
    exact ret0
  replace hl : lv_has ls 3 [(0, .ref a0), (1, .int x1), (2, .int x2)] := hl
  unfold f_X9_whyNoPlace at hf
  refine lv_aload_n hx hb dX9_whyNoPlace_0 rfl (lv_at hl 0 rfl) ?_
  refine lv_iload_n hx hb dX9_whyNoPlace_1 rfl (lv_at hl 1 rfl) ?_
  obtain ⟨z2, hz2, hf⟩ := bind_s hf
  refine xV_ir hx hb hml hown htg L9_33 (c_X9_isTray l E a0 hz2 _) ⟨⟨rfl, rfl⟩, Nat.le_of_ble_eq_true rfl, Nat.le_of_ble_eq_true rfl⟩ hK hG hA hP hD hS (is := [0]) rfl rfl (xrecv hK hP (q0 := 0) (ci := 9) rfl rfl) rfl hl.1 rfl (Nat.le_of_ble_eq_true rfl) dX9_whyNoPlace_2 (fun H locs hP hD hS => ?_)
  refine lv_if_ne (tgt := 10) hx hb dX9_whyNoPlace_5 (by decide) (fun c5 => ?_) (fun c5 => ?_)
  · have hf := it_f c5 hf
    refine lv_aload_n hx hb dX9_whyNoPlace_10 rfl (lv_at hl 0 rfl) ?_
    refine lv_iload_n hx hb dX9_whyNoPlace_11 rfl (lv_at hl 1 rfl) ?_
    obtain ⟨z12, hz12, hf⟩ := bind_s hf
    refine xV_ir hx hb hml hown htg L9_37 (c_X9_isMissing l E a0 a1 hz12 _) ⟨⟨rfl, rfl⟩, Nat.le_of_ble_eq_true rfl, Nat.le_of_ble_eq_true rfl⟩ hK hG hA hP hD hS (is := [0, 1]) rfl rfl (xrecv hK hP (q0 := 0) (ci := 9) rfl rfl) rfl hl.1 rfl (Nat.le_of_ble_eq_true rfl) dX9_whyNoPlace_12 (fun H locs hP hD hS => ?_)
    refine lv_if_eq (tgt := 20) hx hb dX9_whyNoPlace_15 (by decide) (fun c15 => ?_) (fun c15 => ?_)
    · have hf := it_t c15 hf
      refine lv_aload_n hx hb dX9_whyNoPlace_20 rfl (lv_at hl 0 rfl) ?_
      refine lv_iload_n hx hb dX9_whyNoPlace_21 rfl (lv_at hl 1 rfl) ?_
      refine lv_iload_n hx hb dX9_whyNoPlace_22 rfl (lv_at hl 2 rfl) ?_
      refine lv_iconst (v := 1) hx hb dX9_whyNoPlace_23 rfl ?_
      obtain ⟨z24, hz24, hf⟩ := bind_s hf
      refine xV_ir hx hb hml hown htg L9_40 (c_X9_hasPlaces l E a0 a1 hz24 _) ⟨⟨rfl, rfl⟩, Nat.le_of_ble_eq_true rfl, Nat.le_of_ble_eq_true rfl⟩ hK hG hA hP hD hS (is := [0, 1]) rfl rfl (xrecv hK hP (q0 := 0) (ci := 9) rfl rfl) rfl hl.1 rfl (Nat.le_of_ble_eq_true rfl) dX9_whyNoPlace_24 (fun H locs hP hD hS => ?_)
      refine lv_if_eq (tgt := 34) hx hb dX9_whyNoPlace_27 (by decide) (fun c27 => ?_) (fun c27 => ?_)
      · have hf := it_t c27 hf
        refine lv_iconst (v := 4) hx hb dX9_whyNoPlace_34 rfl ?_
        exact ret 4 hf nzi hP hS dX9_whyNoPlace_35
      · have hf := it_f c27 hf
        refine lv_iconst (v := 0) hx hb dX9_whyNoPlace_30 rfl ?_
        refine lv_goto (tgt := 35) hx hb dX9_whyNoPlace_31 (by decide) ?_
        exact ret 0 hf nzi hP hS dX9_whyNoPlace_35
    · have hf := it_f c15 hf
      refine lv_iconst (v := 3) hx hb dX9_whyNoPlace_18 rfl ?_
      exact ret 3 hf nzi hP hS dX9_whyNoPlace_19
  · have hf := it_t c5 hf
    refine lv_iconst (v := 1) hx hb dX9_whyNoPlace_8 rfl ?_
    exact ret 1 hf nzi hP hS dX9_whyNoPlace_9
theorem dX9_lay_0 : decode cX9_lay 0 = .ok (.aload_n 0, 1) := by decide +kernel
theorem dX9_lay_1 : decode cX9_lay 1 = .ok (.iload_n 1, 1) := by decide +kernel
theorem dX9_lay_2 : decode cX9_lay 2 = .ok (.invokevirtual 33, 3) := by decide +kernel
theorem dX9_lay_5 : decode cX9_lay 5 = .ok (.ifCond .eq 37, 3) := by decide +kernel
theorem dX9_lay_8 : decode cX9_lay 8 = .ok (.iload_n 3, 1) := by decide +kernel
theorem dX9_lay_9 : decode cX9_lay 9 = .ok (.iconst 0, 1) := by decide +kernel
theorem dX9_lay_10 : decode cX9_lay 10 = .ok (.bipush 60, 2) := by decide +kernel
theorem dX9_lay_12 : decode cX9_lay 12 = .ok (.invokestatic 29, 3) := by decide +kernel
theorem dX9_lay_15 : decode cX9_lay 15 = .ok (.ifCond .eq 27, 3) := by decide +kernel
theorem dX9_lay_18 : decode cX9_lay 18 = .ok (.aload_n 0, 1) := by decide +kernel
theorem dX9_lay_19 : decode cX9_lay 19 = .ok (.getfield 16, 3) := by decide +kernel
theorem dX9_lay_22 : decode cX9_lay 22 = .ok (.iload_n 1, 1) := by decide +kernel
theorem dX9_lay_23 : decode cX9_lay 23 = .ok (.iload_n 2, 1) := by decide +kernel
theorem dX9_lay_24 : decode cX9_lay 24 = .ok (.iastore, 1) := by decide +kernel
theorem dX9_lay_25 : decode cX9_lay 25 = .ok (.aload_n 0, 1) := by decide +kernel
theorem dX9_lay_26 : decode cX9_lay 26 = .ok (.getfield 20, 3) := by decide +kernel
theorem dX9_lay_29 : decode cX9_lay 29 = .ok (.iload_n 1, 1) := by decide +kernel
theorem dX9_lay_30 : decode cX9_lay 30 = .ok (.iload_n 3, 1) := by decide +kernel
theorem dX9_lay_31 : decode cX9_lay 31 = .ok (.iastore, 1) := by decide +kernel
theorem dX9_lay_32 : decode cX9_lay 32 = .ok (.aload_n 0, 1) := by decide +kernel
theorem dX9_lay_33 : decode cX9_lay 33 = .ok (.getfield 13, 3) := by decide +kernel
theorem dX9_lay_36 : decode cX9_lay 36 = .ok (.iload_n 1, 1) := by decide +kernel
theorem dX9_lay_37 : decode cX9_lay 37 = .ok (.aaload, 1) := by decide +kernel
theorem dX9_lay_38 : decode cX9_lay 38 = .ok (.lconst 0, 1) := by decide +kernel
theorem dX9_lay_39 : decode cX9_lay 39 = .ok (.invokestatic 43, 3) := by decide +kernel
theorem dX9_lay_42 : decode cX9_lay 42 = .ok (.return_, 1) := by decide +kernel
set_option maxRecDepth 100000 in
theorem c_X9_lay (l : Launch) (E : xE) (a0 a1 a2 a3 a4 a5 a6 a7 : Nat) {V1 : Nat → Int32} {V2 : Nat → Int32} {V4 : Nat → Int64} {V5 : Nat → Int64} {V6 : Nat → Int64} {V7 : Nat → Int64} {x1 : Int32} {x2 : Int32} {x3 : Int32} {z : (Nat → Int32) × (Nat → Int32) × (Nat → Int64) × (Nat → Int64) × (Nat → Int64) × (Nat → Int64)} (hf : f_X9_lay V1 V2 V4 V5 V6 V7 x1 x2 x3 = some z) (sz : Nat) : Met l yX9_lay (Cond.code yX9_lay cX9_lay 4 none :: gw) ({ frames := 2, cells := 0, slots := 0, locals := 43 }) (xPc E [.ref a0, .int x1, .int x2, .int x3] [(a0, o9 a3 a1 a2), (a1, ai E 4 V1), (a2, ai E 4 V2), (a3, aj E 4 (en [a4, a5, a6, a7])), (a4, al E 60 V4), (a5, al E 60 V5), (a6, al E 60 V6), (a7, al E 60 V7)] sz) (xQv E [(a0, o9 a3 a1 a2), (a1, ai E 4 V1), (a2, ai E 4 V2), (a3, aj E 4 (en [a4, a5, a6, a7])), (a4, al E 60 V4), (a5, al E 60 V5), (a6, al E 60 V6), (a7, al E 60 V7)] [(a0, o9 a3 a1 a2), (a1, ai E 4 z.1), (a2, ai E 4 z.2.1), (a3, aj E 4 (en [a4, a5, a6, a7])), (a4, al E 60 z.2.2.1), (a5, al E 60 z.2.2.2.1), (a6, al E 60 z.2.2.2.2.1), (a7, al E 60 z.2.2.2.2.2)] sz) 0 0 (va_A [(a0, o9 a3 a1 a2), (a1, ai E 4 V1), (a2, ai E 4 V2), (a3, aj E 4 (en [a4, a5, a6, a7])), (a4, al E 60 V4), (a5, al E 60 V5), (a6, al E 60 V6), (a7, al E 60 V7)] sz) := by
  refine xM_v (by decide +kernel) (Nat.le_of_ble_eq_true rfl) ?_
  intro p e s m args below meth c A Q hx hb hml hown htg hK hG hA ret0 H locs ls hP hD hS hl
  have ret : ∀ (z' : (Nat → Int32) × (Nat → Int32) × (Nat → Int64) × (Nat → Int64) × (Nat → Int64) × (Nat → Int64)) {H : Heap} {locs : List Loc} {pc : Nat} {ls : Array Slot}, some z' = some z → va_P E.1 vwCl [(a0, o9 a3 a1 a2), (a1, ai E 4 z'.1), (a2, ai E 4 z'.2.1), (a3, aj E 4 (en [a4, a5, a6, a7])), (a4, al E 60 z'.2.2.1), (a5, al E 60 z'.2.2.2.1), (a6, al E 60 z'.2.2.2.2.1), (a7, al E 60 z'.2.2.2.2.2)] H → va_S A s.heap H locs → decode cX9_lay pc = .ok (.return_, 1) → W p l e ({ frames := 2, cells := 0, slots := 0, locals := 43 } : Room) s m args below meth c H locs 0 0 Q (F0 m pc ls []) := by
    intro z' H locs pc ls h
    cases h
    exact ret0
  replace hl : lv_has ls 4 [(0, .ref a0), (1, .int x1), (2, .int x2), (3, .int x3)] := hl
  unfold f_X9_lay at hf
  refine lv_aload_n hx hb dX9_lay_0 rfl (lv_at hl 0 rfl) ?_
  refine lv_iload_n hx hb dX9_lay_1 rfl (lv_at hl 1 rfl) ?_
  obtain ⟨z2, hz2, hf⟩ := bind_s hf
  refine xV_ir hx hb hml hown htg L9_33 (c_X9_isTray l E a0 hz2 _) ⟨⟨rfl, rfl⟩, Nat.le_of_ble_eq_true rfl, Nat.le_of_ble_eq_true rfl⟩ hK hG hA hP hD hS (is := [0]) rfl rfl (xrecv hK hP (q0 := 0) (ci := 9) rfl rfl) rfl hl.1 rfl (Nat.le_of_ble_eq_true rfl) dX9_lay_2 (fun H locs hP hD hS => ?_)
  refine lv_if_eq (tgt := 42) hx hb dX9_lay_5 (by decide) (fun c5 => ?_) (fun c5 => ?_)
  · have hf := it_t c5 hf
    exact ret (V1, V2, V4, V5, V6, V7) hf hP hS dX9_lay_42
  · have hf := it_f c5 hf
    refine lv_iload_n hx hb dX9_lay_8 rfl (lv_at hl 3 rfl) ?_
    refine lv_iconst (v := 0) hx hb dX9_lay_9 rfl ?_
    refine lv_bipush (v := 60) hx hb dX9_lay_10 rfl ?_
    obtain ⟨z12, hz12, hf⟩ := bind_s hf
    refine xN_ir hx hb hml hown htg L9_29 12 rfl (c_X11_within l E hz12 _) ⟨⟨rfl, rfl⟩, Nat.le_of_ble_eq_true rfl, Nat.le_of_ble_eq_true rfl⟩ hK hG hA hP hD hS (is := []) rfl rfl rfl hl.1 rfl (Nat.le_of_ble_eq_true rfl) dX9_lay_12 (fun H locs hP hD hS => ?_)
    refine lv_if_eq (tgt := 42) hx hb dX9_lay_15 (by decide) (fun c15 => ?_) (fun c15 => ?_)
    · have hf := it_t c15 hf
      exact ret (V1, V2, V4, V5, V6, V7) hf hP hS dX9_lay_42
    · have hf := it_f c15 hf
      refine lv_aload_n hx hb dX9_lay_18 rfl (lv_at hl 0 rfl) ?_
      refine G9_16 hx hb htg hown hK hP 0 rfl dX9_lay_19 ?_
      refine lv_iload_n hx hb dX9_lay_22 rfl (lv_at hl 1 rfl) ?_
      refine lv_iload_n hx hb dX9_lay_23 rfl (lv_at hl 2 rfl) ?_
      obtain ⟨g24, hf⟩ := ck_s hf
      refine xiast hx hb hK hP hD hS 1 rfl g24 dX9_lay_24 (fun H locs hP hD hS => ?_)
      refine lv_aload_n hx hb dX9_lay_25 rfl (lv_at hl 0 rfl) ?_
      refine G9_20 hx hb htg hown hK hP 0 rfl dX9_lay_26 ?_
      refine lv_iload_n hx hb dX9_lay_29 rfl (lv_at hl 1 rfl) ?_
      refine lv_iload_n hx hb dX9_lay_30 rfl (lv_at hl 3 rfl) ?_
      obtain ⟨g31, hf⟩ := ck_s hf
      refine xiast hx hb hK hP hD hS 2 rfl g31 dX9_lay_31 (fun H locs hP hD hS => ?_)
      refine lv_aload_n hx hb dX9_lay_32 rfl (lv_at hl 0 rfl) ?_
      refine G9_13 hx hb htg hown hK hP 0 rfl dX9_lay_33 ?_
      refine lv_iload_n hx hb dX9_lay_36 rfl (lv_at hl 1 rfl) ?_
      obtain ⟨g37, hf⟩ := ck_s hf
      by_cases c37_0 : x1 = 0
      · have hf := it_t c37_0 hf
        refine xjld (v := a4) hx hb hK hP 3 rfl g37 (congrArg Int32.toNatClampNeg c37_0) rfl dX9_lay_37 ?_
        refine lv_lconst (v := 0) hx hb dX9_lay_38 rfl ?_
        obtain ⟨z39, hz39, hf⟩ := bind_s hf
        refine xS_vu hx hb hml hown htg L9_43 (c_J7_fill_d0a16 l E a4 hz39 _) ⟨⟨rfl, rfl⟩, Nat.le_of_ble_eq_true rfl, Nat.le_of_ble_eq_true rfl⟩ hK hG hA hP hD hS (is := [4]) (sel := [none, none, none, none, some 0, none, none, none]) (ws2 := [(a0, o9 a3 a1 a2), (a1, ai E 4 (upd V1 (Int32.toNatClampNeg x1) x2)), (a2, ai E 4 (upd V2 (Int32.toNatClampNeg x1) x3)), (a3, aj E 4 (en [a4, a5, a6, a7])), (a4, al E 60 z39), (a5, al E 60 V5), (a6, al E 60 V6), (a7, al E 60 V7)]) rfl rfl rfl rfl rfl rfl hl.1 rfl (Nat.le_of_ble_eq_true rfl) dX9_lay_39 (fun H locs hP hD hS => ?_)
        exact ret (upd V1 (Int32.toNatClampNeg x1) x2, upd V2 (Int32.toNatClampNeg x1) x3, z39, V5, V6, V7) hf hP hS dX9_lay_42
      have hf := it_f c37_0 hf
      by_cases c37_1 : x1 = 1
      · have hf := it_t c37_1 hf
        refine xjld (v := a5) hx hb hK hP 3 rfl g37 (congrArg Int32.toNatClampNeg c37_1) rfl dX9_lay_37 ?_
        refine lv_lconst (v := 0) hx hb dX9_lay_38 rfl ?_
        obtain ⟨z39, hz39, hf⟩ := bind_s hf
        refine xS_vu hx hb hml hown htg L9_43 (c_J7_fill_d0a16 l E a5 hz39 _) ⟨⟨rfl, rfl⟩, Nat.le_of_ble_eq_true rfl, Nat.le_of_ble_eq_true rfl⟩ hK hG hA hP hD hS (is := [5]) (sel := [none, none, none, none, none, some 0, none, none]) (ws2 := [(a0, o9 a3 a1 a2), (a1, ai E 4 (upd V1 (Int32.toNatClampNeg x1) x2)), (a2, ai E 4 (upd V2 (Int32.toNatClampNeg x1) x3)), (a3, aj E 4 (en [a4, a5, a6, a7])), (a4, al E 60 V4), (a5, al E 60 z39), (a6, al E 60 V6), (a7, al E 60 V7)]) rfl rfl rfl rfl rfl rfl hl.1 rfl (Nat.le_of_ble_eq_true rfl) dX9_lay_39 (fun H locs hP hD hS => ?_)
        exact ret (upd V1 (Int32.toNatClampNeg x1) x2, upd V2 (Int32.toNatClampNeg x1) x3, V4, z39, V6, V7) hf hP hS dX9_lay_42
      have hf := it_f c37_1 hf
      by_cases c37_2 : x1 = 2
      · have hf := it_t c37_2 hf
        refine xjld (v := a6) hx hb hK hP 3 rfl g37 (congrArg Int32.toNatClampNeg c37_2) rfl dX9_lay_37 ?_
        refine lv_lconst (v := 0) hx hb dX9_lay_38 rfl ?_
        obtain ⟨z39, hz39, hf⟩ := bind_s hf
        refine xS_vu hx hb hml hown htg L9_43 (c_J7_fill_d0a16 l E a6 hz39 _) ⟨⟨rfl, rfl⟩, Nat.le_of_ble_eq_true rfl, Nat.le_of_ble_eq_true rfl⟩ hK hG hA hP hD hS (is := [6]) (sel := [none, none, none, none, none, none, some 0, none]) (ws2 := [(a0, o9 a3 a1 a2), (a1, ai E 4 (upd V1 (Int32.toNatClampNeg x1) x2)), (a2, ai E 4 (upd V2 (Int32.toNatClampNeg x1) x3)), (a3, aj E 4 (en [a4, a5, a6, a7])), (a4, al E 60 V4), (a5, al E 60 V5), (a6, al E 60 z39), (a7, al E 60 V7)]) rfl rfl rfl rfl rfl rfl hl.1 rfl (Nat.le_of_ble_eq_true rfl) dX9_lay_39 (fun H locs hP hD hS => ?_)
        exact ret (upd V1 (Int32.toNatClampNeg x1) x2, upd V2 (Int32.toNatClampNeg x1) x3, V4, V5, z39, V7) hf hP hS dX9_lay_42
      have hf := it_f c37_2 hf
      have e37 := gd_last4 g37 c37_0 c37_1 c37_2
      refine xjld (v := a7) hx hb hK hP 3 rfl g37 (congrArg Int32.toNatClampNeg e37) rfl dX9_lay_37 ?_
      refine lv_lconst (v := 0) hx hb dX9_lay_38 rfl ?_
      obtain ⟨z39, hz39, hf⟩ := bind_s hf
      refine xS_vu hx hb hml hown htg L9_43 (c_J7_fill_d0a16 l E a7 hz39 _) ⟨⟨rfl, rfl⟩, Nat.le_of_ble_eq_true rfl, Nat.le_of_ble_eq_true rfl⟩ hK hG hA hP hD hS (is := [7]) (sel := [none, none, none, none, none, none, none, some 0]) (ws2 := [(a0, o9 a3 a1 a2), (a1, ai E 4 (upd V1 (Int32.toNatClampNeg x1) x2)), (a2, ai E 4 (upd V2 (Int32.toNatClampNeg x1) x3)), (a3, aj E 4 (en [a4, a5, a6, a7])), (a4, al E 60 V4), (a5, al E 60 V5), (a6, al E 60 V6), (a7, al E 60 z39)]) rfl rfl rfl rfl rfl rfl hl.1 rfl (Nat.le_of_ble_eq_true rfl) dX9_lay_39 (fun H locs hP hD hS => ?_)
      exact ret (upd V1 (Int32.toNatClampNeg x1) x2, upd V2 (Int32.toNatClampNeg x1) x3, V4, V5, V6, z39) hf hP hS dX9_lay_42
theorem dX9_cut_0 : decode cX9_cut 0 = .ok (.iload_n 2, 1) := by decide +kernel
theorem dX9_cut_1 : decode cX9_cut 1 = .ok (.tableswitch 41 0 2 #[27, 32, 37], 27) := by decide +kernel
theorem dX9_cut_28 : decode cX9_cut 28 = .ok (.lload_n 0, 1) := by decide +kernel
theorem dX9_cut_29 : decode cX9_cut 29 = .ok (.l2i, 1) := by decide +kernel
theorem dX9_cut_30 : decode cX9_cut 30 = .ok (.i2b, 1) := by decide +kernel
theorem dX9_cut_31 : decode cX9_cut 31 = .ok (.i2l, 1) := by decide +kernel
theorem dX9_cut_32 : decode cX9_cut 32 = .ok (.lreturn, 1) := by decide +kernel
theorem dX9_cut_33 : decode cX9_cut 33 = .ok (.lload_n 0, 1) := by decide +kernel
theorem dX9_cut_34 : decode cX9_cut 34 = .ok (.l2i, 1) := by decide +kernel
theorem dX9_cut_35 : decode cX9_cut 35 = .ok (.i2s, 1) := by decide +kernel
theorem dX9_cut_36 : decode cX9_cut 36 = .ok (.i2l, 1) := by decide +kernel
theorem dX9_cut_37 : decode cX9_cut 37 = .ok (.lreturn, 1) := by decide +kernel
theorem dX9_cut_38 : decode cX9_cut 38 = .ok (.lload_n 0, 1) := by decide +kernel
theorem dX9_cut_39 : decode cX9_cut 39 = .ok (.l2i, 1) := by decide +kernel
theorem dX9_cut_40 : decode cX9_cut 40 = .ok (.i2l, 1) := by decide +kernel
theorem dX9_cut_41 : decode cX9_cut 41 = .ok (.lreturn, 1) := by decide +kernel
theorem dX9_cut_42 : decode cX9_cut 42 = .ok (.lload_n 0, 1) := by decide +kernel
theorem dX9_cut_43 : decode cX9_cut 43 = .ok (.lreturn, 1) := by decide +kernel
set_option maxRecDepth 100000 in
theorem c_X9_cut (l : Launch) (E : xE) {x0 : Int64} {x2 : Int32} {z : Int64} (hf : f_X9_cut x0 x2 = some z) (sz : Nat) : Met l yX9_cut (Cond.code yX9_cut cX9_cut 3 (some .long) :: gw) ({ frames := 0, cells := 0, slots := 0, locals := 0 }) (xPc E [.long x0, .int x2] [] sz) (xQl E z [] [] sz) 0 0 (va_A [] sz) := by
  refine xM_l (by decide +kernel) (Nat.le_of_ble_eq_true rfl) ?_
  intro p e s m args below meth c A Q hx hb hml hown htg hK hG hA ret0 H locs ls hP hD hS hl
  have ret : ∀ (z' : Int64) {H : Heap} {locs : List Loc} {pc : Nat} {ls : Array Slot}, some z' = some z → va_P E.1 vwCl [] H → va_S A s.heap H locs → decode cX9_cut pc = .ok (.lreturn, 1) → W p l e ({ frames := 0, cells := 0, slots := 0, locals := 0 } : Room) s m args below meth c H locs 0 0 Q (F0 m pc ls [.long z']) := by
    intro z' H locs pc ls h
    cases h
    exact ret0
  replace hl : lv_has ls 3 [(0, .long x0), (2, .int x2)] := hl
  unfold f_X9_cut at hf
  refine lv_iload_n hx hb dX9_cut_0 rfl (lv_at hl 1 rfl) ?_
  by_cases c1_0 : x2 = 0
  · have hf := it_t c1_0 hf
    refine xtabI (off := 27) (tgt := 28) hx hb c1_0 dX9_cut_1 rfl (by decide) ?_
    refine lv_lload_n hx hb dX9_cut_28 rfl (lv_at hl 0 rfl) ?_
    refine lv_l2i hx hb dX9_cut_29 rfl ?_
    refine lv_i2b hx hb dX9_cut_30 rfl ?_
    refine lv_i2l hx hb dX9_cut_31 rfl ?_
    exact ret (Int32.toInt64 (Int8.toInt32 (Int32.toInt8 (Int64.toInt32 x0)))) hf hP hS dX9_cut_32
  have hf := it_f c1_0 hf
  by_cases c1_1 : x2 = 1
  · have hf := it_t c1_1 hf
    refine xtabI (off := 32) (tgt := 33) hx hb c1_1 dX9_cut_1 rfl (by decide) ?_
    refine lv_lload_n hx hb dX9_cut_33 rfl (lv_at hl 0 rfl) ?_
    refine lv_l2i hx hb dX9_cut_34 rfl ?_
    refine lv_i2s hx hb dX9_cut_35 rfl ?_
    refine lv_i2l hx hb dX9_cut_36 rfl ?_
    exact ret (Int32.toInt64 (Int16.toInt32 (Int32.toInt16 (Int64.toInt32 x0)))) hf hP hS dX9_cut_37
  have hf := it_f c1_1 hf
  by_cases c1_2 : x2 = 2
  · have hf := it_t c1_2 hf
    refine xtabI (off := 37) (tgt := 38) hx hb c1_2 dX9_cut_1 rfl (by decide) ?_
    refine lv_lload_n hx hb dX9_cut_38 rfl (lv_at hl 0 rfl) ?_
    refine lv_l2i hx hb dX9_cut_39 rfl ?_
    refine lv_i2l hx hb dX9_cut_40 rfl ?_
    exact ret (Int32.toInt64 (Int64.toInt32 x0)) hf hP hS dX9_cut_41
  have hf := it_f c1_2 hf
  refine xtabD (tgt := 42) (cs := [0, 1, 2]) hx hb (by simp only [List.forall_mem_cons]; exact ⟨c1_0, c1_1, c1_2, fun _ h => absurd h List.not_mem_nil⟩) rfl dX9_cut_1 (by decide) ?_
  refine lv_lload_n hx hb dX9_cut_42 rfl (lv_at hl 0 rfl) ?_
  exact ret x0 hf hP hS dX9_cut_43
theorem dX9_put_0 : decode cX9_put 0 = .ok (.aload_n 0, 1) := by decide +kernel
theorem dX9_put_1 : decode cX9_put 1 = .ok (.iload_n 1, 1) := by decide +kernel
theorem dX9_put_2 : decode cX9_put 2 = .ok (.iload_n 2, 1) := by decide +kernel
theorem dX9_put_3 : decode cX9_put 3 = .ok (.iconst 1, 1) := by decide +kernel
theorem dX9_put_4 : decode cX9_put 4 = .ok (.invokevirtual 40, 3) := by decide +kernel
theorem dX9_put_7 : decode cX9_put 7 = .ok (.ifCond .eq 21, 3) := by decide +kernel
theorem dX9_put_10 : decode cX9_put 10 = .ok (.aload_n 0, 1) := by decide +kernel
theorem dX9_put_11 : decode cX9_put 11 = .ok (.getfield 13, 3) := by decide +kernel
theorem dX9_put_14 : decode cX9_put 14 = .ok (.iload_n 1, 1) := by decide +kernel
theorem dX9_put_15 : decode cX9_put 15 = .ok (.aaload, 1) := by decide +kernel
theorem dX9_put_16 : decode cX9_put 16 = .ok (.iload_n 2, 1) := by decide +kernel
theorem dX9_put_17 : decode cX9_put 17 = .ok (.lload_n 3, 1) := by decide +kernel
theorem dX9_put_18 : decode cX9_put 18 = .ok (.aload_n 0, 1) := by decide +kernel
theorem dX9_put_19 : decode cX9_put 19 = .ok (.getfield 16, 3) := by decide +kernel
theorem dX9_put_22 : decode cX9_put 22 = .ok (.iload_n 1, 1) := by decide +kernel
theorem dX9_put_23 : decode cX9_put 23 = .ok (.iaload, 1) := by decide +kernel
theorem dX9_put_24 : decode cX9_put 24 = .ok (.invokestatic 46, 3) := by decide +kernel
theorem dX9_put_27 : decode cX9_put 27 = .ok (.lastore, 1) := by decide +kernel
theorem dX9_put_28 : decode cX9_put 28 = .ok (.return_, 1) := by decide +kernel
set_option maxRecDepth 100000 in
theorem c_X9_put (l : Launch) (E : xE) (a0 a1 a2 a3 a4 a5 a6 a7 : Nat) {V1 : Nat → Int32} {V3 : Nat → Int64} {V4 : Nat → Int32} {V5 : Nat → Int64} {V6 : Nat → Int64} {V7 : Nat → Int64} {x1 : Int32} {x2 : Int32} {x3 : Int64} {z : (Nat → Int64) × (Nat → Int64) × (Nat → Int64) × (Nat → Int64)} (hf : f_X9_put V1 V3 V4 V5 V6 V7 x1 x2 x3 = some z) (sz : Nat) : Met l yX9_put (Cond.code yX9_put cX9_put 5 none :: gw) ({ frames := 4, cells := 0, slots := 0, locals := 87 }) (xPc E [.ref a0, .int x1, .int x2, .long x3] [(a0, o9 a2 a4 a1), (a1, ai E 4 V1), (a2, aj E 4 (en [a3, a5, a6, a7])), (a3, al E 60 V3), (a4, ai E 4 V4), (a5, al E 60 V5), (a6, al E 60 V6), (a7, al E 60 V7)] sz) (xQv E [(a0, o9 a2 a4 a1), (a1, ai E 4 V1), (a2, aj E 4 (en [a3, a5, a6, a7])), (a3, al E 60 V3), (a4, ai E 4 V4), (a5, al E 60 V5), (a6, al E 60 V6), (a7, al E 60 V7)] [(a0, o9 a2 a4 a1), (a1, ai E 4 V1), (a2, aj E 4 (en [a3, a5, a6, a7])), (a3, al E 60 z.1), (a4, ai E 4 V4), (a5, al E 60 z.2.1), (a6, al E 60 z.2.2.1), (a7, al E 60 z.2.2.2)] sz) 0 0 (va_A [(a0, o9 a2 a4 a1), (a1, ai E 4 V1), (a2, aj E 4 (en [a3, a5, a6, a7])), (a3, al E 60 V3), (a4, ai E 4 V4), (a5, al E 60 V5), (a6, al E 60 V6), (a7, al E 60 V7)] sz) := by
  refine xM_v (by decide +kernel) (Nat.le_of_ble_eq_true rfl) ?_
  intro p e s m args below meth c A Q hx hb hml hown htg hK hG hA ret0 H locs ls hP hD hS hl
  have ret : ∀ (z' : (Nat → Int64) × (Nat → Int64) × (Nat → Int64) × (Nat → Int64)) {H : Heap} {locs : List Loc} {pc : Nat} {ls : Array Slot}, some z' = some z → va_P E.1 vwCl [(a0, o9 a2 a4 a1), (a1, ai E 4 V1), (a2, aj E 4 (en [a3, a5, a6, a7])), (a3, al E 60 z'.1), (a4, ai E 4 V4), (a5, al E 60 z'.2.1), (a6, al E 60 z'.2.2.1), (a7, al E 60 z'.2.2.2)] H → va_S A s.heap H locs → decode cX9_put pc = .ok (.return_, 1) → W p l e ({ frames := 4, cells := 0, slots := 0, locals := 87 } : Room) s m args below meth c H locs 0 0 Q (F0 m pc ls []) := by
    intro z' H locs pc ls h
    cases h
    exact ret0
  replace hl : lv_has ls 5 [(0, .ref a0), (1, .int x1), (2, .int x2), (3, .long x3)] := hl
  unfold f_X9_put at hf
  refine lv_aload_n hx hb dX9_put_0 rfl (lv_at hl 0 rfl) ?_
  refine lv_iload_n hx hb dX9_put_1 rfl (lv_at hl 1 rfl) ?_
  refine lv_iload_n hx hb dX9_put_2 rfl (lv_at hl 2 rfl) ?_
  refine lv_iconst (v := 1) hx hb dX9_put_3 rfl ?_
  obtain ⟨z4, hz4, hf⟩ := bind_s hf
  refine xV_ir hx hb hml hown htg L9_40 (c_X9_hasPlaces l E a0 a1 hz4 _) ⟨⟨rfl, rfl⟩, Nat.le_of_ble_eq_true rfl, Nat.le_of_ble_eq_true rfl⟩ hK hG hA hP hD hS (is := [0, 1]) rfl rfl (xrecv hK hP (q0 := 0) (ci := 9) rfl rfl) rfl hl.1 rfl (Nat.le_of_ble_eq_true rfl) dX9_put_4 (fun H locs hP hD hS => ?_)
  refine lv_if_eq (tgt := 28) hx hb dX9_put_7 (by decide) (fun c7 => ?_) (fun c7 => ?_)
  · have hf := it_t c7 hf
    exact ret (V3, V5, V6, V7) hf hP hS dX9_put_28
  · have hf := it_f c7 hf
    refine lv_aload_n hx hb dX9_put_10 rfl (lv_at hl 0 rfl) ?_
    refine G9_13 hx hb htg hown hK hP 0 rfl dX9_put_11 ?_
    refine lv_iload_n hx hb dX9_put_14 rfl (lv_at hl 1 rfl) ?_
    obtain ⟨g15, hf⟩ := ck_s hf
    by_cases c15_0 : x1 = 0
    · have hf := it_t c15_0 hf
      refine xjld (v := a3) hx hb hK hP 2 rfl g15 (congrArg Int32.toNatClampNeg c15_0) rfl dX9_put_15 ?_
      refine lv_iload_n hx hb dX9_put_16 rfl (lv_at hl 2 rfl) ?_
      refine lv_lload_n hx hb dX9_put_17 rfl (lv_at hl 3 rfl) ?_
      refine lv_aload_n hx hb dX9_put_18 rfl (lv_at hl 0 rfl) ?_
      refine G9_16 hx hb htg hown hK hP 0 rfl dX9_put_19 ?_
      refine lv_iload_n hx hb dX9_put_22 rfl (lv_at hl 1 rfl) ?_
      obtain ⟨g23, hf⟩ := ck_s hf
      refine xiald hx hb hK hP 4 rfl g23 dX9_put_23 ?_
      obtain ⟨z24, hz24, hf⟩ := bind_s hf
      refine xS_lr hx hb hml hown htg L9_46 (c_X9_cut l E hz24 _) ⟨⟨rfl, rfl⟩, Nat.le_of_ble_eq_true rfl, Nat.le_of_ble_eq_true rfl⟩ hK hG hA hP hD hS (is := []) rfl rfl rfl hl.1 rfl (Nat.le_of_ble_eq_true rfl) dX9_put_24 (fun H locs hP hD hS => ?_)
      obtain ⟨g27, hf⟩ := ck_s hf
      refine xlast hx hb hK hP hD hS 3 rfl g27 dX9_put_27 (fun H locs hP hD hS => ?_)
      exact ret (vp_updL V3 (Int32.toNatClampNeg x2) z24, V5, V6, V7) hf hP hS dX9_put_28
    have hf := it_f c15_0 hf
    by_cases c15_1 : x1 = 1
    · have hf := it_t c15_1 hf
      refine xjld (v := a5) hx hb hK hP 2 rfl g15 (congrArg Int32.toNatClampNeg c15_1) rfl dX9_put_15 ?_
      refine lv_iload_n hx hb dX9_put_16 rfl (lv_at hl 2 rfl) ?_
      refine lv_lload_n hx hb dX9_put_17 rfl (lv_at hl 3 rfl) ?_
      refine lv_aload_n hx hb dX9_put_18 rfl (lv_at hl 0 rfl) ?_
      refine G9_16 hx hb htg hown hK hP 0 rfl dX9_put_19 ?_
      refine lv_iload_n hx hb dX9_put_22 rfl (lv_at hl 1 rfl) ?_
      obtain ⟨g23, hf⟩ := ck_s hf
      refine xiald hx hb hK hP 4 rfl g23 dX9_put_23 ?_
      obtain ⟨z24, hz24, hf⟩ := bind_s hf
      refine xS_lr hx hb hml hown htg L9_46 (c_X9_cut l E hz24 _) ⟨⟨rfl, rfl⟩, Nat.le_of_ble_eq_true rfl, Nat.le_of_ble_eq_true rfl⟩ hK hG hA hP hD hS (is := []) rfl rfl rfl hl.1 rfl (Nat.le_of_ble_eq_true rfl) dX9_put_24 (fun H locs hP hD hS => ?_)
      obtain ⟨g27, hf⟩ := ck_s hf
      refine xlast hx hb hK hP hD hS 5 rfl g27 dX9_put_27 (fun H locs hP hD hS => ?_)
      exact ret (V3, vp_updL V5 (Int32.toNatClampNeg x2) z24, V6, V7) hf hP hS dX9_put_28
    have hf := it_f c15_1 hf
    by_cases c15_2 : x1 = 2
    · have hf := it_t c15_2 hf
      refine xjld (v := a6) hx hb hK hP 2 rfl g15 (congrArg Int32.toNatClampNeg c15_2) rfl dX9_put_15 ?_
      refine lv_iload_n hx hb dX9_put_16 rfl (lv_at hl 2 rfl) ?_
      refine lv_lload_n hx hb dX9_put_17 rfl (lv_at hl 3 rfl) ?_
      refine lv_aload_n hx hb dX9_put_18 rfl (lv_at hl 0 rfl) ?_
      refine G9_16 hx hb htg hown hK hP 0 rfl dX9_put_19 ?_
      refine lv_iload_n hx hb dX9_put_22 rfl (lv_at hl 1 rfl) ?_
      obtain ⟨g23, hf⟩ := ck_s hf
      refine xiald hx hb hK hP 4 rfl g23 dX9_put_23 ?_
      obtain ⟨z24, hz24, hf⟩ := bind_s hf
      refine xS_lr hx hb hml hown htg L9_46 (c_X9_cut l E hz24 _) ⟨⟨rfl, rfl⟩, Nat.le_of_ble_eq_true rfl, Nat.le_of_ble_eq_true rfl⟩ hK hG hA hP hD hS (is := []) rfl rfl rfl hl.1 rfl (Nat.le_of_ble_eq_true rfl) dX9_put_24 (fun H locs hP hD hS => ?_)
      obtain ⟨g27, hf⟩ := ck_s hf
      refine xlast hx hb hK hP hD hS 6 rfl g27 dX9_put_27 (fun H locs hP hD hS => ?_)
      exact ret (V3, V5, vp_updL V6 (Int32.toNatClampNeg x2) z24, V7) hf hP hS dX9_put_28
    have hf := it_f c15_2 hf
    have e15 := gd_last4 g15 c15_0 c15_1 c15_2
    refine xjld (v := a7) hx hb hK hP 2 rfl g15 (congrArg Int32.toNatClampNeg e15) rfl dX9_put_15 ?_
    refine lv_iload_n hx hb dX9_put_16 rfl (lv_at hl 2 rfl) ?_
    refine lv_lload_n hx hb dX9_put_17 rfl (lv_at hl 3 rfl) ?_
    refine lv_aload_n hx hb dX9_put_18 rfl (lv_at hl 0 rfl) ?_
    refine G9_16 hx hb htg hown hK hP 0 rfl dX9_put_19 ?_
    refine lv_iload_n hx hb dX9_put_22 rfl (lv_at hl 1 rfl) ?_
    obtain ⟨g23, hf⟩ := ck_s hf
    refine xiald hx hb hK hP 4 rfl g23 dX9_put_23 ?_
    obtain ⟨z24, hz24, hf⟩ := bind_s hf
    refine xS_lr hx hb hml hown htg L9_46 (c_X9_cut l E hz24 _) ⟨⟨rfl, rfl⟩, Nat.le_of_ble_eq_true rfl, Nat.le_of_ble_eq_true rfl⟩ hK hG hA hP hD hS (is := []) rfl rfl rfl hl.1 rfl (Nat.le_of_ble_eq_true rfl) dX9_put_24 (fun H locs hP hD hS => ?_)
    obtain ⟨g27, hf⟩ := ck_s hf
    refine xlast hx hb hK hP hD hS 7 rfl g27 dX9_put_27 (fun H locs hP hD hS => ?_)
    exact ret (V3, V5, V6, vp_updL V7 (Int32.toNatClampNeg x2) z24) hf hP hS dX9_put_28
theorem dX9_get_0 : decode cX9_get 0 = .ok (.aload_n 0, 1) := by decide +kernel
theorem dX9_get_1 : decode cX9_get 1 = .ok (.iload_n 1, 1) := by decide +kernel
theorem dX9_get_2 : decode cX9_get 2 = .ok (.iload_n 2, 1) := by decide +kernel
theorem dX9_get_3 : decode cX9_get 3 = .ok (.iconst 1, 1) := by decide +kernel
theorem dX9_get_4 : decode cX9_get 4 = .ok (.invokevirtual 40, 3) := by decide +kernel
theorem dX9_get_7 : decode cX9_get 7 = .ok (.ifCond .eq 14, 3) := by decide +kernel
theorem dX9_get_10 : decode cX9_get 10 = .ok (.aload_n 0, 1) := by decide +kernel
theorem dX9_get_11 : decode cX9_get 11 = .ok (.getfield 13, 3) := by decide +kernel
theorem dX9_get_14 : decode cX9_get 14 = .ok (.iload_n 1, 1) := by decide +kernel
theorem dX9_get_15 : decode cX9_get 15 = .ok (.aaload, 1) := by decide +kernel
theorem dX9_get_16 : decode cX9_get 16 = .ok (.iload_n 2, 1) := by decide +kernel
theorem dX9_get_17 : decode cX9_get 17 = .ok (.laload, 1) := by decide +kernel
theorem dX9_get_18 : decode cX9_get 18 = .ok (.goto 6, 3) := by decide +kernel
theorem dX9_get_21 : decode cX9_get 21 = .ok (.ldc2_w 50, 3) := by decide +kernel
theorem dX9_get_24 : decode cX9_get 24 = .ok (.lreturn, 1) := by decide +kernel
set_option maxRecDepth 100000 in
theorem c_X9_get (l : Launch) (E : xE) (a0 a1 a2 a3 a4 a5 a6 : Nat) {V1 : Nat → Int32} {V3 : Nat → Int64} {V4 : Nat → Int64} {V5 : Nat → Int64} {V6 : Nat → Int64} {u0_1 : Nat} {x1 : Int32} {x2 : Int32} {z : Int64} (hf : f_X9_get V1 V3 V4 V5 V6 x1 x2 = some z) (sz : Nat) : Met l yX9_get (Cond.code yX9_get cX9_get 3 (some .long) :: gw) ({ frames := 4, cells := 0, slots := 0, locals := 87 }) (xPc E [.ref a0, .int x1, .int x2] [(a0, o9 a2 u0_1 a1), (a1, ai E 4 V1), (a2, aj E 4 (en [a3, a4, a5, a6])), (a3, al E 60 V3), (a4, al E 60 V4), (a5, al E 60 V5), (a6, al E 60 V6)] sz) (xQl E z [(a0, o9 a2 u0_1 a1), (a1, ai E 4 V1), (a2, aj E 4 (en [a3, a4, a5, a6])), (a3, al E 60 V3), (a4, al E 60 V4), (a5, al E 60 V5), (a6, al E 60 V6)] [(a0, o9 a2 u0_1 a1), (a1, ai E 4 V1), (a2, aj E 4 (en [a3, a4, a5, a6])), (a3, al E 60 V3), (a4, al E 60 V4), (a5, al E 60 V5), (a6, al E 60 V6)] sz) 0 0 (va_A [(a0, o9 a2 u0_1 a1), (a1, ai E 4 V1), (a2, aj E 4 (en [a3, a4, a5, a6])), (a3, al E 60 V3), (a4, al E 60 V4), (a5, al E 60 V5), (a6, al E 60 V6)] sz) := by
  refine xM_l (by decide +kernel) (Nat.le_of_ble_eq_true rfl) ?_
  intro p e s m args below meth c A Q hx hb hml hown htg hK hG hA ret0 H locs ls hP hD hS hl
  have ret : ∀ (z' : Int64) {H : Heap} {locs : List Loc} {pc : Nat} {ls : Array Slot}, some z' = some z → va_P E.1 vwCl [(a0, o9 a2 u0_1 a1), (a1, ai E 4 V1), (a2, aj E 4 (en [a3, a4, a5, a6])), (a3, al E 60 V3), (a4, al E 60 V4), (a5, al E 60 V5), (a6, al E 60 V6)] H → va_S A s.heap H locs → decode cX9_get pc = .ok (.lreturn, 1) → W p l e ({ frames := 4, cells := 0, slots := 0, locals := 87 } : Room) s m args below meth c H locs 0 0 Q (F0 m pc ls [.long z']) := by
    intro z' H locs pc ls h
    cases h
    exact ret0
  replace hl : lv_has ls 3 [(0, .ref a0), (1, .int x1), (2, .int x2)] := hl
  unfold f_X9_get at hf
  refine lv_aload_n hx hb dX9_get_0 rfl (lv_at hl 0 rfl) ?_
  refine lv_iload_n hx hb dX9_get_1 rfl (lv_at hl 1 rfl) ?_
  refine lv_iload_n hx hb dX9_get_2 rfl (lv_at hl 2 rfl) ?_
  refine lv_iconst (v := 1) hx hb dX9_get_3 rfl ?_
  obtain ⟨z4, hz4, hf⟩ := bind_s hf
  refine xV_ir hx hb hml hown htg L9_40 (c_X9_hasPlaces l E a0 a1 hz4 _) ⟨⟨rfl, rfl⟩, Nat.le_of_ble_eq_true rfl, Nat.le_of_ble_eq_true rfl⟩ hK hG hA hP hD hS (is := [0, 1]) rfl rfl (xrecv hK hP (q0 := 0) (ci := 9) rfl rfl) rfl hl.1 rfl (Nat.le_of_ble_eq_true rfl) dX9_get_4 (fun H locs hP hD hS => ?_)
  refine lv_if_eq (tgt := 21) hx hb dX9_get_7 (by decide) (fun c7 => ?_) (fun c7 => ?_)
  · have hf := it_t c7 hf
    refine lv_ldc2 hx hb hown (htg _ (gw_t (tb3 67 rfl) rfl)) dX9_get_21 ?_
    exact ret (-1) hf hP hS dX9_get_24
  · have hf := it_f c7 hf
    refine lv_aload_n hx hb dX9_get_10 rfl (lv_at hl 0 rfl) ?_
    refine G9_13 hx hb htg hown hK hP 0 rfl dX9_get_11 ?_
    refine lv_iload_n hx hb dX9_get_14 rfl (lv_at hl 1 rfl) ?_
    obtain ⟨g15, hf⟩ := ck_s hf
    by_cases c15_0 : x1 = 0
    · have hf := it_t c15_0 hf
      refine xjld (v := a3) hx hb hK hP 2 rfl g15 (congrArg Int32.toNatClampNeg c15_0) rfl dX9_get_15 ?_
      refine lv_iload_n hx hb dX9_get_16 rfl (lv_at hl 2 rfl) ?_
      obtain ⟨g17, hf⟩ := ck_s hf
      refine xlald hx hb hK hP 3 rfl g17 dX9_get_17 ?_
      refine lv_goto (tgt := 24) hx hb dX9_get_18 (by decide) ?_
      exact ret (V3 (Int32.toNatClampNeg x2)) hf hP hS dX9_get_24
    have hf := it_f c15_0 hf
    by_cases c15_1 : x1 = 1
    · have hf := it_t c15_1 hf
      refine xjld (v := a4) hx hb hK hP 2 rfl g15 (congrArg Int32.toNatClampNeg c15_1) rfl dX9_get_15 ?_
      refine lv_iload_n hx hb dX9_get_16 rfl (lv_at hl 2 rfl) ?_
      obtain ⟨g17, hf⟩ := ck_s hf
      refine xlald hx hb hK hP 4 rfl g17 dX9_get_17 ?_
      refine lv_goto (tgt := 24) hx hb dX9_get_18 (by decide) ?_
      exact ret (V4 (Int32.toNatClampNeg x2)) hf hP hS dX9_get_24
    have hf := it_f c15_1 hf
    by_cases c15_2 : x1 = 2
    · have hf := it_t c15_2 hf
      refine xjld (v := a5) hx hb hK hP 2 rfl g15 (congrArg Int32.toNatClampNeg c15_2) rfl dX9_get_15 ?_
      refine lv_iload_n hx hb dX9_get_16 rfl (lv_at hl 2 rfl) ?_
      obtain ⟨g17, hf⟩ := ck_s hf
      refine xlald hx hb hK hP 5 rfl g17 dX9_get_17 ?_
      refine lv_goto (tgt := 24) hx hb dX9_get_18 (by decide) ?_
      exact ret (V5 (Int32.toNatClampNeg x2)) hf hP hS dX9_get_24
    have hf := it_f c15_2 hf
    have e15 := gd_last4 g15 c15_0 c15_1 c15_2
    refine xjld (v := a6) hx hb hK hP 2 rfl g15 (congrArg Int32.toNatClampNeg e15) rfl dX9_get_15 ?_
    refine lv_iload_n hx hb dX9_get_16 rfl (lv_at hl 2 rfl) ?_
    obtain ⟨g17, hf⟩ := ck_s hf
    refine xlald hx hb hK hP 6 rfl g17 dX9_get_17 ?_
    refine lv_goto (tgt := 24) hx hb dX9_get_18 (by decide) ?_
    exact ret (V6 (Int32.toNatClampNeg x2)) hf hP hS dX9_get_24
theorem dX9_move_0 : decode cX9_move 0 = .ok (.aload_n 0, 1) := by decide +kernel
theorem dX9_move_1 : decode cX9_move 1 = .ok (.iload_n 1, 1) := by decide +kernel
theorem dX9_move_2 : decode cX9_move 2 = .ok (.iload_n 2, 1) := by decide +kernel
theorem dX9_move_3 : decode cX9_move 3 = .ok (.iload 5, 2) := by decide +kernel
theorem dX9_move_5 : decode cX9_move 5 = .ok (.invokevirtual 40, 3) := by decide +kernel
theorem dX9_move_8 : decode cX9_move 8 = .ok (.ifCond .eq 35, 3) := by decide +kernel
theorem dX9_move_11 : decode cX9_move 11 = .ok (.aload_n 0, 1) := by decide +kernel
theorem dX9_move_12 : decode cX9_move 12 = .ok (.iload_n 3, 1) := by decide +kernel
theorem dX9_move_13 : decode cX9_move 13 = .ok (.iload 4, 2) := by decide +kernel
theorem dX9_move_15 : decode cX9_move 15 = .ok (.iload 5, 2) := by decide +kernel
theorem dX9_move_17 : decode cX9_move 17 = .ok (.invokevirtual 40, 3) := by decide +kernel
theorem dX9_move_20 : decode cX9_move 20 = .ok (.ifCond .eq 23, 3) := by decide +kernel
theorem dX9_move_23 : decode cX9_move 23 = .ok (.aload_n 0, 1) := by decide +kernel
theorem dX9_move_24 : decode cX9_move 24 = .ok (.getfield 13, 3) := by decide +kernel
theorem dX9_move_27 : decode cX9_move 27 = .ok (.iload_n 1, 1) := by decide +kernel
theorem dX9_move_28 : decode cX9_move 28 = .ok (.aaload, 1) := by decide +kernel
theorem dX9_move_29 : decode cX9_move 29 = .ok (.iload_n 2, 1) := by decide +kernel
theorem dX9_move_30 : decode cX9_move 30 = .ok (.aload_n 0, 1) := by decide +kernel
theorem dX9_move_31 : decode cX9_move 31 = .ok (.getfield 13, 3) := by decide +kernel
theorem dX9_move_34 : decode cX9_move 34 = .ok (.iload_n 3, 1) := by decide +kernel
theorem dX9_move_35 : decode cX9_move 35 = .ok (.aaload, 1) := by decide +kernel
theorem dX9_move_36 : decode cX9_move 36 = .ok (.iload 4, 2) := by decide +kernel
theorem dX9_move_38 : decode cX9_move 38 = .ok (.iload 5, 2) := by decide +kernel
theorem dX9_move_40 : decode cX9_move 40 = .ok (.invokestatic 52, 3) := by decide +kernel
theorem dX9_move_43 : decode cX9_move 43 = .ok (.return_, 1) := by decide +kernel
set_option maxRecDepth 100000 in
theorem c_X9_move (l : Launch) (E : xE) (a0 a1 a2 a3 a4 a5 a6 : Nat) {V1 : Nat → Int32} {V3 : Nat → Int64} {V4 : Nat → Int64} {V5 : Nat → Int64} {V6 : Nat → Int64} {u0_1 : Nat} {x1 : Int32} {x2 : Int32} {x3 : Int32} {x4 : Int32} {x5 : Int32} {z : (Nat → Int64) × (Nat → Int64) × (Nat → Int64) × (Nat → Int64)} (hf : f_X9_move V1 V3 V4 V5 V6 x1 x2 x3 x4 x5 = some z) (sz : Nat) : Met l yX9_move (Cond.code yX9_move cX9_move 6 none :: gw) ({ frames := 4, cells := 0, slots := 0, locals := 87 }) (xPc E [.ref a0, .int x1, .int x2, .int x3, .int x4, .int x5] [(a0, o9 a2 u0_1 a1), (a1, ai E 4 V1), (a2, aj E 4 (en [a3, a4, a5, a6])), (a3, al E 60 V3), (a4, al E 60 V4), (a5, al E 60 V5), (a6, al E 60 V6)] sz) (xQv E [(a0, o9 a2 u0_1 a1), (a1, ai E 4 V1), (a2, aj E 4 (en [a3, a4, a5, a6])), (a3, al E 60 V3), (a4, al E 60 V4), (a5, al E 60 V5), (a6, al E 60 V6)] [(a0, o9 a2 u0_1 a1), (a1, ai E 4 V1), (a2, aj E 4 (en [a3, a4, a5, a6])), (a3, al E 60 z.1), (a4, al E 60 z.2.1), (a5, al E 60 z.2.2.1), (a6, al E 60 z.2.2.2)] sz) 0 0 (va_A [(a0, o9 a2 u0_1 a1), (a1, ai E 4 V1), (a2, aj E 4 (en [a3, a4, a5, a6])), (a3, al E 60 V3), (a4, al E 60 V4), (a5, al E 60 V5), (a6, al E 60 V6)] sz) := by
  refine xM_v (by decide +kernel) (Nat.le_of_ble_eq_true rfl) ?_
  intro p e s m args below meth c A Q hx hb hml hown htg hK hG hA ret0 H locs ls hP hD hS hl
  have ret : ∀ (z' : (Nat → Int64) × (Nat → Int64) × (Nat → Int64) × (Nat → Int64)) {H : Heap} {locs : List Loc} {pc : Nat} {ls : Array Slot}, some z' = some z → va_P E.1 vwCl [(a0, o9 a2 u0_1 a1), (a1, ai E 4 V1), (a2, aj E 4 (en [a3, a4, a5, a6])), (a3, al E 60 z'.1), (a4, al E 60 z'.2.1), (a5, al E 60 z'.2.2.1), (a6, al E 60 z'.2.2.2)] H → va_S A s.heap H locs → decode cX9_move pc = .ok (.return_, 1) → W p l e ({ frames := 4, cells := 0, slots := 0, locals := 87 } : Room) s m args below meth c H locs 0 0 Q (F0 m pc ls []) := by
    intro z' H locs pc ls h
    cases h
    exact ret0
  replace hl : lv_has ls 6 [(0, .ref a0), (1, .int x1), (2, .int x2), (3, .int x3), (4, .int x4), (5, .int x5)] := hl
  unfold f_X9_move at hf
  refine lv_aload_n hx hb dX9_move_0 rfl (lv_at hl 0 rfl) ?_
  refine lv_iload_n hx hb dX9_move_1 rfl (lv_at hl 1 rfl) ?_
  refine lv_iload_n hx hb dX9_move_2 rfl (lv_at hl 2 rfl) ?_
  refine lv_iload hx hb dX9_move_3 (lv_at hl 5 rfl) ?_
  obtain ⟨z5, hz5, hf⟩ := bind_s hf
  refine xV_ir hx hb hml hown htg L9_40 (c_X9_hasPlaces l E a0 a1 hz5 _) ⟨⟨rfl, rfl⟩, Nat.le_of_ble_eq_true rfl, Nat.le_of_ble_eq_true rfl⟩ hK hG hA hP hD hS (is := [0, 1]) rfl rfl (xrecv hK hP (q0 := 0) (ci := 9) rfl rfl) rfl hl.1 rfl (Nat.le_of_ble_eq_true rfl) dX9_move_5 (fun H locs hP hD hS => ?_)
  refine lv_if_eq (tgt := 43) hx hb dX9_move_8 (by decide) (fun c8 => ?_) (fun c8 => ?_)
  · have hf := it_t c8 hf
    exact ret (V3, V4, V5, V6) hf hP hS dX9_move_43
  · have hf := it_f c8 hf
    refine lv_aload_n hx hb dX9_move_11 rfl (lv_at hl 0 rfl) ?_
    refine lv_iload_n hx hb dX9_move_12 rfl (lv_at hl 3 rfl) ?_
    refine lv_iload hx hb dX9_move_13 (lv_at hl 4 rfl) ?_
    refine lv_iload hx hb dX9_move_15 (lv_at hl 5 rfl) ?_
    obtain ⟨z17, hz17, hf⟩ := bind_s hf
    refine xV_ir hx hb hml hown htg L9_40 (c_X9_hasPlaces l E a0 a1 hz17 _) ⟨⟨rfl, rfl⟩, Nat.le_of_ble_eq_true rfl, Nat.le_of_ble_eq_true rfl⟩ hK hG hA hP hD hS (is := [0, 1]) rfl rfl (xrecv hK hP (q0 := 0) (ci := 9) rfl rfl) rfl hl.1 rfl (Nat.le_of_ble_eq_true rfl) dX9_move_17 (fun H locs hP hD hS => ?_)
    refine lv_if_eq (tgt := 43) hx hb dX9_move_20 (by decide) (fun c20 => ?_) (fun c20 => ?_)
    · have hf := it_t c20 hf
      exact ret (V3, V4, V5, V6) hf hP hS dX9_move_43
    · have hf := it_f c20 hf
      refine lv_aload_n hx hb dX9_move_23 rfl (lv_at hl 0 rfl) ?_
      refine G9_13 hx hb htg hown hK hP 0 rfl dX9_move_24 ?_
      refine lv_iload_n hx hb dX9_move_27 rfl (lv_at hl 1 rfl) ?_
      obtain ⟨g28, hf⟩ := ck_s hf
      by_cases c28_0 : x1 = 0
      · have hf := it_t c28_0 hf
        refine xjld (v := a3) hx hb hK hP 2 rfl g28 (congrArg Int32.toNatClampNeg c28_0) rfl dX9_move_28 ?_
        refine lv_iload_n hx hb dX9_move_29 rfl (lv_at hl 2 rfl) ?_
        refine lv_aload_n hx hb dX9_move_30 rfl (lv_at hl 0 rfl) ?_
        refine G9_13 hx hb htg hown hK hP 0 rfl dX9_move_31 ?_
        refine lv_iload_n hx hb dX9_move_34 rfl (lv_at hl 3 rfl) ?_
        obtain ⟨g35, hf⟩ := ck_s hf
        by_cases c35_0 : x3 = 0
        · have hf := it_t c35_0 hf
          refine xjld (v := a3) hx hb hK hP 2 rfl g35 (congrArg Int32.toNatClampNeg c35_0) rfl dX9_move_35 ?_
          refine lv_iload hx hb dX9_move_36 (lv_at hl 4 rfl) ?_
          refine lv_iload hx hb dX9_move_38 (lv_at hl 5 rfl) ?_
          obtain ⟨g40, hf⟩ := ck_s hf
          refine xcopyl hx hb hml hl.1 hown mlC9_52 htg hK hP hD hS 3 3 rfl rfl g40 (Nat.le_of_ble_eq_true rfl) (Nat.le_of_ble_eq_true rfl) dX9_move_40 (fun H locs hP hD hS => ?_)
          replace hP : va_P E.1 vwCl [(a0, o9 a2 u0_1 a1), (a1, ai E 4 V1), (a2, aj E 4 (en [a3, a4, a5, a6])), (a3, al E 60 (va_cpy V3 V3 (Int32.toNatClampNeg x2) (Int32.toNatClampNeg x4) (Int32.toNatClampNeg x5))), (a4, al E 60 V4), (a5, al E 60 V5), (a6, al E 60 V6)] H := hP
          replace hD : va_D A [(a0, o9 a2 u0_1 a1), (a1, ai E 4 V1), (a2, aj E 4 (en [a3, a4, a5, a6])), (a3, al E 60 (va_cpy V3 V3 (Int32.toNatClampNeg x2) (Int32.toNatClampNeg x4) (Int32.toNatClampNeg x5))), (a4, al E 60 V4), (a5, al E 60 V5), (a6, al E 60 V6)] := hD
          exact ret (va_cpy V3 V3 (Int32.toNatClampNeg x2) (Int32.toNatClampNeg x4) (Int32.toNatClampNeg x5), V4, V5, V6) hf hP hS dX9_move_43
        have hf := it_f c35_0 hf
        by_cases c35_1 : x3 = 1
        · have hf := it_t c35_1 hf
          refine xjld (v := a4) hx hb hK hP 2 rfl g35 (congrArg Int32.toNatClampNeg c35_1) rfl dX9_move_35 ?_
          refine lv_iload hx hb dX9_move_36 (lv_at hl 4 rfl) ?_
          refine lv_iload hx hb dX9_move_38 (lv_at hl 5 rfl) ?_
          obtain ⟨g40, hf⟩ := ck_s hf
          refine xcopyl hx hb hml hl.1 hown mlC9_52 htg hK hP hD hS 3 4 rfl rfl g40 (Nat.le_of_ble_eq_true rfl) (Nat.le_of_ble_eq_true rfl) dX9_move_40 (fun H locs hP hD hS => ?_)
          replace hP : va_P E.1 vwCl [(a0, o9 a2 u0_1 a1), (a1, ai E 4 V1), (a2, aj E 4 (en [a3, a4, a5, a6])), (a3, al E 60 V3), (a4, al E 60 (va_cpy V3 V4 (Int32.toNatClampNeg x2) (Int32.toNatClampNeg x4) (Int32.toNatClampNeg x5))), (a5, al E 60 V5), (a6, al E 60 V6)] H := hP
          replace hD : va_D A [(a0, o9 a2 u0_1 a1), (a1, ai E 4 V1), (a2, aj E 4 (en [a3, a4, a5, a6])), (a3, al E 60 V3), (a4, al E 60 (va_cpy V3 V4 (Int32.toNatClampNeg x2) (Int32.toNatClampNeg x4) (Int32.toNatClampNeg x5))), (a5, al E 60 V5), (a6, al E 60 V6)] := hD
          exact ret (V3, va_cpy V3 V4 (Int32.toNatClampNeg x2) (Int32.toNatClampNeg x4) (Int32.toNatClampNeg x5), V5, V6) hf hP hS dX9_move_43
        have hf := it_f c35_1 hf
        by_cases c35_2 : x3 = 2
        · have hf := it_t c35_2 hf
          refine xjld (v := a5) hx hb hK hP 2 rfl g35 (congrArg Int32.toNatClampNeg c35_2) rfl dX9_move_35 ?_
          refine lv_iload hx hb dX9_move_36 (lv_at hl 4 rfl) ?_
          refine lv_iload hx hb dX9_move_38 (lv_at hl 5 rfl) ?_
          obtain ⟨g40, hf⟩ := ck_s hf
          refine xcopyl hx hb hml hl.1 hown mlC9_52 htg hK hP hD hS 3 5 rfl rfl g40 (Nat.le_of_ble_eq_true rfl) (Nat.le_of_ble_eq_true rfl) dX9_move_40 (fun H locs hP hD hS => ?_)
          replace hP : va_P E.1 vwCl [(a0, o9 a2 u0_1 a1), (a1, ai E 4 V1), (a2, aj E 4 (en [a3, a4, a5, a6])), (a3, al E 60 V3), (a4, al E 60 V4), (a5, al E 60 (va_cpy V3 V5 (Int32.toNatClampNeg x2) (Int32.toNatClampNeg x4) (Int32.toNatClampNeg x5))), (a6, al E 60 V6)] H := hP
          replace hD : va_D A [(a0, o9 a2 u0_1 a1), (a1, ai E 4 V1), (a2, aj E 4 (en [a3, a4, a5, a6])), (a3, al E 60 V3), (a4, al E 60 V4), (a5, al E 60 (va_cpy V3 V5 (Int32.toNatClampNeg x2) (Int32.toNatClampNeg x4) (Int32.toNatClampNeg x5))), (a6, al E 60 V6)] := hD
          exact ret (V3, V4, va_cpy V3 V5 (Int32.toNatClampNeg x2) (Int32.toNatClampNeg x4) (Int32.toNatClampNeg x5), V6) hf hP hS dX9_move_43
        have hf := it_f c35_2 hf
        have e35 := gd_last4 g35 c35_0 c35_1 c35_2
        refine xjld (v := a6) hx hb hK hP 2 rfl g35 (congrArg Int32.toNatClampNeg e35) rfl dX9_move_35 ?_
        refine lv_iload hx hb dX9_move_36 (lv_at hl 4 rfl) ?_
        refine lv_iload hx hb dX9_move_38 (lv_at hl 5 rfl) ?_
        obtain ⟨g40, hf⟩ := ck_s hf
        refine xcopyl hx hb hml hl.1 hown mlC9_52 htg hK hP hD hS 3 6 rfl rfl g40 (Nat.le_of_ble_eq_true rfl) (Nat.le_of_ble_eq_true rfl) dX9_move_40 (fun H locs hP hD hS => ?_)
        replace hP : va_P E.1 vwCl [(a0, o9 a2 u0_1 a1), (a1, ai E 4 V1), (a2, aj E 4 (en [a3, a4, a5, a6])), (a3, al E 60 V3), (a4, al E 60 V4), (a5, al E 60 V5), (a6, al E 60 (va_cpy V3 V6 (Int32.toNatClampNeg x2) (Int32.toNatClampNeg x4) (Int32.toNatClampNeg x5)))] H := hP
        replace hD : va_D A [(a0, o9 a2 u0_1 a1), (a1, ai E 4 V1), (a2, aj E 4 (en [a3, a4, a5, a6])), (a3, al E 60 V3), (a4, al E 60 V4), (a5, al E 60 V5), (a6, al E 60 (va_cpy V3 V6 (Int32.toNatClampNeg x2) (Int32.toNatClampNeg x4) (Int32.toNatClampNeg x5)))] := hD
        exact ret (V3, V4, V5, va_cpy V3 V6 (Int32.toNatClampNeg x2) (Int32.toNatClampNeg x4) (Int32.toNatClampNeg x5)) hf hP hS dX9_move_43
      have hf := it_f c28_0 hf
      by_cases c28_1 : x1 = 1
      · have hf := it_t c28_1 hf
        refine xjld (v := a4) hx hb hK hP 2 rfl g28 (congrArg Int32.toNatClampNeg c28_1) rfl dX9_move_28 ?_
        refine lv_iload_n hx hb dX9_move_29 rfl (lv_at hl 2 rfl) ?_
        refine lv_aload_n hx hb dX9_move_30 rfl (lv_at hl 0 rfl) ?_
        refine G9_13 hx hb htg hown hK hP 0 rfl dX9_move_31 ?_
        refine lv_iload_n hx hb dX9_move_34 rfl (lv_at hl 3 rfl) ?_
        obtain ⟨g35, hf⟩ := ck_s hf
        by_cases c35_0 : x3 = 0
        · have hf := it_t c35_0 hf
          refine xjld (v := a3) hx hb hK hP 2 rfl g35 (congrArg Int32.toNatClampNeg c35_0) rfl dX9_move_35 ?_
          refine lv_iload hx hb dX9_move_36 (lv_at hl 4 rfl) ?_
          refine lv_iload hx hb dX9_move_38 (lv_at hl 5 rfl) ?_
          obtain ⟨g40, hf⟩ := ck_s hf
          refine xcopyl hx hb hml hl.1 hown mlC9_52 htg hK hP hD hS 4 3 rfl rfl g40 (Nat.le_of_ble_eq_true rfl) (Nat.le_of_ble_eq_true rfl) dX9_move_40 (fun H locs hP hD hS => ?_)
          replace hP : va_P E.1 vwCl [(a0, o9 a2 u0_1 a1), (a1, ai E 4 V1), (a2, aj E 4 (en [a3, a4, a5, a6])), (a3, al E 60 (va_cpy V4 V3 (Int32.toNatClampNeg x2) (Int32.toNatClampNeg x4) (Int32.toNatClampNeg x5))), (a4, al E 60 V4), (a5, al E 60 V5), (a6, al E 60 V6)] H := hP
          replace hD : va_D A [(a0, o9 a2 u0_1 a1), (a1, ai E 4 V1), (a2, aj E 4 (en [a3, a4, a5, a6])), (a3, al E 60 (va_cpy V4 V3 (Int32.toNatClampNeg x2) (Int32.toNatClampNeg x4) (Int32.toNatClampNeg x5))), (a4, al E 60 V4), (a5, al E 60 V5), (a6, al E 60 V6)] := hD
          exact ret (va_cpy V4 V3 (Int32.toNatClampNeg x2) (Int32.toNatClampNeg x4) (Int32.toNatClampNeg x5), V4, V5, V6) hf hP hS dX9_move_43
        have hf := it_f c35_0 hf
        by_cases c35_1 : x3 = 1
        · have hf := it_t c35_1 hf
          refine xjld (v := a4) hx hb hK hP 2 rfl g35 (congrArg Int32.toNatClampNeg c35_1) rfl dX9_move_35 ?_
          refine lv_iload hx hb dX9_move_36 (lv_at hl 4 rfl) ?_
          refine lv_iload hx hb dX9_move_38 (lv_at hl 5 rfl) ?_
          obtain ⟨g40, hf⟩ := ck_s hf
          refine xcopyl hx hb hml hl.1 hown mlC9_52 htg hK hP hD hS 4 4 rfl rfl g40 (Nat.le_of_ble_eq_true rfl) (Nat.le_of_ble_eq_true rfl) dX9_move_40 (fun H locs hP hD hS => ?_)
          replace hP : va_P E.1 vwCl [(a0, o9 a2 u0_1 a1), (a1, ai E 4 V1), (a2, aj E 4 (en [a3, a4, a5, a6])), (a3, al E 60 V3), (a4, al E 60 (va_cpy V4 V4 (Int32.toNatClampNeg x2) (Int32.toNatClampNeg x4) (Int32.toNatClampNeg x5))), (a5, al E 60 V5), (a6, al E 60 V6)] H := hP
          replace hD : va_D A [(a0, o9 a2 u0_1 a1), (a1, ai E 4 V1), (a2, aj E 4 (en [a3, a4, a5, a6])), (a3, al E 60 V3), (a4, al E 60 (va_cpy V4 V4 (Int32.toNatClampNeg x2) (Int32.toNatClampNeg x4) (Int32.toNatClampNeg x5))), (a5, al E 60 V5), (a6, al E 60 V6)] := hD
          exact ret (V3, va_cpy V4 V4 (Int32.toNatClampNeg x2) (Int32.toNatClampNeg x4) (Int32.toNatClampNeg x5), V5, V6) hf hP hS dX9_move_43
        have hf := it_f c35_1 hf
        by_cases c35_2 : x3 = 2
        · have hf := it_t c35_2 hf
          refine xjld (v := a5) hx hb hK hP 2 rfl g35 (congrArg Int32.toNatClampNeg c35_2) rfl dX9_move_35 ?_
          refine lv_iload hx hb dX9_move_36 (lv_at hl 4 rfl) ?_
          refine lv_iload hx hb dX9_move_38 (lv_at hl 5 rfl) ?_
          obtain ⟨g40, hf⟩ := ck_s hf
          refine xcopyl hx hb hml hl.1 hown mlC9_52 htg hK hP hD hS 4 5 rfl rfl g40 (Nat.le_of_ble_eq_true rfl) (Nat.le_of_ble_eq_true rfl) dX9_move_40 (fun H locs hP hD hS => ?_)
          replace hP : va_P E.1 vwCl [(a0, o9 a2 u0_1 a1), (a1, ai E 4 V1), (a2, aj E 4 (en [a3, a4, a5, a6])), (a3, al E 60 V3), (a4, al E 60 V4), (a5, al E 60 (va_cpy V4 V5 (Int32.toNatClampNeg x2) (Int32.toNatClampNeg x4) (Int32.toNatClampNeg x5))), (a6, al E 60 V6)] H := hP
          replace hD : va_D A [(a0, o9 a2 u0_1 a1), (a1, ai E 4 V1), (a2, aj E 4 (en [a3, a4, a5, a6])), (a3, al E 60 V3), (a4, al E 60 V4), (a5, al E 60 (va_cpy V4 V5 (Int32.toNatClampNeg x2) (Int32.toNatClampNeg x4) (Int32.toNatClampNeg x5))), (a6, al E 60 V6)] := hD
          exact ret (V3, V4, va_cpy V4 V5 (Int32.toNatClampNeg x2) (Int32.toNatClampNeg x4) (Int32.toNatClampNeg x5), V6) hf hP hS dX9_move_43
        have hf := it_f c35_2 hf
        have e35 := gd_last4 g35 c35_0 c35_1 c35_2
        refine xjld (v := a6) hx hb hK hP 2 rfl g35 (congrArg Int32.toNatClampNeg e35) rfl dX9_move_35 ?_
        refine lv_iload hx hb dX9_move_36 (lv_at hl 4 rfl) ?_
        refine lv_iload hx hb dX9_move_38 (lv_at hl 5 rfl) ?_
        obtain ⟨g40, hf⟩ := ck_s hf
        refine xcopyl hx hb hml hl.1 hown mlC9_52 htg hK hP hD hS 4 6 rfl rfl g40 (Nat.le_of_ble_eq_true rfl) (Nat.le_of_ble_eq_true rfl) dX9_move_40 (fun H locs hP hD hS => ?_)
        replace hP : va_P E.1 vwCl [(a0, o9 a2 u0_1 a1), (a1, ai E 4 V1), (a2, aj E 4 (en [a3, a4, a5, a6])), (a3, al E 60 V3), (a4, al E 60 V4), (a5, al E 60 V5), (a6, al E 60 (va_cpy V4 V6 (Int32.toNatClampNeg x2) (Int32.toNatClampNeg x4) (Int32.toNatClampNeg x5)))] H := hP
        replace hD : va_D A [(a0, o9 a2 u0_1 a1), (a1, ai E 4 V1), (a2, aj E 4 (en [a3, a4, a5, a6])), (a3, al E 60 V3), (a4, al E 60 V4), (a5, al E 60 V5), (a6, al E 60 (va_cpy V4 V6 (Int32.toNatClampNeg x2) (Int32.toNatClampNeg x4) (Int32.toNatClampNeg x5)))] := hD
        exact ret (V3, V4, V5, va_cpy V4 V6 (Int32.toNatClampNeg x2) (Int32.toNatClampNeg x4) (Int32.toNatClampNeg x5)) hf hP hS dX9_move_43
      have hf := it_f c28_1 hf
      by_cases c28_2 : x1 = 2
      · have hf := it_t c28_2 hf
        refine xjld (v := a5) hx hb hK hP 2 rfl g28 (congrArg Int32.toNatClampNeg c28_2) rfl dX9_move_28 ?_
        refine lv_iload_n hx hb dX9_move_29 rfl (lv_at hl 2 rfl) ?_
        refine lv_aload_n hx hb dX9_move_30 rfl (lv_at hl 0 rfl) ?_
        refine G9_13 hx hb htg hown hK hP 0 rfl dX9_move_31 ?_
        refine lv_iload_n hx hb dX9_move_34 rfl (lv_at hl 3 rfl) ?_
        obtain ⟨g35, hf⟩ := ck_s hf
        by_cases c35_0 : x3 = 0
        · have hf := it_t c35_0 hf
          refine xjld (v := a3) hx hb hK hP 2 rfl g35 (congrArg Int32.toNatClampNeg c35_0) rfl dX9_move_35 ?_
          refine lv_iload hx hb dX9_move_36 (lv_at hl 4 rfl) ?_
          refine lv_iload hx hb dX9_move_38 (lv_at hl 5 rfl) ?_
          obtain ⟨g40, hf⟩ := ck_s hf
          refine xcopyl hx hb hml hl.1 hown mlC9_52 htg hK hP hD hS 5 3 rfl rfl g40 (Nat.le_of_ble_eq_true rfl) (Nat.le_of_ble_eq_true rfl) dX9_move_40 (fun H locs hP hD hS => ?_)
          replace hP : va_P E.1 vwCl [(a0, o9 a2 u0_1 a1), (a1, ai E 4 V1), (a2, aj E 4 (en [a3, a4, a5, a6])), (a3, al E 60 (va_cpy V5 V3 (Int32.toNatClampNeg x2) (Int32.toNatClampNeg x4) (Int32.toNatClampNeg x5))), (a4, al E 60 V4), (a5, al E 60 V5), (a6, al E 60 V6)] H := hP
          replace hD : va_D A [(a0, o9 a2 u0_1 a1), (a1, ai E 4 V1), (a2, aj E 4 (en [a3, a4, a5, a6])), (a3, al E 60 (va_cpy V5 V3 (Int32.toNatClampNeg x2) (Int32.toNatClampNeg x4) (Int32.toNatClampNeg x5))), (a4, al E 60 V4), (a5, al E 60 V5), (a6, al E 60 V6)] := hD
          exact ret (va_cpy V5 V3 (Int32.toNatClampNeg x2) (Int32.toNatClampNeg x4) (Int32.toNatClampNeg x5), V4, V5, V6) hf hP hS dX9_move_43
        have hf := it_f c35_0 hf
        by_cases c35_1 : x3 = 1
        · have hf := it_t c35_1 hf
          refine xjld (v := a4) hx hb hK hP 2 rfl g35 (congrArg Int32.toNatClampNeg c35_1) rfl dX9_move_35 ?_
          refine lv_iload hx hb dX9_move_36 (lv_at hl 4 rfl) ?_
          refine lv_iload hx hb dX9_move_38 (lv_at hl 5 rfl) ?_
          obtain ⟨g40, hf⟩ := ck_s hf
          refine xcopyl hx hb hml hl.1 hown mlC9_52 htg hK hP hD hS 5 4 rfl rfl g40 (Nat.le_of_ble_eq_true rfl) (Nat.le_of_ble_eq_true rfl) dX9_move_40 (fun H locs hP hD hS => ?_)
          replace hP : va_P E.1 vwCl [(a0, o9 a2 u0_1 a1), (a1, ai E 4 V1), (a2, aj E 4 (en [a3, a4, a5, a6])), (a3, al E 60 V3), (a4, al E 60 (va_cpy V5 V4 (Int32.toNatClampNeg x2) (Int32.toNatClampNeg x4) (Int32.toNatClampNeg x5))), (a5, al E 60 V5), (a6, al E 60 V6)] H := hP
          replace hD : va_D A [(a0, o9 a2 u0_1 a1), (a1, ai E 4 V1), (a2, aj E 4 (en [a3, a4, a5, a6])), (a3, al E 60 V3), (a4, al E 60 (va_cpy V5 V4 (Int32.toNatClampNeg x2) (Int32.toNatClampNeg x4) (Int32.toNatClampNeg x5))), (a5, al E 60 V5), (a6, al E 60 V6)] := hD
          exact ret (V3, va_cpy V5 V4 (Int32.toNatClampNeg x2) (Int32.toNatClampNeg x4) (Int32.toNatClampNeg x5), V5, V6) hf hP hS dX9_move_43
        have hf := it_f c35_1 hf
        by_cases c35_2 : x3 = 2
        · have hf := it_t c35_2 hf
          refine xjld (v := a5) hx hb hK hP 2 rfl g35 (congrArg Int32.toNatClampNeg c35_2) rfl dX9_move_35 ?_
          refine lv_iload hx hb dX9_move_36 (lv_at hl 4 rfl) ?_
          refine lv_iload hx hb dX9_move_38 (lv_at hl 5 rfl) ?_
          obtain ⟨g40, hf⟩ := ck_s hf
          refine xcopyl hx hb hml hl.1 hown mlC9_52 htg hK hP hD hS 5 5 rfl rfl g40 (Nat.le_of_ble_eq_true rfl) (Nat.le_of_ble_eq_true rfl) dX9_move_40 (fun H locs hP hD hS => ?_)
          replace hP : va_P E.1 vwCl [(a0, o9 a2 u0_1 a1), (a1, ai E 4 V1), (a2, aj E 4 (en [a3, a4, a5, a6])), (a3, al E 60 V3), (a4, al E 60 V4), (a5, al E 60 (va_cpy V5 V5 (Int32.toNatClampNeg x2) (Int32.toNatClampNeg x4) (Int32.toNatClampNeg x5))), (a6, al E 60 V6)] H := hP
          replace hD : va_D A [(a0, o9 a2 u0_1 a1), (a1, ai E 4 V1), (a2, aj E 4 (en [a3, a4, a5, a6])), (a3, al E 60 V3), (a4, al E 60 V4), (a5, al E 60 (va_cpy V5 V5 (Int32.toNatClampNeg x2) (Int32.toNatClampNeg x4) (Int32.toNatClampNeg x5))), (a6, al E 60 V6)] := hD
          exact ret (V3, V4, va_cpy V5 V5 (Int32.toNatClampNeg x2) (Int32.toNatClampNeg x4) (Int32.toNatClampNeg x5), V6) hf hP hS dX9_move_43
        have hf := it_f c35_2 hf
        have e35 := gd_last4 g35 c35_0 c35_1 c35_2
        refine xjld (v := a6) hx hb hK hP 2 rfl g35 (congrArg Int32.toNatClampNeg e35) rfl dX9_move_35 ?_
        refine lv_iload hx hb dX9_move_36 (lv_at hl 4 rfl) ?_
        refine lv_iload hx hb dX9_move_38 (lv_at hl 5 rfl) ?_
        obtain ⟨g40, hf⟩ := ck_s hf
        refine xcopyl hx hb hml hl.1 hown mlC9_52 htg hK hP hD hS 5 6 rfl rfl g40 (Nat.le_of_ble_eq_true rfl) (Nat.le_of_ble_eq_true rfl) dX9_move_40 (fun H locs hP hD hS => ?_)
        replace hP : va_P E.1 vwCl [(a0, o9 a2 u0_1 a1), (a1, ai E 4 V1), (a2, aj E 4 (en [a3, a4, a5, a6])), (a3, al E 60 V3), (a4, al E 60 V4), (a5, al E 60 V5), (a6, al E 60 (va_cpy V5 V6 (Int32.toNatClampNeg x2) (Int32.toNatClampNeg x4) (Int32.toNatClampNeg x5)))] H := hP
        replace hD : va_D A [(a0, o9 a2 u0_1 a1), (a1, ai E 4 V1), (a2, aj E 4 (en [a3, a4, a5, a6])), (a3, al E 60 V3), (a4, al E 60 V4), (a5, al E 60 V5), (a6, al E 60 (va_cpy V5 V6 (Int32.toNatClampNeg x2) (Int32.toNatClampNeg x4) (Int32.toNatClampNeg x5)))] := hD
        exact ret (V3, V4, V5, va_cpy V5 V6 (Int32.toNatClampNeg x2) (Int32.toNatClampNeg x4) (Int32.toNatClampNeg x5)) hf hP hS dX9_move_43
      have hf := it_f c28_2 hf
      have e28 := gd_last4 g28 c28_0 c28_1 c28_2
      refine xjld (v := a6) hx hb hK hP 2 rfl g28 (congrArg Int32.toNatClampNeg e28) rfl dX9_move_28 ?_
      refine lv_iload_n hx hb dX9_move_29 rfl (lv_at hl 2 rfl) ?_
      refine lv_aload_n hx hb dX9_move_30 rfl (lv_at hl 0 rfl) ?_
      refine G9_13 hx hb htg hown hK hP 0 rfl dX9_move_31 ?_
      refine lv_iload_n hx hb dX9_move_34 rfl (lv_at hl 3 rfl) ?_
      obtain ⟨g35, hf⟩ := ck_s hf
      by_cases c35_0 : x3 = 0
      · have hf := it_t c35_0 hf
        refine xjld (v := a3) hx hb hK hP 2 rfl g35 (congrArg Int32.toNatClampNeg c35_0) rfl dX9_move_35 ?_
        refine lv_iload hx hb dX9_move_36 (lv_at hl 4 rfl) ?_
        refine lv_iload hx hb dX9_move_38 (lv_at hl 5 rfl) ?_
        obtain ⟨g40, hf⟩ := ck_s hf
        refine xcopyl hx hb hml hl.1 hown mlC9_52 htg hK hP hD hS 6 3 rfl rfl g40 (Nat.le_of_ble_eq_true rfl) (Nat.le_of_ble_eq_true rfl) dX9_move_40 (fun H locs hP hD hS => ?_)
        replace hP : va_P E.1 vwCl [(a0, o9 a2 u0_1 a1), (a1, ai E 4 V1), (a2, aj E 4 (en [a3, a4, a5, a6])), (a3, al E 60 (va_cpy V6 V3 (Int32.toNatClampNeg x2) (Int32.toNatClampNeg x4) (Int32.toNatClampNeg x5))), (a4, al E 60 V4), (a5, al E 60 V5), (a6, al E 60 V6)] H := hP
        replace hD : va_D A [(a0, o9 a2 u0_1 a1), (a1, ai E 4 V1), (a2, aj E 4 (en [a3, a4, a5, a6])), (a3, al E 60 (va_cpy V6 V3 (Int32.toNatClampNeg x2) (Int32.toNatClampNeg x4) (Int32.toNatClampNeg x5))), (a4, al E 60 V4), (a5, al E 60 V5), (a6, al E 60 V6)] := hD
        exact ret (va_cpy V6 V3 (Int32.toNatClampNeg x2) (Int32.toNatClampNeg x4) (Int32.toNatClampNeg x5), V4, V5, V6) hf hP hS dX9_move_43
      have hf := it_f c35_0 hf
      by_cases c35_1 : x3 = 1
      · have hf := it_t c35_1 hf
        refine xjld (v := a4) hx hb hK hP 2 rfl g35 (congrArg Int32.toNatClampNeg c35_1) rfl dX9_move_35 ?_
        refine lv_iload hx hb dX9_move_36 (lv_at hl 4 rfl) ?_
        refine lv_iload hx hb dX9_move_38 (lv_at hl 5 rfl) ?_
        obtain ⟨g40, hf⟩ := ck_s hf
        refine xcopyl hx hb hml hl.1 hown mlC9_52 htg hK hP hD hS 6 4 rfl rfl g40 (Nat.le_of_ble_eq_true rfl) (Nat.le_of_ble_eq_true rfl) dX9_move_40 (fun H locs hP hD hS => ?_)
        replace hP : va_P E.1 vwCl [(a0, o9 a2 u0_1 a1), (a1, ai E 4 V1), (a2, aj E 4 (en [a3, a4, a5, a6])), (a3, al E 60 V3), (a4, al E 60 (va_cpy V6 V4 (Int32.toNatClampNeg x2) (Int32.toNatClampNeg x4) (Int32.toNatClampNeg x5))), (a5, al E 60 V5), (a6, al E 60 V6)] H := hP
        replace hD : va_D A [(a0, o9 a2 u0_1 a1), (a1, ai E 4 V1), (a2, aj E 4 (en [a3, a4, a5, a6])), (a3, al E 60 V3), (a4, al E 60 (va_cpy V6 V4 (Int32.toNatClampNeg x2) (Int32.toNatClampNeg x4) (Int32.toNatClampNeg x5))), (a5, al E 60 V5), (a6, al E 60 V6)] := hD
        exact ret (V3, va_cpy V6 V4 (Int32.toNatClampNeg x2) (Int32.toNatClampNeg x4) (Int32.toNatClampNeg x5), V5, V6) hf hP hS dX9_move_43
      have hf := it_f c35_1 hf
      by_cases c35_2 : x3 = 2
      · have hf := it_t c35_2 hf
        refine xjld (v := a5) hx hb hK hP 2 rfl g35 (congrArg Int32.toNatClampNeg c35_2) rfl dX9_move_35 ?_
        refine lv_iload hx hb dX9_move_36 (lv_at hl 4 rfl) ?_
        refine lv_iload hx hb dX9_move_38 (lv_at hl 5 rfl) ?_
        obtain ⟨g40, hf⟩ := ck_s hf
        refine xcopyl hx hb hml hl.1 hown mlC9_52 htg hK hP hD hS 6 5 rfl rfl g40 (Nat.le_of_ble_eq_true rfl) (Nat.le_of_ble_eq_true rfl) dX9_move_40 (fun H locs hP hD hS => ?_)
        replace hP : va_P E.1 vwCl [(a0, o9 a2 u0_1 a1), (a1, ai E 4 V1), (a2, aj E 4 (en [a3, a4, a5, a6])), (a3, al E 60 V3), (a4, al E 60 V4), (a5, al E 60 (va_cpy V6 V5 (Int32.toNatClampNeg x2) (Int32.toNatClampNeg x4) (Int32.toNatClampNeg x5))), (a6, al E 60 V6)] H := hP
        replace hD : va_D A [(a0, o9 a2 u0_1 a1), (a1, ai E 4 V1), (a2, aj E 4 (en [a3, a4, a5, a6])), (a3, al E 60 V3), (a4, al E 60 V4), (a5, al E 60 (va_cpy V6 V5 (Int32.toNatClampNeg x2) (Int32.toNatClampNeg x4) (Int32.toNatClampNeg x5))), (a6, al E 60 V6)] := hD
        exact ret (V3, V4, va_cpy V6 V5 (Int32.toNatClampNeg x2) (Int32.toNatClampNeg x4) (Int32.toNatClampNeg x5), V6) hf hP hS dX9_move_43
      have hf := it_f c35_2 hf
      have e35 := gd_last4 g35 c35_0 c35_1 c35_2
      refine xjld (v := a6) hx hb hK hP 2 rfl g35 (congrArg Int32.toNatClampNeg e35) rfl dX9_move_35 ?_
      refine lv_iload hx hb dX9_move_36 (lv_at hl 4 rfl) ?_
      refine lv_iload hx hb dX9_move_38 (lv_at hl 5 rfl) ?_
      obtain ⟨g40, hf⟩ := ck_s hf
      refine xcopyl hx hb hml hl.1 hown mlC9_52 htg hK hP hD hS 6 6 rfl rfl g40 (Nat.le_of_ble_eq_true rfl) (Nat.le_of_ble_eq_true rfl) dX9_move_40 (fun H locs hP hD hS => ?_)
      replace hP : va_P E.1 vwCl [(a0, o9 a2 u0_1 a1), (a1, ai E 4 V1), (a2, aj E 4 (en [a3, a4, a5, a6])), (a3, al E 60 V3), (a4, al E 60 V4), (a5, al E 60 V5), (a6, al E 60 (va_cpy V6 V6 (Int32.toNatClampNeg x2) (Int32.toNatClampNeg x4) (Int32.toNatClampNeg x5)))] H := hP
      replace hD : va_D A [(a0, o9 a2 u0_1 a1), (a1, ai E 4 V1), (a2, aj E 4 (en [a3, a4, a5, a6])), (a3, al E 60 V3), (a4, al E 60 V4), (a5, al E 60 V5), (a6, al E 60 (va_cpy V6 V6 (Int32.toNatClampNeg x2) (Int32.toNatClampNeg x4) (Int32.toNatClampNeg x5)))] := hD
      exact ret (V3, V4, V5, va_cpy V6 V6 (Int32.toNatClampNeg x2) (Int32.toNatClampNeg x4) (Int32.toNatClampNeg x5)) hf hP hS dX9_move_43
