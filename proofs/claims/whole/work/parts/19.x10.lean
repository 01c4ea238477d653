theorem dX10_takeEnd_0 : decode cX10_takeEnd 0 = .ok (.aload_n 0, 1) := by decide +kernel
theorem dX10_takeEnd_1 : decode cX10_takeEnd 1 = .ok (.getfield 20, 3) := by decide +kernel
theorem dX10_takeEnd_4 : decode cX10_takeEnd 4 = .ok (.ifCond .le 15, 3) := by decide +kernel
theorem dX10_takeEnd_7 : decode cX10_takeEnd 7 = .ok (.aload_n 0, 1) := by decide +kernel
theorem dX10_takeEnd_8 : decode cX10_takeEnd 8 = .ok (.getfield 20, 3) := by decide +kernel
theorem dX10_takeEnd_11 : decode cX10_takeEnd 11 = .ok (.aload_n 0, 1) := by decide +kernel
theorem dX10_takeEnd_12 : decode cX10_takeEnd 12 = .ok (.getfield 11, 3) := by decide +kernel
theorem dX10_takeEnd_15 : decode cX10_takeEnd 15 = .ok (.arraylength, 1) := by decide +kernel
theorem dX10_takeEnd_16 : decode cX10_takeEnd 16 = .ok (.if_icmp .le 9, 3) := by decide +kernel
theorem dX10_takeEnd_19 : decode cX10_takeEnd 19 = .ok (.aload_n 1, 1) := by decide +kernel
theorem dX10_takeEnd_20 : decode cX10_takeEnd 20 = .ok (.iconst 2, 1) := by decide +kernel
theorem dX10_takeEnd_21 : decode cX10_takeEnd 21 = .ok (.invokevirtual 46, 3) := by decide +kernel
theorem dX10_takeEnd_24 : decode cX10_takeEnd 24 = .ok (.ireturn, 1) := by decide +kernel
theorem dX10_takeEnd_25 : decode cX10_takeEnd 25 = .ok (.aload_n 0, 1) := by decide +kernel
theorem dX10_takeEnd_26 : decode cX10_takeEnd 26 = .ok (.dup, 1) := by decide +kernel
theorem dX10_takeEnd_27 : decode cX10_takeEnd 27 = .ok (.getfield 20, 3) := by decide +kernel
theorem dX10_takeEnd_30 : decode cX10_takeEnd 30 = .ok (.iconst 1, 1) := by decide +kernel
theorem dX10_takeEnd_31 : decode cX10_takeEnd 31 = .ok (.isub, 1) := by decide +kernel
theorem dX10_takeEnd_32 : decode cX10_takeEnd 32 = .ok (.putfield 20, 3) := by decide +kernel
theorem dX10_takeEnd_35 : decode cX10_takeEnd 35 = .ok (.aload_n 2, 1) := by decide +kernel
theorem dX10_takeEnd_36 : decode cX10_takeEnd 36 = .ok (.aload_n 0, 1) := by decide +kernel
theorem dX10_takeEnd_37 : decode cX10_takeEnd 37 = .ok (.getfield 11, 3) := by decide +kernel
theorem dX10_takeEnd_40 : decode cX10_takeEnd 40 = .ok (.aload_n 0, 1) := by decide +kernel
theorem dX10_takeEnd_41 : decode cX10_takeEnd 41 = .ok (.getfield 20, 3) := by decide +kernel
theorem dX10_takeEnd_44 : decode cX10_takeEnd 44 = .ok (.iaload, 1) := by decide +kernel
theorem dX10_takeEnd_45 : decode cX10_takeEnd 45 = .ok (.invokevirtual 53, 3) := by decide +kernel
theorem dX10_takeEnd_48 : decode cX10_takeEnd 48 = .ok (.aload_n 1, 1) := by decide +kernel
theorem dX10_takeEnd_49 : decode cX10_takeEnd 49 = .ok (.invokevirtual 56, 3) := by decide +kernel
theorem dX10_takeEnd_52 : decode cX10_takeEnd 52 = .ok (.aload_n 1, 1) := by decide +kernel
theorem dX10_takeEnd_53 : decode cX10_takeEnd 53 = .ok (.bipush 59, 2) := by decide +kernel
theorem dX10_takeEnd_55 : decode cX10_takeEnd 55 = .ok (.invokevirtual 59, 3) := by decide +kernel
theorem dX10_takeEnd_58 : decode cX10_takeEnd 58 = .ok (.ireturn, 1) := by decide +kernel
set_option maxRecDepth 100000 in
theorem c_X10_takeEnd (l : Launch) (E : xE) (a0 a1 a2 a3 a4 a5 a6 a7 a8 a9 a10 : Nat) {T0 : Nat → Int32} {T1 : Nat → Int32} {J1_8 : Int64} {V2 : Nat → Int32} {T3 : Nat → Int32} {V4 : Nat → Int32} {V5 : Nat → Int32} {V6 : Nat → Int32} {V7 : Nat → Int32} {V8 : Nat → Int32} {V9 : Nat → Int32} {V10 : Nat → Int64} {z : Int32 × (Nat → Int32) × (Nat → Int32) × Int64 × (Nat → Int32) × (Nat → Int32) × (Nat → Int32) × (Nat → Int32) × (Nat → Int32) × (Nat → Int32)} (hf : f_X10_takeEnd T0 T1 J1_8 V2 T3 V4 V5 V6 V7 V8 V9 V10 = some z) (sz : Nat) : Met l yX10_takeEnd (Cond.code yX10_takeEnd cX10_takeEnd 3 (some .boolean) :: gw) ({ frames := 3, cells := 0, slots := 0, locals := 64 }) (xPc E [.ref a0, .ref a1, .ref a3] [(a0, o10 T0 a2), (a1, o8 T1 J1_8 a9 a10), (a2, ai E 3 V2), (a3, o0 T3 a4 a5 a6 a7 a8), (a4, ai E 60 V4), (a5, ai E 60 V5), (a6, ai E 60 V6), (a7, ai E 60 V7), (a8, ai E 60 V8), (a9, ab E 900 V9), (a10, al E 23 V10)] sz) (xQi E z.1 [(a0, o10 T0 a2), (a1, o8 T1 J1_8 a9 a10), (a2, ai E 3 V2), (a3, o0 T3 a4 a5 a6 a7 a8), (a4, ai E 60 V4), (a5, ai E 60 V5), (a6, ai E 60 V6), (a7, ai E 60 V7), (a8, ai E 60 V8), (a9, ab E 900 V9), (a10, al E 23 V10)] [(a0, o10 z.2.1 a2), (a1, o8 z.2.2.1 z.2.2.2.1 a9 a10), (a2, ai E 3 V2), (a3, o0 z.2.2.2.2.1 a4 a5 a6 a7 a8), (a4, ai E 60 z.2.2.2.2.2.1), (a5, ai E 60 z.2.2.2.2.2.2.1), (a6, ai E 60 z.2.2.2.2.2.2.2.1), (a7, ai E 60 z.2.2.2.2.2.2.2.2.1), (a8, ai E 60 z.2.2.2.2.2.2.2.2.2), (a9, ab E 900 V9), (a10, al E 23 V10)] sz) 0 0 (va_A [(a0, o10 T0 a2), (a1, o8 T1 J1_8 a9 a10), (a2, ai E 3 V2), (a3, o0 T3 a4 a5 a6 a7 a8), (a4, ai E 60 V4), (a5, ai E 60 V5), (a6, ai E 60 V6), (a7, ai E 60 V7), (a8, ai E 60 V8), (a9, ab E 900 V9), (a10, al E 23 V10)] sz) := by
  refine xM_i (by decide +kernel) (Nat.le_of_ble_eq_true rfl) ?_
  intro p e s m args below meth c A Q hx hb hml hown htg hK hG hA ret0 H locs ls hP hD hS hl
  have ret : ∀ (z' : Int32 × (Nat → Int32) × (Nat → Int32) × Int64 × (Nat → Int32) × (Nat → Int32) × (Nat → Int32) × (Nat → Int32) × (Nat → Int32) × (Nat → Int32)) {H : Heap} {locs : List Loc} {pc : Nat} {ls : Array Slot}, some z' = some z → narrow .boolean (.int z'.1) = .int z'.1 → va_P E.1 vwCl [(a0, o10 z'.2.1 a2), (a1, o8 z'.2.2.1 z'.2.2.2.1 a9 a10), (a2, ai E 3 V2), (a3, o0 z'.2.2.2.2.1 a4 a5 a6 a7 a8), (a4, ai E 60 z'.2.2.2.2.2.1), (a5, ai E 60 z'.2.2.2.2.2.2.1), (a6, ai E 60 z'.2.2.2.2.2.2.2.1), (a7, ai E 60 z'.2.2.2.2.2.2.2.2.1), (a8, ai E 60 z'.2.2.2.2.2.2.2.2.2), (a9, ab E 900 V9), (a10, al E 23 V10)] H → va_S A s.heap H locs → decode cX10_takeEnd pc = .ok (.ireturn, 1) → W p l e ({ frames := 3, cells := 0, slots := 0, locals := 64 } : Room) s m args below meth c H locs 0 0 Q (F0 m pc ls [.int z'.1]) := by
    intro z' H locs pc ls h
    cases h
    exact ret0
  replace hl : lv_has ls 3 [(0, .ref a0), (1, .ref a1), (2, .ref a3)] := hl
  have b19 : ∀ (T0 : Nat → Int32) (T1 : Nat → Int32) (J1_8 : Int64) (T3 : Nat → Int32) (V4 : Nat → Int32) (V5 : Nat → Int32) (V6 : Nat → Int32) (V7 : Nat → Int32) (V8 : Nat → Int32) (H : Heap) (locs : List Loc) (ls : Array Slot), f_X10_takeEnd_19 V2 V9 V10 T0 T1 J1_8 T3 V4 V5 V6 V7 V8 = some z → va_P E.1 vwCl [(a0, o10 T0 a2), (a1, o8 T1 J1_8 a9 a10), (a2, ai E 3 V2), (a3, o0 T3 a4 a5 a6 a7 a8), (a4, ai E 60 V4), (a5, ai E 60 V5), (a6, ai E 60 V6), (a7, ai E 60 V7), (a8, ai E 60 V8), (a9, ab E 900 V9), (a10, al E 23 V10)] H → va_D A [(a0, o10 T0 a2), (a1, o8 T1 J1_8 a9 a10), (a2, ai E 3 V2), (a3, o0 T3 a4 a5 a6 a7 a8), (a4, ai E 60 V4), (a5, ai E 60 V5), (a6, ai E 60 V6), (a7, ai E 60 V7), (a8, ai E 60 V8), (a9, ab E 900 V9), (a10, al E 23 V10)] → va_S A s.heap H locs → lv_has ls 3 [(1, .ref a1)] → W p l e ({ frames := 3, cells := 0, slots := 0, locals := 64 } : Room) s m args below meth c H locs 0 0 Q (F0 m 19 ls []) := by
    intro T0 T1 J1_8 T3 V4 V5 V6 V7 V8 H locs ls hf hP hD hS hl
    unfold f_X10_takeEnd_19 at hf
    refine lv_aload_n hx hb dX10_takeEnd_19 rfl (lv_at hl 0 rfl) ?_
    refine lv_iconst (v := 2) hx hb dX10_takeEnd_20 rfl ?_
    obtain ⟨z21, hz21, hf⟩ := bind_s hf
    refine xV_iu hx hb hml hown htg L10_46 (c_X8_blame l E a1 hz21 _) ⟨⟨rfl, rfl⟩, Nat.le_of_ble_eq_true rfl, Nat.le_of_ble_eq_true rfl⟩ hK hG hA hP hD hS (is := [1]) (sel := [none, some 0, none, none, none, none, none, none, none, none, none]) (ws2 := [(a0, o10 T0 a2), (a1, o8 z21.2 J1_8 a9 a10), (a2, ai E 3 V2), (a3, o0 T3 a4 a5 a6 a7 a8), (a4, ai E 60 V4), (a5, ai E 60 V5), (a6, ai E 60 V6), (a7, ai E 60 V7), (a8, ai E 60 V8), (a9, ab E 900 V9), (a10, al E 23 V10)]) rfl rfl rfl rfl rfl (xrecv hK hP (q0 := 1) (ci := 8) rfl rfl) rfl hl.1 rfl (Nat.le_of_ble_eq_true rfl) dX10_takeEnd_21 (fun H locs hP hD hS => ?_)
    obtain ⟨g24, hf⟩ := ck_s hf
    exact ret (z21.1, T0, z21.2, J1_8, T3, V4, V5, V6, V7, V8) hf (bz_n g24).1 hP hS dX10_takeEnd_24
  unfold f_X10_takeEnd at hf
  refine lv_aload_n hx hb dX10_takeEnd_0 rfl (lv_at hl 0 rfl) ?_
  refine G10_20 hx hb htg hown hK hP 0 rfl dX10_takeEnd_1 ?_
  refine lv_if_le (tgt := 19) hx hb dX10_takeEnd_4 (by decide) (fun c4 => ?_) (fun c4 => ?_)
  · have hf := it_t c4 hf
    exact b19 T0 T1 J1_8 T3 V4 V5 V6 V7 V8 _ _ _ hf hP hD hS (lv_sub hl [1] rfl)
  · have hf := it_f c4 hf
    refine lv_aload_n hx hb dX10_takeEnd_7 rfl (lv_at hl 0 rfl) ?_
    refine G10_20 hx hb htg hown hK hP 0 rfl dX10_takeEnd_8 ?_
    refine lv_aload_n hx hb dX10_takeEnd_11 rfl (lv_at hl 0 rfl) ?_
    refine G10_11 hx hb htg hown hK hP 0 rfl dX10_takeEnd_12 ?_
    refine va_alen (v := 3) hx hb hK hP 2 1 rfl rfl rfl dX10_takeEnd_15 ?_
    refine lv_icmp_le (tgt := 25) hx hb dX10_takeEnd_16 (by decide) (fun c16 => ?_) (fun c16 => ?_)
    · have hf := it_t c16 hf
      refine lv_aload_n hx hb dX10_takeEnd_25 rfl (lv_at hl 0 rfl) ?_
      refine lv_dup hx hb dX10_takeEnd_26 rfl ?_
      refine G10_20 hx hb htg hown hK hP 0 rfl dX10_takeEnd_27 ?_
      refine lv_iconst (v := 1) hx hb dX10_takeEnd_30 rfl ?_
      refine lv_isub hx hb dX10_takeEnd_31 ?_
      refine P10_20 hx hb htg hown hK hP hD hS 0 rfl dX10_takeEnd_32 (fun H locs hP hD hS => ?_)
      refine lv_aload_n hx hb dX10_takeEnd_35 rfl (lv_at hl 2 rfl) ?_
      refine lv_aload_n hx hb dX10_takeEnd_36 rfl (lv_at hl 0 rfl) ?_
      refine G10_11 hx hb htg hown hK hP 0 rfl dX10_takeEnd_37 ?_
      refine lv_aload_n hx hb dX10_takeEnd_40 rfl (lv_at hl 0 rfl) ?_
      refine G10_20 hx hb htg hown hK hP 0 rfl dX10_takeEnd_41 ?_
      obtain ⟨g44, hf⟩ := ck_s hf
      refine xiald hx hb hK hP 2 rfl g44 dX10_takeEnd_44 ?_
      obtain ⟨z45, hz45, hf⟩ := bind_s hf
      refine xV_vu hx hb hml hown htg L10_53 (c_X0_addEnd l E a3 a4 a5 a6 a7 a8 hz45 _) ⟨⟨rfl, rfl⟩, Nat.le_of_ble_eq_true rfl, Nat.le_of_ble_eq_true rfl⟩ hK hG hA hP hD hS (is := [3, 4, 5, 6, 7, 8]) (sel := [none, none, none, some 0, some 1, some 2, some 3, some 4, some 5, none, none]) (ws2 := [(a0, o10 (upd T0 3 ((T0 3) - 1)) a2), (a1, o8 T1 J1_8 a9 a10), (a2, ai E 3 V2), (a3, o0 z45.1 a4 a5 a6 a7 a8), (a4, ai E 60 z45.2.1), (a5, ai E 60 z45.2.2.1), (a6, ai E 60 z45.2.2.2.1), (a7, ai E 60 z45.2.2.2.2.1), (a8, ai E 60 z45.2.2.2.2.2), (a9, ab E 900 V9), (a10, al E 23 V10)]) rfl rfl rfl rfl rfl (xrecv hK hP (q0 := 3) (ci := 0) rfl rfl) rfl hl.1 rfl (Nat.le_of_ble_eq_true rfl) dX10_takeEnd_45 (fun H locs hP hD hS => ?_)
      refine lv_aload_n hx hb dX10_takeEnd_48 rfl (lv_at hl 1 rfl) ?_
      obtain ⟨z49, hz49, hf⟩ := bind_s hf
      refine xV_vu hx hb hml hown htg L10_56 (c_X8_advance l E a1 a9 a10 hz49 _) ⟨⟨rfl, rfl⟩, Nat.le_of_ble_eq_true rfl, Nat.le_of_ble_eq_true rfl⟩ hK hG hA hP hD hS (is := [1, 9, 10]) (sel := [none, some 0, none, none, none, none, none, none, none, some 1, some 2]) (ws2 := [(a0, o10 (upd T0 3 ((T0 3) - 1)) a2), (a1, o8 z49.1 z49.2 a9 a10), (a2, ai E 3 V2), (a3, o0 z45.1 a4 a5 a6 a7 a8), (a4, ai E 60 z45.2.1), (a5, ai E 60 z45.2.2.1), (a6, ai E 60 z45.2.2.2.1), (a7, ai E 60 z45.2.2.2.2.1), (a8, ai E 60 z45.2.2.2.2.2), (a9, ab E 900 V9), (a10, al E 23 V10)]) rfl rfl rfl rfl rfl (xrecv hK hP (q0 := 1) (ci := 8) rfl rfl) rfl hl.1 rfl (Nat.le_of_ble_eq_true rfl) dX10_takeEnd_49 (fun H locs hP hD hS => ?_)
      refine lv_aload_n hx hb dX10_takeEnd_52 rfl (lv_at hl 1 rfl) ?_
      refine lv_bipush (v := 59) hx hb dX10_takeEnd_53 rfl ?_
      obtain ⟨z55, hz55, hf⟩ := bind_s hf
      refine xV_iu hx hb hml hown htg L10_59 (c_X8_passSign l E a1 a9 a10 hz55 _) ⟨⟨rfl, rfl⟩, Nat.le_of_ble_eq_true rfl, Nat.le_of_ble_eq_true rfl⟩ hK hG hA hP hD hS (is := [1, 9, 10]) (sel := [none, some 0, none, none, none, none, none, none, none, some 1, some 2]) (ws2 := [(a0, o10 (upd T0 3 ((T0 3) - 1)) a2), (a1, o8 z55.2.1 z55.2.2 a9 a10), (a2, ai E 3 V2), (a3, o0 z45.1 a4 a5 a6 a7 a8), (a4, ai E 60 z45.2.1), (a5, ai E 60 z45.2.2.1), (a6, ai E 60 z45.2.2.2.1), (a7, ai E 60 z45.2.2.2.2.1), (a8, ai E 60 z45.2.2.2.2.2), (a9, ab E 900 V9), (a10, al E 23 V10)]) rfl rfl rfl rfl rfl (xrecv hK hP (q0 := 1) (ci := 8) rfl rfl) rfl hl.1 rfl (Nat.le_of_ble_eq_true rfl) dX10_takeEnd_55 (fun H locs hP hD hS => ?_)
      obtain ⟨g58, hf⟩ := ck_s hf
      exact ret (z55.1, upd T0 3 ((T0 3) - 1), z55.2.1, z55.2.2, z45.1, z45.2.1, z45.2.2.1, z45.2.2.2.1, z45.2.2.2.2.1, z45.2.2.2.2.2) hf (bz_n g58).1 hP hS dX10_takeEnd_58
    · have hf := it_f c16 hf
      exact b19 T0 T1 J1_8 T3 V4 V5 V6 V7 V8 _ _ _ hf hP hD hS (lv_sub hl [1] rfl)
theorem dX10_beginsStep_0 : decode cX10_beginsStep 0 = .ok (.iload_n 0, 1) := by decide +kernel
theorem dX10_beginsStep_1 : decode cX10_beginsStep 1 = .ok (.bipush 6, 2) := by decide +kernel
theorem dX10_beginsStep_3 : decode cX10_beginsStep 3 = .ok (.if_icmp .eq 26, 3) := by decide +kernel
theorem dX10_beginsStep_6 : decode cX10_beginsStep 6 = .ok (.iload_n 0, 1) := by decide +kernel
theorem dX10_beginsStep_7 : decode cX10_beginsStep 7 = .ok (.bipush 12, 2) := by decide +kernel
theorem dX10_beginsStep_9 : decode cX10_beginsStep 9 = .ok (.bipush 16, 2) := by decide +kernel
theorem dX10_beginsStep_11 : decode cX10_beginsStep 11 = .ok (.invokestatic 82, 3) := by decide +kernel
theorem dX10_beginsStep_14 : decode cX10_beginsStep 14 = .ok (.ifCond .ne 15, 3) := by decide +kernel
theorem dX10_beginsStep_17 : decode cX10_beginsStep 17 = .ok (.iload_n 0, 1) := by decide +kernel
theorem dX10_beginsStep_18 : decode cX10_beginsStep 18 = .ok (.bipush 20, 2) := by decide +kernel
theorem dX10_beginsStep_20 : decode cX10_beginsStep 20 = .ok (.if_icmp .eq 9, 3) := by decide +kernel
theorem dX10_beginsStep_23 : decode cX10_beginsStep 23 = .ok (.iload_n 0, 1) := by decide +kernel
theorem dX10_beginsStep_24 : decode cX10_beginsStep 24 = .ok (.bipush 22, 2) := by decide +kernel
theorem dX10_beginsStep_26 : decode cX10_beginsStep 26 = .ok (.if_icmp .ne 7, 3) := by decide +kernel
theorem dX10_beginsStep_29 : decode cX10_beginsStep 29 = .ok (.iconst 1, 1) := by decide +kernel
theorem dX10_beginsStep_30 : decode cX10_beginsStep 30 = .ok (.goto 4, 3) := by decide +kernel
theorem dX10_beginsStep_33 : decode cX10_beginsStep 33 = .ok (.iconst 0, 1) := by decide +kernel
theorem dX10_beginsStep_34 : decode cX10_beginsStep 34 = .ok (.ireturn, 1) := by decide +kernel
set_option maxRecDepth 100000 in
theorem c_X10_beginsStep (l : Launch) (E : xE) {x0 : Int32} {z : Int32} (hf : f_X10_beginsStep x0 = some z) (sz : Nat) : Met l yX10_beginsStep (Cond.code yX10_beginsStep cX10_beginsStep 1 (some .boolean) :: gw) ({ frames := 1, cells := 0, slots := 0, locals := 22 }) (xPc E [.int x0] [] sz) (xQi E z [] [] sz) 0 0 (va_A [] sz) := by
  refine xM_i (by decide +kernel) (Nat.le_of_ble_eq_true rfl) ?_
  intro p e s m args below meth c A Q hx hb hml hown htg hK hG hA ret0 H locs ls hP hD hS hl
  have ret : ∀ (z' : Int32) {H : Heap} {locs : List Loc} {pc : Nat} {ls : Array Slot}, some z' = some z → narrow .boolean (.int z') = .int z' → va_P E.1 vwCl [] H → va_S A s.heap H locs → decode cX10_beginsStep pc = .ok (.ireturn, 1) → W p l e ({ frames := 1, cells := 0, slots := 0, locals := 22 } : Room) s m args below meth c H locs 0 0 Q (F0 m pc ls [.int z']) := by
    intro z' H locs pc ls h
    cases h
    exact ret0
  replace hl : lv_has ls 1 [(0, .int x0)] := hl
  unfold f_X10_beginsStep at hf
  refine lv_iload_n hx hb dX10_beginsStep_0 rfl (lv_at hl 0 rfl) ?_
  refine lv_bipush (v := 6) hx hb dX10_beginsStep_1 rfl ?_
  refine lv_icmp_eq (tgt := 29) hx hb dX10_beginsStep_3 (by decide) (fun c3 => ?_) (fun c3 => ?_)
  · have hf := it_t c3 hf
    refine lv_iconst (v := 1) hx hb dX10_beginsStep_29 rfl ?_
    refine lv_goto (tgt := 34) hx hb dX10_beginsStep_30 (by decide) ?_
    exact ret 1 hf nz1 hP hS dX10_beginsStep_34
  · have hf := it_f c3 hf
    refine lv_iload_n hx hb dX10_beginsStep_6 rfl (lv_at hl 0 rfl) ?_
    refine lv_bipush (v := 12) hx hb dX10_beginsStep_7 rfl ?_
    refine lv_bipush (v := 16) hx hb dX10_beginsStep_9 rfl ?_
    obtain ⟨z11, hz11, hf⟩ := bind_s hf
    refine xN_ir hx hb hml hown htg L10_82 16 rfl (c_X11_within l E hz11 _) ⟨⟨rfl, rfl⟩, Nat.le_of_ble_eq_true rfl, Nat.le_of_ble_eq_true rfl⟩ hK hG hA hP hD hS (is := []) rfl rfl rfl hl.1 rfl (Nat.le_of_ble_eq_true rfl) dX10_beginsStep_11 (fun H locs hP hD hS => ?_)
    refine lv_if_ne (tgt := 29) hx hb dX10_beginsStep_14 (by decide) (fun c14 => ?_) (fun c14 => ?_)
    · have hf := it_f c14 hf
      refine lv_iconst (v := 1) hx hb dX10_beginsStep_29 rfl ?_
      refine lv_goto (tgt := 34) hx hb dX10_beginsStep_30 (by decide) ?_
      exact ret 1 hf nz1 hP hS dX10_beginsStep_34
    · have hf := it_t c14 hf
      refine lv_iload_n hx hb dX10_beginsStep_17 rfl (lv_at hl 0 rfl) ?_
      refine lv_bipush (v := 20) hx hb dX10_beginsStep_18 rfl ?_
      refine lv_icmp_eq (tgt := 29) hx hb dX10_beginsStep_20 (by decide) (fun c20 => ?_) (fun c20 => ?_)
      · have hf := it_t c20 hf
        refine lv_iconst (v := 1) hx hb dX10_beginsStep_29 rfl ?_
        refine lv_goto (tgt := 34) hx hb dX10_beginsStep_30 (by decide) ?_
        exact ret 1 hf nz1 hP hS dX10_beginsStep_34
      · have hf := it_f c20 hf
        refine lv_iload_n hx hb dX10_beginsStep_23 rfl (lv_at hl 0 rfl) ?_
        refine lv_bipush (v := 22) hx hb dX10_beginsStep_24 rfl ?_
        refine lv_icmp_ne (tgt := 33) hx hb dX10_beginsStep_26 (by decide) (fun c26 => ?_) (fun c26 => ?_)
        · have hf := it_f c26 hf
          refine lv_iconst (v := 0) hx hb dX10_beginsStep_33 rfl ?_
          exact ret 0 hf nz0 hP hS dX10_beginsStep_34
        · have hf := it_t c26 hf
          refine lv_iconst (v := 1) hx hb dX10_beginsStep_29 rfl ?_
          refine lv_goto (tgt := 34) hx hb dX10_beginsStep_30 (by decide) ?_
          exact ret 1 hf nz1 hP hS dX10_beginsStep_34
theorem dX10_takeName_0 : decode cX10_takeName 0 = .ok (.aload_n 1, 1) := by decide +kernel
theorem dX10_takeName_1 : decode cX10_takeName 1 = .ok (.invokevirtual 123, 3) := by decide +kernel
theorem dX10_takeName_4 : decode cX10_takeName 4 = .ok (.ifCond .ne 9, 3) := by decide +kernel
theorem dX10_takeName_7 : decode cX10_takeName 7 = .ok (.aload_n 1, 1) := by decide +kernel
theorem dX10_takeName_8 : decode cX10_takeName 8 = .ok (.iconst 2, 1) := by decide +kernel
theorem dX10_takeName_9 : decode cX10_takeName 9 = .ok (.invokevirtual 46, 3) := by decide +kernel
theorem dX10_takeName_12 : decode cX10_takeName 12 = .ok (.ireturn, 1) := by decide +kernel
theorem dX10_takeName_13 : decode cX10_takeName 13 = .ok (.aload_n 0, 1) := by decide +kernel
theorem dX10_takeName_14 : decode cX10_takeName 14 = .ok (.aload_n 2, 1) := by decide +kernel
theorem dX10_takeName_15 : decode cX10_takeName 15 = .ok (.aload_n 1, 1) := by decide +kernel
theorem dX10_takeName_16 : decode cX10_takeName 16 = .ok (.invokevirtual 126, 3) := by decide +kernel
theorem dX10_takeName_19 : decode cX10_takeName 19 = .ok (.invokevirtual 130, 3) := by decide +kernel
theorem dX10_takeName_22 : decode cX10_takeName 22 = .ok (.putfield 90, 3) := by decide +kernel
theorem dX10_takeName_25 : decode cX10_takeName 25 = .ok (.aload_n 0, 1) := by decide +kernel
theorem dX10_takeName_26 : decode cX10_takeName 26 = .ok (.getfield 90, 3) := by decide +kernel
theorem dX10_takeName_29 : decode cX10_takeName 29 = .ok (.iconst (-1), 1) := by decide +kernel
theorem dX10_takeName_30 : decode cX10_takeName 30 = .ok (.if_icmp .ne 9, 3) := by decide +kernel
theorem dX10_takeName_33 : decode cX10_takeName 33 = .ok (.aload_n 1, 1) := by decide +kernel
theorem dX10_takeName_34 : decode cX10_takeName 34 = .ok (.iconst 3, 1) := by decide +kernel
theorem dX10_takeName_35 : decode cX10_takeName 35 = .ok (.invokevirtual 46, 3) := by decide +kernel
theorem dX10_takeName_38 : decode cX10_takeName 38 = .ok (.ireturn, 1) := by decide +kernel
theorem dX10_takeName_39 : decode cX10_takeName 39 = .ok (.aload_n 1, 1) := by decide +kernel
theorem dX10_takeName_40 : decode cX10_takeName 40 = .ok (.invokevirtual 56, 3) := by decide +kernel
theorem dX10_takeName_43 : decode cX10_takeName 43 = .ok (.iconst 1, 1) := by decide +kernel
theorem dX10_takeName_44 : decode cX10_takeName 44 = .ok (.ireturn, 1) := by decide +kernel
set_option maxRecDepth 100000 in
theorem c_X10_takeName (l : Launch) (E : xE) (a0 a1 a2 a3 a4 a5 : Nat) {T0 : Nat → Int32} {T1 : Nat → Int32} {J1_8 : Int64} {T2 : Nat → Int32} {V3 : Nat → Int64} {V4 : Nat → Int32} {V5 : Nat → Int64} {u0_0 u2_7 u2_8 u2_10 u2_11 u2_12 u2_13 u2_14 : Nat} {z : Int32 × (Nat → Int32) × (Nat → Int32) × Int64} (hf : f_X10_takeName T0 T1 J1_8 T2 V3 V4 V5 = some z) (sz : Nat) : Met l yX10_takeName (Cond.code yX10_takeName cX10_takeName 3 (some .boolean) :: gw) ({ frames := 2, cells := 0, slots := 0, locals := 41 }) (xPc E [.ref a0, .ref a1, .ref a2] [(a0, o10 T0 u0_0), (a1, o8 T1 J1_8 a4 a5), (a2, o3 T2 u2_7 u2_8 a3 u2_10 u2_11 u2_12 u2_13 u2_14), (a3, al E 5 V3), (a4, ab E 900 V4), (a5, al E 23 V5)] sz) (xQi E z.1 [(a0, o10 T0 u0_0), (a1, o8 T1 J1_8 a4 a5), (a2, o3 T2 u2_7 u2_8 a3 u2_10 u2_11 u2_12 u2_13 u2_14), (a3, al E 5 V3), (a4, ab E 900 V4), (a5, al E 23 V5)] [(a0, o10 z.2.1 u0_0), (a1, o8 z.2.2.1 z.2.2.2 a4 a5), (a2, o3 T2 u2_7 u2_8 a3 u2_10 u2_11 u2_12 u2_13 u2_14), (a3, al E 5 V3), (a4, ab E 900 V4), (a5, al E 23 V5)] sz) 0 0 (va_A [(a0, o10 T0 u0_0), (a1, o8 T1 J1_8 a4 a5), (a2, o3 T2 u2_7 u2_8 a3 u2_10 u2_11 u2_12 u2_13 u2_14), (a3, al E 5 V3), (a4, ab E 900 V4), (a5, al E 23 V5)] sz) := by
  refine xM_i (by decide +kernel) (Nat.le_of_ble_eq_true rfl) ?_
  intro p e s m args below meth c A Q hx hb hml hown htg hK hG hA ret0 H locs ls hP hD hS hl
  have ret : ∀ (z' : Int32 × (Nat → Int32) × (Nat → Int32) × Int64) {H : Heap} {locs : List Loc} {pc : Nat} {ls : Array Slot}, some z' = some z → narrow .boolean (.int z'.1) = .int z'.1 → va_P E.1 vwCl [(a0, o10 z'.2.1 u0_0), (a1, o8 z'.2.2.1 z'.2.2.2 a4 a5), (a2, o3 T2 u2_7 u2_8 a3 u2_10 u2_11 u2_12 u2_13 u2_14), (a3, al E 5 V3), (a4, ab E 900 V4), (a5, al E 23 V5)] H → va_S A s.heap H locs → decode cX10_takeName pc = .ok (.ireturn, 1) → W p l e ({ frames := 2, cells := 0, slots := 0, locals := 41 } : Room) s m args below meth c H locs 0 0 Q (F0 m pc ls [.int z'.1]) := by
    intro z' H locs pc ls h
    cases h
    exact ret0
  replace hl : lv_has ls 3 [(0, .ref a0), (1, .ref a1), (2, .ref a2)] := hl
  unfold f_X10_takeName at hf
  refine lv_aload_n hx hb dX10_takeName_0 rfl (lv_at hl 1 rfl) ?_
  obtain ⟨z1, hz1, hf⟩ := bind_s hf
  refine xV_ir hx hb hml hown htg L10_123 (c_X8_isName l E a1 hz1 _) ⟨⟨rfl, rfl⟩, Nat.le_of_ble_eq_true rfl, Nat.le_of_ble_eq_true rfl⟩ hK hG hA hP hD hS (is := [1]) rfl rfl (xrecv hK hP (q0 := 1) (ci := 8) rfl rfl) rfl hl.1 rfl (Nat.le_of_ble_eq_true rfl) dX10_takeName_1 (fun H locs hP hD hS => ?_)
  refine lv_if_ne (tgt := 13) hx hb dX10_takeName_4 (by decide) (fun c4 => ?_) (fun c4 => ?_)
  · have hf := it_f c4 hf
    refine lv_aload_n hx hb dX10_takeName_13 rfl (lv_at hl 0 rfl) ?_
    refine lv_aload_n hx hb dX10_takeName_14 rfl (lv_at hl 2 rfl) ?_
    refine lv_aload_n hx hb dX10_takeName_15 rfl (lv_at hl 1 rfl) ?_
    obtain ⟨z16, hz16, hf⟩ := bind_s hf
    refine xV_lr hx hb hml hown htg L10_126 (c_X8_nameCode l E a1 hz16 _) ⟨⟨rfl, rfl⟩, Nat.le_of_ble_eq_true rfl, Nat.le_of_ble_eq_true rfl⟩ hK hG hA hP hD hS (is := [1]) rfl rfl (xrecv hK hP (q0 := 1) (ci := 8) rfl rfl) rfl hl.1 rfl (Nat.le_of_ble_eq_true rfl) dX10_takeName_16 (fun H locs hP hD hS => ?_)
    obtain ⟨z19, hz19, hf⟩ := bind_s hf
    refine xV_ir hx hb hml hown htg L10_130 (c_X3_travellerNamed l E a2 a3 hz19 _) ⟨⟨rfl, rfl⟩, Nat.le_of_ble_eq_true rfl, Nat.le_of_ble_eq_true rfl⟩ hK hG hA hP hD hS (is := [2, 3]) rfl rfl (xrecv hK hP (q0 := 2) (ci := 3) rfl rfl) rfl hl.1 rfl (Nat.le_of_ble_eq_true rfl) dX10_takeName_19 (fun H locs hP hD hS => ?_)
    refine P10_90 hx hb htg hown hK hP hD hS 0 rfl dX10_takeName_22 (fun H locs hP hD hS => ?_)
    refine lv_aload_n hx hb dX10_takeName_25 rfl (lv_at hl 0 rfl) ?_
    refine G10_90 hx hb htg hown hK hP 0 rfl dX10_takeName_26 ?_
    refine lv_iconst (v := (-1)) hx hb dX10_takeName_29 rfl ?_
    refine lv_icmp_ne (tgt := 39) hx hb dX10_takeName_30 (by decide) (fun c30 => ?_) (fun c30 => ?_)
    · have hf := it_f c30 hf
      refine lv_aload_n hx hb dX10_takeName_39 rfl (lv_at hl 1 rfl) ?_
      obtain ⟨z40, hz40, hf⟩ := bind_s hf
      refine xV_vu hx hb hml hown htg L10_56 (c_X8_advance l E a1 a4 a5 hz40 _) ⟨⟨rfl, rfl⟩, Nat.le_of_ble_eq_true rfl, Nat.le_of_ble_eq_true rfl⟩ hK hG hA hP hD hS (is := [1, 4, 5]) (sel := [none, some 0, none, none, some 1, some 2]) (ws2 := [(a0, o10 (upd T0 4 z19) u0_0), (a1, o8 z40.1 z40.2 a4 a5), (a2, o3 T2 u2_7 u2_8 a3 u2_10 u2_11 u2_12 u2_13 u2_14), (a3, al E 5 V3), (a4, ab E 900 V4), (a5, al E 23 V5)]) rfl rfl rfl rfl rfl (xrecv hK hP (q0 := 1) (ci := 8) rfl rfl) rfl hl.1 rfl (Nat.le_of_ble_eq_true rfl) dX10_takeName_40 (fun H locs hP hD hS => ?_)
      refine lv_iconst (v := 1) hx hb dX10_takeName_43 rfl ?_
      exact ret (1, upd T0 4 z19, z40.1, z40.2) hf nz1 hP hS dX10_takeName_44
    · have hf := it_t c30 hf
      refine lv_aload_n hx hb dX10_takeName_33 rfl (lv_at hl 1 rfl) ?_
      refine lv_iconst (v := 3) hx hb dX10_takeName_34 rfl ?_
      obtain ⟨z35, hz35, hf⟩ := bind_s hf
      refine xV_iu hx hb hml hown htg L10_46 (c_X8_blame l E a1 hz35 _) ⟨⟨rfl, rfl⟩, Nat.le_of_ble_eq_true rfl, Nat.le_of_ble_eq_true rfl⟩ hK hG hA hP hD hS (is := [1]) (sel := [none, some 0, none, none, none, none]) (ws2 := [(a0, o10 (upd T0 4 z19) u0_0), (a1, o8 z35.2 J1_8 a4 a5), (a2, o3 T2 u2_7 u2_8 a3 u2_10 u2_11 u2_12 u2_13 u2_14), (a3, al E 5 V3), (a4, ab E 900 V4), (a5, al E 23 V5)]) rfl rfl rfl rfl rfl (xrecv hK hP (q0 := 1) (ci := 8) rfl rfl) rfl hl.1 rfl (Nat.le_of_ble_eq_true rfl) dX10_takeName_35 (fun H locs hP hD hS => ?_)
      obtain ⟨g38, hf⟩ := ck_s hf
      exact ret (z35.1, upd T0 4 z19, z35.2, J1_8) hf (bz_n g38).1 hP hS dX10_takeName_38
  · have hf := it_t c4 hf
    refine lv_aload_n hx hb dX10_takeName_7 rfl (lv_at hl 1 rfl) ?_
    refine lv_iconst (v := 2) hx hb dX10_takeName_8 rfl ?_
    obtain ⟨z9, hz9, hf⟩ := bind_s hf
    refine xV_iu hx hb hml hown htg L10_46 (c_X8_blame l E a1 hz9 _) ⟨⟨rfl, rfl⟩, Nat.le_of_ble_eq_true rfl, Nat.le_of_ble_eq_true rfl⟩ hK hG hA hP hD hS (is := [1]) (sel := [none, some 0, none, none, none, none]) (ws2 := [(a0, o10 T0 u0_0), (a1, o8 z9.2 J1_8 a4 a5), (a2, o3 T2 u2_7 u2_8 a3 u2_10 u2_11 u2_12 u2_13 u2_14), (a3, al E 5 V3), (a4, ab E 900 V4), (a5, al E 23 V5)]) rfl rfl rfl rfl rfl (xrecv hK hP (q0 := 1) (ci := 8) rfl rfl) rfl hl.1 rfl (Nat.le_of_ble_eq_true rfl) dX10_takeName_9 (fun H locs hP hD hS => ?_)
    obtain ⟨g12, hf⟩ := ck_s hf
    exact ret (z9.1, T0, z9.2, J1_8) hf (bz_n g12).1 hP hS dX10_takeName_12
theorem dX10_takeCell_0 : decode cX10_takeCell 0 = .ok (.aload_n 1, 1) := by decide +kernel
theorem dX10_takeCell_1 : decode cX10_takeCell 1 = .ok (.iconst 0, 1) := by decide +kernel
theorem dX10_takeCell_2 : decode cX10_takeCell 2 = .ok (.aload_n 2, 1) := by decide +kernel
theorem dX10_takeCell_3 : decode cX10_takeCell 3 = .ok (.getfield 136, 3) := by decide +kernel
theorem dX10_takeCell_6 : decode cX10_takeCell 6 = .ok (.iconst 1, 1) := by decide +kernel
theorem dX10_takeCell_7 : decode cX10_takeCell 7 = .ok (.isub, 1) := by decide +kernel
theorem dX10_takeCell_8 : decode cX10_takeCell 8 = .ok (.invokevirtual 139, 3) := by decide +kernel
theorem dX10_takeCell_11 : decode cX10_takeCell 11 = .ok (.ifCond .ne 5, 3) := by decide +kernel
theorem dX10_takeCell_14 : decode cX10_takeCell 14 = .ok (.iconst 0, 1) := by decide +kernel
theorem dX10_takeCell_15 : decode cX10_takeCell 15 = .ok (.ireturn, 1) := by decide +kernel
theorem dX10_takeCell_16 : decode cX10_takeCell 16 = .ok (.aload_n 1, 1) := by decide +kernel
theorem dX10_takeCell_17 : decode cX10_takeCell 17 = .ok (.invokevirtual 143, 3) := by decide +kernel
theorem dX10_takeCell_20 : decode cX10_takeCell 20 = .ok (.istore_n 3, 1) := by decide +kernel
theorem dX10_takeCell_21 : decode cX10_takeCell 21 = .ok (.aload_n 1, 1) := by decide +kernel
theorem dX10_takeCell_22 : decode cX10_takeCell 22 = .ok (.invokevirtual 56, 3) := by decide +kernel
theorem dX10_takeCell_25 : decode cX10_takeCell 25 = .ok (.aload_n 1, 1) := by decide +kernel
theorem dX10_takeCell_26 : decode cX10_takeCell 26 = .ok (.iconst 0, 1) := by decide +kernel
theorem dX10_takeCell_27 : decode cX10_takeCell 27 = .ok (.aload_n 2, 1) := by decide +kernel
theorem dX10_takeCell_28 : decode cX10_takeCell 28 = .ok (.getfield 145, 3) := by decide +kernel
theorem dX10_takeCell_31 : decode cX10_takeCell 31 = .ok (.iconst 1, 1) := by decide +kernel
theorem dX10_takeCell_32 : decode cX10_takeCell 32 = .ok (.isub, 1) := by decide +kernel
theorem dX10_takeCell_33 : decode cX10_takeCell 33 = .ok (.invokevirtual 139, 3) := by decide +kernel
theorem dX10_takeCell_36 : decode cX10_takeCell 36 = .ok (.ifCond .ne 5, 3) := by decide +kernel
theorem dX10_takeCell_39 : decode cX10_takeCell 39 = .ok (.iconst 0, 1) := by decide +kernel
theorem dX10_takeCell_40 : decode cX10_takeCell 40 = .ok (.ireturn, 1) := by decide +kernel
theorem dX10_takeCell_41 : decode cX10_takeCell 41 = .ok (.aload_n 0, 1) := by decide +kernel
theorem dX10_takeCell_42 : decode cX10_takeCell 42 = .ok (.iload_n 3, 1) := by decide +kernel
theorem dX10_takeCell_43 : decode cX10_takeCell 43 = .ok (.aload_n 2, 1) := by decide +kernel
theorem dX10_takeCell_44 : decode cX10_takeCell 44 = .ok (.getfield 145, 3) := by decide +kernel
theorem dX10_takeCell_47 : decode cX10_takeCell 47 = .ok (.imul, 1) := by decide +kernel
theorem dX10_takeCell_48 : decode cX10_takeCell 48 = .ok (.aload_n 1, 1) := by decide +kernel
theorem dX10_takeCell_49 : decode cX10_takeCell 49 = .ok (.invokevirtual 143, 3) := by decide +kernel
theorem dX10_takeCell_52 : decode cX10_takeCell 52 = .ok (.iadd, 1) := by decide +kernel
theorem dX10_takeCell_53 : decode cX10_takeCell 53 = .ok (.putfield 104, 3) := by decide +kernel
theorem dX10_takeCell_56 : decode cX10_takeCell 56 = .ok (.aload_n 1, 1) := by decide +kernel
theorem dX10_takeCell_57 : decode cX10_takeCell 57 = .ok (.invokevirtual 56, 3) := by decide +kernel
theorem dX10_takeCell_60 : decode cX10_takeCell 60 = .ok (.iconst 1, 1) := by decide +kernel
theorem dX10_takeCell_61 : decode cX10_takeCell 61 = .ok (.ireturn, 1) := by decide +kernel
set_option maxRecDepth 100000 in
theorem c_X10_takeCell (l : Launch) (E : xE) (a0 a1 a2 a3 a4 : Nat) {T0 : Nat → Int32} {T1 : Nat → Int32} {J1_8 : Int64} {T2 : Nat → Int32} {V3 : Nat → Int32} {V4 : Nat → Int64} {u0_0 u2_7 u2_8 u2_9 u2_10 u2_11 u2_12 u2_13 u2_14 : Nat} {z : Int32 × (Nat → Int32) × (Nat → Int32) × Int64} (hf : f_X10_takeCell T0 T1 J1_8 T2 V3 V4 = some z) (sz : Nat) : Met l yX10_takeCell (Cond.code yX10_takeCell cX10_takeCell 4 (some .boolean) :: gw) ({ frames := 2, cells := 0, slots := 0, locals := 44 }) (xPc E [.ref a0, .ref a1, .ref a2] [(a0, o10 T0 u0_0), (a1, o8 T1 J1_8 a3 a4), (a2, o3 T2 u2_7 u2_8 u2_9 u2_10 u2_11 u2_12 u2_13 u2_14), (a3, ab E 900 V3), (a4, al E 23 V4)] sz) (xQi E z.1 [(a0, o10 T0 u0_0), (a1, o8 T1 J1_8 a3 a4), (a2, o3 T2 u2_7 u2_8 u2_9 u2_10 u2_11 u2_12 u2_13 u2_14), (a3, ab E 900 V3), (a4, al E 23 V4)] [(a0, o10 z.2.1 u0_0), (a1, o8 z.2.2.1 z.2.2.2 a3 a4), (a2, o3 T2 u2_7 u2_8 u2_9 u2_10 u2_11 u2_12 u2_13 u2_14), (a3, ab E 900 V3), (a4, al E 23 V4)] sz) 0 0 (va_A [(a0, o10 T0 u0_0), (a1, o8 T1 J1_8 a3 a4), (a2, o3 T2 u2_7 u2_8 u2_9 u2_10 u2_11 u2_12 u2_13 u2_14), (a3, ab E 900 V3), (a4, al E 23 V4)] sz) := by
  refine xM_i (by decide +kernel) (Nat.le_of_ble_eq_true rfl) ?_
  intro p e s m args below meth c A Q hx hb hml hown htg hK hG hA ret0 H locs ls hP hD hS hl
  have ret : ∀ (z' : Int32 × (Nat → Int32) × (Nat → Int32) × Int64) {H : Heap} {locs : List Loc} {pc : Nat} {ls : Array Slot}, some z' = some z → narrow .boolean (.int z'.1) = .int z'.1 → va_P E.1 vwCl [(a0, o10 z'.2.1 u0_0), (a1, o8 z'.2.2.1 z'.2.2.2 a3 a4), (a2, o3 T2 u2_7 u2_8 u2_9 u2_10 u2_11 u2_12 u2_13 u2_14), (a3, ab E 900 V3), (a4, al E 23 V4)] H → va_S A s.heap H locs → decode cX10_takeCell pc = .ok (.ireturn, 1) → W p l e ({ frames := 2, cells := 0, slots := 0, locals := 44 } : Room) s m args below meth c H locs 0 0 Q (F0 m pc ls [.int z'.1]) := by
    intro z' H locs pc ls h
    cases h
    exact ret0
  replace hl : lv_has ls 4 [(0, .ref a0), (1, .ref a1), (2, .ref a2)] := hl
  unfold f_X10_takeCell at hf
  refine lv_aload_n hx hb dX10_takeCell_0 rfl (lv_at hl 1 rfl) ?_
  refine lv_iconst (v := 0) hx hb dX10_takeCell_1 rfl ?_
  refine lv_aload_n hx hb dX10_takeCell_2 rfl (lv_at hl 2 rfl) ?_
  refine G10_136 hx hb htg hown hK hP 2 rfl dX10_takeCell_3 ?_
  refine lv_iconst (v := 1) hx hb dX10_takeCell_6 rfl ?_
  refine lv_isub hx hb dX10_takeCell_7 ?_
  obtain ⟨z8, hz8, hf⟩ := bind_s hf
  refine xV_iu hx hb hml hown htg L10_139 (c_X8_isNumber l E a1 hz8 _) ⟨⟨rfl, rfl⟩, Nat.le_of_ble_eq_true rfl, Nat.le_of_ble_eq_true rfl⟩ hK hG hA hP hD hS (is := [1]) (sel := [none, some 0, none, none, none]) (ws2 := [(a0, o10 T0 u0_0), (a1, o8 z8.2 J1_8 a3 a4), (a2, o3 T2 u2_7 u2_8 u2_9 u2_10 u2_11 u2_12 u2_13 u2_14), (a3, ab E 900 V3), (a4, al E 23 V4)]) rfl rfl rfl rfl rfl (xrecv hK hP (q0 := 1) (ci := 8) rfl rfl) rfl hl.1 rfl (Nat.le_of_ble_eq_true rfl) dX10_takeCell_8 (fun H locs hP hD hS => ?_)
  refine lv_if_ne (tgt := 16) hx hb dX10_takeCell_11 (by decide) (fun c11 => ?_) (fun c11 => ?_)
  · have hf := it_f c11 hf
    refine lv_aload_n hx hb dX10_takeCell_16 rfl (lv_at hl 1 rfl) ?_
    obtain ⟨z17, hz17, hf⟩ := bind_s hf
    refine xV_ir hx hb hml hown htg L10_143 (c_X8_number l E a1 hz17 _) ⟨⟨rfl, rfl⟩, Nat.le_of_ble_eq_true rfl, Nat.le_of_ble_eq_true rfl⟩ hK hG hA hP hD hS (is := [1]) rfl rfl (xrecv hK hP (q0 := 1) (ci := 8) rfl rfl) rfl hl.1 rfl (Nat.le_of_ble_eq_true rfl) dX10_takeCell_17 (fun H locs hP hD hS => ?_)
    refine lv_istore_n (lv' := [(3, .int z17), (0, .ref a0), (1, .ref a1), (2, .ref a2)]) hx hb dX10_takeCell_20 rfl hl (by decide) rfl (fun ls hl => ?_)
    refine lv_aload_n hx hb dX10_takeCell_21 rfl (lv_at hl 2 rfl) ?_
    obtain ⟨z22, hz22, hf⟩ := bind_s hf
    refine xV_vu hx hb hml hown htg L10_56 (c_X8_advance l E a1 a3 a4 hz22 _) ⟨⟨rfl, rfl⟩, Nat.le_of_ble_eq_true rfl, Nat.le_of_ble_eq_true rfl⟩ hK hG hA hP hD hS (is := [1, 3, 4]) (sel := [none, some 0, none, some 1, some 2]) (ws2 := [(a0, o10 T0 u0_0), (a1, o8 z22.1 z22.2 a3 a4), (a2, o3 T2 u2_7 u2_8 u2_9 u2_10 u2_11 u2_12 u2_13 u2_14), (a3, ab E 900 V3), (a4, al E 23 V4)]) rfl rfl rfl rfl rfl (xrecv hK hP (q0 := 1) (ci := 8) rfl rfl) rfl hl.1 rfl (Nat.le_of_ble_eq_true rfl) dX10_takeCell_22 (fun H locs hP hD hS => ?_)
    refine lv_aload_n hx hb dX10_takeCell_25 rfl (lv_at hl 2 rfl) ?_
    refine lv_iconst (v := 0) hx hb dX10_takeCell_26 rfl ?_
    refine lv_aload_n hx hb dX10_takeCell_27 rfl (lv_at hl 3 rfl) ?_
    refine G10_145 hx hb htg hown hK hP 2 rfl dX10_takeCell_28 ?_
    refine lv_iconst (v := 1) hx hb dX10_takeCell_31 rfl ?_
    refine lv_isub hx hb dX10_takeCell_32 ?_
    obtain ⟨z33, hz33, hf⟩ := bind_s hf
    refine xV_iu hx hb hml hown htg L10_139 (c_X8_isNumber l E a1 hz33 _) ⟨⟨rfl, rfl⟩, Nat.le_of_ble_eq_true rfl, Nat.le_of_ble_eq_true rfl⟩ hK hG hA hP hD hS (is := [1]) (sel := [none, some 0, none, none, none]) (ws2 := [(a0, o10 T0 u0_0), (a1, o8 z33.2 z22.2 a3 a4), (a2, o3 T2 u2_7 u2_8 u2_9 u2_10 u2_11 u2_12 u2_13 u2_14), (a3, ab E 900 V3), (a4, al E 23 V4)]) rfl rfl rfl rfl rfl (xrecv hK hP (q0 := 1) (ci := 8) rfl rfl) rfl hl.1 rfl (Nat.le_of_ble_eq_true rfl) dX10_takeCell_33 (fun H locs hP hD hS => ?_)
    refine lv_if_ne (tgt := 41) hx hb dX10_takeCell_36 (by decide) (fun c36 => ?_) (fun c36 => ?_)
    · have hf := it_f c36 hf
      refine lv_aload_n hx hb dX10_takeCell_41 rfl (lv_at hl 1 rfl) ?_
      refine lv_iload_n hx hb dX10_takeCell_42 rfl (lv_at hl 0 rfl) ?_
      refine lv_aload_n hx hb dX10_takeCell_43 rfl (lv_at hl 3 rfl) ?_
      refine G10_145 hx hb htg hown hK hP 2 rfl dX10_takeCell_44 ?_
      refine lv_imul hx hb dX10_takeCell_47 ?_
      refine lv_aload_n hx hb dX10_takeCell_48 rfl (lv_at hl 2 rfl) ?_
      obtain ⟨z49, hz49, hf⟩ := bind_s hf
      refine xV_ir hx hb hml hown htg L10_143 (c_X8_number l E a1 hz49 _) ⟨⟨rfl, rfl⟩, Nat.le_of_ble_eq_true rfl, Nat.le_of_ble_eq_true rfl⟩ hK hG hA hP hD hS (is := [1]) rfl rfl (xrecv hK hP (q0 := 1) (ci := 8) rfl rfl) rfl hl.1 rfl (Nat.le_of_ble_eq_true rfl) dX10_takeCell_49 (fun H locs hP hD hS => ?_)
      refine lv_iadd hx hb dX10_takeCell_52 ?_
      refine P10_104 hx hb htg hown hK hP hD hS 0 rfl dX10_takeCell_53 (fun H locs hP hD hS => ?_)
      refine lv_aload_n hx hb dX10_takeCell_56 rfl (lv_at hl 2 rfl) ?_
      obtain ⟨z57, hz57, hf⟩ := bind_s hf
      refine xV_vu hx hb hml hown htg L10_56 (c_X8_advance l E a1 a3 a4 hz57 _) ⟨⟨rfl, rfl⟩, Nat.le_of_ble_eq_true rfl, Nat.le_of_ble_eq_true rfl⟩ hK hG hA hP hD hS (is := [1, 3, 4]) (sel := [none, some 0, none, some 1, some 2]) (ws2 := [(a0, o10 (upd T0 5 ((z17 * (T2 1)) + z49)) u0_0), (a1, o8 z57.1 z57.2 a3 a4), (a2, o3 T2 u2_7 u2_8 u2_9 u2_10 u2_11 u2_12 u2_13 u2_14), (a3, ab E 900 V3), (a4, al E 23 V4)]) rfl rfl rfl rfl rfl (xrecv hK hP (q0 := 1) (ci := 8) rfl rfl) rfl hl.1 rfl (Nat.le_of_ble_eq_true rfl) dX10_takeCell_57 (fun H locs hP hD hS => ?_)
      refine lv_iconst (v := 1) hx hb dX10_takeCell_60 rfl ?_
      exact ret (1, upd T0 5 ((z17 * (T2 1)) + z49), z57.1, z57.2) hf nz1 hP hS dX10_takeCell_61
    · have hf := it_t c36 hf
      refine lv_iconst (v := 0) hx hb dX10_takeCell_39 rfl ?_
      exact ret (0, T0, z33.2, z22.2) hf nz0 hP hS dX10_takeCell_40
  · have hf := it_t c11 hf
    refine lv_iconst (v := 0) hx hb dX10_takeCell_14 rfl ?_
    exact ret (0, T0, z8.2, J1_8) hf nz0 hP hS dX10_takeCell_15
theorem dX10_takeFeeling_0 : decode cX10_takeFeeling 0 = .ok (.aload_n 0, 1) := by decide +kernel
theorem dX10_takeFeeling_1 : decode cX10_takeFeeling 1 = .ok (.aload_n 1, 1) := by decide +kernel
theorem dX10_takeFeeling_2 : decode cX10_takeFeeling 2 = .ok (.invokevirtual 148, 3) := by decide +kernel
theorem dX10_takeFeeling_5 : decode cX10_takeFeeling 5 = .ok (.putfield 107, 3) := by decide +kernel
theorem dX10_takeFeeling_8 : decode cX10_takeFeeling 8 = .ok (.aload_n 0, 1) := by decide +kernel
theorem dX10_takeFeeling_9 : decode cX10_takeFeeling 9 = .ok (.getfield 107, 3) := by decide +kernel
theorem dX10_takeFeeling_12 : decode cX10_takeFeeling 12 = .ok (.iconst (-1), 1) := by decide +kernel
theorem dX10_takeFeeling_13 : decode cX10_takeFeeling 13 = .ok (.if_icmp .ne 9, 3) := by decide +kernel
theorem dX10_takeFeeling_16 : decode cX10_takeFeeling 16 = .ok (.aload_n 1, 1) := by decide +kernel
theorem dX10_takeFeeling_17 : decode cX10_takeFeeling 17 = .ok (.iconst 2, 1) := by decide +kernel
theorem dX10_takeFeeling_18 : decode cX10_takeFeeling 18 = .ok (.invokevirtual 46, 3) := by decide +kernel
theorem dX10_takeFeeling_21 : decode cX10_takeFeeling 21 = .ok (.ireturn, 1) := by decide +kernel
theorem dX10_takeFeeling_22 : decode cX10_takeFeeling 22 = .ok (.aload_n 1, 1) := by decide +kernel
theorem dX10_takeFeeling_23 : decode cX10_takeFeeling 23 = .ok (.invokevirtual 56, 3) := by decide +kernel
theorem dX10_takeFeeling_26 : decode cX10_takeFeeling 26 = .ok (.iconst 1, 1) := by decide +kernel
theorem dX10_takeFeeling_27 : decode cX10_takeFeeling 27 = .ok (.ireturn, 1) := by decide +kernel
set_option maxRecDepth 100000 in
theorem c_X10_takeFeeling (l : Launch) (E : xE) (a0 a1 a2 a3 : Nat) {T0 : Nat → Int32} {T1 : Nat → Int32} {J1_8 : Int64} {V2 : Nat → Int32} {V3 : Nat → Int64} {u0_0 : Nat} {z : Int32 × (Nat → Int32) × (Nat → Int32) × Int64} (hf : f_X10_takeFeeling T0 T1 J1_8 V2 V3 = some z) (sz : Nat) : Met l yX10_takeFeeling (Cond.code yX10_takeFeeling cX10_takeFeeling 2 (some .boolean) :: gw) ({ frames := 2, cells := 0, slots := 0, locals := 42 }) (xPc E [.ref a0, .ref a1] [(a0, o10 T0 u0_0), (a1, o8 T1 J1_8 a2 a3), (a2, ab E 900 V2), (a3, al E 23 V3)] sz) (xQi E z.1 [(a0, o10 T0 u0_0), (a1, o8 T1 J1_8 a2 a3), (a2, ab E 900 V2), (a3, al E 23 V3)] [(a0, o10 z.2.1 u0_0), (a1, o8 z.2.2.1 z.2.2.2 a2 a3), (a2, ab E 900 V2), (a3, al E 23 V3)] sz) 0 0 (va_A [(a0, o10 T0 u0_0), (a1, o8 T1 J1_8 a2 a3), (a2, ab E 900 V2), (a3, al E 23 V3)] sz) := by
  refine xM_i (by decide +kernel) (Nat.le_of_ble_eq_true rfl) ?_
  intro p e s m args below meth c A Q hx hb hml hown htg hK hG hA ret0 H locs ls hP hD hS hl
  have ret : ∀ (z' : Int32 × (Nat → Int32) × (Nat → Int32) × Int64) {H : Heap} {locs : List Loc} {pc : Nat} {ls : Array Slot}, some z' = some z → narrow .boolean (.int z'.1) = .int z'.1 → va_P E.1 vwCl [(a0, o10 z'.2.1 u0_0), (a1, o8 z'.2.2.1 z'.2.2.2 a2 a3), (a2, ab E 900 V2), (a3, al E 23 V3)] H → va_S A s.heap H locs → decode cX10_takeFeeling pc = .ok (.ireturn, 1) → W p l e ({ frames := 2, cells := 0, slots := 0, locals := 42 } : Room) s m args below meth c H locs 0 0 Q (F0 m pc ls [.int z'.1]) := by
    intro z' H locs pc ls h
    cases h
    exact ret0
  replace hl : lv_has ls 2 [(0, .ref a0), (1, .ref a1)] := hl
  unfold f_X10_takeFeeling at hf
  refine lv_aload_n hx hb dX10_takeFeeling_0 rfl (lv_at hl 0 rfl) ?_
  refine lv_aload_n hx hb dX10_takeFeeling_1 rfl (lv_at hl 1 rfl) ?_
  obtain ⟨z2, hz2, hf⟩ := bind_s hf
  refine xV_ir hx hb hml hown htg L10_148 (c_X8_feeling l E a1 hz2 _) ⟨⟨rfl, rfl⟩, Nat.le_of_ble_eq_true rfl, Nat.le_of_ble_eq_true rfl⟩ hK hG hA hP hD hS (is := [1]) rfl rfl (xrecv hK hP (q0 := 1) (ci := 8) rfl rfl) rfl hl.1 rfl (Nat.le_of_ble_eq_true rfl) dX10_takeFeeling_2 (fun H locs hP hD hS => ?_)
  refine P10_107 hx hb htg hown hK hP hD hS 0 rfl dX10_takeFeeling_5 (fun H locs hP hD hS => ?_)
  refine lv_aload_n hx hb dX10_takeFeeling_8 rfl (lv_at hl 0 rfl) ?_
  refine G10_107 hx hb htg hown hK hP 0 rfl dX10_takeFeeling_9 ?_
  refine lv_iconst (v := (-1)) hx hb dX10_takeFeeling_12 rfl ?_
  refine lv_icmp_ne (tgt := 22) hx hb dX10_takeFeeling_13 (by decide) (fun c13 => ?_) (fun c13 => ?_)
  · have hf := it_f c13 hf
    refine lv_aload_n hx hb dX10_takeFeeling_22 rfl (lv_at hl 1 rfl) ?_
    obtain ⟨z23, hz23, hf⟩ := bind_s hf
    refine xV_vu hx hb hml hown htg L10_56 (c_X8_advance l E a1 a2 a3 hz23 _) ⟨⟨rfl, rfl⟩, Nat.le_of_ble_eq_true rfl, Nat.le_of_ble_eq_true rfl⟩ hK hG hA hP hD hS (is := [1, 2, 3]) (sel := [none, some 0, some 1, some 2]) (ws2 := [(a0, o10 (upd T0 6 z2) u0_0), (a1, o8 z23.1 z23.2 a2 a3), (a2, ab E 900 V2), (a3, al E 23 V3)]) rfl rfl rfl rfl rfl (xrecv hK hP (q0 := 1) (ci := 8) rfl rfl) rfl hl.1 rfl (Nat.le_of_ble_eq_true rfl) dX10_takeFeeling_23 (fun H locs hP hD hS => ?_)
    refine lv_iconst (v := 1) hx hb dX10_takeFeeling_26 rfl ?_
    exact ret (1, upd T0 6 z2, z23.1, z23.2) hf nz1 hP hS dX10_takeFeeling_27
  · have hf := it_t c13 hf
    refine lv_aload_n hx hb dX10_takeFeeling_16 rfl (lv_at hl 1 rfl) ?_
    refine lv_iconst (v := 2) hx hb dX10_takeFeeling_17 rfl ?_
    obtain ⟨z18, hz18, hf⟩ := bind_s hf
    refine xV_iu hx hb hml hown htg L10_46 (c_X8_blame l E a1 hz18 _) ⟨⟨rfl, rfl⟩, Nat.le_of_ble_eq_true rfl, Nat.le_of_ble_eq_true rfl⟩ hK hG hA hP hD hS (is := [1]) (sel := [none, some 0, none, none]) (ws2 := [(a0, o10 (upd T0 6 z2) u0_0), (a1, o8 z18.2 J1_8 a2 a3), (a2, ab E 900 V2), (a3, al E 23 V3)]) rfl rfl rfl rfl rfl (xrecv hK hP (q0 := 1) (ci := 8) rfl rfl) rfl hl.1 rfl (Nat.le_of_ble_eq_true rfl) dX10_takeFeeling_18 (fun H locs hP hD hS => ?_)
    obtain ⟨g21, hf⟩ := ck_s hf
    exact ret (z18.1, upd T0 6 z2, z18.2, J1_8) hf (bz_n g21).1 hP hS dX10_takeFeeling_21
theorem dX10_takeComparison_0 : decode cX10_takeComparison 0 = .ok (.aload_n 0, 1) := by decide +kernel
theorem dX10_takeComparison_1 : decode cX10_takeComparison 1 = .ok (.aload_n 1, 1) := by decide +kernel
theorem dX10_takeComparison_2 : decode cX10_takeComparison 2 = .ok (.invokevirtual 151, 3) := by decide +kernel
theorem dX10_takeComparison_5 : decode cX10_takeComparison 5 = .ok (.putfield 120, 3) := by decide +kernel
theorem dX10_takeComparison_8 : decode cX10_takeComparison 8 = .ok (.aload_n 0, 1) := by decide +kernel
theorem dX10_takeComparison_9 : decode cX10_takeComparison 9 = .ok (.getfield 120, 3) := by decide +kernel
theorem dX10_takeComparison_12 : decode cX10_takeComparison 12 = .ok (.iconst (-1), 1) := by decide +kernel
theorem dX10_takeComparison_13 : decode cX10_takeComparison 13 = .ok (.iconst 1, 1) := by decide +kernel
theorem dX10_takeComparison_14 : decode cX10_takeComparison 14 = .ok (.invokestatic 82, 3) := by decide +kernel
theorem dX10_takeComparison_17 : decode cX10_takeComparison 17 = .ok (.ifCond .ne 9, 3) := by decide +kernel
theorem dX10_takeComparison_20 : decode cX10_takeComparison 20 = .ok (.aload_n 1, 1) := by decide +kernel
theorem dX10_takeComparison_21 : decode cX10_takeComparison 21 = .ok (.iconst 2, 1) := by decide +kernel
theorem dX10_takeComparison_22 : decode cX10_takeComparison 22 = .ok (.invokevirtual 46, 3) := by decide +kernel
theorem dX10_takeComparison_25 : decode cX10_takeComparison 25 = .ok (.ireturn, 1) := by decide +kernel
theorem dX10_takeComparison_26 : decode cX10_takeComparison 26 = .ok (.aload_n 1, 1) := by decide +kernel
theorem dX10_takeComparison_27 : decode cX10_takeComparison 27 = .ok (.invokevirtual 56, 3) := by decide +kernel
theorem dX10_takeComparison_30 : decode cX10_takeComparison 30 = .ok (.iconst 1, 1) := by decide +kernel
theorem dX10_takeComparison_31 : decode cX10_takeComparison 31 = .ok (.ireturn, 1) := by decide +kernel
set_option maxRecDepth 100000 in
theorem c_X10_takeComparison (l : Launch) (E : xE) (a0 a1 a2 a3 : Nat) {T0 : Nat → Int32} {T1 : Nat → Int32} {J1_8 : Int64} {V2 : Nat → Int32} {V3 : Nat → Int64} {u0_0 : Nat} {z : Int32 × (Nat → Int32) × (Nat → Int32) × Int64} (hf : f_X10_takeComparison T0 T1 J1_8 V2 V3 = some z) (sz : Nat) : Met l yX10_takeComparison (Cond.code yX10_takeComparison cX10_takeComparison 2 (some .boolean) :: gw) ({ frames := 2, cells := 0, slots := 0, locals := 41 }) (xPc E [.ref a0, .ref a1] [(a0, o10 T0 u0_0), (a1, o8 T1 J1_8 a2 a3), (a2, ab E 900 V2), (a3, al E 23 V3)] sz) (xQi E z.1 [(a0, o10 T0 u0_0), (a1, o8 T1 J1_8 a2 a3), (a2, ab E 900 V2), (a3, al E 23 V3)] [(a0, o10 z.2.1 u0_0), (a1, o8 z.2.2.1 z.2.2.2 a2 a3), (a2, ab E 900 V2), (a3, al E 23 V3)] sz) 0 0 (va_A [(a0, o10 T0 u0_0), (a1, o8 T1 J1_8 a2 a3), (a2, ab E 900 V2), (a3, al E 23 V3)] sz) := by
  refine xM_i (by decide +kernel) (Nat.le_of_ble_eq_true rfl) ?_
  intro p e s m args below meth c A Q hx hb hml hown htg hK hG hA ret0 H locs ls hP hD hS hl
  have ret : ∀ (z' : Int32 × (Nat → Int32) × (Nat → Int32) × Int64) {H : Heap} {locs : List Loc} {pc : Nat} {ls : Array Slot}, some z' = some z → narrow .boolean (.int z'.1) = .int z'.1 → va_P E.1 vwCl [(a0, o10 z'.2.1 u0_0), (a1, o8 z'.2.2.1 z'.2.2.2 a2 a3), (a2, ab E 900 V2), (a3, al E 23 V3)] H → va_S A s.heap H locs → decode cX10_takeComparison pc = .ok (.ireturn, 1) → W p l e ({ frames := 2, cells := 0, slots := 0, locals := 41 } : Room) s m args below meth c H locs 0 0 Q (F0 m pc ls [.int z'.1]) := by
    intro z' H locs pc ls h
    cases h
    exact ret0
  replace hl : lv_has ls 2 [(0, .ref a0), (1, .ref a1)] := hl
  unfold f_X10_takeComparison at hf
  refine lv_aload_n hx hb dX10_takeComparison_0 rfl (lv_at hl 0 rfl) ?_
  refine lv_aload_n hx hb dX10_takeComparison_1 rfl (lv_at hl 1 rfl) ?_
  obtain ⟨z2, hz2, hf⟩ := bind_s hf
  refine xV_ir hx hb hml hown htg L10_151 (c_X8_comparison l E a1 hz2 _) ⟨⟨rfl, rfl⟩, Nat.le_of_ble_eq_true rfl, Nat.le_of_ble_eq_true rfl⟩ hK hG hA hP hD hS (is := [1]) rfl rfl (xrecv hK hP (q0 := 1) (ci := 8) rfl rfl) rfl hl.1 rfl (Nat.le_of_ble_eq_true rfl) dX10_takeComparison_2 (fun H locs hP hD hS => ?_)
  refine P10_120 hx hb htg hown hK hP hD hS 0 rfl dX10_takeComparison_5 (fun H locs hP hD hS => ?_)
  refine lv_aload_n hx hb dX10_takeComparison_8 rfl (lv_at hl 0 rfl) ?_
  refine G10_120 hx hb htg hown hK hP 0 rfl dX10_takeComparison_9 ?_
  refine lv_iconst (v := (-1)) hx hb dX10_takeComparison_12 rfl ?_
  refine lv_iconst (v := 1) hx hb dX10_takeComparison_13 rfl ?_
  obtain ⟨z14, hz14, hf⟩ := bind_s hf
  refine xN_ir hx hb hml hown htg L10_82 16 rfl (c_X11_within l E hz14 _) ⟨⟨rfl, rfl⟩, Nat.le_of_ble_eq_true rfl, Nat.le_of_ble_eq_true rfl⟩ hK hG hA hP hD hS (is := []) rfl rfl rfl hl.1 rfl (Nat.le_of_ble_eq_true rfl) dX10_takeComparison_14 (fun H locs hP hD hS => ?_)
  refine lv_if_ne (tgt := 26) hx hb dX10_takeComparison_17 (by decide) (fun c17 => ?_) (fun c17 => ?_)
  · have hf := it_f c17 hf
    refine lv_aload_n hx hb dX10_takeComparison_26 rfl (lv_at hl 1 rfl) ?_
    obtain ⟨z27, hz27, hf⟩ := bind_s hf
    refine xV_vu hx hb hml hown htg L10_56 (c_X8_advance l E a1 a2 a3 hz27 _) ⟨⟨rfl, rfl⟩, Nat.le_of_ble_eq_true rfl, Nat.le_of_ble_eq_true rfl⟩ hK hG hA hP hD hS (is := [1, 2, 3]) (sel := [none, some 0, some 1, some 2]) (ws2 := [(a0, o10 (upd T0 7 z2) u0_0), (a1, o8 z27.1 z27.2 a2 a3), (a2, ab E 900 V2), (a3, al E 23 V3)]) rfl rfl rfl rfl rfl (xrecv hK hP (q0 := 1) (ci := 8) rfl rfl) rfl hl.1 rfl (Nat.le_of_ble_eq_true rfl) dX10_takeComparison_27 (fun H locs hP hD hS => ?_)
    refine lv_iconst (v := 1) hx hb dX10_takeComparison_30 rfl ?_
    exact ret (1, upd T0 7 z2, z27.1, z27.2) hf nz1 hP hS dX10_takeComparison_31
  · have hf := it_t c17 hf
    refine lv_aload_n hx hb dX10_takeComparison_20 rfl (lv_at hl 1 rfl) ?_
    refine lv_iconst (v := 2) hx hb dX10_takeComparison_21 rfl ?_
    obtain ⟨z22, hz22, hf⟩ := bind_s hf
    refine xV_iu hx hb hml hown htg L10_46 (c_X8_blame l E a1 hz22 _) ⟨⟨rfl, rfl⟩, Nat.le_of_ble_eq_true rfl, Nat.le_of_ble_eq_true rfl⟩ hK hG hA hP hD hS (is := [1]) (sel := [none, some 0, none, none]) (ws2 := [(a0, o10 (upd T0 7 z2) u0_0), (a1, o8 z22.2 J1_8 a2 a3), (a2, ab E 900 V2), (a3, al E 23 V3)]) rfl rfl rfl rfl rfl (xrecv hK hP (q0 := 1) (ci := 8) rfl rfl) rfl hl.1 rfl (Nat.le_of_ble_eq_true rfl) dX10_takeComparison_22 (fun H locs hP hD hS => ?_)
    obtain ⟨g25, hf⟩ := ck_s hf
    exact ret (z22.1, upd T0 7 z2, z22.2, J1_8) hf (bz_n g25).1 hP hS dX10_takeComparison_25
theorem dX10_takeNumber_0 : decode cX10_takeNumber 0 = .ok (.aload_n 1, 1) := by decide +kernel
theorem dX10_takeNumber_1 : decode cX10_takeNumber 1 = .ok (.iload_n 2, 1) := by decide +kernel
theorem dX10_takeNumber_2 : decode cX10_takeNumber 2 = .ok (.iload_n 3, 1) := by decide +kernel
theorem dX10_takeNumber_3 : decode cX10_takeNumber 3 = .ok (.invokevirtual 139, 3) := by decide +kernel
theorem dX10_takeNumber_6 : decode cX10_takeNumber 6 = .ok (.ifCond .ne 5, 3) := by decide +kernel
theorem dX10_takeNumber_9 : decode cX10_takeNumber 9 = .ok (.iconst 0, 1) := by decide +kernel
theorem dX10_takeNumber_10 : decode cX10_takeNumber 10 = .ok (.ireturn, 1) := by decide +kernel
theorem dX10_takeNumber_11 : decode cX10_takeNumber 11 = .ok (.aload_n 0, 1) := by decide +kernel
theorem dX10_takeNumber_12 : decode cX10_takeNumber 12 = .ok (.aload_n 1, 1) := by decide +kernel
theorem dX10_takeNumber_13 : decode cX10_takeNumber 13 = .ok (.invokevirtual 143, 3) := by decide +kernel
theorem dX10_takeNumber_16 : decode cX10_takeNumber 16 = .ok (.putfield 114, 3) := by decide +kernel
theorem dX10_takeNumber_19 : decode cX10_takeNumber 19 = .ok (.aload_n 1, 1) := by decide +kernel
theorem dX10_takeNumber_20 : decode cX10_takeNumber 20 = .ok (.invokevirtual 56, 3) := by decide +kernel
theorem dX10_takeNumber_23 : decode cX10_takeNumber 23 = .ok (.iconst 1, 1) := by decide +kernel
theorem dX10_takeNumber_24 : decode cX10_takeNumber 24 = .ok (.ireturn, 1) := by decide +kernel
set_option maxRecDepth 100000 in
theorem c_X10_takeNumber (l : Launch) (E : xE) (a0 a1 a2 a3 : Nat) {T0 : Nat → Int32} {T1 : Nat → Int32} {J1_8 : Int64} {V2 : Nat → Int32} {V3 : Nat → Int64} {u0_0 : Nat} {x2 : Int32} {x3 : Int32} {z : Int32 × (Nat → Int32) × (Nat → Int32) × Int64} (hf : f_X10_takeNumber T0 T1 J1_8 V2 V3 x2 x3 = some z) (sz : Nat) : Met l yX10_takeNumber (Cond.code yX10_takeNumber cX10_takeNumber 4 (some .boolean) :: gw) ({ frames := 2, cells := 0, slots := 0, locals := 44 }) (xPc E [.ref a0, .ref a1, .int x2, .int x3] [(a0, o10 T0 u0_0), (a1, o8 T1 J1_8 a2 a3), (a2, ab E 900 V2), (a3, al E 23 V3)] sz) (xQi E z.1 [(a0, o10 T0 u0_0), (a1, o8 T1 J1_8 a2 a3), (a2, ab E 900 V2), (a3, al E 23 V3)] [(a0, o10 z.2.1 u0_0), (a1, o8 z.2.2.1 z.2.2.2 a2 a3), (a2, ab E 900 V2), (a3, al E 23 V3)] sz) 0 0 (va_A [(a0, o10 T0 u0_0), (a1, o8 T1 J1_8 a2 a3), (a2, ab E 900 V2), (a3, al E 23 V3)] sz) := by
  refine xM_i (by decide +kernel) (Nat.le_of_ble_eq_true rfl) ?_
  intro p e s m args below meth c A Q hx hb hml hown htg hK hG hA ret0 H locs ls hP hD hS hl
  have ret : ∀ (z' : Int32 × (Nat → Int32) × (Nat → Int32) × Int64) {H : Heap} {locs : List Loc} {pc : Nat} {ls : Array Slot}, some z' = some z → narrow .boolean (.int z'.1) = .int z'.1 → va_P E.1 vwCl [(a0, o10 z'.2.1 u0_0), (a1, o8 z'.2.2.1 z'.2.2.2 a2 a3), (a2, ab E 900 V2), (a3, al E 23 V3)] H → va_S A s.heap H locs → decode cX10_takeNumber pc = .ok (.ireturn, 1) → W p l e ({ frames := 2, cells := 0, slots := 0, locals := 44 } : Room) s m args below meth c H locs 0 0 Q (F0 m pc ls [.int z'.1]) := by
    intro z' H locs pc ls h
    cases h
    exact ret0
  replace hl : lv_has ls 4 [(0, .ref a0), (1, .ref a1), (2, .int x2), (3, .int x3)] := hl
  unfold f_X10_takeNumber at hf
  refine lv_aload_n hx hb dX10_takeNumber_0 rfl (lv_at hl 1 rfl) ?_
  refine lv_iload_n hx hb dX10_takeNumber_1 rfl (lv_at hl 2 rfl) ?_
  refine lv_iload_n hx hb dX10_takeNumber_2 rfl (lv_at hl 3 rfl) ?_
  obtain ⟨z3, hz3, hf⟩ := bind_s hf
  refine xV_iu hx hb hml hown htg L10_139 (c_X8_isNumber l E a1 hz3 _) ⟨⟨rfl, rfl⟩, Nat.le_of_ble_eq_true rfl, Nat.le_of_ble_eq_true rfl⟩ hK hG hA hP hD hS (is := [1]) (sel := [none, some 0, none, none]) (ws2 := [(a0, o10 T0 u0_0), (a1, o8 z3.2 J1_8 a2 a3), (a2, ab E 900 V2), (a3, al E 23 V3)]) rfl rfl rfl rfl rfl (xrecv hK hP (q0 := 1) (ci := 8) rfl rfl) rfl hl.1 rfl (Nat.le_of_ble_eq_true rfl) dX10_takeNumber_3 (fun H locs hP hD hS => ?_)
  refine lv_if_ne (tgt := 11) hx hb dX10_takeNumber_6 (by decide) (fun c6 => ?_) (fun c6 => ?_)
  · have hf := it_f c6 hf
    refine lv_aload_n hx hb dX10_takeNumber_11 rfl (lv_at hl 0 rfl) ?_
    refine lv_aload_n hx hb dX10_takeNumber_12 rfl (lv_at hl 1 rfl) ?_
    obtain ⟨z13, hz13, hf⟩ := bind_s hf
    refine xV_ir hx hb hml hown htg L10_143 (c_X8_number l E a1 hz13 _) ⟨⟨rfl, rfl⟩, Nat.le_of_ble_eq_true rfl, Nat.le_of_ble_eq_true rfl⟩ hK hG hA hP hD hS (is := [1]) rfl rfl (xrecv hK hP (q0 := 1) (ci := 8) rfl rfl) rfl hl.1 rfl (Nat.le_of_ble_eq_true rfl) dX10_takeNumber_13 (fun H locs hP hD hS => ?_)
    refine P10_114 hx hb htg hown hK hP hD hS 0 rfl dX10_takeNumber_16 (fun H locs hP hD hS => ?_)
    refine lv_aload_n hx hb dX10_takeNumber_19 rfl (lv_at hl 1 rfl) ?_
    obtain ⟨z20, hz20, hf⟩ := bind_s hf
    refine xV_vu hx hb hml hown htg L10_56 (c_X8_advance l E a1 a2 a3 hz20 _) ⟨⟨rfl, rfl⟩, Nat.le_of_ble_eq_true rfl, Nat.le_of_ble_eq_true rfl⟩ hK hG hA hP hD hS (is := [1, 2, 3]) (sel := [none, some 0, some 1, some 2]) (ws2 := [(a0, o10 (upd T0 8 z13) u0_0), (a1, o8 z20.1 z20.2 a2 a3), (a2, ab E 900 V2), (a3, al E 23 V3)]) rfl rfl rfl rfl rfl (xrecv hK hP (q0 := 1) (ci := 8) rfl rfl) rfl hl.1 rfl (Nat.le_of_ble_eq_true rfl) dX10_takeNumber_20 (fun H locs hP hD hS => ?_)
    refine lv_iconst (v := 1) hx hb dX10_takeNumber_23 rfl ?_
    exact ret (1, upd T0 8 z13, z20.1, z20.2) hf nz1 hP hS dX10_takeNumber_24
  · have hf := it_t c6 hf
    refine lv_iconst (v := 0) hx hb dX10_takeNumber_9 rfl ?_
    exact ret (0, T0, z3.2, J1_8) hf nz0 hP hS dX10_takeNumber_10
theorem dX10_takeTest_0 : decode cX10_takeTest 0 = .ok (.aload_n 1, 1) := by decide +kernel
theorem dX10_takeTest_1 : decode cX10_takeTest 1 = .ok (.invokevirtual 62, 3) := by decide +kernel
theorem dX10_takeTest_4 : decode cX10_takeTest 4 = .ok (.istore 4, 2) := by decide +kernel
theorem dX10_takeTest_6 : decode cX10_takeTest 6 = .ok (.iload 4, 2) := by decide +kernel
theorem dX10_takeTest_8 : decode cX10_takeTest 8 = .ok (.iconst 5, 1) := by decide +kernel
theorem dX10_takeTest_9 : decode cX10_takeTest 9 = .ok (.if_icmp .eq 30, 3) := by decide +kernel
theorem dX10_takeTest_12 : decode cX10_takeTest 12 = .ok (.iload 4, 2) := by decide +kernel
theorem dX10_takeTest_14 : decode cX10_takeTest 14 = .ok (.bipush 18, 2) := by decide +kernel
theorem dX10_takeTest_16 : decode cX10_takeTest 16 = .ok (.if_icmp .eq 23, 3) := by decide +kernel
theorem dX10_takeTest_19 : decode cX10_takeTest 19 = .ok (.iload 4, 2) := by decide +kernel
theorem dX10_takeTest_21 : decode cX10_takeTest 21 = .ok (.bipush 17, 2) := by decide +kernel
theorem dX10_takeTest_23 : decode cX10_takeTest 23 = .ok (.if_icmp .eq 16, 3) := by decide +kernel
theorem dX10_takeTest_26 : decode cX10_takeTest 26 = .ok (.iload 4, 2) := by decide +kernel
theorem dX10_takeTest_28 : decode cX10_takeTest 28 = .ok (.bipush 19, 2) := by decide +kernel
theorem dX10_takeTest_30 : decode cX10_takeTest 30 = .ok (.if_icmp .eq 9, 3) := by decide +kernel
theorem dX10_takeTest_33 : decode cX10_takeTest 33 = .ok (.aload_n 1, 1) := by decide +kernel
theorem dX10_takeTest_34 : decode cX10_takeTest 34 = .ok (.iconst 2, 1) := by decide +kernel
theorem dX10_takeTest_35 : decode cX10_takeTest 35 = .ok (.invokevirtual 46, 3) := by decide +kernel
theorem dX10_takeTest_38 : decode cX10_takeTest 38 = .ok (.ireturn, 1) := by decide +kernel
theorem dX10_takeTest_39 : decode cX10_takeTest 39 = .ok (.aload_n 1, 1) := by decide +kernel
theorem dX10_takeTest_40 : decode cX10_takeTest 40 = .ok (.invokevirtual 56, 3) := by decide +kernel
theorem dX10_takeTest_43 : decode cX10_takeTest 43 = .ok (.iload 4, 2) := by decide +kernel
theorem dX10_takeTest_45 : decode cX10_takeTest 45 = .ok (.lookupswitch 136 #[(5, 35), (17, 95), (18, 65)], 35) := by decide +kernel
theorem dX10_takeTest_80 : decode cX10_takeTest 80 = .ok (.aload_n 0, 1) := by decide +kernel
theorem dX10_takeTest_81 : decode cX10_takeTest 81 = .ok (.aload_n 1, 1) := by decide +kernel
theorem dX10_takeTest_82 : decode cX10_takeTest 82 = .ok (.aload_n 2, 1) := by decide +kernel
theorem dX10_takeTest_83 : decode cX10_takeTest 83 = .ok (.invokevirtual 86, 3) := by decide +kernel
theorem dX10_takeTest_86 : decode cX10_takeTest 86 = .ok (.ifCond .eq 22, 3) := by decide +kernel
theorem dX10_takeTest_89 : decode cX10_takeTest 89 = .ok (.aload_n 3, 1) := by decide +kernel
theorem dX10_takeTest_90 : decode cX10_takeTest 90 = .ok (.iload 4, 2) := by decide +kernel
theorem dX10_takeTest_92 : decode cX10_takeTest 92 = .ok (.aload_n 0, 1) := by decide +kernel
theorem dX10_takeTest_93 : decode cX10_takeTest 93 = .ok (.getfield 90, 3) := by decide +kernel
theorem dX10_takeTest_96 : decode cX10_takeTest 96 = .ok (.iconst 0, 1) := by decide +kernel
theorem dX10_takeTest_97 : decode cX10_takeTest 97 = .ok (.iconst 0, 1) := by decide +kernel
theorem dX10_takeTest_98 : decode cX10_takeTest 98 = .ok (.invokevirtual 93, 3) := by decide +kernel
theorem dX10_takeTest_101 : decode cX10_takeTest 101 = .ok (.ifCond .eq 7, 3) := by decide +kernel
theorem dX10_takeTest_104 : decode cX10_takeTest 104 = .ok (.iconst 1, 1) := by decide +kernel
theorem dX10_takeTest_105 : decode cX10_takeTest 105 = .ok (.goto 4, 3) := by decide +kernel
theorem dX10_takeTest_108 : decode cX10_takeTest 108 = .ok (.iconst 0, 1) := by decide +kernel
theorem dX10_takeTest_109 : decode cX10_takeTest 109 = .ok (.ireturn, 1) := by decide +kernel
theorem dX10_takeTest_110 : decode cX10_takeTest 110 = .ok (.aload_n 0, 1) := by decide +kernel
theorem dX10_takeTest_111 : decode cX10_takeTest 111 = .ok (.aload_n 1, 1) := by decide +kernel
theorem dX10_takeTest_112 : decode cX10_takeTest 112 = .ok (.aload_n 2, 1) := by decide +kernel
theorem dX10_takeTest_113 : decode cX10_takeTest 113 = .ok (.invokevirtual 97, 3) := by decide +kernel
theorem dX10_takeTest_116 : decode cX10_takeTest 116 = .ok (.ifCond .eq 22, 3) := by decide +kernel
theorem dX10_takeTest_119 : decode cX10_takeTest 119 = .ok (.aload_n 3, 1) := by decide +kernel
theorem dX10_takeTest_120 : decode cX10_takeTest 120 = .ok (.iload 4, 2) := by decide +kernel
theorem dX10_takeTest_122 : decode cX10_takeTest 122 = .ok (.aload_n 0, 1) := by decide +kernel
theorem dX10_takeTest_123 : decode cX10_takeTest 123 = .ok (.getfield 104, 3) := by decide +kernel
theorem dX10_takeTest_126 : decode cX10_takeTest 126 = .ok (.iconst 0, 1) := by decide +kernel
theorem dX10_takeTest_127 : decode cX10_takeTest 127 = .ok (.iconst 0, 1) := by decide +kernel
theorem dX10_takeTest_128 : decode cX10_takeTest 128 = .ok (.invokevirtual 93, 3) := by decide +kernel
theorem dX10_takeTest_131 : decode cX10_takeTest 131 = .ok (.ifCond .eq 7, 3) := by decide +kernel
theorem dX10_takeTest_134 : decode cX10_takeTest 134 = .ok (.iconst 1, 1) := by decide +kernel
theorem dX10_takeTest_135 : decode cX10_takeTest 135 = .ok (.goto 4, 3) := by decide +kernel
theorem dX10_takeTest_138 : decode cX10_takeTest 138 = .ok (.iconst 0, 1) := by decide +kernel
theorem dX10_takeTest_139 : decode cX10_takeTest 139 = .ok (.ireturn, 1) := by decide +kernel
theorem dX10_takeTest_140 : decode cX10_takeTest 140 = .ok (.aload_n 0, 1) := by decide +kernel
theorem dX10_takeTest_141 : decode cX10_takeTest 141 = .ok (.aload_n 1, 1) := by decide +kernel
theorem dX10_takeTest_142 : decode cX10_takeTest 142 = .ok (.aload_n 2, 1) := by decide +kernel
theorem dX10_takeTest_143 : decode cX10_takeTest 143 = .ok (.invokevirtual 97, 3) := by decide +kernel
theorem dX10_takeTest_146 : decode cX10_takeTest 146 = .ok (.ifCond .eq 33, 3) := by decide +kernel
theorem dX10_takeTest_149 : decode cX10_takeTest 149 = .ok (.aload_n 0, 1) := by decide +kernel
theorem dX10_takeTest_150 : decode cX10_takeTest 150 = .ok (.aload_n 1, 1) := by decide +kernel
theorem dX10_takeTest_151 : decode cX10_takeTest 151 = .ok (.invokevirtual 100, 3) := by decide +kernel
theorem dX10_takeTest_154 : decode cX10_takeTest 154 = .ok (.ifCond .eq 25, 3) := by decide +kernel
theorem dX10_takeTest_157 : decode cX10_takeTest 157 = .ok (.aload_n 3, 1) := by decide +kernel
theorem dX10_takeTest_158 : decode cX10_takeTest 158 = .ok (.iload 4, 2) := by decide +kernel
theorem dX10_takeTest_160 : decode cX10_takeTest 160 = .ok (.aload_n 0, 1) := by decide +kernel
theorem dX10_takeTest_161 : decode cX10_takeTest 161 = .ok (.getfield 104, 3) := by decide +kernel
theorem dX10_takeTest_164 : decode cX10_takeTest 164 = .ok (.aload_n 0, 1) := by decide +kernel
theorem dX10_takeTest_165 : decode cX10_takeTest 165 = .ok (.getfield 107, 3) := by decide +kernel
theorem dX10_takeTest_168 : decode cX10_takeTest 168 = .ok (.iconst 0, 1) := by decide +kernel
theorem dX10_takeTest_169 : decode cX10_takeTest 169 = .ok (.invokevirtual 93, 3) := by decide +kernel
theorem dX10_takeTest_172 : decode cX10_takeTest 172 = .ok (.ifCond .eq 7, 3) := by decide +kernel
theorem dX10_takeTest_175 : decode cX10_takeTest 175 = .ok (.iconst 1, 1) := by decide +kernel
theorem dX10_takeTest_176 : decode cX10_takeTest 176 = .ok (.goto 4, 3) := by decide +kernel
theorem dX10_takeTest_179 : decode cX10_takeTest 179 = .ok (.iconst 0, 1) := by decide +kernel
theorem dX10_takeTest_180 : decode cX10_takeTest 180 = .ok (.ireturn, 1) := by decide +kernel
theorem dX10_takeTest_181 : decode cX10_takeTest 181 = .ok (.aload_n 0, 1) := by decide +kernel
theorem dX10_takeTest_182 : decode cX10_takeTest 182 = .ok (.aload_n 1, 1) := by decide +kernel
theorem dX10_takeTest_183 : decode cX10_takeTest 183 = .ok (.invokevirtual 117, 3) := by decide +kernel
theorem dX10_takeTest_186 : decode cX10_takeTest 186 = .ok (.ifCond .eq 36, 3) := by decide +kernel
theorem dX10_takeTest_189 : decode cX10_takeTest 189 = .ok (.aload_n 0, 1) := by decide +kernel
theorem dX10_takeTest_190 : decode cX10_takeTest 190 = .ok (.aload_n 1, 1) := by decide +kernel
theorem dX10_takeTest_191 : decode cX10_takeTest 191 = .ok (.iconst 0, 1) := by decide +kernel
theorem dX10_takeTest_192 : decode cX10_takeTest 192 = .ok (.bipush 36, 2) := by decide +kernel
theorem dX10_takeTest_194 : decode cX10_takeTest 194 = .ok (.invokevirtual 110, 3) := by decide +kernel
theorem dX10_takeTest_197 : decode cX10_takeTest 197 = .ok (.ifCond .eq 25, 3) := by decide +kernel
theorem dX10_takeTest_200 : decode cX10_takeTest 200 = .ok (.aload_n 3, 1) := by decide +kernel
theorem dX10_takeTest_201 : decode cX10_takeTest 201 = .ok (.iload 4, 2) := by decide +kernel
theorem dX10_takeTest_203 : decode cX10_takeTest 203 = .ok (.aload_n 0, 1) := by decide +kernel
theorem dX10_takeTest_204 : decode cX10_takeTest 204 = .ok (.getfield 120, 3) := by decide +kernel
theorem dX10_takeTest_207 : decode cX10_takeTest 207 = .ok (.aload_n 0, 1) := by decide +kernel
theorem dX10_takeTest_208 : decode cX10_takeTest 208 = .ok (.getfield 114, 3) := by decide +kernel
theorem dX10_takeTest_211 : decode cX10_takeTest 211 = .ok (.iconst 0, 1) := by decide +kernel
theorem dX10_takeTest_212 : decode cX10_takeTest 212 = .ok (.invokevirtual 93, 3) := by decide +kernel
theorem dX10_takeTest_215 : decode cX10_takeTest 215 = .ok (.ifCond .eq 7, 3) := by decide +kernel
theorem dX10_takeTest_218 : decode cX10_takeTest 218 = .ok (.iconst 1, 1) := by decide +kernel
theorem dX10_takeTest_219 : decode cX10_takeTest 219 = .ok (.goto 4, 3) := by decide +kernel
theorem dX10_takeTest_222 : decode cX10_takeTest 222 = .ok (.iconst 0, 1) := by decide +kernel
theorem dX10_takeTest_223 : decode cX10_takeTest 223 = .ok (.ireturn, 1) := by decide +kernel
set_option maxRecDepth 100000 in
theorem c_X10_takeTest (l : Launch) (E : xE) (a0 a1 a2 a3 a4 a5 a6 a7 a8 a9 a10 a11 : Nat) {T0 : Nat → Int32} {T1 : Nat → Int32} {J1_8 : Int64} {V2 : Nat → Int32} {V3 : Nat → Int64} {T4 : Nat → Int32} {V5 : Nat → Int64} {T6 : Nat → Int32} {V7 : Nat → Int32} {V8 : Nat → Int32} {V9 : Nat → Int32} {V10 : Nat → Int32} {V11 : Nat → Int32} {u0_0 u4_7 u4_8 u4_10 u4_11 u4_12 u4_13 u4_14 : Nat} {z : Int32 × (Nat → Int32) × (Nat → Int32) × Int64 × (Nat → Int32) × (Nat → Int32) × (Nat → Int32) × (Nat → Int32) × (Nat → Int32) × (Nat → Int32)} (hf : f_X10_takeTest T0 T1 J1_8 V2 V3 T4 V5 T6 V7 V8 V9 V10 V11 = some z) (sz : Nat) : Met l yX10_takeTest (Cond.code yX10_takeTest cX10_takeTest 5 (some .boolean) :: gw) ({ frames := 3, cells := 0, slots := 0, locals := 67 }) (xPc E [.ref a0, .ref a1, .ref a4, .ref a6] [(a0, o10 T0 u0_0), (a1, o8 T1 J1_8 a2 a3), (a2, ab E 900 V2), (a3, al E 23 V3), (a4, o3 T4 u4_7 u4_8 a5 u4_10 u4_11 u4_12 u4_13 u4_14), (a5, al E 5 V5), (a6, o0 T6 a7 a8 a9 a10 a11), (a7, ai E 60 V7), (a8, ai E 60 V8), (a9, ai E 60 V9), (a10, ai E 60 V10), (a11, ai E 60 V11)] sz) (xQi E z.1 [(a0, o10 T0 u0_0), (a1, o8 T1 J1_8 a2 a3), (a2, ab E 900 V2), (a3, al E 23 V3), (a4, o3 T4 u4_7 u4_8 a5 u4_10 u4_11 u4_12 u4_13 u4_14), (a5, al E 5 V5), (a6, o0 T6 a7 a8 a9 a10 a11), (a7, ai E 60 V7), (a8, ai E 60 V8), (a9, ai E 60 V9), (a10, ai E 60 V10), (a11, ai E 60 V11)] [(a0, o10 z.2.1 u0_0), (a1, o8 z.2.2.1 z.2.2.2.1 a2 a3), (a2, ab E 900 V2), (a3, al E 23 V3), (a4, o3 T4 u4_7 u4_8 a5 u4_10 u4_11 u4_12 u4_13 u4_14), (a5, al E 5 V5), (a6, o0 z.2.2.2.2.1 a7 a8 a9 a10 a11), (a7, ai E 60 z.2.2.2.2.2.1), (a8, ai E 60 z.2.2.2.2.2.2.1), (a9, ai E 60 z.2.2.2.2.2.2.2.1), (a10, ai E 60 z.2.2.2.2.2.2.2.2.1), (a11, ai E 60 z.2.2.2.2.2.2.2.2.2)] sz) 0 0 (va_A [(a0, o10 T0 u0_0), (a1, o8 T1 J1_8 a2 a3), (a2, ab E 900 V2), (a3, al E 23 V3), (a4, o3 T4 u4_7 u4_8 a5 u4_10 u4_11 u4_12 u4_13 u4_14), (a5, al E 5 V5), (a6, o0 T6 a7 a8 a9 a10 a11), (a7, ai E 60 V7), (a8, ai E 60 V8), (a9, ai E 60 V9), (a10, ai E 60 V10), (a11, ai E 60 V11)] sz) := by
  refine xM_i (by decide +kernel) (Nat.le_of_ble_eq_true rfl) ?_
  intro p e s m args below meth c A Q hx hb hml hown htg hK hG hA ret0 H locs ls hP hD hS hl
  have ret : ∀ (z' : Int32 × (Nat → Int32) × (Nat → Int32) × Int64 × (Nat → Int32) × (Nat → Int32) × (Nat → Int32) × (Nat → Int32) × (Nat → Int32) × (Nat → Int32)) {H : Heap} {locs : List Loc} {pc : Nat} {ls : Array Slot}, some z' = some z → narrow .boolean (.int z'.1) = .int z'.1 → va_P E.1 vwCl [(a0, o10 z'.2.1 u0_0), (a1, o8 z'.2.2.1 z'.2.2.2.1 a2 a3), (a2, ab E 900 V2), (a3, al E 23 V3), (a4, o3 T4 u4_7 u4_8 a5 u4_10 u4_11 u4_12 u4_13 u4_14), (a5, al E 5 V5), (a6, o0 z'.2.2.2.2.1 a7 a8 a9 a10 a11), (a7, ai E 60 z'.2.2.2.2.2.1), (a8, ai E 60 z'.2.2.2.2.2.2.1), (a9, ai E 60 z'.2.2.2.2.2.2.2.1), (a10, ai E 60 z'.2.2.2.2.2.2.2.2.1), (a11, ai E 60 z'.2.2.2.2.2.2.2.2.2)] H → va_S A s.heap H locs → decode cX10_takeTest pc = .ok (.ireturn, 1) → W p l e ({ frames := 3, cells := 0, slots := 0, locals := 67 } : Room) s m args below meth c H locs 0 0 Q (F0 m pc ls [.int z'.1]) := by
    intro z' H locs pc ls h
    cases h
    exact ret0
  replace hl : lv_has ls 5 [(0, .ref a0), (1, .ref a1), (2, .ref a4), (3, .ref a6)] := hl
  have b39 : ∀ (x4 : Int32) (T0 : Nat → Int32) (T1 : Nat → Int32) (J1_8 : Int64) (T6 : Nat → Int32) (V7 : Nat → Int32) (V8 : Nat → Int32) (V9 : Nat → Int32) (V10 : Nat → Int32) (V11 : Nat → Int32) (H : Heap) (locs : List Loc) (ls : Array Slot), f_X10_takeTest_39 V2 V3 T4 V5 x4 T0 T1 J1_8 T6 V7 V8 V9 V10 V11 = some z → va_P E.1 vwCl [(a0, o10 T0 u0_0), (a1, o8 T1 J1_8 a2 a3), (a2, ab E 900 V2), (a3, al E 23 V3), (a4, o3 T4 u4_7 u4_8 a5 u4_10 u4_11 u4_12 u4_13 u4_14), (a5, al E 5 V5), (a6, o0 T6 a7 a8 a9 a10 a11), (a7, ai E 60 V7), (a8, ai E 60 V8), (a9, ai E 60 V9), (a10, ai E 60 V10), (a11, ai E 60 V11)] H → va_D A [(a0, o10 T0 u0_0), (a1, o8 T1 J1_8 a2 a3), (a2, ab E 900 V2), (a3, al E 23 V3), (a4, o3 T4 u4_7 u4_8 a5 u4_10 u4_11 u4_12 u4_13 u4_14), (a5, al E 5 V5), (a6, o0 T6 a7 a8 a9 a10 a11), (a7, ai E 60 V7), (a8, ai E 60 V8), (a9, ai E 60 V9), (a10, ai E 60 V10), (a11, ai E 60 V11)] → va_S A s.heap H locs → lv_has ls 5 [(0, .ref a0), (1, .ref a1), (2, .ref a4), (3, .ref a6), (4, .int x4)] → W p l e ({ frames := 3, cells := 0, slots := 0, locals := 67 } : Room) s m args below meth c H locs 0 0 Q (F0 m 39 ls []) := by
    intro x4 T0 T1 J1_8 T6 V7 V8 V9 V10 V11 H locs ls hf hP hD hS hl
    unfold f_X10_takeTest_39 at hf
    refine lv_aload_n hx hb dX10_takeTest_39 rfl (lv_at hl 1 rfl) ?_
    obtain ⟨z40, hz40, hf⟩ := bind_s hf
    refine xV_vu hx hb hml hown htg L10_56 (c_X8_advance l E a1 a2 a3 hz40 _) ⟨⟨rfl, rfl⟩, Nat.le_of_ble_eq_true rfl, Nat.le_of_ble_eq_true rfl⟩ hK hG hA hP hD hS (is := [1, 2, 3]) (sel := [none, some 0, some 1, some 2, none, none, none, none, none, none, none, none]) (ws2 := [(a0, o10 T0 u0_0), (a1, o8 z40.1 z40.2 a2 a3), (a2, ab E 900 V2), (a3, al E 23 V3), (a4, o3 T4 u4_7 u4_8 a5 u4_10 u4_11 u4_12 u4_13 u4_14), (a5, al E 5 V5), (a6, o0 T6 a7 a8 a9 a10 a11), (a7, ai E 60 V7), (a8, ai E 60 V8), (a9, ai E 60 V9), (a10, ai E 60 V10), (a11, ai E 60 V11)]) rfl rfl rfl rfl rfl (xrecv hK hP (q0 := 1) (ci := 8) rfl rfl) rfl hl.1 rfl (Nat.le_of_ble_eq_true rfl) dX10_takeTest_40 (fun H locs hP hD hS => ?_)
    refine lv_iload hx hb dX10_takeTest_43 (lv_at hl 4 rfl) ?_
    by_cases c45_5 : x4 = 5
    · have hf := it_t c45_5 hf
      refine xlkI (off := 35) (tgt := 80) hx hb c45_5 dX10_takeTest_45 rfl (by decide) ?_
      refine lv_aload_n hx hb dX10_takeTest_80 rfl (lv_at hl 0 rfl) ?_
      refine lv_aload_n hx hb dX10_takeTest_81 rfl (lv_at hl 1 rfl) ?_
      refine lv_aload_n hx hb dX10_takeTest_82 rfl (lv_at hl 2 rfl) ?_
      obtain ⟨z83, hz83, hf⟩ := bind_s hf
      refine xV_iu hx hb hml hown htg L10_86 (c_X10_takeName l E a0 a1 a4 a5 a2 a3 hz83 _) ⟨⟨rfl, rfl⟩, Nat.le_of_ble_eq_true rfl, Nat.le_of_ble_eq_true rfl⟩ hK hG hA hP hD hS (is := [0, 1, 4, 5, 2, 3]) (sel := [some 0, some 1, some 4, some 5, some 2, some 3, none, none, none, none, none, none]) (ws2 := [(a0, o10 z83.2.1 u0_0), (a1, o8 z83.2.2.1 z83.2.2.2 a2 a3), (a2, ab E 900 V2), (a3, al E 23 V3), (a4, o3 T4 u4_7 u4_8 a5 u4_10 u4_11 u4_12 u4_13 u4_14), (a5, al E 5 V5), (a6, o0 T6 a7 a8 a9 a10 a11), (a7, ai E 60 V7), (a8, ai E 60 V8), (a9, ai E 60 V9), (a10, ai E 60 V10), (a11, ai E 60 V11)]) rfl rfl rfl rfl rfl (xrecv hK hP (q0 := 0) (ci := 10) rfl rfl) rfl hl.1 rfl (Nat.le_of_ble_eq_true rfl) dX10_takeTest_83 (fun H locs hP hD hS => ?_)
      refine lv_if_eq (tgt := 108) hx hb dX10_takeTest_86 (by decide) (fun c86 => ?_) (fun c86 => ?_)
      · have hf := it_t c86 hf
        refine lv_iconst (v := 0) hx hb dX10_takeTest_108 rfl ?_
        exact ret (0, z83.2.1, z83.2.2.1, z83.2.2.2, T6, V7, V8, V9, V10, V11) hf nz0 hP hS dX10_takeTest_109
      · have hf := it_f c86 hf
        refine lv_aload_n hx hb dX10_takeTest_89 rfl (lv_at hl 3 rfl) ?_
        refine lv_iload hx hb dX10_takeTest_90 (lv_at hl 4 rfl) ?_
        refine lv_aload_n hx hb dX10_takeTest_92 rfl (lv_at hl 0 rfl) ?_
        refine G10_90 hx hb htg hown hK hP 0 rfl dX10_takeTest_93 ?_
        refine lv_iconst (v := 0) hx hb dX10_takeTest_96 rfl ?_
        refine lv_iconst (v := 0) hx hb dX10_takeTest_97 rfl ?_
        obtain ⟨z98, hz98, hf⟩ := bind_s hf
        refine xV_iu hx hb hml hown htg L10_93 (c_X0_addStep l E a6 a7 a8 a9 a10 a11 hz98 _) ⟨⟨rfl, rfl⟩, Nat.le_of_ble_eq_true rfl, Nat.le_of_ble_eq_true rfl⟩ hK hG hA hP hD hS (is := [6, 7, 8, 9, 10, 11]) (sel := [none, none, none, none, none, none, some 0, some 1, some 2, some 3, some 4, some 5]) (ws2 := [(a0, o10 z83.2.1 u0_0), (a1, o8 z83.2.2.1 z83.2.2.2 a2 a3), (a2, ab E 900 V2), (a3, al E 23 V3), (a4, o3 T4 u4_7 u4_8 a5 u4_10 u4_11 u4_12 u4_13 u4_14), (a5, al E 5 V5), (a6, o0 z98.2.1 a7 a8 a9 a10 a11), (a7, ai E 60 z98.2.2.1), (a8, ai E 60 z98.2.2.2.1), (a9, ai E 60 z98.2.2.2.2.1), (a10, ai E 60 z98.2.2.2.2.2.1), (a11, ai E 60 z98.2.2.2.2.2.2)]) rfl rfl rfl rfl rfl (xrecv hK hP (q0 := 6) (ci := 0) rfl rfl) rfl hl.1 rfl (Nat.le_of_ble_eq_true rfl) dX10_takeTest_98 (fun H locs hP hD hS => ?_)
        refine lv_if_eq (tgt := 108) hx hb dX10_takeTest_101 (by decide) (fun c101 => ?_) (fun c101 => ?_)
        · have hf := it_t c101 hf
          refine lv_iconst (v := 0) hx hb dX10_takeTest_108 rfl ?_
          exact ret (0, z83.2.1, z83.2.2.1, z83.2.2.2, z98.2.1, z98.2.2.1, z98.2.2.2.1, z98.2.2.2.2.1, z98.2.2.2.2.2.1, z98.2.2.2.2.2.2) hf nz0 hP hS dX10_takeTest_109
        · have hf := it_f c101 hf
          refine lv_iconst (v := 1) hx hb dX10_takeTest_104 rfl ?_
          refine lv_goto (tgt := 109) hx hb dX10_takeTest_105 (by decide) ?_
          exact ret (1, z83.2.1, z83.2.2.1, z83.2.2.2, z98.2.1, z98.2.2.1, z98.2.2.2.1, z98.2.2.2.2.1, z98.2.2.2.2.2.1, z98.2.2.2.2.2.2) hf nz1 hP hS dX10_takeTest_109
    have hf := it_f c45_5 hf
    by_cases c45_17 : x4 = 17
    · have hf := it_t c45_17 hf
      refine xlkI (off := 95) (tgt := 140) hx hb c45_17 dX10_takeTest_45 rfl (by decide) ?_
      refine lv_aload_n hx hb dX10_takeTest_140 rfl (lv_at hl 0 rfl) ?_
      refine lv_aload_n hx hb dX10_takeTest_141 rfl (lv_at hl 1 rfl) ?_
      refine lv_aload_n hx hb dX10_takeTest_142 rfl (lv_at hl 2 rfl) ?_
      obtain ⟨z143, hz143, hf⟩ := bind_s hf
      refine xV_iu hx hb hml hown htg L10_97 (c_X10_takeCell l E a0 a1 a4 a2 a3 hz143 _) ⟨⟨rfl, rfl⟩, Nat.le_of_ble_eq_true rfl, Nat.le_of_ble_eq_true rfl⟩ hK hG hA hP hD hS (is := [0, 1, 4, 2, 3]) (sel := [some 0, some 1, some 3, some 4, some 2, none, none, none, none, none, none, none]) (ws2 := [(a0, o10 z143.2.1 u0_0), (a1, o8 z143.2.2.1 z143.2.2.2 a2 a3), (a2, ab E 900 V2), (a3, al E 23 V3), (a4, o3 T4 u4_7 u4_8 a5 u4_10 u4_11 u4_12 u4_13 u4_14), (a5, al E 5 V5), (a6, o0 T6 a7 a8 a9 a10 a11), (a7, ai E 60 V7), (a8, ai E 60 V8), (a9, ai E 60 V9), (a10, ai E 60 V10), (a11, ai E 60 V11)]) rfl rfl rfl rfl rfl (xrecv hK hP (q0 := 0) (ci := 10) rfl rfl) rfl hl.1 rfl (Nat.le_of_ble_eq_true rfl) dX10_takeTest_143 (fun H locs hP hD hS => ?_)
      refine lv_if_eq (tgt := 179) hx hb dX10_takeTest_146 (by decide) (fun c146 => ?_) (fun c146 => ?_)
      · have hf := it_t c146 hf
        refine lv_iconst (v := 0) hx hb dX10_takeTest_179 rfl ?_
        exact ret (0, z143.2.1, z143.2.2.1, z143.2.2.2, T6, V7, V8, V9, V10, V11) hf nz0 hP hS dX10_takeTest_180
      · have hf := it_f c146 hf
        refine lv_aload_n hx hb dX10_takeTest_149 rfl (lv_at hl 0 rfl) ?_
        refine lv_aload_n hx hb dX10_takeTest_150 rfl (lv_at hl 1 rfl) ?_
        obtain ⟨z151, hz151, hf⟩ := bind_s hf
        refine xV_iu hx hb hml hown htg L10_100 (c_X10_takeFeeling l E a0 a1 a2 a3 hz151 _) ⟨⟨rfl, rfl⟩, Nat.le_of_ble_eq_true rfl, Nat.le_of_ble_eq_true rfl⟩ hK hG hA hP hD hS (is := [0, 1, 2, 3]) (sel := [some 0, some 1, some 2, some 3, none, none, none, none, none, none, none, none]) (ws2 := [(a0, o10 z151.2.1 u0_0), (a1, o8 z151.2.2.1 z151.2.2.2 a2 a3), (a2, ab E 900 V2), (a3, al E 23 V3), (a4, o3 T4 u4_7 u4_8 a5 u4_10 u4_11 u4_12 u4_13 u4_14), (a5, al E 5 V5), (a6, o0 T6 a7 a8 a9 a10 a11), (a7, ai E 60 V7), (a8, ai E 60 V8), (a9, ai E 60 V9), (a10, ai E 60 V10), (a11, ai E 60 V11)]) rfl rfl rfl rfl rfl (xrecv hK hP (q0 := 0) (ci := 10) rfl rfl) rfl hl.1 rfl (Nat.le_of_ble_eq_true rfl) dX10_takeTest_151 (fun H locs hP hD hS => ?_)
        refine lv_if_eq (tgt := 179) hx hb dX10_takeTest_154 (by decide) (fun c154 => ?_) (fun c154 => ?_)
        · have hf := it_t c154 hf
          refine lv_iconst (v := 0) hx hb dX10_takeTest_179 rfl ?_
          exact ret (0, z151.2.1, z151.2.2.1, z151.2.2.2, T6, V7, V8, V9, V10, V11) hf nz0 hP hS dX10_takeTest_180
        · have hf := it_f c154 hf
          refine lv_aload_n hx hb dX10_takeTest_157 rfl (lv_at hl 3 rfl) ?_
          refine lv_iload hx hb dX10_takeTest_158 (lv_at hl 4 rfl) ?_
          refine lv_aload_n hx hb dX10_takeTest_160 rfl (lv_at hl 0 rfl) ?_
          refine G10_104 hx hb htg hown hK hP 0 rfl dX10_takeTest_161 ?_
          refine lv_aload_n hx hb dX10_takeTest_164 rfl (lv_at hl 0 rfl) ?_
          refine G10_107 hx hb htg hown hK hP 0 rfl dX10_takeTest_165 ?_
          refine lv_iconst (v := 0) hx hb dX10_takeTest_168 rfl ?_
          obtain ⟨z169, hz169, hf⟩ := bind_s hf
          refine xV_iu hx hb hml hown htg L10_93 (c_X0_addStep l E a6 a7 a8 a9 a10 a11 hz169 _) ⟨⟨rfl, rfl⟩, Nat.le_of_ble_eq_true rfl, Nat.le_of_ble_eq_true rfl⟩ hK hG hA hP hD hS (is := [6, 7, 8, 9, 10, 11]) (sel := [none, none, none, none, none, none, some 0, some 1, some 2, some 3, some 4, some 5]) (ws2 := [(a0, o10 z151.2.1 u0_0), (a1, o8 z151.2.2.1 z151.2.2.2 a2 a3), (a2, ab E 900 V2), (a3, al E 23 V3), (a4, o3 T4 u4_7 u4_8 a5 u4_10 u4_11 u4_12 u4_13 u4_14), (a5, al E 5 V5), (a6, o0 z169.2.1 a7 a8 a9 a10 a11), (a7, ai E 60 z169.2.2.1), (a8, ai E 60 z169.2.2.2.1), (a9, ai E 60 z169.2.2.2.2.1), (a10, ai E 60 z169.2.2.2.2.2.1), (a11, ai E 60 z169.2.2.2.2.2.2)]) rfl rfl rfl rfl rfl (xrecv hK hP (q0 := 6) (ci := 0) rfl rfl) rfl hl.1 rfl (Nat.le_of_ble_eq_true rfl) dX10_takeTest_169 (fun H locs hP hD hS => ?_)
          refine lv_if_eq (tgt := 179) hx hb dX10_takeTest_172 (by decide) (fun c172 => ?_) (fun c172 => ?_)
          · have hf := it_t c172 hf
            refine lv_iconst (v := 0) hx hb dX10_takeTest_179 rfl ?_
            exact ret (0, z151.2.1, z151.2.2.1, z151.2.2.2, z169.2.1, z169.2.2.1, z169.2.2.2.1, z169.2.2.2.2.1, z169.2.2.2.2.2.1, z169.2.2.2.2.2.2) hf nz0 hP hS dX10_takeTest_180
          · have hf := it_f c172 hf
            refine lv_iconst (v := 1) hx hb dX10_takeTest_175 rfl ?_
            refine lv_goto (tgt := 180) hx hb dX10_takeTest_176 (by decide) ?_
            exact ret (1, z151.2.1, z151.2.2.1, z151.2.2.2, z169.2.1, z169.2.2.1, z169.2.2.2.1, z169.2.2.2.2.1, z169.2.2.2.2.2.1, z169.2.2.2.2.2.2) hf nz1 hP hS dX10_takeTest_180
    have hf := it_f c45_17 hf
    by_cases c45_18 : x4 = 18
    · have hf := it_t c45_18 hf
      refine xlkI (off := 65) (tgt := 110) hx hb c45_18 dX10_takeTest_45 rfl (by decide) ?_
      refine lv_aload_n hx hb dX10_takeTest_110 rfl (lv_at hl 0 rfl) ?_
      refine lv_aload_n hx hb dX10_takeTest_111 rfl (lv_at hl 1 rfl) ?_
      refine lv_aload_n hx hb dX10_takeTest_112 rfl (lv_at hl 2 rfl) ?_
      obtain ⟨z113, hz113, hf⟩ := bind_s hf
      refine xV_iu hx hb hml hown htg L10_97 (c_X10_takeCell l E a0 a1 a4 a2 a3 hz113 _) ⟨⟨rfl, rfl⟩, Nat.le_of_ble_eq_true rfl, Nat.le_of_ble_eq_true rfl⟩ hK hG hA hP hD hS (is := [0, 1, 4, 2, 3]) (sel := [some 0, some 1, some 3, some 4, some 2, none, none, none, none, none, none, none]) (ws2 := [(a0, o10 z113.2.1 u0_0), (a1, o8 z113.2.2.1 z113.2.2.2 a2 a3), (a2, ab E 900 V2), (a3, al E 23 V3), (a4, o3 T4 u4_7 u4_8 a5 u4_10 u4_11 u4_12 u4_13 u4_14), (a5, al E 5 V5), (a6, o0 T6 a7 a8 a9 a10 a11), (a7, ai E 60 V7), (a8, ai E 60 V8), (a9, ai E 60 V9), (a10, ai E 60 V10), (a11, ai E 60 V11)]) rfl rfl rfl rfl rfl (xrecv hK hP (q0 := 0) (ci := 10) rfl rfl) rfl hl.1 rfl (Nat.le_of_ble_eq_true rfl) dX10_takeTest_113 (fun H locs hP hD hS => ?_)
      refine lv_if_eq (tgt := 138) hx hb dX10_takeTest_116 (by decide) (fun c116 => ?_) (fun c116 => ?_)
      · have hf := it_t c116 hf
        refine lv_iconst (v := 0) hx hb dX10_takeTest_138 rfl ?_
        exact ret (0, z113.2.1, z113.2.2.1, z113.2.2.2, T6, V7, V8, V9, V10, V11) hf nz0 hP hS dX10_takeTest_139
      · have hf := it_f c116 hf
        refine lv_aload_n hx hb dX10_takeTest_119 rfl (lv_at hl 3 rfl) ?_
        refine lv_iload hx hb dX10_takeTest_120 (lv_at hl 4 rfl) ?_
        refine lv_aload_n hx hb dX10_takeTest_122 rfl (lv_at hl 0 rfl) ?_
        refine G10_104 hx hb htg hown hK hP 0 rfl dX10_takeTest_123 ?_
        refine lv_iconst (v := 0) hx hb dX10_takeTest_126 rfl ?_
        refine lv_iconst (v := 0) hx hb dX10_takeTest_127 rfl ?_
        obtain ⟨z128, hz128, hf⟩ := bind_s hf
        refine xV_iu hx hb hml hown htg L10_93 (c_X0_addStep l E a6 a7 a8 a9 a10 a11 hz128 _) ⟨⟨rfl, rfl⟩, Nat.le_of_ble_eq_true rfl, Nat.le_of_ble_eq_true rfl⟩ hK hG hA hP hD hS (is := [6, 7, 8, 9, 10, 11]) (sel := [none, none, none, none, none, none, some 0, some 1, some 2, some 3, some 4, some 5]) (ws2 := [(a0, o10 z113.2.1 u0_0), (a1, o8 z113.2.2.1 z113.2.2.2 a2 a3), (a2, ab E 900 V2), (a3, al E 23 V3), (a4, o3 T4 u4_7 u4_8 a5 u4_10 u4_11 u4_12 u4_13 u4_14), (a5, al E 5 V5), (a6, o0 z128.2.1 a7 a8 a9 a10 a11), (a7, ai E 60 z128.2.2.1), (a8, ai E 60 z128.2.2.2.1), (a9, ai E 60 z128.2.2.2.2.1), (a10, ai E 60 z128.2.2.2.2.2.1), (a11, ai E 60 z128.2.2.2.2.2.2)]) rfl rfl rfl rfl rfl (xrecv hK hP (q0 := 6) (ci := 0) rfl rfl) rfl hl.1 rfl (Nat.le_of_ble_eq_true rfl) dX10_takeTest_128 (fun H locs hP hD hS => ?_)
        refine lv_if_eq (tgt := 138) hx hb dX10_takeTest_131 (by decide) (fun c131 => ?_) (fun c131 => ?_)
        · have hf := it_t c131 hf
          refine lv_iconst (v := 0) hx hb dX10_takeTest_138 rfl ?_
          exact ret (0, z113.2.1, z113.2.2.1, z113.2.2.2, z128.2.1, z128.2.2.1, z128.2.2.2.1, z128.2.2.2.2.1, z128.2.2.2.2.2.1, z128.2.2.2.2.2.2) hf nz0 hP hS dX10_takeTest_139
        · have hf := it_f c131 hf
          refine lv_iconst (v := 1) hx hb dX10_takeTest_134 rfl ?_
          refine lv_goto (tgt := 139) hx hb dX10_takeTest_135 (by decide) ?_
          exact ret (1, z113.2.1, z113.2.2.1, z113.2.2.2, z128.2.1, z128.2.2.1, z128.2.2.2.1, z128.2.2.2.2.1, z128.2.2.2.2.2.1, z128.2.2.2.2.2.2) hf nz1 hP hS dX10_takeTest_139
    have hf := it_f c45_18 hf
    refine xlkD (tgt := 181) (cs := [5, 17, 18]) hx hb (by simp only [List.forall_mem_cons]; exact ⟨c45_5, c45_17, c45_18, fun _ h => absurd h List.not_mem_nil⟩) rfl dX10_takeTest_45 (by decide) ?_
    refine lv_aload_n hx hb dX10_takeTest_181 rfl (lv_at hl 0 rfl) ?_
    refine lv_aload_n hx hb dX10_takeTest_182 rfl (lv_at hl 1 rfl) ?_
    obtain ⟨z183, hz183, hf⟩ := bind_s hf
    refine xV_iu hx hb hml hown htg L10_117 (c_X10_takeComparison l E a0 a1 a2 a3 hz183 _) ⟨⟨rfl, rfl⟩, Nat.le_of_ble_eq_true rfl, Nat.le_of_ble_eq_true rfl⟩ hK hG hA hP hD hS (is := [0, 1, 2, 3]) (sel := [some 0, some 1, some 2, some 3, none, none, none, none, none, none, none, none]) (ws2 := [(a0, o10 z183.2.1 u0_0), (a1, o8 z183.2.2.1 z183.2.2.2 a2 a3), (a2, ab E 900 V2), (a3, al E 23 V3), (a4, o3 T4 u4_7 u4_8 a5 u4_10 u4_11 u4_12 u4_13 u4_14), (a5, al E 5 V5), (a6, o0 T6 a7 a8 a9 a10 a11), (a7, ai E 60 V7), (a8, ai E 60 V8), (a9, ai E 60 V9), (a10, ai E 60 V10), (a11, ai E 60 V11)]) rfl rfl rfl rfl rfl (xrecv hK hP (q0 := 0) (ci := 10) rfl rfl) rfl hl.1 rfl (Nat.le_of_ble_eq_true rfl) dX10_takeTest_183 (fun H locs hP hD hS => ?_)
    refine lv_if_eq (tgt := 222) hx hb dX10_takeTest_186 (by decide) (fun c186 => ?_) (fun c186 => ?_)
    · have hf := it_t c186 hf
      refine lv_iconst (v := 0) hx hb dX10_takeTest_222 rfl ?_
      exact ret (0, z183.2.1, z183.2.2.1, z183.2.2.2, T6, V7, V8, V9, V10, V11) hf nz0 hP hS dX10_takeTest_223
    · have hf := it_f c186 hf
      refine lv_aload_n hx hb dX10_takeTest_189 rfl (lv_at hl 0 rfl) ?_
      refine lv_aload_n hx hb dX10_takeTest_190 rfl (lv_at hl 1 rfl) ?_
      refine lv_iconst (v := 0) hx hb dX10_takeTest_191 rfl ?_
      refine lv_bipush (v := 36) hx hb dX10_takeTest_192 rfl ?_
      obtain ⟨z194, hz194, hf⟩ := bind_s hf
      refine xV_iu hx hb hml hown htg L10_110 (c_X10_takeNumber l E a0 a1 a2 a3 hz194 _) ⟨⟨rfl, rfl⟩, Nat.le_of_ble_eq_true rfl, Nat.le_of_ble_eq_true rfl⟩ hK hG hA hP hD hS (is := [0, 1, 2, 3]) (sel := [some 0, some 1, some 2, some 3, none, none, none, none, none, none, none, none]) (ws2 := [(a0, o10 z194.2.1 u0_0), (a1, o8 z194.2.2.1 z194.2.2.2 a2 a3), (a2, ab E 900 V2), (a3, al E 23 V3), (a4, o3 T4 u4_7 u4_8 a5 u4_10 u4_11 u4_12 u4_13 u4_14), (a5, al E 5 V5), (a6, o0 T6 a7 a8 a9 a10 a11), (a7, ai E 60 V7), (a8, ai E 60 V8), (a9, ai E 60 V9), (a10, ai E 60 V10), (a11, ai E 60 V11)]) rfl rfl rfl rfl rfl (xrecv hK hP (q0 := 0) (ci := 10) rfl rfl) rfl hl.1 rfl (Nat.le_of_ble_eq_true rfl) dX10_takeTest_194 (fun H locs hP hD hS => ?_)
      refine lv_if_eq (tgt := 222) hx hb dX10_takeTest_197 (by decide) (fun c197 => ?_) (fun c197 => ?_)
      · have hf := it_t c197 hf
        refine lv_iconst (v := 0) hx hb dX10_takeTest_222 rfl ?_
        exact ret (0, z194.2.1, z194.2.2.1, z194.2.2.2, T6, V7, V8, V9, V10, V11) hf nz0 hP hS dX10_takeTest_223
      · have hf := it_f c197 hf
        refine lv_aload_n hx hb dX10_takeTest_200 rfl (lv_at hl 3 rfl) ?_
        refine lv_iload hx hb dX10_takeTest_201 (lv_at hl 4 rfl) ?_
        refine lv_aload_n hx hb dX10_takeTest_203 rfl (lv_at hl 0 rfl) ?_
        refine G10_120 hx hb htg hown hK hP 0 rfl dX10_takeTest_204 ?_
        refine lv_aload_n hx hb dX10_takeTest_207 rfl (lv_at hl 0 rfl) ?_
        refine G10_114 hx hb htg hown hK hP 0 rfl dX10_takeTest_208 ?_
        refine lv_iconst (v := 0) hx hb dX10_takeTest_211 rfl ?_
        obtain ⟨z212, hz212, hf⟩ := bind_s hf
        refine xV_iu hx hb hml hown htg L10_93 (c_X0_addStep l E a6 a7 a8 a9 a10 a11 hz212 _) ⟨⟨rfl, rfl⟩, Nat.le_of_ble_eq_true rfl, Nat.le_of_ble_eq_true rfl⟩ hK hG hA hP hD hS (is := [6, 7, 8, 9, 10, 11]) (sel := [none, none, none, none, none, none, some 0, some 1, some 2, some 3, some 4, some 5]) (ws2 := [(a0, o10 z194.2.1 u0_0), (a1, o8 z194.2.2.1 z194.2.2.2 a2 a3), (a2, ab E 900 V2), (a3, al E 23 V3), (a4, o3 T4 u4_7 u4_8 a5 u4_10 u4_11 u4_12 u4_13 u4_14), (a5, al E 5 V5), (a6, o0 z212.2.1 a7 a8 a9 a10 a11), (a7, ai E 60 z212.2.2.1), (a8, ai E 60 z212.2.2.2.1), (a9, ai E 60 z212.2.2.2.2.1), (a10, ai E 60 z212.2.2.2.2.2.1), (a11, ai E 60 z212.2.2.2.2.2.2)]) rfl rfl rfl rfl rfl (xrecv hK hP (q0 := 6) (ci := 0) rfl rfl) rfl hl.1 rfl (Nat.le_of_ble_eq_true rfl) dX10_takeTest_212 (fun H locs hP hD hS => ?_)
        refine lv_if_eq (tgt := 222) hx hb dX10_takeTest_215 (by decide) (fun c215 => ?_) (fun c215 => ?_)
        · have hf := it_t c215 hf
          refine lv_iconst (v := 0) hx hb dX10_takeTest_222 rfl ?_
          exact ret (0, z194.2.1, z194.2.2.1, z194.2.2.2, z212.2.1, z212.2.2.1, z212.2.2.2.1, z212.2.2.2.2.1, z212.2.2.2.2.2.1, z212.2.2.2.2.2.2) hf nz0 hP hS dX10_takeTest_223
        · have hf := it_f c215 hf
          refine lv_iconst (v := 1) hx hb dX10_takeTest_218 rfl ?_
          refine lv_goto (tgt := 223) hx hb dX10_takeTest_219 (by decide) ?_
          exact ret (1, z194.2.1, z194.2.2.1, z194.2.2.2, z212.2.1, z212.2.2.1, z212.2.2.2.1, z212.2.2.2.2.1, z212.2.2.2.2.2.1, z212.2.2.2.2.2.2) hf nz1 hP hS dX10_takeTest_223
  unfold f_X10_takeTest at hf
  refine lv_aload_n hx hb dX10_takeTest_0 rfl (lv_at hl 1 rfl) ?_
  obtain ⟨z1, hz1, hf⟩ := bind_s hf
  refine xV_ir hx hb hml hown htg L10_62 (c_X8_word l E a1 hz1 _) ⟨⟨rfl, rfl⟩, Nat.le_of_ble_eq_true rfl, Nat.le_of_ble_eq_true rfl⟩ hK hG hA hP hD hS (is := [1]) rfl rfl (xrecv hK hP (q0 := 1) (ci := 8) rfl rfl) rfl hl.1 rfl (Nat.le_of_ble_eq_true rfl) dX10_takeTest_1 (fun H locs hP hD hS => ?_)
  refine lv_istore (lv' := [(4, .int z1), (0, .ref a0), (1, .ref a1), (2, .ref a4), (3, .ref a6)]) hx hb dX10_takeTest_4 hl (by decide) rfl (fun ls hl => ?_)
  refine lv_iload hx hb dX10_takeTest_6 (lv_at hl 0 rfl) ?_
  refine lv_iconst (v := 5) hx hb dX10_takeTest_8 rfl ?_
  refine lv_icmp_eq (tgt := 39) hx hb dX10_takeTest_9 (by decide) (fun c9 => ?_) (fun c9 => ?_)
  · have hf := it_t c9 hf
    exact b39 z1 T0 T1 J1_8 T6 V7 V8 V9 V10 V11 _ _ _ hf hP hD hS (lv_sub hl [1, 2, 3, 4, 0] rfl)
  · have hf := it_f c9 hf
    refine lv_iload hx hb dX10_takeTest_12 (lv_at hl 0 rfl) ?_
    refine lv_bipush (v := 18) hx hb dX10_takeTest_14 rfl ?_
    refine lv_icmp_eq (tgt := 39) hx hb dX10_takeTest_16 (by decide) (fun c16 => ?_) (fun c16 => ?_)
    · have hf := it_t c16 hf
      exact b39 z1 T0 T1 J1_8 T6 V7 V8 V9 V10 V11 _ _ _ hf hP hD hS (lv_sub hl [1, 2, 3, 4, 0] rfl)
    · have hf := it_f c16 hf
      refine lv_iload hx hb dX10_takeTest_19 (lv_at hl 0 rfl) ?_
      refine lv_bipush (v := 17) hx hb dX10_takeTest_21 rfl ?_
      refine lv_icmp_eq (tgt := 39) hx hb dX10_takeTest_23 (by decide) (fun c23 => ?_) (fun c23 => ?_)
      · have hf := it_t c23 hf
        exact b39 z1 T0 T1 J1_8 T6 V7 V8 V9 V10 V11 _ _ _ hf hP hD hS (lv_sub hl [1, 2, 3, 4, 0] rfl)
      · have hf := it_f c23 hf
        refine lv_iload hx hb dX10_takeTest_26 (lv_at hl 0 rfl) ?_
        refine lv_bipush (v := 19) hx hb dX10_takeTest_28 rfl ?_
        refine lv_icmp_eq (tgt := 39) hx hb dX10_takeTest_30 (by decide) (fun c30 => ?_) (fun c30 => ?_)
        · have hf := it_t c30 hf
          exact b39 z1 T0 T1 J1_8 T6 V7 V8 V9 V10 V11 _ _ _ hf hP hD hS (lv_sub hl [1, 2, 3, 4, 0] rfl)
        · have hf := it_f c30 hf
          refine lv_aload_n hx hb dX10_takeTest_33 rfl (lv_at hl 2 rfl) ?_
          refine lv_iconst (v := 2) hx hb dX10_takeTest_34 rfl ?_
          obtain ⟨z35, hz35, hf⟩ := bind_s hf
          refine xV_iu hx hb hml hown htg L10_46 (c_X8_blame l E a1 hz35 _) ⟨⟨rfl, rfl⟩, Nat.le_of_ble_eq_true rfl, Nat.le_of_ble_eq_true rfl⟩ hK hG hA hP hD hS (is := [1]) (sel := [none, some 0, none, none, none, none, none, none, none, none, none, none]) (ws2 := [(a0, o10 T0 u0_0), (a1, o8 z35.2 J1_8 a2 a3), (a2, ab E 900 V2), (a3, al E 23 V3), (a4, o3 T4 u4_7 u4_8 a5 u4_10 u4_11 u4_12 u4_13 u4_14), (a5, al E 5 V5), (a6, o0 T6 a7 a8 a9 a10 a11), (a7, ai E 60 V7), (a8, ai E 60 V8), (a9, ai E 60 V9), (a10, ai E 60 V10), (a11, ai E 60 V11)]) rfl rfl rfl rfl rfl (xrecv hK hP (q0 := 1) (ci := 8) rfl rfl) rfl hl.1 rfl (Nat.le_of_ble_eq_true rfl) dX10_takeTest_35 (fun H locs hP hD hS => ?_)
          obtain ⟨g38, hf⟩ := ck_s hf
          exact ret (z35.1, T0, z35.2, J1_8, T6, V7, V8, V9, V10, V11) hf (bz_n g38).1 hP hS dX10_takeTest_38
theorem dX10_takeRest_0 : decode cX10_takeRest 0 = .ok (.iload_n 2, 1) := by decide +kernel
theorem dX10_takeRest_1 : decode cX10_takeRest 1 = .ok (.tableswitch 220 6 20 #[105, 220, 220, 220, 220, 220, 75, 75, 158, 220, 220, 220, 220, 220, 188], 75) := by decide +kernel
theorem dX10_takeRest_76 : decode cX10_takeRest 76 = .ok (.aload_n 0, 1) := by decide +kernel
theorem dX10_takeRest_77 : decode cX10_takeRest 77 = .ok (.aload_n 1, 1) := by decide +kernel
theorem dX10_takeRest_78 : decode cX10_takeRest 78 = .ok (.aload_n 3, 1) := by decide +kernel
theorem dX10_takeRest_79 : decode cX10_takeRest 79 = .ok (.invokevirtual 86, 3) := by decide +kernel
theorem dX10_takeRest_82 : decode cX10_takeRest 82 = .ok (.ifCond .eq 22, 3) := by decide +kernel
theorem dX10_takeRest_85 : decode cX10_takeRest 85 = .ok (.aload 4, 2) := by decide +kernel
theorem dX10_takeRest_87 : decode cX10_takeRest 87 = .ok (.iload_n 2, 1) := by decide +kernel
theorem dX10_takeRest_88 : decode cX10_takeRest 88 = .ok (.aload_n 0, 1) := by decide +kernel
theorem dX10_takeRest_89 : decode cX10_takeRest 89 = .ok (.getfield 90, 3) := by decide +kernel
theorem dX10_takeRest_92 : decode cX10_takeRest 92 = .ok (.iconst 0, 1) := by decide +kernel
theorem dX10_takeRest_93 : decode cX10_takeRest 93 = .ok (.iconst 0, 1) := by decide +kernel
theorem dX10_takeRest_94 : decode cX10_takeRest 94 = .ok (.invokevirtual 93, 3) := by decide +kernel
theorem dX10_takeRest_97 : decode cX10_takeRest 97 = .ok (.ifCond .eq 7, 3) := by decide +kernel
theorem dX10_takeRest_100 : decode cX10_takeRest 100 = .ok (.iconst 1, 1) := by decide +kernel
theorem dX10_takeRest_101 : decode cX10_takeRest 101 = .ok (.goto 4, 3) := by decide +kernel
theorem dX10_takeRest_104 : decode cX10_takeRest 104 = .ok (.iconst 0, 1) := by decide +kernel
theorem dX10_takeRest_105 : decode cX10_takeRest 105 = .ok (.ireturn, 1) := by decide +kernel
theorem dX10_takeRest_106 : decode cX10_takeRest 106 = .ok (.aload_n 0, 1) := by decide +kernel
theorem dX10_takeRest_107 : decode cX10_takeRest 107 = .ok (.aload_n 1, 1) := by decide +kernel
theorem dX10_takeRest_108 : decode cX10_takeRest 108 = .ok (.aload_n 3, 1) := by decide +kernel
theorem dX10_takeRest_109 : decode cX10_takeRest 109 = .ok (.invokevirtual 86, 3) := by decide +kernel
theorem dX10_takeRest_112 : decode cX10_takeRest 112 = .ok (.ifCond .eq 45, 3) := by decide +kernel
theorem dX10_takeRest_115 : decode cX10_takeRest 115 = .ok (.aload_n 0, 1) := by decide +kernel
theorem dX10_takeRest_116 : decode cX10_takeRest 116 = .ok (.aload_n 1, 1) := by decide +kernel
theorem dX10_takeRest_117 : decode cX10_takeRest 117 = .ok (.aload_n 3, 1) := by decide +kernel
theorem dX10_takeRest_118 : decode cX10_takeRest 118 = .ok (.invokevirtual 97, 3) := by decide +kernel
theorem dX10_takeRest_121 : decode cX10_takeRest 121 = .ok (.ifCond .eq 36, 3) := by decide +kernel
theorem dX10_takeRest_124 : decode cX10_takeRest 124 = .ok (.aload_n 0, 1) := by decide +kernel
theorem dX10_takeRest_125 : decode cX10_takeRest 125 = .ok (.aload_n 1, 1) := by decide +kernel
theorem dX10_takeRest_126 : decode cX10_takeRest 126 = .ok (.invokevirtual 100, 3) := by decide +kernel
theorem dX10_takeRest_129 : decode cX10_takeRest 129 = .ok (.ifCond .eq 28, 3) := by decide +kernel
theorem dX10_takeRest_132 : decode cX10_takeRest 132 = .ok (.aload 4, 2) := by decide +kernel
theorem dX10_takeRest_134 : decode cX10_takeRest 134 = .ok (.iload_n 2, 1) := by decide +kernel
theorem dX10_takeRest_135 : decode cX10_takeRest 135 = .ok (.aload_n 0, 1) := by decide +kernel
theorem dX10_takeRest_136 : decode cX10_takeRest 136 = .ok (.getfield 90, 3) := by decide +kernel
theorem dX10_takeRest_139 : decode cX10_takeRest 139 = .ok (.aload_n 0, 1) := by decide +kernel
theorem dX10_takeRest_140 : decode cX10_takeRest 140 = .ok (.getfield 104, 3) := by decide +kernel
theorem dX10_takeRest_143 : decode cX10_takeRest 143 = .ok (.aload_n 0, 1) := by decide +kernel
theorem dX10_takeRest_144 : decode cX10_takeRest 144 = .ok (.getfield 107, 3) := by decide +kernel
theorem dX10_takeRest_147 : decode cX10_takeRest 147 = .ok (.invokevirtual 93, 3) := by decide +kernel
theorem dX10_takeRest_150 : decode cX10_takeRest 150 = .ok (.ifCond .eq 7, 3) := by decide +kernel
theorem dX10_takeRest_153 : decode cX10_takeRest 153 = .ok (.iconst 1, 1) := by decide +kernel
theorem dX10_takeRest_154 : decode cX10_takeRest 154 = .ok (.goto 4, 3) := by decide +kernel
theorem dX10_takeRest_157 : decode cX10_takeRest 157 = .ok (.iconst 0, 1) := by decide +kernel
theorem dX10_takeRest_158 : decode cX10_takeRest 158 = .ok (.ireturn, 1) := by decide +kernel
theorem dX10_takeRest_159 : decode cX10_takeRest 159 = .ok (.aload_n 0, 1) := by decide +kernel
theorem dX10_takeRest_160 : decode cX10_takeRest 160 = .ok (.aload_n 1, 1) := by decide +kernel
theorem dX10_takeRest_161 : decode cX10_takeRest 161 = .ok (.aload_n 3, 1) := by decide +kernel
theorem dX10_takeRest_162 : decode cX10_takeRest 162 = .ok (.invokevirtual 97, 3) := by decide +kernel
theorem dX10_takeRest_165 : decode cX10_takeRest 165 = .ok (.ifCond .eq 22, 3) := by decide +kernel
theorem dX10_takeRest_168 : decode cX10_takeRest 168 = .ok (.aload 4, 2) := by decide +kernel
theorem dX10_takeRest_170 : decode cX10_takeRest 170 = .ok (.iload_n 2, 1) := by decide +kernel
theorem dX10_takeRest_171 : decode cX10_takeRest 171 = .ok (.aload_n 0, 1) := by decide +kernel
theorem dX10_takeRest_172 : decode cX10_takeRest 172 = .ok (.getfield 104, 3) := by decide +kernel
theorem dX10_takeRest_175 : decode cX10_takeRest 175 = .ok (.iconst 0, 1) := by decide +kernel
theorem dX10_takeRest_176 : decode cX10_takeRest 176 = .ok (.iconst 0, 1) := by decide +kernel
theorem dX10_takeRest_177 : decode cX10_takeRest 177 = .ok (.invokevirtual 93, 3) := by decide +kernel
theorem dX10_takeRest_180 : decode cX10_takeRest 180 = .ok (.ifCond .eq 7, 3) := by decide +kernel
theorem dX10_takeRest_183 : decode cX10_takeRest 183 = .ok (.iconst 1, 1) := by decide +kernel
theorem dX10_takeRest_184 : decode cX10_takeRest 184 = .ok (.goto 4, 3) := by decide +kernel
theorem dX10_takeRest_187 : decode cX10_takeRest 187 = .ok (.iconst 0, 1) := by decide +kernel
theorem dX10_takeRest_188 : decode cX10_takeRest 188 = .ok (.ireturn, 1) := by decide +kernel
theorem dX10_takeRest_189 : decode cX10_takeRest 189 = .ok (.aload_n 0, 1) := by decide +kernel
theorem dX10_takeRest_190 : decode cX10_takeRest 190 = .ok (.aload_n 1, 1) := by decide +kernel
theorem dX10_takeRest_191 : decode cX10_takeRest 191 = .ok (.iconst 1, 1) := by decide +kernel
theorem dX10_takeRest_192 : decode cX10_takeRest 192 = .ok (.bipush 99, 2) := by decide +kernel
theorem dX10_takeRest_194 : decode cX10_takeRest 194 = .ok (.invokevirtual 110, 3) := by decide +kernel
theorem dX10_takeRest_197 : decode cX10_takeRest 197 = .ok (.ifCond .eq 22, 3) := by decide +kernel
theorem dX10_takeRest_200 : decode cX10_takeRest 200 = .ok (.aload 4, 2) := by decide +kernel
theorem dX10_takeRest_202 : decode cX10_takeRest 202 = .ok (.iload_n 2, 1) := by decide +kernel
theorem dX10_takeRest_203 : decode cX10_takeRest 203 = .ok (.aload_n 0, 1) := by decide +kernel
theorem dX10_takeRest_204 : decode cX10_takeRest 204 = .ok (.getfield 114, 3) := by decide +kernel
theorem dX10_takeRest_207 : decode cX10_takeRest 207 = .ok (.iconst 0, 1) := by decide +kernel
theorem dX10_takeRest_208 : decode cX10_takeRest 208 = .ok (.iconst 0, 1) := by decide +kernel
theorem dX10_takeRest_209 : decode cX10_takeRest 209 = .ok (.invokevirtual 93, 3) := by decide +kernel
theorem dX10_takeRest_212 : decode cX10_takeRest 212 = .ok (.ifCond .eq 7, 3) := by decide +kernel
theorem dX10_takeRest_215 : decode cX10_takeRest 215 = .ok (.iconst 1, 1) := by decide +kernel
theorem dX10_takeRest_216 : decode cX10_takeRest 216 = .ok (.goto 4, 3) := by decide +kernel
theorem dX10_takeRest_219 : decode cX10_takeRest 219 = .ok (.iconst 0, 1) := by decide +kernel
theorem dX10_takeRest_220 : decode cX10_takeRest 220 = .ok (.ireturn, 1) := by decide +kernel
theorem dX10_takeRest_221 : decode cX10_takeRest 221 = .ok (.aload 4, 2) := by decide +kernel
theorem dX10_takeRest_223 : decode cX10_takeRest 223 = .ok (.iload_n 2, 1) := by decide +kernel
theorem dX10_takeRest_224 : decode cX10_takeRest 224 = .ok (.iconst 0, 1) := by decide +kernel
theorem dX10_takeRest_225 : decode cX10_takeRest 225 = .ok (.iconst 0, 1) := by decide +kernel
theorem dX10_takeRest_226 : decode cX10_takeRest 226 = .ok (.iconst 0, 1) := by decide +kernel
theorem dX10_takeRest_227 : decode cX10_takeRest 227 = .ok (.invokevirtual 93, 3) := by decide +kernel
theorem dX10_takeRest_230 : decode cX10_takeRest 230 = .ok (.ireturn, 1) := by decide +kernel
set_option maxRecDepth 100000 in
theorem c_X10_takeRest (l : Launch) (E : xE) (a0 a1 a2 a3 a4 a5 a6 a7 a8 a9 a10 a11 : Nat) {T0 : Nat → Int32} {T1 : Nat → Int32} {J1_8 : Int64} {T2 : Nat → Int32} {V3 : Nat → Int64} {V4 : Nat → Int32} {V5 : Nat → Int64} {T6 : Nat → Int32} {V7 : Nat → Int32} {V8 : Nat → Int32} {V9 : Nat → Int32} {V10 : Nat → Int32} {V11 : Nat → Int32} {u0_0 u2_7 u2_8 u2_10 u2_11 u2_12 u2_13 u2_14 : Nat} {x2 : Int32} {z : Int32 × (Nat → Int32) × (Nat → Int32) × Int64 × (Nat → Int32) × (Nat → Int32) × (Nat → Int32) × (Nat → Int32) × (Nat → Int32) × (Nat → Int32)} (hf : f_X10_takeRest T0 T1 J1_8 T2 V3 V4 V5 T6 V7 V8 V9 V10 V11 x2 = some z) (sz : Nat) : Met l yX10_takeRest (Cond.code yX10_takeRest cX10_takeRest 5 (some .boolean) :: gw) ({ frames := 3, cells := 0, slots := 0, locals := 67 }) (xPc E [.ref a0, .ref a1, .int x2, .ref a2, .ref a6] [(a0, o10 T0 u0_0), (a1, o8 T1 J1_8 a4 a5), (a2, o3 T2 u2_7 u2_8 a3 u2_10 u2_11 u2_12 u2_13 u2_14), (a3, al E 5 V3), (a4, ab E 900 V4), (a5, al E 23 V5), (a6, o0 T6 a7 a8 a9 a10 a11), (a7, ai E 60 V7), (a8, ai E 60 V8), (a9, ai E 60 V9), (a10, ai E 60 V10), (a11, ai E 60 V11)] sz) (xQi E z.1 [(a0, o10 T0 u0_0), (a1, o8 T1 J1_8 a4 a5), (a2, o3 T2 u2_7 u2_8 a3 u2_10 u2_11 u2_12 u2_13 u2_14), (a3, al E 5 V3), (a4, ab E 900 V4), (a5, al E 23 V5), (a6, o0 T6 a7 a8 a9 a10 a11), (a7, ai E 60 V7), (a8, ai E 60 V8), (a9, ai E 60 V9), (a10, ai E 60 V10), (a11, ai E 60 V11)] [(a0, o10 z.2.1 u0_0), (a1, o8 z.2.2.1 z.2.2.2.1 a4 a5), (a2, o3 T2 u2_7 u2_8 a3 u2_10 u2_11 u2_12 u2_13 u2_14), (a3, al E 5 V3), (a4, ab E 900 V4), (a5, al E 23 V5), (a6, o0 z.2.2.2.2.1 a7 a8 a9 a10 a11), (a7, ai E 60 z.2.2.2.2.2.1), (a8, ai E 60 z.2.2.2.2.2.2.1), (a9, ai E 60 z.2.2.2.2.2.2.2.1), (a10, ai E 60 z.2.2.2.2.2.2.2.2.1), (a11, ai E 60 z.2.2.2.2.2.2.2.2.2)] sz) 0 0 (va_A [(a0, o10 T0 u0_0), (a1, o8 T1 J1_8 a4 a5), (a2, o3 T2 u2_7 u2_8 a3 u2_10 u2_11 u2_12 u2_13 u2_14), (a3, al E 5 V3), (a4, ab E 900 V4), (a5, al E 23 V5), (a6, o0 T6 a7 a8 a9 a10 a11), (a7, ai E 60 V7), (a8, ai E 60 V8), (a9, ai E 60 V9), (a10, ai E 60 V10), (a11, ai E 60 V11)] sz) := by
  refine xM_i (by decide +kernel) (Nat.le_of_ble_eq_true rfl) ?_
  intro p e s m args below meth c A Q hx hb hml hown htg hK hG hA ret0 H locs ls hP hD hS hl
  have ret : ∀ (z' : Int32 × (Nat → Int32) × (Nat → Int32) × Int64 × (Nat → Int32) × (Nat → Int32) × (Nat → Int32) × (Nat → Int32) × (Nat → Int32) × (Nat → Int32)) {H : Heap} {locs : List Loc} {pc : Nat} {ls : Array Slot}, some z' = some z → narrow .boolean (.int z'.1) = .int z'.1 → va_P E.1 vwCl [(a0, o10 z'.2.1 u0_0), (a1, o8 z'.2.2.1 z'.2.2.2.1 a4 a5), (a2, o3 T2 u2_7 u2_8 a3 u2_10 u2_11 u2_12 u2_13 u2_14), (a3, al E 5 V3), (a4, ab E 900 V4), (a5, al E 23 V5), (a6, o0 z'.2.2.2.2.1 a7 a8 a9 a10 a11), (a7, ai E 60 z'.2.2.2.2.2.1), (a8, ai E 60 z'.2.2.2.2.2.2.1), (a9, ai E 60 z'.2.2.2.2.2.2.2.1), (a10, ai E 60 z'.2.2.2.2.2.2.2.2.1), (a11, ai E 60 z'.2.2.2.2.2.2.2.2.2)] H → va_S A s.heap H locs → decode cX10_takeRest pc = .ok (.ireturn, 1) → W p l e ({ frames := 3, cells := 0, slots := 0, locals := 67 } : Room) s m args below meth c H locs 0 0 Q (F0 m pc ls [.int z'.1]) := by
    intro z' H locs pc ls h
    cases h
    exact ret0
  replace hl : lv_has ls 5 [(0, .ref a0), (1, .ref a1), (2, .int x2), (3, .ref a2), (4, .ref a6)] := hl
  have b76 : ∀ (T0 : Nat → Int32) (T1 : Nat → Int32) (J1_8 : Int64) (T6 : Nat → Int32) (V7 : Nat → Int32) (V8 : Nat → Int32) (V9 : Nat → Int32) (V10 : Nat → Int32) (V11 : Nat → Int32) (H : Heap) (locs : List Loc) (ls : Array Slot), f_X10_takeRest_76 T2 V3 V4 V5 x2 T0 T1 J1_8 T6 V7 V8 V9 V10 V11 = some z → va_P E.1 vwCl [(a0, o10 T0 u0_0), (a1, o8 T1 J1_8 a4 a5), (a2, o3 T2 u2_7 u2_8 a3 u2_10 u2_11 u2_12 u2_13 u2_14), (a3, al E 5 V3), (a4, ab E 900 V4), (a5, al E 23 V5), (a6, o0 T6 a7 a8 a9 a10 a11), (a7, ai E 60 V7), (a8, ai E 60 V8), (a9, ai E 60 V9), (a10, ai E 60 V10), (a11, ai E 60 V11)] H → va_D A [(a0, o10 T0 u0_0), (a1, o8 T1 J1_8 a4 a5), (a2, o3 T2 u2_7 u2_8 a3 u2_10 u2_11 u2_12 u2_13 u2_14), (a3, al E 5 V3), (a4, ab E 900 V4), (a5, al E 23 V5), (a6, o0 T6 a7 a8 a9 a10 a11), (a7, ai E 60 V7), (a8, ai E 60 V8), (a9, ai E 60 V9), (a10, ai E 60 V10), (a11, ai E 60 V11)] → va_S A s.heap H locs → lv_has ls 5 [(0, .ref a0), (1, .ref a1), (2, .int x2), (3, .ref a2), (4, .ref a6)] → W p l e ({ frames := 3, cells := 0, slots := 0, locals := 67 } : Room) s m args below meth c H locs 0 0 Q (F0 m 76 ls []) := by
    intro T0 T1 J1_8 T6 V7 V8 V9 V10 V11 H locs ls hf hP hD hS hl
    unfold f_X10_takeRest_76 at hf
    refine lv_aload_n hx hb dX10_takeRest_76 rfl (lv_at hl 0 rfl) ?_
    refine lv_aload_n hx hb dX10_takeRest_77 rfl (lv_at hl 1 rfl) ?_
    refine lv_aload_n hx hb dX10_takeRest_78 rfl (lv_at hl 3 rfl) ?_
    obtain ⟨z79, hz79, hf⟩ := bind_s hf
    refine xV_iu hx hb hml hown htg L10_86 (c_X10_takeName l E a0 a1 a2 a3 a4 a5 hz79 _) ⟨⟨rfl, rfl⟩, Nat.le_of_ble_eq_true rfl, Nat.le_of_ble_eq_true rfl⟩ hK hG hA hP hD hS (is := [0, 1, 2, 3, 4, 5]) (sel := [some 0, some 1, some 2, some 3, some 4, some 5, none, none, none, none, none, none]) (ws2 := [(a0, o10 z79.2.1 u0_0), (a1, o8 z79.2.2.1 z79.2.2.2 a4 a5), (a2, o3 T2 u2_7 u2_8 a3 u2_10 u2_11 u2_12 u2_13 u2_14), (a3, al E 5 V3), (a4, ab E 900 V4), (a5, al E 23 V5), (a6, o0 T6 a7 a8 a9 a10 a11), (a7, ai E 60 V7), (a8, ai E 60 V8), (a9, ai E 60 V9), (a10, ai E 60 V10), (a11, ai E 60 V11)]) rfl rfl rfl rfl rfl (xrecv hK hP (q0 := 0) (ci := 10) rfl rfl) rfl hl.1 rfl (Nat.le_of_ble_eq_true rfl) dX10_takeRest_79 (fun H locs hP hD hS => ?_)
    refine lv_if_eq (tgt := 104) hx hb dX10_takeRest_82 (by decide) (fun c82 => ?_) (fun c82 => ?_)
    · have hf := it_t c82 hf
      refine lv_iconst (v := 0) hx hb dX10_takeRest_104 rfl ?_
      exact ret (0, z79.2.1, z79.2.2.1, z79.2.2.2, T6, V7, V8, V9, V10, V11) hf nz0 hP hS dX10_takeRest_105
    · have hf := it_f c82 hf
      refine lv_aload hx hb dX10_takeRest_85 (lv_at hl 4 rfl) ?_
      refine lv_iload_n hx hb dX10_takeRest_87 rfl (lv_at hl 2 rfl) ?_
      refine lv_aload_n hx hb dX10_takeRest_88 rfl (lv_at hl 0 rfl) ?_
      refine G10_90 hx hb htg hown hK hP 0 rfl dX10_takeRest_89 ?_
      refine lv_iconst (v := 0) hx hb dX10_takeRest_92 rfl ?_
      refine lv_iconst (v := 0) hx hb dX10_takeRest_93 rfl ?_
      obtain ⟨z94, hz94, hf⟩ := bind_s hf
      refine xV_iu hx hb hml hown htg L10_93 (c_X0_addStep l E a6 a7 a8 a9 a10 a11 hz94 _) ⟨⟨rfl, rfl⟩, Nat.le_of_ble_eq_true rfl, Nat.le_of_ble_eq_true rfl⟩ hK hG hA hP hD hS (is := [6, 7, 8, 9, 10, 11]) (sel := [none, none, none, none, none, none, some 0, some 1, some 2, some 3, some 4, some 5]) (ws2 := [(a0, o10 z79.2.1 u0_0), (a1, o8 z79.2.2.1 z79.2.2.2 a4 a5), (a2, o3 T2 u2_7 u2_8 a3 u2_10 u2_11 u2_12 u2_13 u2_14), (a3, al E 5 V3), (a4, ab E 900 V4), (a5, al E 23 V5), (a6, o0 z94.2.1 a7 a8 a9 a10 a11), (a7, ai E 60 z94.2.2.1), (a8, ai E 60 z94.2.2.2.1), (a9, ai E 60 z94.2.2.2.2.1), (a10, ai E 60 z94.2.2.2.2.2.1), (a11, ai E 60 z94.2.2.2.2.2.2)]) rfl rfl rfl rfl rfl (xrecv hK hP (q0 := 6) (ci := 0) rfl rfl) rfl hl.1 rfl (Nat.le_of_ble_eq_true rfl) dX10_takeRest_94 (fun H locs hP hD hS => ?_)
      refine lv_if_eq (tgt := 104) hx hb dX10_takeRest_97 (by decide) (fun c97 => ?_) (fun c97 => ?_)
      · have hf := it_t c97 hf
        refine lv_iconst (v := 0) hx hb dX10_takeRest_104 rfl ?_
        exact ret (0, z79.2.1, z79.2.2.1, z79.2.2.2, z94.2.1, z94.2.2.1, z94.2.2.2.1, z94.2.2.2.2.1, z94.2.2.2.2.2.1, z94.2.2.2.2.2.2) hf nz0 hP hS dX10_takeRest_105
      · have hf := it_f c97 hf
        refine lv_iconst (v := 1) hx hb dX10_takeRest_100 rfl ?_
        refine lv_goto (tgt := 105) hx hb dX10_takeRest_101 (by decide) ?_
        exact ret (1, z79.2.1, z79.2.2.1, z79.2.2.2, z94.2.1, z94.2.2.1, z94.2.2.2.1, z94.2.2.2.2.1, z94.2.2.2.2.2.1, z94.2.2.2.2.2.2) hf nz1 hP hS dX10_takeRest_105
  have b221 : ∀ (T0 : Nat → Int32) (T1 : Nat → Int32) (J1_8 : Int64) (T6 : Nat → Int32) (V7 : Nat → Int32) (V8 : Nat → Int32) (V9 : Nat → Int32) (V10 : Nat → Int32) (V11 : Nat → Int32) (H : Heap) (locs : List Loc) (ls : Array Slot), f_X10_takeRest_221 T2 V3 V4 V5 x2 T0 T1 J1_8 T6 V7 V8 V9 V10 V11 = some z → va_P E.1 vwCl [(a0, o10 T0 u0_0), (a1, o8 T1 J1_8 a4 a5), (a2, o3 T2 u2_7 u2_8 a3 u2_10 u2_11 u2_12 u2_13 u2_14), (a3, al E 5 V3), (a4, ab E 900 V4), (a5, al E 23 V5), (a6, o0 T6 a7 a8 a9 a10 a11), (a7, ai E 60 V7), (a8, ai E 60 V8), (a9, ai E 60 V9), (a10, ai E 60 V10), (a11, ai E 60 V11)] H → va_D A [(a0, o10 T0 u0_0), (a1, o8 T1 J1_8 a4 a5), (a2, o3 T2 u2_7 u2_8 a3 u2_10 u2_11 u2_12 u2_13 u2_14), (a3, al E 5 V3), (a4, ab E 900 V4), (a5, al E 23 V5), (a6, o0 T6 a7 a8 a9 a10 a11), (a7, ai E 60 V7), (a8, ai E 60 V8), (a9, ai E 60 V9), (a10, ai E 60 V10), (a11, ai E 60 V11)] → va_S A s.heap H locs → lv_has ls 5 [(2, .int x2), (4, .ref a6)] → W p l e ({ frames := 3, cells := 0, slots := 0, locals := 67 } : Room) s m args below meth c H locs 0 0 Q (F0 m 221 ls []) := by
    intro T0 T1 J1_8 T6 V7 V8 V9 V10 V11 H locs ls hf hP hD hS hl
    unfold f_X10_takeRest_221 at hf
    refine lv_aload hx hb dX10_takeRest_221 (lv_at hl 1 rfl) ?_
    refine lv_iload_n hx hb dX10_takeRest_223 rfl (lv_at hl 0 rfl) ?_
    refine lv_iconst (v := 0) hx hb dX10_takeRest_224 rfl ?_
    refine lv_iconst (v := 0) hx hb dX10_takeRest_225 rfl ?_
    refine lv_iconst (v := 0) hx hb dX10_takeRest_226 rfl ?_
    obtain ⟨z227, hz227, hf⟩ := bind_s hf
    refine xV_iu hx hb hml hown htg L10_93 (c_X0_addStep l E a6 a7 a8 a9 a10 a11 hz227 _) ⟨⟨rfl, rfl⟩, Nat.le_of_ble_eq_true rfl, Nat.le_of_ble_eq_true rfl⟩ hK hG hA hP hD hS (is := [6, 7, 8, 9, 10, 11]) (sel := [none, none, none, none, none, none, some 0, some 1, some 2, some 3, some 4, some 5]) (ws2 := [(a0, o10 T0 u0_0), (a1, o8 T1 J1_8 a4 a5), (a2, o3 T2 u2_7 u2_8 a3 u2_10 u2_11 u2_12 u2_13 u2_14), (a3, al E 5 V3), (a4, ab E 900 V4), (a5, al E 23 V5), (a6, o0 z227.2.1 a7 a8 a9 a10 a11), (a7, ai E 60 z227.2.2.1), (a8, ai E 60 z227.2.2.2.1), (a9, ai E 60 z227.2.2.2.2.1), (a10, ai E 60 z227.2.2.2.2.2.1), (a11, ai E 60 z227.2.2.2.2.2.2)]) rfl rfl rfl rfl rfl (xrecv hK hP (q0 := 6) (ci := 0) rfl rfl) rfl hl.1 rfl (Nat.le_of_ble_eq_true rfl) dX10_takeRest_227 (fun H locs hP hD hS => ?_)
    obtain ⟨g230, hf⟩ := ck_s hf
    exact ret (z227.1, T0, T1, J1_8, z227.2.1, z227.2.2.1, z227.2.2.2.1, z227.2.2.2.2.1, z227.2.2.2.2.2.1, z227.2.2.2.2.2.2) hf (bz_n g230).1 hP hS dX10_takeRest_230
  unfold f_X10_takeRest at hf
  refine lv_iload_n hx hb dX10_takeRest_0 rfl (lv_at hl 2 rfl) ?_
  by_cases c1_6 : x2 = 6
  · have hf := it_t c1_6 hf
    refine xtabI (off := 105) (tgt := 106) hx hb c1_6 dX10_takeRest_1 rfl (by decide) ?_
    refine lv_aload_n hx hb dX10_takeRest_106 rfl (lv_at hl 0 rfl) ?_
    refine lv_aload_n hx hb dX10_takeRest_107 rfl (lv_at hl 1 rfl) ?_
    refine lv_aload_n hx hb dX10_takeRest_108 rfl (lv_at hl 3 rfl) ?_
    obtain ⟨z109, hz109, hf⟩ := bind_s hf
    refine xV_iu hx hb hml hown htg L10_86 (c_X10_takeName l E a0 a1 a2 a3 a4 a5 hz109 _) ⟨⟨rfl, rfl⟩, Nat.le_of_ble_eq_true rfl, Nat.le_of_ble_eq_true rfl⟩ hK hG hA hP hD hS (is := [0, 1, 2, 3, 4, 5]) (sel := [some 0, some 1, some 2, some 3, some 4, some 5, none, none, none, none, none, none]) (ws2 := [(a0, o10 z109.2.1 u0_0), (a1, o8 z109.2.2.1 z109.2.2.2 a4 a5), (a2, o3 T2 u2_7 u2_8 a3 u2_10 u2_11 u2_12 u2_13 u2_14), (a3, al E 5 V3), (a4, ab E 900 V4), (a5, al E 23 V5), (a6, o0 T6 a7 a8 a9 a10 a11), (a7, ai E 60 V7), (a8, ai E 60 V8), (a9, ai E 60 V9), (a10, ai E 60 V10), (a11, ai E 60 V11)]) rfl rfl rfl rfl rfl (xrecv hK hP (q0 := 0) (ci := 10) rfl rfl) rfl hl.1 rfl (Nat.le_of_ble_eq_true rfl) dX10_takeRest_109 (fun H locs hP hD hS => ?_)
    refine lv_if_eq (tgt := 157) hx hb dX10_takeRest_112 (by decide) (fun c112 => ?_) (fun c112 => ?_)
    · have hf := it_t c112 hf
      refine lv_iconst (v := 0) hx hb dX10_takeRest_157 rfl ?_
      exact ret (0, z109.2.1, z109.2.2.1, z109.2.2.2, T6, V7, V8, V9, V10, V11) hf nz0 hP hS dX10_takeRest_158
    · have hf := it_f c112 hf
      refine lv_aload_n hx hb dX10_takeRest_115 rfl (lv_at hl 0 rfl) ?_
      refine lv_aload_n hx hb dX10_takeRest_116 rfl (lv_at hl 1 rfl) ?_
      refine lv_aload_n hx hb dX10_takeRest_117 rfl (lv_at hl 3 rfl) ?_
      obtain ⟨z118, hz118, hf⟩ := bind_s hf
      refine xV_iu hx hb hml hown htg L10_97 (c_X10_takeCell l E a0 a1 a2 a4 a5 hz118 _) ⟨⟨rfl, rfl⟩, Nat.le_of_ble_eq_true rfl, Nat.le_of_ble_eq_true rfl⟩ hK hG hA hP hD hS (is := [0, 1, 2, 4, 5]) (sel := [some 0, some 1, some 2, none, some 3, some 4, none, none, none, none, none, none]) (ws2 := [(a0, o10 z118.2.1 u0_0), (a1, o8 z118.2.2.1 z118.2.2.2 a4 a5), (a2, o3 T2 u2_7 u2_8 a3 u2_10 u2_11 u2_12 u2_13 u2_14), (a3, al E 5 V3), (a4, ab E 900 V4), (a5, al E 23 V5), (a6, o0 T6 a7 a8 a9 a10 a11), (a7, ai E 60 V7), (a8, ai E 60 V8), (a9, ai E 60 V9), (a10, ai E 60 V10), (a11, ai E 60 V11)]) rfl rfl rfl rfl rfl (xrecv hK hP (q0 := 0) (ci := 10) rfl rfl) rfl hl.1 rfl (Nat.le_of_ble_eq_true rfl) dX10_takeRest_118 (fun H locs hP hD hS => ?_)
      refine lv_if_eq (tgt := 157) hx hb dX10_takeRest_121 (by decide) (fun c121 => ?_) (fun c121 => ?_)
      · have hf := it_t c121 hf
        refine lv_iconst (v := 0) hx hb dX10_takeRest_157 rfl ?_
        exact ret (0, z118.2.1, z118.2.2.1, z118.2.2.2, T6, V7, V8, V9, V10, V11) hf nz0 hP hS dX10_takeRest_158
      · have hf := it_f c121 hf
        refine lv_aload_n hx hb dX10_takeRest_124 rfl (lv_at hl 0 rfl) ?_
        refine lv_aload_n hx hb dX10_takeRest_125 rfl (lv_at hl 1 rfl) ?_
        obtain ⟨z126, hz126, hf⟩ := bind_s hf
        refine xV_iu hx hb hml hown htg L10_100 (c_X10_takeFeeling l E a0 a1 a4 a5 hz126 _) ⟨⟨rfl, rfl⟩, Nat.le_of_ble_eq_true rfl, Nat.le_of_ble_eq_true rfl⟩ hK hG hA hP hD hS (is := [0, 1, 4, 5]) (sel := [some 0, some 1, none, none, some 2, some 3, none, none, none, none, none, none]) (ws2 := [(a0, o10 z126.2.1 u0_0), (a1, o8 z126.2.2.1 z126.2.2.2 a4 a5), (a2, o3 T2 u2_7 u2_8 a3 u2_10 u2_11 u2_12 u2_13 u2_14), (a3, al E 5 V3), (a4, ab E 900 V4), (a5, al E 23 V5), (a6, o0 T6 a7 a8 a9 a10 a11), (a7, ai E 60 V7), (a8, ai E 60 V8), (a9, ai E 60 V9), (a10, ai E 60 V10), (a11, ai E 60 V11)]) rfl rfl rfl rfl rfl (xrecv hK hP (q0 := 0) (ci := 10) rfl rfl) rfl hl.1 rfl (Nat.le_of_ble_eq_true rfl) dX10_takeRest_126 (fun H locs hP hD hS => ?_)
        refine lv_if_eq (tgt := 157) hx hb dX10_takeRest_129 (by decide) (fun c129 => ?_) (fun c129 => ?_)
        · have hf := it_t c129 hf
          refine lv_iconst (v := 0) hx hb dX10_takeRest_157 rfl ?_
          exact ret (0, z126.2.1, z126.2.2.1, z126.2.2.2, T6, V7, V8, V9, V10, V11) hf nz0 hP hS dX10_takeRest_158
        · have hf := it_f c129 hf
          refine lv_aload hx hb dX10_takeRest_132 (lv_at hl 4 rfl) ?_
          refine lv_iload_n hx hb dX10_takeRest_134 rfl (lv_at hl 2 rfl) ?_
          refine lv_aload_n hx hb dX10_takeRest_135 rfl (lv_at hl 0 rfl) ?_
          refine G10_90 hx hb htg hown hK hP 0 rfl dX10_takeRest_136 ?_
          refine lv_aload_n hx hb dX10_takeRest_139 rfl (lv_at hl 0 rfl) ?_
          refine G10_104 hx hb htg hown hK hP 0 rfl dX10_takeRest_140 ?_
          refine lv_aload_n hx hb dX10_takeRest_143 rfl (lv_at hl 0 rfl) ?_
          refine G10_107 hx hb htg hown hK hP 0 rfl dX10_takeRest_144 ?_
          obtain ⟨z147, hz147, hf⟩ := bind_s hf
          refine xV_iu hx hb hml hown htg L10_93 (c_X0_addStep l E a6 a7 a8 a9 a10 a11 hz147 _) ⟨⟨rfl, rfl⟩, Nat.le_of_ble_eq_true rfl, Nat.le_of_ble_eq_true rfl⟩ hK hG hA hP hD hS (is := [6, 7, 8, 9, 10, 11]) (sel := [none, none, none, none, none, none, some 0, some 1, some 2, some 3, some 4, some 5]) (ws2 := [(a0, o10 z126.2.1 u0_0), (a1, o8 z126.2.2.1 z126.2.2.2 a4 a5), (a2, o3 T2 u2_7 u2_8 a3 u2_10 u2_11 u2_12 u2_13 u2_14), (a3, al E 5 V3), (a4, ab E 900 V4), (a5, al E 23 V5), (a6, o0 z147.2.1 a7 a8 a9 a10 a11), (a7, ai E 60 z147.2.2.1), (a8, ai E 60 z147.2.2.2.1), (a9, ai E 60 z147.2.2.2.2.1), (a10, ai E 60 z147.2.2.2.2.2.1), (a11, ai E 60 z147.2.2.2.2.2.2)]) rfl rfl rfl rfl rfl (xrecv hK hP (q0 := 6) (ci := 0) rfl rfl) rfl hl.1 rfl (Nat.le_of_ble_eq_true rfl) dX10_takeRest_147 (fun H locs hP hD hS => ?_)
          refine lv_if_eq (tgt := 157) hx hb dX10_takeRest_150 (by decide) (fun c150 => ?_) (fun c150 => ?_)
          · have hf := it_t c150 hf
            refine lv_iconst (v := 0) hx hb dX10_takeRest_157 rfl ?_
            exact ret (0, z126.2.1, z126.2.2.1, z126.2.2.2, z147.2.1, z147.2.2.1, z147.2.2.2.1, z147.2.2.2.2.1, z147.2.2.2.2.2.1, z147.2.2.2.2.2.2) hf nz0 hP hS dX10_takeRest_158
          · have hf := it_f c150 hf
            refine lv_iconst (v := 1) hx hb dX10_takeRest_153 rfl ?_
            refine lv_goto (tgt := 158) hx hb dX10_takeRest_154 (by decide) ?_
            exact ret (1, z126.2.1, z126.2.2.1, z126.2.2.2, z147.2.1, z147.2.2.1, z147.2.2.2.1, z147.2.2.2.2.1, z147.2.2.2.2.2.1, z147.2.2.2.2.2.2) hf nz1 hP hS dX10_takeRest_158
  have hf := it_f c1_6 hf
  by_cases c1_12 : x2 = 12
  · have hf := it_t c1_12 hf
    refine xtabI (off := 75) (tgt := 76) hx hb c1_12 dX10_takeRest_1 rfl (by decide) ?_
    exact b76 T0 T1 J1_8 T6 V7 V8 V9 V10 V11 _ _ _ hf hP hD hS (lv_sub hl [0, 1, 2, 3, 4] rfl)
  have hf := it_f c1_12 hf
  by_cases c1_13 : x2 = 13
  · have hf := it_t c1_13 hf
    refine xtabI (off := 75) (tgt := 76) hx hb c1_13 dX10_takeRest_1 rfl (by decide) ?_
    exact b76 T0 T1 J1_8 T6 V7 V8 V9 V10 V11 _ _ _ hf hP hD hS (lv_sub hl [0, 1, 2, 3, 4] rfl)
  have hf := it_f c1_13 hf
  by_cases c1_14 : x2 = 14
  · have hf := it_t c1_14 hf
    refine xtabI (off := 158) (tgt := 159) hx hb c1_14 dX10_takeRest_1 rfl (by decide) ?_
    refine lv_aload_n hx hb dX10_takeRest_159 rfl (lv_at hl 0 rfl) ?_
    refine lv_aload_n hx hb dX10_takeRest_160 rfl (lv_at hl 1 rfl) ?_
    refine lv_aload_n hx hb dX10_takeRest_161 rfl (lv_at hl 3 rfl) ?_
    obtain ⟨z162, hz162, hf⟩ := bind_s hf
    refine xV_iu hx hb hml hown htg L10_97 (c_X10_takeCell l E a0 a1 a2 a4 a5 hz162 _) ⟨⟨rfl, rfl⟩, Nat.le_of_ble_eq_true rfl, Nat.le_of_ble_eq_true rfl⟩ hK hG hA hP hD hS (is := [0, 1, 2, 4, 5]) (sel := [some 0, some 1, some 2, none, some 3, some 4, none, none, none, none, none, none]) (ws2 := [(a0, o10 z162.2.1 u0_0), (a1, o8 z162.2.2.1 z162.2.2.2 a4 a5), (a2, o3 T2 u2_7 u2_8 a3 u2_10 u2_11 u2_12 u2_13 u2_14), (a3, al E 5 V3), (a4, ab E 900 V4), (a5, al E 23 V5), (a6, o0 T6 a7 a8 a9 a10 a11), (a7, ai E 60 V7), (a8, ai E 60 V8), (a9, ai E 60 V9), (a10, ai E 60 V10), (a11, ai E 60 V11)]) rfl rfl rfl rfl rfl (xrecv hK hP (q0 := 0) (ci := 10) rfl rfl) rfl hl.1 rfl (Nat.le_of_ble_eq_true rfl) dX10_takeRest_162 (fun H locs hP hD hS => ?_)
    refine lv_if_eq (tgt := 187) hx hb dX10_takeRest_165 (by decide) (fun c165 => ?_) (fun c165 => ?_)
    · have hf := it_t c165 hf
      refine lv_iconst (v := 0) hx hb dX10_takeRest_187 rfl ?_
      exact ret (0, z162.2.1, z162.2.2.1, z162.2.2.2, T6, V7, V8, V9, V10, V11) hf nz0 hP hS dX10_takeRest_188
    · have hf := it_f c165 hf
      refine lv_aload hx hb dX10_takeRest_168 (lv_at hl 4 rfl) ?_
      refine lv_iload_n hx hb dX10_takeRest_170 rfl (lv_at hl 2 rfl) ?_
      refine lv_aload_n hx hb dX10_takeRest_171 rfl (lv_at hl 0 rfl) ?_
      refine G10_104 hx hb htg hown hK hP 0 rfl dX10_takeRest_172 ?_
      refine lv_iconst (v := 0) hx hb dX10_takeRest_175 rfl ?_
      refine lv_iconst (v := 0) hx hb dX10_takeRest_176 rfl ?_
      obtain ⟨z177, hz177, hf⟩ := bind_s hf
      refine xV_iu hx hb hml hown htg L10_93 (c_X0_addStep l E a6 a7 a8 a9 a10 a11 hz177 _) ⟨⟨rfl, rfl⟩, Nat.le_of_ble_eq_true rfl, Nat.le_of_ble_eq_true rfl⟩ hK hG hA hP hD hS (is := [6, 7, 8, 9, 10, 11]) (sel := [none, none, none, none, none, none, some 0, some 1, some 2, some 3, some 4, some 5]) (ws2 := [(a0, o10 z162.2.1 u0_0), (a1, o8 z162.2.2.1 z162.2.2.2 a4 a5), (a2, o3 T2 u2_7 u2_8 a3 u2_10 u2_11 u2_12 u2_13 u2_14), (a3, al E 5 V3), (a4, ab E 900 V4), (a5, al E 23 V5), (a6, o0 z177.2.1 a7 a8 a9 a10 a11), (a7, ai E 60 z177.2.2.1), (a8, ai E 60 z177.2.2.2.1), (a9, ai E 60 z177.2.2.2.2.1), (a10, ai E 60 z177.2.2.2.2.2.1), (a11, ai E 60 z177.2.2.2.2.2.2)]) rfl rfl rfl rfl rfl (xrecv hK hP (q0 := 6) (ci := 0) rfl rfl) rfl hl.1 rfl (Nat.le_of_ble_eq_true rfl) dX10_takeRest_177 (fun H locs hP hD hS => ?_)
      refine lv_if_eq (tgt := 187) hx hb dX10_takeRest_180 (by decide) (fun c180 => ?_) (fun c180 => ?_)
      · have hf := it_t c180 hf
        refine lv_iconst (v := 0) hx hb dX10_takeRest_187 rfl ?_
        exact ret (0, z162.2.1, z162.2.2.1, z162.2.2.2, z177.2.1, z177.2.2.1, z177.2.2.2.1, z177.2.2.2.2.1, z177.2.2.2.2.2.1, z177.2.2.2.2.2.2) hf nz0 hP hS dX10_takeRest_188
      · have hf := it_f c180 hf
        refine lv_iconst (v := 1) hx hb dX10_takeRest_183 rfl ?_
        refine lv_goto (tgt := 188) hx hb dX10_takeRest_184 (by decide) ?_
        exact ret (1, z162.2.1, z162.2.2.1, z162.2.2.2, z177.2.1, z177.2.2.1, z177.2.2.2.1, z177.2.2.2.2.1, z177.2.2.2.2.2.1, z177.2.2.2.2.2.2) hf nz1 hP hS dX10_takeRest_188
  have hf := it_f c1_14 hf
  by_cases c1_20 : x2 = 20
  · have hf := it_t c1_20 hf
    refine xtabI (off := 188) (tgt := 189) hx hb c1_20 dX10_takeRest_1 rfl (by decide) ?_
    refine lv_aload_n hx hb dX10_takeRest_189 rfl (lv_at hl 0 rfl) ?_
    refine lv_aload_n hx hb dX10_takeRest_190 rfl (lv_at hl 1 rfl) ?_
    refine lv_iconst (v := 1) hx hb dX10_takeRest_191 rfl ?_
    refine lv_bipush (v := 99) hx hb dX10_takeRest_192 rfl ?_
    obtain ⟨z194, hz194, hf⟩ := bind_s hf
    refine xV_iu hx hb hml hown htg L10_110 (c_X10_takeNumber l E a0 a1 a4 a5 hz194 _) ⟨⟨rfl, rfl⟩, Nat.le_of_ble_eq_true rfl, Nat.le_of_ble_eq_true rfl⟩ hK hG hA hP hD hS (is := [0, 1, 4, 5]) (sel := [some 0, some 1, none, none, some 2, some 3, none, none, none, none, none, none]) (ws2 := [(a0, o10 z194.2.1 u0_0), (a1, o8 z194.2.2.1 z194.2.2.2 a4 a5), (a2, o3 T2 u2_7 u2_8 a3 u2_10 u2_11 u2_12 u2_13 u2_14), (a3, al E 5 V3), (a4, ab E 900 V4), (a5, al E 23 V5), (a6, o0 T6 a7 a8 a9 a10 a11), (a7, ai E 60 V7), (a8, ai E 60 V8), (a9, ai E 60 V9), (a10, ai E 60 V10), (a11, ai E 60 V11)]) rfl rfl rfl rfl rfl (xrecv hK hP (q0 := 0) (ci := 10) rfl rfl) rfl hl.1 rfl (Nat.le_of_ble_eq_true rfl) dX10_takeRest_194 (fun H locs hP hD hS => ?_)
    refine lv_if_eq (tgt := 219) hx hb dX10_takeRest_197 (by decide) (fun c197 => ?_) (fun c197 => ?_)
    · have hf := it_t c197 hf
      refine lv_iconst (v := 0) hx hb dX10_takeRest_219 rfl ?_
      exact ret (0, z194.2.1, z194.2.2.1, z194.2.2.2, T6, V7, V8, V9, V10, V11) hf nz0 hP hS dX10_takeRest_220
    · have hf := it_f c197 hf
      refine lv_aload hx hb dX10_takeRest_200 (lv_at hl 4 rfl) ?_
      refine lv_iload_n hx hb dX10_takeRest_202 rfl (lv_at hl 2 rfl) ?_
      refine lv_aload_n hx hb dX10_takeRest_203 rfl (lv_at hl 0 rfl) ?_
      refine G10_114 hx hb htg hown hK hP 0 rfl dX10_takeRest_204 ?_
      refine lv_iconst (v := 0) hx hb dX10_takeRest_207 rfl ?_
      refine lv_iconst (v := 0) hx hb dX10_takeRest_208 rfl ?_
      obtain ⟨z209, hz209, hf⟩ := bind_s hf
      refine xV_iu hx hb hml hown htg L10_93 (c_X0_addStep l E a6 a7 a8 a9 a10 a11 hz209 _) ⟨⟨rfl, rfl⟩, Nat.le_of_ble_eq_true rfl, Nat.le_of_ble_eq_true rfl⟩ hK hG hA hP hD hS (is := [6, 7, 8, 9, 10, 11]) (sel := [none, none, none, none, none, none, some 0, some 1, some 2, some 3, some 4, some 5]) (ws2 := [(a0, o10 z194.2.1 u0_0), (a1, o8 z194.2.2.1 z194.2.2.2 a4 a5), (a2, o3 T2 u2_7 u2_8 a3 u2_10 u2_11 u2_12 u2_13 u2_14), (a3, al E 5 V3), (a4, ab E 900 V4), (a5, al E 23 V5), (a6, o0 z209.2.1 a7 a8 a9 a10 a11), (a7, ai E 60 z209.2.2.1), (a8, ai E 60 z209.2.2.2.1), (a9, ai E 60 z209.2.2.2.2.1), (a10, ai E 60 z209.2.2.2.2.2.1), (a11, ai E 60 z209.2.2.2.2.2.2)]) rfl rfl rfl rfl rfl (xrecv hK hP (q0 := 6) (ci := 0) rfl rfl) rfl hl.1 rfl (Nat.le_of_ble_eq_true rfl) dX10_takeRest_209 (fun H locs hP hD hS => ?_)
      refine lv_if_eq (tgt := 219) hx hb dX10_takeRest_212 (by decide) (fun c212 => ?_) (fun c212 => ?_)
      · have hf := it_t c212 hf
        refine lv_iconst (v := 0) hx hb dX10_takeRest_219 rfl ?_
        exact ret (0, z194.2.1, z194.2.2.1, z194.2.2.2, z209.2.1, z209.2.2.1, z209.2.2.2.1, z209.2.2.2.2.1, z209.2.2.2.2.2.1, z209.2.2.2.2.2.2) hf nz0 hP hS dX10_takeRest_220
      · have hf := it_f c212 hf
        refine lv_iconst (v := 1) hx hb dX10_takeRest_215 rfl ?_
        refine lv_goto (tgt := 220) hx hb dX10_takeRest_216 (by decide) ?_
        exact ret (1, z194.2.1, z194.2.2.1, z194.2.2.2, z209.2.1, z209.2.2.1, z209.2.2.2.1, z209.2.2.2.2.1, z209.2.2.2.2.2.1, z209.2.2.2.2.2.2) hf nz1 hP hS dX10_takeRest_220
  have hf := it_f c1_20 hf
  refine xtabD (tgt := 221) (cs := [6, 12, 13, 14, 20]) hx hb (by simp only [List.forall_mem_cons]; exact ⟨c1_6, c1_12, c1_13, c1_14, c1_20, fun _ h => absurd h List.not_mem_nil⟩) rfl dX10_takeRest_1 (by decide) ?_
  exact b221 T0 T1 J1_8 T6 V7 V8 V9 V10 V11 _ _ _ hf hP hD hS (lv_sub hl [2, 4] rfl)
theorem dX10_takeStep_0 : decode cX10_takeStep 0 = .ok (.aload_n 1, 1) := by decide +kernel
theorem dX10_takeStep_1 : decode cX10_takeStep 1 = .ok (.invokevirtual 62, 3) := by decide +kernel
theorem dX10_takeStep_4 : decode cX10_takeStep 4 = .ok (.istore 4, 2) := by decide +kernel
theorem dX10_takeStep_6 : decode cX10_takeStep 6 = .ok (.iload 4, 2) := by decide +kernel
theorem dX10_takeStep_8 : decode cX10_takeStep 8 = .ok (.invokestatic 66, 3) := by decide +kernel
theorem dX10_takeStep_11 : decode cX10_takeStep 11 = .ok (.ifCond .ne 9, 3) := by decide +kernel
theorem dX10_takeStep_14 : decode cX10_takeStep 14 = .ok (.aload_n 1, 1) := by decide +kernel
theorem dX10_takeStep_15 : decode cX10_takeStep 15 = .ok (.iconst 2, 1) := by decide +kernel
theorem dX10_takeStep_16 : decode cX10_takeStep 16 = .ok (.invokevirtual 46, 3) := by decide +kernel
theorem dX10_takeStep_19 : decode cX10_takeStep 19 = .ok (.ireturn, 1) := by decide +kernel
theorem dX10_takeStep_20 : decode cX10_takeStep 20 = .ok (.aload_n 3, 1) := by decide +kernel
theorem dX10_takeStep_21 : decode cX10_takeStep 21 = .ok (.getfield 69, 3) := by decide +kernel
theorem dX10_takeStep_24 : decode cX10_takeStep 24 = .ok (.bipush 30, 2) := by decide +kernel
theorem dX10_takeStep_26 : decode cX10_takeStep 26 = .ok (.if_icmp .lt 10, 3) := by decide +kernel
theorem dX10_takeStep_29 : decode cX10_takeStep 29 = .ok (.aload_n 1, 1) := by decide +kernel
theorem dX10_takeStep_30 : decode cX10_takeStep 30 = .ok (.bipush 6, 2) := by decide +kernel
theorem dX10_takeStep_32 : decode cX10_takeStep 32 = .ok (.invokevirtual 46, 3) := by decide +kernel
theorem dX10_takeStep_35 : decode cX10_takeStep 35 = .ok (.ireturn, 1) := by decide +kernel
theorem dX10_takeStep_36 : decode cX10_takeStep 36 = .ok (.iload 4, 2) := by decide +kernel
theorem dX10_takeStep_38 : decode cX10_takeStep 38 = .ok (.bipush 16, 2) := by decide +kernel
theorem dX10_takeStep_40 : decode cX10_takeStep 40 = .ok (.if_icmp .eq 10, 3) := by decide +kernel
theorem dX10_takeStep_43 : decode cX10_takeStep 43 = .ok (.iload 4, 2) := by decide +kernel
theorem dX10_takeStep_45 : decode cX10_takeStep 45 = .ok (.bipush 20, 2) := by decide +kernel
theorem dX10_takeStep_47 : decode cX10_takeStep 47 = .ok (.if_icmp .ne 45, 3) := by decide +kernel
theorem dX10_takeStep_50 : decode cX10_takeStep 50 = .ok (.aload_n 0, 1) := by decide +kernel
theorem dX10_takeStep_51 : decode cX10_takeStep 51 = .ok (.getfield 20, 3) := by decide +kernel
theorem dX10_takeStep_54 : decode cX10_takeStep 54 = .ok (.aload_n 0, 1) := by decide +kernel
theorem dX10_takeStep_55 : decode cX10_takeStep 55 = .ok (.getfield 11, 3) := by decide +kernel
theorem dX10_takeStep_58 : decode cX10_takeStep 58 = .ok (.arraylength, 1) := by decide +kernel
theorem dX10_takeStep_59 : decode cX10_takeStep 59 = .ok (.if_icmp .lt 10, 3) := by decide +kernel
theorem dX10_takeStep_62 : decode cX10_takeStep 62 = .ok (.aload_n 1, 1) := by decide +kernel
theorem dX10_takeStep_63 : decode cX10_takeStep 63 = .ok (.bipush 7, 2) := by decide +kernel
theorem dX10_takeStep_65 : decode cX10_takeStep 65 = .ok (.invokevirtual 46, 3) := by decide +kernel
theorem dX10_takeStep_68 : decode cX10_takeStep 68 = .ok (.ireturn, 1) := by decide +kernel
theorem dX10_takeStep_69 : decode cX10_takeStep 69 = .ok (.aload_n 0, 1) := by decide +kernel
theorem dX10_takeStep_70 : decode cX10_takeStep 70 = .ok (.getfield 11, 3) := by decide +kernel
theorem dX10_takeStep_73 : decode cX10_takeStep 73 = .ok (.aload_n 0, 1) := by decide +kernel
theorem dX10_takeStep_74 : decode cX10_takeStep 74 = .ok (.getfield 20, 3) := by decide +kernel
theorem dX10_takeStep_77 : decode cX10_takeStep 77 = .ok (.aload_n 3, 1) := by decide +kernel
theorem dX10_takeStep_78 : decode cX10_takeStep 78 = .ok (.getfield 72, 3) := by decide +kernel
theorem dX10_takeStep_81 : decode cX10_takeStep 81 = .ok (.iastore, 1) := by decide +kernel
theorem dX10_takeStep_82 : decode cX10_takeStep 82 = .ok (.aload_n 0, 1) := by decide +kernel
theorem dX10_takeStep_83 : decode cX10_takeStep 83 = .ok (.dup, 1) := by decide +kernel
theorem dX10_takeStep_84 : decode cX10_takeStep 84 = .ok (.getfield 20, 3) := by decide +kernel
theorem dX10_takeStep_87 : decode cX10_takeStep 87 = .ok (.iconst 1, 1) := by decide +kernel
theorem dX10_takeStep_88 : decode cX10_takeStep 88 = .ok (.iadd, 1) := by decide +kernel
theorem dX10_takeStep_89 : decode cX10_takeStep 89 = .ok (.putfield 20, 3) := by decide +kernel
theorem dX10_takeStep_92 : decode cX10_takeStep 92 = .ok (.aload_n 1, 1) := by decide +kernel
theorem dX10_takeStep_93 : decode cX10_takeStep 93 = .ok (.invokevirtual 56, 3) := by decide +kernel
theorem dX10_takeStep_96 : decode cX10_takeStep 96 = .ok (.iload 4, 2) := by decide +kernel
theorem dX10_takeStep_98 : decode cX10_takeStep 98 = .ok (.bipush 16, 2) := by decide +kernel
theorem dX10_takeStep_100 : decode cX10_takeStep 100 = .ok (.if_icmp .ne 13, 3) := by decide +kernel
theorem dX10_takeStep_103 : decode cX10_takeStep 103 = .ok (.aload_n 0, 1) := by decide +kernel
theorem dX10_takeStep_104 : decode cX10_takeStep 104 = .ok (.aload_n 1, 1) := by decide +kernel
theorem dX10_takeStep_105 : decode cX10_takeStep 105 = .ok (.aload_n 2, 1) := by decide +kernel
theorem dX10_takeStep_106 : decode cX10_takeStep 106 = .ok (.aload_n 3, 1) := by decide +kernel
theorem dX10_takeStep_107 : decode cX10_takeStep 107 = .ok (.invokevirtual 75, 3) := by decide +kernel
theorem dX10_takeStep_110 : decode cX10_takeStep 110 = .ok (.goto 12, 3) := by decide +kernel
theorem dX10_takeStep_113 : decode cX10_takeStep 113 = .ok (.aload_n 0, 1) := by decide +kernel
theorem dX10_takeStep_114 : decode cX10_takeStep 114 = .ok (.aload_n 1, 1) := by decide +kernel
theorem dX10_takeStep_115 : decode cX10_takeStep 115 = .ok (.iload 4, 2) := by decide +kernel
theorem dX10_takeStep_117 : decode cX10_takeStep 117 = .ok (.aload_n 2, 1) := by decide +kernel
theorem dX10_takeStep_118 : decode cX10_takeStep 118 = .ok (.aload_n 3, 1) := by decide +kernel
theorem dX10_takeStep_119 : decode cX10_takeStep 119 = .ok (.invokevirtual 78, 3) := by decide +kernel
theorem dX10_takeStep_122 : decode cX10_takeStep 122 = .ok (.istore 5, 2) := by decide +kernel
theorem dX10_takeStep_124 : decode cX10_takeStep 124 = .ok (.iload 5, 2) := by decide +kernel
theorem dX10_takeStep_126 : decode cX10_takeStep 126 = .ok (.ifCond .eq 16, 3) := by decide +kernel
theorem dX10_takeStep_129 : decode cX10_takeStep 129 = .ok (.aload_n 1, 1) := by decide +kernel
theorem dX10_takeStep_130 : decode cX10_takeStep 130 = .ok (.bipush 59, 2) := by decide +kernel
theorem dX10_takeStep_132 : decode cX10_takeStep 132 = .ok (.invokevirtual 59, 3) := by decide +kernel
theorem dX10_takeStep_135 : decode cX10_takeStep 135 = .ok (.ifCond .eq 7, 3) := by decide +kernel
theorem dX10_takeStep_138 : decode cX10_takeStep 138 = .ok (.iconst 1, 1) := by decide +kernel
theorem dX10_takeStep_139 : decode cX10_takeStep 139 = .ok (.goto 4, 3) := by decide +kernel
theorem dX10_takeStep_142 : decode cX10_takeStep 142 = .ok (.iconst 0, 1) := by decide +kernel
theorem dX10_takeStep_143 : decode cX10_takeStep 143 = .ok (.ireturn, 1) := by decide +kernel
set_option maxRecDepth 100000 in
theorem c_X10_takeStep (l : Launch) (E : xE) (a0 a1 a2 a3 a4 a5 a6 a7 a8 a9 a10 a11 a12 : Nat) {T0 : Nat → Int32} {T1 : Nat → Int32} {J1_8 : Int64} {T2 : Nat → Int32} {V3 : Nat → Int32} {V4 : Nat → Int64} {T5 : Nat → Int32} {V6 : Nat → Int64} {V7 : Nat → Int32} {V8 : Nat → Int32} {V9 : Nat → Int32} {V10 : Nat → Int32} {V11 : Nat → Int32} {V12 : Nat → Int32} {u5_7 u5_8 u5_10 u5_11 u5_12 u5_13 u5_14 : Nat} {z : Int32 × (Nat → Int32) × (Nat → Int32) × Int64 × (Nat → Int32) × (Nat → Int32) × (Nat → Int32) × (Nat → Int32) × (Nat → Int32) × (Nat → Int32) × (Nat → Int32)} (hf : f_X10_takeStep T0 T1 J1_8 T2 V3 V4 T5 V6 V7 V8 V9 V10 V11 V12 = some z) (sz : Nat) : Met l yX10_takeStep (Cond.code yX10_takeStep cX10_takeStep 6 (some .boolean) :: gw) ({ frames := 4, cells := 0, slots := 0, locals := 91 }) (xPc E [.ref a0, .ref a1, .ref a5, .ref a2] [(a0, o10 T0 a12), (a1, o8 T1 J1_8 a3 a4), (a2, o0 T2 a7 a8 a9 a10 a11), (a3, ab E 900 V3), (a4, al E 23 V4), (a5, o3 T5 u5_7 u5_8 a6 u5_10 u5_11 u5_12 u5_13 u5_14), (a6, al E 5 V6), (a7, ai E 60 V7), (a8, ai E 60 V8), (a9, ai E 60 V9), (a10, ai E 60 V10), (a11, ai E 60 V11), (a12, ai E 3 V12)] sz) (xQi E z.1 [(a0, o10 T0 a12), (a1, o8 T1 J1_8 a3 a4), (a2, o0 T2 a7 a8 a9 a10 a11), (a3, ab E 900 V3), (a4, al E 23 V4), (a5, o3 T5 u5_7 u5_8 a6 u5_10 u5_11 u5_12 u5_13 u5_14), (a6, al E 5 V6), (a7, ai E 60 V7), (a8, ai E 60 V8), (a9, ai E 60 V9), (a10, ai E 60 V10), (a11, ai E 60 V11), (a12, ai E 3 V12)] [(a0, o10 z.2.1 a12), (a1, o8 z.2.2.1 z.2.2.2.1 a3 a4), (a2, o0 z.2.2.2.2.1 a7 a8 a9 a10 a11), (a3, ab E 900 V3), (a4, al E 23 V4), (a5, o3 T5 u5_7 u5_8 a6 u5_10 u5_11 u5_12 u5_13 u5_14), (a6, al E 5 V6), (a7, ai E 60 z.2.2.2.2.2.1), (a8, ai E 60 z.2.2.2.2.2.2.1), (a9, ai E 60 z.2.2.2.2.2.2.2.1), (a10, ai E 60 z.2.2.2.2.2.2.2.2.1), (a11, ai E 60 z.2.2.2.2.2.2.2.2.2.1), (a12, ai E 3 z.2.2.2.2.2.2.2.2.2.2)] sz) 0 0 (va_A [(a0, o10 T0 a12), (a1, o8 T1 J1_8 a3 a4), (a2, o0 T2 a7 a8 a9 a10 a11), (a3, ab E 900 V3), (a4, al E 23 V4), (a5, o3 T5 u5_7 u5_8 a6 u5_10 u5_11 u5_12 u5_13 u5_14), (a6, al E 5 V6), (a7, ai E 60 V7), (a8, ai E 60 V8), (a9, ai E 60 V9), (a10, ai E 60 V10), (a11, ai E 60 V11), (a12, ai E 3 V12)] sz) := by
  refine xM_i (by decide +kernel) (Nat.le_of_ble_eq_true rfl) ?_
  intro p e s m args below meth c A Q hx hb hml hown htg hK hG hA ret0 H locs ls hP hD hS hl
  have ret : ∀ (z' : Int32 × (Nat → Int32) × (Nat → Int32) × Int64 × (Nat → Int32) × (Nat → Int32) × (Nat → Int32) × (Nat → Int32) × (Nat → Int32) × (Nat → Int32) × (Nat → Int32)) {H : Heap} {locs : List Loc} {pc : Nat} {ls : Array Slot}, some z' = some z → narrow .boolean (.int z'.1) = .int z'.1 → va_P E.1 vwCl [(a0, o10 z'.2.1 a12), (a1, o8 z'.2.2.1 z'.2.2.2.1 a3 a4), (a2, o0 z'.2.2.2.2.1 a7 a8 a9 a10 a11), (a3, ab E 900 V3), (a4, al E 23 V4), (a5, o3 T5 u5_7 u5_8 a6 u5_10 u5_11 u5_12 u5_13 u5_14), (a6, al E 5 V6), (a7, ai E 60 z'.2.2.2.2.2.1), (a8, ai E 60 z'.2.2.2.2.2.2.1), (a9, ai E 60 z'.2.2.2.2.2.2.2.1), (a10, ai E 60 z'.2.2.2.2.2.2.2.2.1), (a11, ai E 60 z'.2.2.2.2.2.2.2.2.2.1), (a12, ai E 3 z'.2.2.2.2.2.2.2.2.2.2)] H → va_S A s.heap H locs → decode cX10_takeStep pc = .ok (.ireturn, 1) → W p l e ({ frames := 4, cells := 0, slots := 0, locals := 91 } : Room) s m args below meth c H locs 0 0 Q (F0 m pc ls [.int z'.1]) := by
    intro z' H locs pc ls h
    cases h
    exact ret0
  replace hl : lv_has ls 6 [(0, .ref a0), (1, .ref a1), (2, .ref a5), (3, .ref a2)] := hl
  have b122 : ∀ (s0 : Int32) (T0 : Nat → Int32) (T1 : Nat → Int32) (J1_8 : Int64) (T2 : Nat → Int32) (V7 : Nat → Int32) (V8 : Nat → Int32) (V9 : Nat → Int32) (V10 : Nat → Int32) (V11 : Nat → Int32) (V12 : Nat → Int32) (H : Heap) (locs : List Loc) (ls : Array Slot), f_X10_takeStep_122 V3 V4 T5 V6 s0 T0 T1 J1_8 T2 V7 V8 V9 V10 V11 V12 = some z → va_P E.1 vwCl [(a0, o10 T0 a12), (a1, o8 T1 J1_8 a3 a4), (a2, o0 T2 a7 a8 a9 a10 a11), (a3, ab E 900 V3), (a4, al E 23 V4), (a5, o3 T5 u5_7 u5_8 a6 u5_10 u5_11 u5_12 u5_13 u5_14), (a6, al E 5 V6), (a7, ai E 60 V7), (a8, ai E 60 V8), (a9, ai E 60 V9), (a10, ai E 60 V10), (a11, ai E 60 V11), (a12, ai E 3 V12)] H → va_D A [(a0, o10 T0 a12), (a1, o8 T1 J1_8 a3 a4), (a2, o0 T2 a7 a8 a9 a10 a11), (a3, ab E 900 V3), (a4, al E 23 V4), (a5, o3 T5 u5_7 u5_8 a6 u5_10 u5_11 u5_12 u5_13 u5_14), (a6, al E 5 V6), (a7, ai E 60 V7), (a8, ai E 60 V8), (a9, ai E 60 V9), (a10, ai E 60 V10), (a11, ai E 60 V11), (a12, ai E 3 V12)] → va_S A s.heap H locs → lv_has ls 6 [(1, .ref a1)] → W p l e ({ frames := 4, cells := 0, slots := 0, locals := 91 } : Room) s m args below meth c H locs 0 0 Q (F0 m 122 ls [.int s0]) := by
    intro s0 T0 T1 J1_8 T2 V7 V8 V9 V10 V11 V12 H locs ls hf hP hD hS hl
    unfold f_X10_takeStep_122 at hf
    refine lv_istore (lv' := [(5, .int s0), (1, .ref a1)]) hx hb dX10_takeStep_122 hl (by decide) rfl (fun ls hl => ?_)
    refine lv_iload hx hb dX10_takeStep_124 (lv_at hl 0 rfl) ?_
    refine lv_if_eq (tgt := 142) hx hb dX10_takeStep_126 (by decide) (fun c126 => ?_) (fun c126 => ?_)
    · have hf := it_t c126 hf
      refine lv_iconst (v := 0) hx hb dX10_takeStep_142 rfl ?_
      exact ret (0, T0, T1, J1_8, T2, V7, V8, V9, V10, V11, V12) hf nz0 hP hS dX10_takeStep_143
    · have hf := it_f c126 hf
      refine lv_aload_n hx hb dX10_takeStep_129 rfl (lv_at hl 1 rfl) ?_
      refine lv_bipush (v := 59) hx hb dX10_takeStep_130 rfl ?_
      obtain ⟨z132, hz132, hf⟩ := bind_s hf
      refine xV_iu hx hb hml hown htg L10_59 (c_X8_passSign l E a1 a3 a4 hz132 _) ⟨⟨rfl, rfl⟩, Nat.le_of_ble_eq_true rfl, Nat.le_of_ble_eq_true rfl⟩ hK hG hA hP hD hS (is := [1, 3, 4]) (sel := [none, some 0, none, some 1, some 2, none, none, none, none, none, none, none, none]) (ws2 := [(a0, o10 T0 a12), (a1, o8 z132.2.1 z132.2.2 a3 a4), (a2, o0 T2 a7 a8 a9 a10 a11), (a3, ab E 900 V3), (a4, al E 23 V4), (a5, o3 T5 u5_7 u5_8 a6 u5_10 u5_11 u5_12 u5_13 u5_14), (a6, al E 5 V6), (a7, ai E 60 V7), (a8, ai E 60 V8), (a9, ai E 60 V9), (a10, ai E 60 V10), (a11, ai E 60 V11), (a12, ai E 3 V12)]) rfl rfl rfl rfl rfl (xrecv hK hP (q0 := 1) (ci := 8) rfl rfl) rfl hl.1 rfl (Nat.le_of_ble_eq_true rfl) dX10_takeStep_132 (fun H locs hP hD hS => ?_)
      refine lv_if_eq (tgt := 142) hx hb dX10_takeStep_135 (by decide) (fun c135 => ?_) (fun c135 => ?_)
      · have hf := it_t c135 hf
        refine lv_iconst (v := 0) hx hb dX10_takeStep_142 rfl ?_
        exact ret (0, T0, z132.2.1, z132.2.2, T2, V7, V8, V9, V10, V11, V12) hf nz0 hP hS dX10_takeStep_143
      · have hf := it_f c135 hf
        refine lv_iconst (v := 1) hx hb dX10_takeStep_138 rfl ?_
        refine lv_goto (tgt := 143) hx hb dX10_takeStep_139 (by decide) ?_
        exact ret (1, T0, z132.2.1, z132.2.2, T2, V7, V8, V9, V10, V11, V12) hf nz1 hP hS dX10_takeStep_143
  have b92 : ∀ (x4 : Int32) (T0 : Nat → Int32) (T1 : Nat → Int32) (J1_8 : Int64) (T2 : Nat → Int32) (V7 : Nat → Int32) (V8 : Nat → Int32) (V9 : Nat → Int32) (V10 : Nat → Int32) (V11 : Nat → Int32) (V12 : Nat → Int32) (H : Heap) (locs : List Loc) (ls : Array Slot), f_X10_takeStep_92 V3 V4 T5 V6 x4 T0 T1 J1_8 T2 V7 V8 V9 V10 V11 V12 = some z → va_P E.1 vwCl [(a0, o10 T0 a12), (a1, o8 T1 J1_8 a3 a4), (a2, o0 T2 a7 a8 a9 a10 a11), (a3, ab E 900 V3), (a4, al E 23 V4), (a5, o3 T5 u5_7 u5_8 a6 u5_10 u5_11 u5_12 u5_13 u5_14), (a6, al E 5 V6), (a7, ai E 60 V7), (a8, ai E 60 V8), (a9, ai E 60 V9), (a10, ai E 60 V10), (a11, ai E 60 V11), (a12, ai E 3 V12)] H → va_D A [(a0, o10 T0 a12), (a1, o8 T1 J1_8 a3 a4), (a2, o0 T2 a7 a8 a9 a10 a11), (a3, ab E 900 V3), (a4, al E 23 V4), (a5, o3 T5 u5_7 u5_8 a6 u5_10 u5_11 u5_12 u5_13 u5_14), (a6, al E 5 V6), (a7, ai E 60 V7), (a8, ai E 60 V8), (a9, ai E 60 V9), (a10, ai E 60 V10), (a11, ai E 60 V11), (a12, ai E 3 V12)] → va_S A s.heap H locs → lv_has ls 6 [(0, .ref a0), (1, .ref a1), (2, .ref a5), (3, .ref a2), (4, .int x4)] → W p l e ({ frames := 4, cells := 0, slots := 0, locals := 91 } : Room) s m args below meth c H locs 0 0 Q (F0 m 92 ls []) := by
    intro x4 T0 T1 J1_8 T2 V7 V8 V9 V10 V11 V12 H locs ls hf hP hD hS hl
    unfold f_X10_takeStep_92 at hf
    refine lv_aload_n hx hb dX10_takeStep_92 rfl (lv_at hl 1 rfl) ?_
    obtain ⟨z93, hz93, hf⟩ := bind_s hf
    refine xV_vu hx hb hml hown htg L10_56 (c_X8_advance l E a1 a3 a4 hz93 _) ⟨⟨rfl, rfl⟩, Nat.le_of_ble_eq_true rfl, Nat.le_of_ble_eq_true rfl⟩ hK hG hA hP hD hS (is := [1, 3, 4]) (sel := [none, some 0, none, some 1, some 2, none, none, none, none, none, none, none, none]) (ws2 := [(a0, o10 T0 a12), (a1, o8 z93.1 z93.2 a3 a4), (a2, o0 T2 a7 a8 a9 a10 a11), (a3, ab E 900 V3), (a4, al E 23 V4), (a5, o3 T5 u5_7 u5_8 a6 u5_10 u5_11 u5_12 u5_13 u5_14), (a6, al E 5 V6), (a7, ai E 60 V7), (a8, ai E 60 V8), (a9, ai E 60 V9), (a10, ai E 60 V10), (a11, ai E 60 V11), (a12, ai E 3 V12)]) rfl rfl rfl rfl rfl (xrecv hK hP (q0 := 1) (ci := 8) rfl rfl) rfl hl.1 rfl (Nat.le_of_ble_eq_true rfl) dX10_takeStep_93 (fun H locs hP hD hS => ?_)
    refine lv_iload hx hb dX10_takeStep_96 (lv_at hl 4 rfl) ?_
    refine lv_bipush (v := 16) hx hb dX10_takeStep_98 rfl ?_
    refine lv_icmp_ne (tgt := 113) hx hb dX10_takeStep_100 (by decide) (fun c100 => ?_) (fun c100 => ?_)
    · have hf := it_f c100 hf
      refine lv_aload_n hx hb dX10_takeStep_113 rfl (lv_at hl 0 rfl) ?_
      refine lv_aload_n hx hb dX10_takeStep_114 rfl (lv_at hl 1 rfl) ?_
      refine lv_iload hx hb dX10_takeStep_115 (lv_at hl 4 rfl) ?_
      refine lv_aload_n hx hb dX10_takeStep_117 rfl (lv_at hl 2 rfl) ?_
      refine lv_aload_n hx hb dX10_takeStep_118 rfl (lv_at hl 3 rfl) ?_
      obtain ⟨z119, hz119, hf⟩ := bind_s hf
      refine xV_iu hx hb hml hown htg L10_78 (c_X10_takeRest l E a0 a1 a5 a6 a3 a4 a2 a7 a8 a9 a10 a11 hz119 _) ⟨⟨rfl, rfl⟩, Nat.le_of_ble_eq_true rfl, Nat.le_of_ble_eq_true rfl⟩ hK hG hA hP hD hS (is := [0, 1, 5, 6, 3, 4, 2, 7, 8, 9, 10, 11]) (sel := [some 0, some 1, some 6, some 4, some 5, some 2, some 3, some 7, some 8, some 9, some 10, some 11, none]) (ws2 := [(a0, o10 z119.2.1 a12), (a1, o8 z119.2.2.1 z119.2.2.2.1 a3 a4), (a2, o0 z119.2.2.2.2.1 a7 a8 a9 a10 a11), (a3, ab E 900 V3), (a4, al E 23 V4), (a5, o3 T5 u5_7 u5_8 a6 u5_10 u5_11 u5_12 u5_13 u5_14), (a6, al E 5 V6), (a7, ai E 60 z119.2.2.2.2.2.1), (a8, ai E 60 z119.2.2.2.2.2.2.1), (a9, ai E 60 z119.2.2.2.2.2.2.2.1), (a10, ai E 60 z119.2.2.2.2.2.2.2.2.1), (a11, ai E 60 z119.2.2.2.2.2.2.2.2.2), (a12, ai E 3 V12)]) rfl rfl rfl rfl rfl (xrecv hK hP (q0 := 0) (ci := 10) rfl rfl) rfl hl.1 rfl (Nat.le_of_ble_eq_true rfl) dX10_takeStep_119 (fun H locs hP hD hS => ?_)
      exact b122 z119.1 z119.2.1 z119.2.2.1 z119.2.2.2.1 z119.2.2.2.2.1 z119.2.2.2.2.2.1 z119.2.2.2.2.2.2.1 z119.2.2.2.2.2.2.2.1 z119.2.2.2.2.2.2.2.2.1 z119.2.2.2.2.2.2.2.2.2 V12 _ _ _ hf hP hD hS (lv_sub hl [1] rfl)
    · have hf := it_t c100 hf
      refine lv_aload_n hx hb dX10_takeStep_103 rfl (lv_at hl 0 rfl) ?_
      refine lv_aload_n hx hb dX10_takeStep_104 rfl (lv_at hl 1 rfl) ?_
      refine lv_aload_n hx hb dX10_takeStep_105 rfl (lv_at hl 2 rfl) ?_
      refine lv_aload_n hx hb dX10_takeStep_106 rfl (lv_at hl 3 rfl) ?_
      obtain ⟨z107, hz107, hf⟩ := bind_s hf
      refine xV_iu hx hb hml hown htg L10_75 (c_X10_takeTest l E a0 a1 a3 a4 a5 a6 a2 a7 a8 a9 a10 a11 hz107 _) ⟨⟨rfl, rfl⟩, Nat.le_of_ble_eq_true rfl, Nat.le_of_ble_eq_true rfl⟩ hK hG hA hP hD hS (is := [0, 1, 3, 4, 5, 6, 2, 7, 8, 9, 10, 11]) (sel := [some 0, some 1, some 6, some 2, some 3, some 4, some 5, some 7, some 8, some 9, some 10, some 11, none]) (ws2 := [(a0, o10 z107.2.1 a12), (a1, o8 z107.2.2.1 z107.2.2.2.1 a3 a4), (a2, o0 z107.2.2.2.2.1 a7 a8 a9 a10 a11), (a3, ab E 900 V3), (a4, al E 23 V4), (a5, o3 T5 u5_7 u5_8 a6 u5_10 u5_11 u5_12 u5_13 u5_14), (a6, al E 5 V6), (a7, ai E 60 z107.2.2.2.2.2.1), (a8, ai E 60 z107.2.2.2.2.2.2.1), (a9, ai E 60 z107.2.2.2.2.2.2.2.1), (a10, ai E 60 z107.2.2.2.2.2.2.2.2.1), (a11, ai E 60 z107.2.2.2.2.2.2.2.2.2), (a12, ai E 3 V12)]) rfl rfl rfl rfl rfl (xrecv hK hP (q0 := 0) (ci := 10) rfl rfl) rfl hl.1 rfl (Nat.le_of_ble_eq_true rfl) dX10_takeStep_107 (fun H locs hP hD hS => ?_)
      refine lv_goto (tgt := 122) hx hb dX10_takeStep_110 (by decide) ?_
      exact b122 z107.1 z107.2.1 z107.2.2.1 z107.2.2.2.1 z107.2.2.2.2.1 z107.2.2.2.2.2.1 z107.2.2.2.2.2.2.1 z107.2.2.2.2.2.2.2.1 z107.2.2.2.2.2.2.2.2.1 z107.2.2.2.2.2.2.2.2.2 V12 _ _ _ hf hP hD hS (lv_sub hl [1] rfl)
  have b50 : ∀ (x4 : Int32) (T0 : Nat → Int32) (T1 : Nat → Int32) (J1_8 : Int64) (T2 : Nat → Int32) (V7 : Nat → Int32) (V8 : Nat → Int32) (V9 : Nat → Int32) (V10 : Nat → Int32) (V11 : Nat → Int32) (V12 : Nat → Int32) (H : Heap) (locs : List Loc) (ls : Array Slot), f_X10_takeStep_50 V3 V4 T5 V6 x4 T0 T1 J1_8 T2 V7 V8 V9 V10 V11 V12 = some z → va_P E.1 vwCl [(a0, o10 T0 a12), (a1, o8 T1 J1_8 a3 a4), (a2, o0 T2 a7 a8 a9 a10 a11), (a3, ab E 900 V3), (a4, al E 23 V4), (a5, o3 T5 u5_7 u5_8 a6 u5_10 u5_11 u5_12 u5_13 u5_14), (a6, al E 5 V6), (a7, ai E 60 V7), (a8, ai E 60 V8), (a9, ai E 60 V9), (a10, ai E 60 V10), (a11, ai E 60 V11), (a12, ai E 3 V12)] H → va_D A [(a0, o10 T0 a12), (a1, o8 T1 J1_8 a3 a4), (a2, o0 T2 a7 a8 a9 a10 a11), (a3, ab E 900 V3), (a4, al E 23 V4), (a5, o3 T5 u5_7 u5_8 a6 u5_10 u5_11 u5_12 u5_13 u5_14), (a6, al E 5 V6), (a7, ai E 60 V7), (a8, ai E 60 V8), (a9, ai E 60 V9), (a10, ai E 60 V10), (a11, ai E 60 V11), (a12, ai E 3 V12)] → va_S A s.heap H locs → lv_has ls 6 [(0, .ref a0), (1, .ref a1), (2, .ref a5), (3, .ref a2), (4, .int x4)] → W p l e ({ frames := 4, cells := 0, slots := 0, locals := 91 } : Room) s m args below meth c H locs 0 0 Q (F0 m 50 ls []) := by
    intro x4 T0 T1 J1_8 T2 V7 V8 V9 V10 V11 V12 H locs ls hf hP hD hS hl
    unfold f_X10_takeStep_50 at hf
    refine lv_aload_n hx hb dX10_takeStep_50 rfl (lv_at hl 0 rfl) ?_
    refine G10_20 hx hb htg hown hK hP 0 rfl dX10_takeStep_51 ?_
    refine lv_aload_n hx hb dX10_takeStep_54 rfl (lv_at hl 0 rfl) ?_
    refine G10_11 hx hb htg hown hK hP 0 rfl dX10_takeStep_55 ?_
    refine va_alen (v := 3) hx hb hK hP 12 1 rfl rfl rfl dX10_takeStep_58 ?_
    refine lv_icmp_lt (tgt := 69) hx hb dX10_takeStep_59 (by decide) (fun c59 => ?_) (fun c59 => ?_)
    · have hf := it_t c59 hf
      refine lv_aload_n hx hb dX10_takeStep_69 rfl (lv_at hl 0 rfl) ?_
      refine G10_11 hx hb htg hown hK hP 0 rfl dX10_takeStep_70 ?_
      refine lv_aload_n hx hb dX10_takeStep_73 rfl (lv_at hl 0 rfl) ?_
      refine G10_20 hx hb htg hown hK hP 0 rfl dX10_takeStep_74 ?_
      refine lv_aload_n hx hb dX10_takeStep_77 rfl (lv_at hl 3 rfl) ?_
      refine G10_72 hx hb htg hown hK hP 2 rfl dX10_takeStep_78 ?_
      obtain ⟨g81, hf⟩ := ck_s hf
      refine xiast hx hb hK hP hD hS 12 rfl g81 dX10_takeStep_81 (fun H locs hP hD hS => ?_)
      refine lv_aload_n hx hb dX10_takeStep_82 rfl (lv_at hl 0 rfl) ?_
      refine lv_dup hx hb dX10_takeStep_83 rfl ?_
      refine G10_20 hx hb htg hown hK hP 0 rfl dX10_takeStep_84 ?_
      refine lv_iconst (v := 1) hx hb dX10_takeStep_87 rfl ?_
      refine lv_iadd hx hb dX10_takeStep_88 ?_
      refine P10_20 hx hb htg hown hK hP hD hS 0 rfl dX10_takeStep_89 (fun H locs hP hD hS => ?_)
      exact b92 x4 (upd T0 3 ((T0 3) + 1)) T1 J1_8 T2 V7 V8 V9 V10 V11 (upd V12 (Int32.toNatClampNeg (T0 3)) (T2 2)) _ _ _ hf hP hD hS (lv_sub hl [0, 1, 2, 3, 4] rfl)
    · have hf := it_f c59 hf
      refine lv_aload_n hx hb dX10_takeStep_62 rfl (lv_at hl 1 rfl) ?_
      refine lv_bipush (v := 7) hx hb dX10_takeStep_63 rfl ?_
      obtain ⟨z65, hz65, hf⟩ := bind_s hf
      refine xV_iu hx hb hml hown htg L10_46 (c_X8_blame l E a1 hz65 _) ⟨⟨rfl, rfl⟩, Nat.le_of_ble_eq_true rfl, Nat.le_of_ble_eq_true rfl⟩ hK hG hA hP hD hS (is := [1]) (sel := [none, some 0, none, none, none, none, none, none, none, none, none, none, none]) (ws2 := [(a0, o10 T0 a12), (a1, o8 z65.2 J1_8 a3 a4), (a2, o0 T2 a7 a8 a9 a10 a11), (a3, ab E 900 V3), (a4, al E 23 V4), (a5, o3 T5 u5_7 u5_8 a6 u5_10 u5_11 u5_12 u5_13 u5_14), (a6, al E 5 V6), (a7, ai E 60 V7), (a8, ai E 60 V8), (a9, ai E 60 V9), (a10, ai E 60 V10), (a11, ai E 60 V11), (a12, ai E 3 V12)]) rfl rfl rfl rfl rfl (xrecv hK hP (q0 := 1) (ci := 8) rfl rfl) rfl hl.1 rfl (Nat.le_of_ble_eq_true rfl) dX10_takeStep_65 (fun H locs hP hD hS => ?_)
      obtain ⟨g68, hf⟩ := ck_s hf
      exact ret (z65.1, T0, z65.2, J1_8, T2, V7, V8, V9, V10, V11, V12) hf (bz_n g68).1 hP hS dX10_takeStep_68
  unfold f_X10_takeStep at hf
  refine lv_aload_n hx hb dX10_takeStep_0 rfl (lv_at hl 1 rfl) ?_
  obtain ⟨z1, hz1, hf⟩ := bind_s hf
  refine xV_ir hx hb hml hown htg L10_62 (c_X8_word l E a1 hz1 _) ⟨⟨rfl, rfl⟩, Nat.le_of_ble_eq_true rfl, Nat.le_of_ble_eq_true rfl⟩ hK hG hA hP hD hS (is := [1]) rfl rfl (xrecv hK hP (q0 := 1) (ci := 8) rfl rfl) rfl hl.1 rfl (Nat.le_of_ble_eq_true rfl) dX10_takeStep_1 (fun H locs hP hD hS => ?_)
  refine lv_istore (lv' := [(4, .int z1), (0, .ref a0), (1, .ref a1), (2, .ref a5), (3, .ref a2)]) hx hb dX10_takeStep_4 hl (by decide) rfl (fun ls hl => ?_)
  refine lv_iload hx hb dX10_takeStep_6 (lv_at hl 0 rfl) ?_
  obtain ⟨z8, hz8, hf⟩ := bind_s hf
  refine xS_ir hx hb hml hown htg L10_66 (c_X10_beginsStep l E hz8 _) ⟨⟨rfl, rfl⟩, Nat.le_of_ble_eq_true rfl, Nat.le_of_ble_eq_true rfl⟩ hK hG hA hP hD hS (is := []) rfl rfl rfl hl.1 rfl (Nat.le_of_ble_eq_true rfl) dX10_takeStep_8 (fun H locs hP hD hS => ?_)
  refine lv_if_ne (tgt := 20) hx hb dX10_takeStep_11 (by decide) (fun c11 => ?_) (fun c11 => ?_)
  · have hf := it_f c11 hf
    refine lv_aload_n hx hb dX10_takeStep_20 rfl (lv_at hl 4 rfl) ?_
    refine G10_69 hx hb htg hown hK hP 2 rfl dX10_takeStep_21 ?_
    refine lv_bipush (v := 30) hx hb dX10_takeStep_24 rfl ?_
    refine lv_icmp_lt (tgt := 36) hx hb dX10_takeStep_26 (by decide) (fun c26 => ?_) (fun c26 => ?_)
    · have hf := it_t c26 hf
      refine lv_iload hx hb dX10_takeStep_36 (lv_at hl 0 rfl) ?_
      refine lv_bipush (v := 16) hx hb dX10_takeStep_38 rfl ?_
      refine lv_icmp_eq (tgt := 50) hx hb dX10_takeStep_40 (by decide) (fun c40 => ?_) (fun c40 => ?_)
      · have hf := it_t c40 hf
        exact b50 z1 T0 T1 J1_8 T2 V7 V8 V9 V10 V11 V12 _ _ _ hf hP hD hS (lv_sub hl [1, 2, 3, 4, 0] rfl)
      · have hf := it_f c40 hf
        refine lv_iload hx hb dX10_takeStep_43 (lv_at hl 0 rfl) ?_
        refine lv_bipush (v := 20) hx hb dX10_takeStep_45 rfl ?_
        refine lv_icmp_ne (tgt := 92) hx hb dX10_takeStep_47 (by decide) (fun c47 => ?_) (fun c47 => ?_)
        · have hf := it_f c47 hf
          exact b92 z1 T0 T1 J1_8 T2 V7 V8 V9 V10 V11 V12 _ _ _ hf hP hD hS (lv_sub hl [1, 2, 3, 4, 0] rfl)
        · have hf := it_t c47 hf
          exact b50 z1 T0 T1 J1_8 T2 V7 V8 V9 V10 V11 V12 _ _ _ hf hP hD hS (lv_sub hl [1, 2, 3, 4, 0] rfl)
    · have hf := it_f c26 hf
      refine lv_aload_n hx hb dX10_takeStep_29 rfl (lv_at hl 2 rfl) ?_
      refine lv_bipush (v := 6) hx hb dX10_takeStep_30 rfl ?_
      obtain ⟨z32, hz32, hf⟩ := bind_s hf
      refine xV_iu hx hb hml hown htg L10_46 (c_X8_blame l E a1 hz32 _) ⟨⟨rfl, rfl⟩, Nat.le_of_ble_eq_true rfl, Nat.le_of_ble_eq_true rfl⟩ hK hG hA hP hD hS (is := [1]) (sel := [none, some 0, none, none, none, none, none, none, none, none, none, none, none]) (ws2 := [(a0, o10 T0 a12), (a1, o8 z32.2 J1_8 a3 a4), (a2, o0 T2 a7 a8 a9 a10 a11), (a3, ab E 900 V3), (a4, al E 23 V4), (a5, o3 T5 u5_7 u5_8 a6 u5_10 u5_11 u5_12 u5_13 u5_14), (a6, al E 5 V6), (a7, ai E 60 V7), (a8, ai E 60 V8), (a9, ai E 60 V9), (a10, ai E 60 V10), (a11, ai E 60 V11), (a12, ai E 3 V12)]) rfl rfl rfl rfl rfl (xrecv hK hP (q0 := 1) (ci := 8) rfl rfl) rfl hl.1 rfl (Nat.le_of_ble_eq_true rfl) dX10_takeStep_32 (fun H locs hP hD hS => ?_)
      obtain ⟨g35, hf⟩ := ck_s hf
      exact ret (z32.1, T0, z32.2, J1_8, T2, V7, V8, V9, V10, V11, V12) hf (bz_n g35).1 hP hS dX10_takeStep_35
  · have hf := it_t c11 hf
    refine lv_aload_n hx hb dX10_takeStep_14 rfl (lv_at hl 2 rfl) ?_
    refine lv_iconst (v := 2) hx hb dX10_takeStep_15 rfl ?_
    obtain ⟨z16, hz16, hf⟩ := bind_s hf
    refine xV_iu hx hb hml hown htg L10_46 (c_X8_blame l E a1 hz16 _) ⟨⟨rfl, rfl⟩, Nat.le_of_ble_eq_true rfl, Nat.le_of_ble_eq_true rfl⟩ hK hG hA hP hD hS (is := [1]) (sel := [none, some 0, none, none, none, none, none, none, none, none, none, none, none]) (ws2 := [(a0, o10 T0 a12), (a1, o8 z16.2 J1_8 a3 a4), (a2, o0 T2 a7 a8 a9 a10 a11), (a3, ab E 900 V3), (a4, al E 23 V4), (a5, o3 T5 u5_7 u5_8 a6 u5_10 u5_11 u5_12 u5_13 u5_14), (a6, al E 5 V6), (a7, ai E 60 V7), (a8, ai E 60 V8), (a9, ai E 60 V9), (a10, ai E 60 V10), (a11, ai E 60 V11), (a12, ai E 3 V12)]) rfl rfl rfl rfl rfl (xrecv hK hP (q0 := 1) (ci := 8) rfl rfl) rfl hl.1 rfl (Nat.le_of_ble_eq_true rfl) dX10_takeStep_16 (fun H locs hP hD hS => ?_)
    obtain ⟨g19, hf⟩ := ck_s hf
    exact ret (z16.1, T0, z16.2, J1_8, T2, V7, V8, V9, V10, V11, V12) hf (bz_n g19).1 hP hS dX10_takeStep_19
theorem dX10_take_0 : decode cX10_take 0 = .ok (.aload 4, 2) := by decide +kernel
theorem dX10_take_2 : decode cX10_take 2 = .ok (.invokevirtual 17, 3) := by decide +kernel
theorem dX10_take_5 : decode cX10_take 5 = .ok (.aload_n 0, 1) := by decide +kernel
theorem dX10_take_6 : decode cX10_take 6 = .ok (.iconst 0, 1) := by decide +kernel
theorem dX10_take_7 : decode cX10_take 7 = .ok (.putfield 20, 3) := by decide +kernel
theorem dX10_take_10 : decode cX10_take 10 = .ok (.aload_n 1, 1) := by decide +kernel
theorem dX10_take_11 : decode cX10_take 11 = .ok (.iload_n 2, 1) := by decide +kernel
theorem dX10_take_12 : decode cX10_take 12 = .ok (.invokevirtual 24, 3) := by decide +kernel
theorem dX10_take_15 : decode cX10_take 15 = .ok (.iconst 0, 1) := by decide +kernel
theorem dX10_take_16 : decode cX10_take 16 = .ok (.istore 5, 2) := by decide +kernel
theorem dX10_take_18 : decode cX10_take 18 = .ok (.iload 5, 2) := by decide +kernel
theorem dX10_take_20 : decode cX10_take 20 = .ok (.iload_n 2, 1) := by decide +kernel
theorem dX10_take_21 : decode cX10_take 21 = .ok (.if_icmp .ge 52, 3) := by decide +kernel
theorem dX10_take_24 : decode cX10_take 24 = .ok (.aload_n 1, 1) := by decide +kernel
theorem dX10_take_25 : decode cX10_take 25 = .ok (.invokevirtual 30, 3) := by decide +kernel
theorem dX10_take_28 : decode cX10_take 28 = .ok (.ifCond .ne 45, 3) := by decide +kernel
theorem dX10_take_31 : decode cX10_take 31 = .ok (.aload_n 1, 1) := by decide +kernel
theorem dX10_take_32 : decode cX10_take 32 = .ok (.bipush 21, 2) := by decide +kernel
theorem dX10_take_34 : decode cX10_take 34 = .ok (.invokevirtual 34, 3) := by decide +kernel
theorem dX10_take_37 : decode cX10_take 37 = .ok (.ifCond .eq 13, 3) := by decide +kernel
theorem dX10_take_40 : decode cX10_take 40 = .ok (.aload_n 0, 1) := by decide +kernel
theorem dX10_take_41 : decode cX10_take 41 = .ok (.aload_n 1, 1) := by decide +kernel
theorem dX10_take_42 : decode cX10_take 42 = .ok (.aload 4, 2) := by decide +kernel
theorem dX10_take_44 : decode cX10_take 44 = .ok (.invokevirtual 38, 3) := by decide +kernel
theorem dX10_take_47 : decode cX10_take 47 = .ok (.goto 11, 3) := by decide +kernel
theorem dX10_take_50 : decode cX10_take 50 = .ok (.aload_n 0, 1) := by decide +kernel
theorem dX10_take_51 : decode cX10_take 51 = .ok (.aload_n 1, 1) := by decide +kernel
theorem dX10_take_52 : decode cX10_take 52 = .ok (.aload_n 3, 1) := by decide +kernel
theorem dX10_take_53 : decode cX10_take 53 = .ok (.aload 4, 2) := by decide +kernel
theorem dX10_take_55 : decode cX10_take 55 = .ok (.invokevirtual 42, 3) := by decide +kernel
theorem dX10_take_58 : decode cX10_take 58 = .ok (.istore 6, 2) := by decide +kernel
theorem dX10_take_60 : decode cX10_take 60 = .ok (.iload 6, 2) := by decide +kernel
theorem dX10_take_62 : decode cX10_take 62 = .ok (.ifCond .ne 5, 3) := by decide +kernel
theorem dX10_take_65 : decode cX10_take 65 = .ok (.iconst 0, 1) := by decide +kernel
theorem dX10_take_66 : decode cX10_take 66 = .ok (.ireturn, 1) := by decide +kernel
theorem dX10_take_67 : decode cX10_take 67 = .ok (.iinc 5 1, 3) := by decide +kernel
theorem dX10_take_70 : decode cX10_take 70 = .ok (.goto (-52), 3) := by decide +kernel
theorem dX10_take_73 : decode cX10_take 73 = .ok (.aload_n 0, 1) := by decide +kernel
theorem dX10_take_74 : decode cX10_take 74 = .ok (.getfield 20, 3) := by decide +kernel
theorem dX10_take_77 : decode cX10_take 77 = .ok (.ifCond .le 9, 3) := by decide +kernel
theorem dX10_take_80 : decode cX10_take 80 = .ok (.aload_n 1, 1) := by decide +kernel
theorem dX10_take_81 : decode cX10_take 81 = .ok (.iconst 2, 1) := by decide +kernel
theorem dX10_take_82 : decode cX10_take 82 = .ok (.invokevirtual 46, 3) := by decide +kernel
theorem dX10_take_85 : decode cX10_take 85 = .ok (.ireturn, 1) := by decide +kernel
theorem dX10_take_86 : decode cX10_take 86 = .ok (.aload 4, 2) := by decide +kernel
theorem dX10_take_88 : decode cX10_take 88 = .ok (.iconst 1, 1) := by decide +kernel
theorem dX10_take_89 : decode cX10_take 89 = .ok (.putfield 49, 3) := by decide +kernel
theorem dX10_take_92 : decode cX10_take 92 = .ok (.iconst 1, 1) := by decide +kernel
theorem dX10_take_93 : decode cX10_take 93 = .ok (.ireturn, 1) := by decide +kernel
set_option maxRecDepth 100000 in
theorem c_X10_take (l : Launch) (E : xE) (a0 a1 a2 a3 a4 a5 a6 a7 a8 a9 a10 a11 a12 : Nat) {T0 : Nat → Int32} {T1 : Nat → Int32} {J1_8 : Int64} {T2 : Nat → Int32} {T3 : Nat → Int32} {V4 : Nat → Int32} {V5 : Nat → Int64} {V6 : Nat → Int64} {V7 : Nat → Int32} {V8 : Nat → Int32} {V9 : Nat → Int32} {V10 : Nat → Int32} {V11 : Nat → Int32} {V12 : Nat → Int32} {u2_7 u2_8 u2_10 u2_11 u2_12 u2_13 u2_14 : Nat} {x2 : Int32} {z : Int32 × (Nat → Int32) × (Nat → Int32) × Int64 × (Nat → Int32) × (Nat → Int32) × (Nat → Int32) × (Nat → Int32) × (Nat → Int32) × (Nat → Int32) × (Nat → Int32)} (hf : f_X10_take T0 T1 J1_8 T2 T3 V4 V5 V6 V7 V8 V9 V10 V11 V12 x2 = some z) (sz : Nat) : Met l yX10_take (Cond.code yX10_take cX10_take 7 (some .boolean) :: gw) ({ frames := 5, cells := 0, slots := 0, locals := 116 }) (xPc E [.ref a0, .ref a1, .int x2, .ref a2, .ref a3] [(a0, o10 T0 a12), (a1, o8 T1 J1_8 a4 a5), (a2, o3 T2 u2_7 u2_8 a6 u2_10 u2_11 u2_12 u2_13 u2_14), (a3, o0 T3 a7 a8 a9 a10 a11), (a4, ab E 900 V4), (a5, al E 23 V5), (a6, al E 5 V6), (a7, ai E 60 V7), (a8, ai E 60 V8), (a9, ai E 60 V9), (a10, ai E 60 V10), (a11, ai E 60 V11), (a12, ai E 3 V12)] sz) (xQi E z.1 [(a0, o10 T0 a12), (a1, o8 T1 J1_8 a4 a5), (a2, o3 T2 u2_7 u2_8 a6 u2_10 u2_11 u2_12 u2_13 u2_14), (a3, o0 T3 a7 a8 a9 a10 a11), (a4, ab E 900 V4), (a5, al E 23 V5), (a6, al E 5 V6), (a7, ai E 60 V7), (a8, ai E 60 V8), (a9, ai E 60 V9), (a10, ai E 60 V10), (a11, ai E 60 V11), (a12, ai E 3 V12)] [(a0, o10 z.2.1 a12), (a1, o8 z.2.2.1 z.2.2.2.1 a4 a5), (a2, o3 T2 u2_7 u2_8 a6 u2_10 u2_11 u2_12 u2_13 u2_14), (a3, o0 z.2.2.2.2.1 a7 a8 a9 a10 a11), (a4, ab E 900 V4), (a5, al E 23 V5), (a6, al E 5 V6), (a7, ai E 60 z.2.2.2.2.2.1), (a8, ai E 60 z.2.2.2.2.2.2.1), (a9, ai E 60 z.2.2.2.2.2.2.2.1), (a10, ai E 60 z.2.2.2.2.2.2.2.2.1), (a11, ai E 60 z.2.2.2.2.2.2.2.2.2.1), (a12, ai E 3 z.2.2.2.2.2.2.2.2.2.2)] sz) 0 0 (va_A [(a0, o10 T0 a12), (a1, o8 T1 J1_8 a4 a5), (a2, o3 T2 u2_7 u2_8 a6 u2_10 u2_11 u2_12 u2_13 u2_14), (a3, o0 T3 a7 a8 a9 a10 a11), (a4, ab E 900 V4), (a5, al E 23 V5), (a6, al E 5 V6), (a7, ai E 60 V7), (a8, ai E 60 V8), (a9, ai E 60 V9), (a10, ai E 60 V10), (a11, ai E 60 V11), (a12, ai E 3 V12)] sz) := by
  refine xM_i (by decide +kernel) (Nat.le_of_ble_eq_true rfl) ?_
  intro p e s m args below meth c A Q hx hb hml hown htg hK hG hA ret0 H locs ls hP hD hS hl
  have ret : ∀ (z' : Int32 × (Nat → Int32) × (Nat → Int32) × Int64 × (Nat → Int32) × (Nat → Int32) × (Nat → Int32) × (Nat → Int32) × (Nat → Int32) × (Nat → Int32) × (Nat → Int32)) {H : Heap} {locs : List Loc} {pc : Nat} {ls : Array Slot}, some z' = some z → narrow .boolean (.int z'.1) = .int z'.1 → va_P E.1 vwCl [(a0, o10 z'.2.1 a12), (a1, o8 z'.2.2.1 z'.2.2.2.1 a4 a5), (a2, o3 T2 u2_7 u2_8 a6 u2_10 u2_11 u2_12 u2_13 u2_14), (a3, o0 z'.2.2.2.2.1 a7 a8 a9 a10 a11), (a4, ab E 900 V4), (a5, al E 23 V5), (a6, al E 5 V6), (a7, ai E 60 z'.2.2.2.2.2.1), (a8, ai E 60 z'.2.2.2.2.2.2.1), (a9, ai E 60 z'.2.2.2.2.2.2.2.1), (a10, ai E 60 z'.2.2.2.2.2.2.2.2.1), (a11, ai E 60 z'.2.2.2.2.2.2.2.2.2.1), (a12, ai E 3 z'.2.2.2.2.2.2.2.2.2.2)] H → va_S A s.heap H locs → decode cX10_take pc = .ok (.ireturn, 1) → W p l e ({ frames := 5, cells := 0, slots := 0, locals := 116 } : Room) s m args below meth c H locs 0 0 Q (F0 m pc ls [.int z'.1]) := by
    intro z' H locs pc ls h
    cases h
    exact ret0
  replace hl : lv_has ls 7 [(0, .ref a0), (1, .ref a1), (2, .int x2), (3, .ref a2), (4, .ref a3)] := hl
  have b73 : ∀ (T0 : Nat → Int32) (T1 : Nat → Int32) (J1_8 : Int64) (T3 : Nat → Int32) (V7 : Nat → Int32) (V8 : Nat → Int32) (V9 : Nat → Int32) (V10 : Nat → Int32) (V11 : Nat → Int32) (V12 : Nat → Int32) (H : Heap) (locs : List Loc) (ls : Array Slot), f_X10_take_73 T2 V4 V5 V6 x2 T0 T1 J1_8 T3 V7 V8 V9 V10 V11 V12 = some z → va_P E.1 vwCl [(a0, o10 T0 a12), (a1, o8 T1 J1_8 a4 a5), (a2, o3 T2 u2_7 u2_8 a6 u2_10 u2_11 u2_12 u2_13 u2_14), (a3, o0 T3 a7 a8 a9 a10 a11), (a4, ab E 900 V4), (a5, al E 23 V5), (a6, al E 5 V6), (a7, ai E 60 V7), (a8, ai E 60 V8), (a9, ai E 60 V9), (a10, ai E 60 V10), (a11, ai E 60 V11), (a12, ai E 3 V12)] H → va_D A [(a0, o10 T0 a12), (a1, o8 T1 J1_8 a4 a5), (a2, o3 T2 u2_7 u2_8 a6 u2_10 u2_11 u2_12 u2_13 u2_14), (a3, o0 T3 a7 a8 a9 a10 a11), (a4, ab E 900 V4), (a5, al E 23 V5), (a6, al E 5 V6), (a7, ai E 60 V7), (a8, ai E 60 V8), (a9, ai E 60 V9), (a10, ai E 60 V10), (a11, ai E 60 V11), (a12, ai E 3 V12)] → va_S A s.heap H locs → lv_has ls 7 [(0, .ref a0), (1, .ref a1), (4, .ref a3)] → W p l e ({ frames := 5, cells := 0, slots := 0, locals := 116 } : Room) s m args below meth c H locs 0 0 Q (F0 m 73 ls []) := by
    intro T0 T1 J1_8 T3 V7 V8 V9 V10 V11 V12 H locs ls hf hP hD hS hl
    unfold f_X10_take_73 at hf
    refine lv_aload_n hx hb dX10_take_73 rfl (lv_at hl 0 rfl) ?_
    refine G10_20 hx hb htg hown hK hP 0 rfl dX10_take_74 ?_
    refine lv_if_le (tgt := 86) hx hb dX10_take_77 (by decide) (fun c77 => ?_) (fun c77 => ?_)
    · have hf := it_t c77 hf
      refine lv_aload hx hb dX10_take_86 (lv_at hl 2 rfl) ?_
      refine lv_iconst (v := 1) hx hb dX10_take_88 rfl ?_
      refine P10_49 hx hb htg hown hK hP hD hS 3 rfl rfl dX10_take_89 (fun H locs hP hD hS => ?_)
      refine lv_iconst (v := 1) hx hb dX10_take_92 rfl ?_
      exact ret (1, T0, T1, J1_8, upd T3 0 1, V7, V8, V9, V10, V11, V12) hf nz1 hP hS dX10_take_93
    · have hf := it_f c77 hf
      refine lv_aload_n hx hb dX10_take_80 rfl (lv_at hl 1 rfl) ?_
      refine lv_iconst (v := 2) hx hb dX10_take_81 rfl ?_
      obtain ⟨z82, hz82, hf⟩ := bind_s hf
      refine xV_iu hx hb hml hown htg L10_46 (c_X8_blame l E a1 hz82 _) ⟨⟨rfl, rfl⟩, Nat.le_of_ble_eq_true rfl, Nat.le_of_ble_eq_true rfl⟩ hK hG hA hP hD hS (is := [1]) (sel := [none, some 0, none, none, none, none, none, none, none, none, none, none, none]) (ws2 := [(a0, o10 T0 a12), (a1, o8 z82.2 J1_8 a4 a5), (a2, o3 T2 u2_7 u2_8 a6 u2_10 u2_11 u2_12 u2_13 u2_14), (a3, o0 T3 a7 a8 a9 a10 a11), (a4, ab E 900 V4), (a5, al E 23 V5), (a6, al E 5 V6), (a7, ai E 60 V7), (a8, ai E 60 V8), (a9, ai E 60 V9), (a10, ai E 60 V10), (a11, ai E 60 V11), (a12, ai E 3 V12)]) rfl rfl rfl rfl rfl (xrecv hK hP (q0 := 1) (ci := 8) rfl rfl) rfl hl.1 rfl (Nat.le_of_ble_eq_true rfl) dX10_take_82 (fun H locs hP hD hS => ?_)
      obtain ⟨g85, hf⟩ := ck_s hf
      exact ret (z82.1, T0, z82.2, J1_8, T3, V7, V8, V9, V10, V11, V12) hf (bz_n g85).1 hP hS dX10_take_85
  have b18 : ∀ (n : Nat) (x5 : Int32) (T0 : Nat → Int32) (T1 : Nat → Int32) (J1_8 : Int64) (T3 : Nat → Int32) (V7 : Nat → Int32) (V8 : Nat → Int32) (V9 : Nat → Int32) (V10 : Nat → Int32) (V11 : Nat → Int32) (V12 : Nat → Int32) (H : Heap) (locs : List Loc) (ls : Array Slot), f_X10_take_18 T2 V4 V5 V6 x2 n x5 T0 T1 J1_8 T3 V7 V8 V9 V10 V11 V12 = some z → va_P E.1 vwCl [(a0, o10 T0 a12), (a1, o8 T1 J1_8 a4 a5), (a2, o3 T2 u2_7 u2_8 a6 u2_10 u2_11 u2_12 u2_13 u2_14), (a3, o0 T3 a7 a8 a9 a10 a11), (a4, ab E 900 V4), (a5, al E 23 V5), (a6, al E 5 V6), (a7, ai E 60 V7), (a8, ai E 60 V8), (a9, ai E 60 V9), (a10, ai E 60 V10), (a11, ai E 60 V11), (a12, ai E 3 V12)] H → va_D A [(a0, o10 T0 a12), (a1, o8 T1 J1_8 a4 a5), (a2, o3 T2 u2_7 u2_8 a6 u2_10 u2_11 u2_12 u2_13 u2_14), (a3, o0 T3 a7 a8 a9 a10 a11), (a4, ab E 900 V4), (a5, al E 23 V5), (a6, al E 5 V6), (a7, ai E 60 V7), (a8, ai E 60 V8), (a9, ai E 60 V9), (a10, ai E 60 V10), (a11, ai E 60 V11), (a12, ai E 3 V12)] → va_S A s.heap H locs → lv_has ls 7 [(0, .ref a0), (1, .ref a1), (2, .int x2), (3, .ref a2), (4, .ref a3), (5, .int x5)] → W p l e ({ frames := 5, cells := 0, slots := 0, locals := 116 } : Room) s m args below meth c H locs 0 0 Q (F0 m 18 ls []) := by
    intro n
    induction n with
    | zero => intro x5 T0 T1 J1_8 T3 V7 V8 V9 V10 V11 V12 H locs ls hf; exact (nn_s hf).elim
    | succ n ih18 =>
      obtain ⟨k18, ek18⟩ : ∃ k, k = f_X10_take_18 T2 V4 V5 V6 x2 n := ⟨_, rfl⟩
      rw [← ek18] at ih18
      have b58 : ∀ (x5 : Int32) (s0 : Int32) (T0 : Nat → Int32) (T1 : Nat → Int32) (J1_8 : Int64) (T3 : Nat → Int32) (V7 : Nat → Int32) (V8 : Nat → Int32) (V9 : Nat → Int32) (V10 : Nat → Int32) (V11 : Nat → Int32) (V12 : Nat → Int32) (H : Heap) (locs : List Loc) (ls : Array Slot), f_X10_take_58 T2 V4 V5 V6 x2 k18 x5 s0 T0 T1 J1_8 T3 V7 V8 V9 V10 V11 V12 = some z → va_P E.1 vwCl [(a0, o10 T0 a12), (a1, o8 T1 J1_8 a4 a5), (a2, o3 T2 u2_7 u2_8 a6 u2_10 u2_11 u2_12 u2_13 u2_14), (a3, o0 T3 a7 a8 a9 a10 a11), (a4, ab E 900 V4), (a5, al E 23 V5), (a6, al E 5 V6), (a7, ai E 60 V7), (a8, ai E 60 V8), (a9, ai E 60 V9), (a10, ai E 60 V10), (a11, ai E 60 V11), (a12, ai E 3 V12)] H → va_D A [(a0, o10 T0 a12), (a1, o8 T1 J1_8 a4 a5), (a2, o3 T2 u2_7 u2_8 a6 u2_10 u2_11 u2_12 u2_13 u2_14), (a3, o0 T3 a7 a8 a9 a10 a11), (a4, ab E 900 V4), (a5, al E 23 V5), (a6, al E 5 V6), (a7, ai E 60 V7), (a8, ai E 60 V8), (a9, ai E 60 V9), (a10, ai E 60 V10), (a11, ai E 60 V11), (a12, ai E 3 V12)] → va_S A s.heap H locs → lv_has ls 7 [(0, .ref a0), (1, .ref a1), (2, .int x2), (3, .ref a2), (4, .ref a3), (5, .int x5)] → W p l e ({ frames := 5, cells := 0, slots := 0, locals := 116 } : Room) s m args below meth c H locs 0 0 Q (F0 m 58 ls [.int s0]) := by
        intro x5 s0 T0 T1 J1_8 T3 V7 V8 V9 V10 V11 V12 H locs ls hf hP hD hS hl
        unfold f_X10_take_58 at hf
        refine lv_istore (lv' := [(6, .int s0), (0, .ref a0), (1, .ref a1), (2, .int x2), (3, .ref a2), (4, .ref a3), (5, .int x5)]) hx hb dX10_take_58 hl (by decide) rfl (fun ls hl => ?_)
        refine lv_iload hx hb dX10_take_60 (lv_at hl 0 rfl) ?_
        refine lv_if_ne (tgt := 67) hx hb dX10_take_62 (by decide) (fun c62 => ?_) (fun c62 => ?_)
        · have hf := it_f c62 hf
          refine lv_iinc (v := x5 + 1) (lv' := [(5, .int (x5 + 1)), (6, .int s0), (0, .ref a0), (1, .ref a1), (2, .int x2), (3, .ref a2), (4, .ref a3)]) hx hb dX10_take_67 hl (k := 6) rfl rfl (by decide) rfl (fun ls hl => ?_)
          refine lv_goto (tgt := 18) hx hb dX10_take_70 (by decide) ?_
          exact ih18 (x5 + 1) T0 T1 J1_8 T3 V7 V8 V9 V10 V11 V12 _ _ _ hf hP hD hS (lv_sub hl [2, 3, 4, 5, 6, 0] rfl)
        · have hf := it_t c62 hf
          refine lv_iconst (v := 0) hx hb dX10_take_65 rfl ?_
          exact ret (0, T0, T1, J1_8, T3, V7, V8, V9, V10, V11, V12) hf nz0 hP hS dX10_take_66
      intro x5 T0 T1 J1_8 T3 V7 V8 V9 V10 V11 V12 H locs ls hf hP hD hS hl
      replace hf : g_X10_take_18 T2 V4 V5 V6 x2 k18 x5 T0 T1 J1_8 T3 V7 V8 V9 V10 V11 V12 = some z := by rw [ek18]; exact hf
      unfold g_X10_take_18 at hf
      refine lv_iload hx hb dX10_take_18 (lv_at hl 5 rfl) ?_
      refine lv_iload_n hx hb dX10_take_20 rfl (lv_at hl 2 rfl) ?_
      refine lv_icmp_ge (tgt := 73) hx hb dX10_take_21 (by decide) (fun c21 => ?_) (fun c21 => ?_)
      · have hf := it_t c21 hf
        exact b73 T0 T1 J1_8 T3 V7 V8 V9 V10 V11 V12 _ _ _ hf hP hD hS (lv_sub hl [0, 1, 4] rfl)
      · have hf := it_f c21 hf
        refine lv_aload_n hx hb dX10_take_24 rfl (lv_at hl 1 rfl) ?_
        obtain ⟨z25, hz25, hf⟩ := bind_s hf
        refine xV_ir hx hb hml hown htg L10_30 (c_X8_atEnd l E a1 hz25 _) ⟨⟨rfl, rfl⟩, Nat.le_of_ble_eq_true rfl, Nat.le_of_ble_eq_true rfl⟩ hK hG hA hP hD hS (is := [1]) rfl rfl (xrecv hK hP (q0 := 1) (ci := 8) rfl rfl) rfl hl.1 rfl (Nat.le_of_ble_eq_true rfl) dX10_take_25 (fun H locs hP hD hS => ?_)
        refine lv_if_ne (tgt := 73) hx hb dX10_take_28 (by decide) (fun c28 => ?_) (fun c28 => ?_)
        · have hf := it_f c28 hf
          exact b73 T0 T1 J1_8 T3 V7 V8 V9 V10 V11 V12 _ _ _ hf hP hD hS (lv_sub hl [0, 1, 4] rfl)
        · have hf := it_t c28 hf
          refine lv_aload_n hx hb dX10_take_31 rfl (lv_at hl 1 rfl) ?_
          refine lv_bipush (v := 21) hx hb dX10_take_32 rfl ?_
          obtain ⟨z34, hz34, hf⟩ := bind_s hf
          refine xV_ir hx hb hml hown htg L10_34 (c_X8_isWord l E a1 hz34 _) ⟨⟨rfl, rfl⟩, Nat.le_of_ble_eq_true rfl, Nat.le_of_ble_eq_true rfl⟩ hK hG hA hP hD hS (is := [1]) rfl rfl (xrecv hK hP (q0 := 1) (ci := 8) rfl rfl) rfl hl.1 rfl (Nat.le_of_ble_eq_true rfl) dX10_take_34 (fun H locs hP hD hS => ?_)
          refine lv_if_eq (tgt := 50) hx hb dX10_take_37 (by decide) (fun c37 => ?_) (fun c37 => ?_)
          · have hf := it_t c37 hf
            refine lv_aload_n hx hb dX10_take_50 rfl (lv_at hl 0 rfl) ?_
            refine lv_aload_n hx hb dX10_take_51 rfl (lv_at hl 1 rfl) ?_
            refine lv_aload_n hx hb dX10_take_52 rfl (lv_at hl 3 rfl) ?_
            refine lv_aload hx hb dX10_take_53 (lv_at hl 4 rfl) ?_
            obtain ⟨z55, hz55, hf⟩ := bind_s hf
            refine xV_iu hx hb hml hown htg L10_42 (c_X10_takeStep l E a0 a1 a3 a4 a5 a2 a6 a7 a8 a9 a10 a11 a12 hz55 _) ⟨⟨rfl, rfl⟩, Nat.le_of_ble_eq_true rfl, Nat.le_of_ble_eq_true rfl⟩ hK hG hA hP hD hS (is := [0, 1, 3, 4, 5, 2, 6, 7, 8, 9, 10, 11, 12]) (sel := [some 0, some 1, some 5, some 2, some 3, some 4, some 6, some 7, some 8, some 9, some 10, some 11, some 12]) (ws2 := [(a0, o10 z55.2.1 a12), (a1, o8 z55.2.2.1 z55.2.2.2.1 a4 a5), (a2, o3 T2 u2_7 u2_8 a6 u2_10 u2_11 u2_12 u2_13 u2_14), (a3, o0 z55.2.2.2.2.1 a7 a8 a9 a10 a11), (a4, ab E 900 V4), (a5, al E 23 V5), (a6, al E 5 V6), (a7, ai E 60 z55.2.2.2.2.2.1), (a8, ai E 60 z55.2.2.2.2.2.2.1), (a9, ai E 60 z55.2.2.2.2.2.2.2.1), (a10, ai E 60 z55.2.2.2.2.2.2.2.2.1), (a11, ai E 60 z55.2.2.2.2.2.2.2.2.2.1), (a12, ai E 3 z55.2.2.2.2.2.2.2.2.2.2)]) rfl rfl rfl rfl rfl (xrecv hK hP (q0 := 0) (ci := 10) rfl rfl) rfl hl.1 rfl (Nat.le_of_ble_eq_true rfl) dX10_take_55 (fun H locs hP hD hS => ?_)
            exact b58 x5 z55.1 z55.2.1 z55.2.2.1 z55.2.2.2.1 z55.2.2.2.2.1 z55.2.2.2.2.2.1 z55.2.2.2.2.2.2.1 z55.2.2.2.2.2.2.2.1 z55.2.2.2.2.2.2.2.2.1 z55.2.2.2.2.2.2.2.2.2.1 z55.2.2.2.2.2.2.2.2.2.2 _ _ _ hf hP hD hS (lv_sub hl [0, 1, 2, 3, 4, 5] rfl)
          · have hf := it_f c37 hf
            refine lv_aload_n hx hb dX10_take_40 rfl (lv_at hl 0 rfl) ?_
            refine lv_aload_n hx hb dX10_take_41 rfl (lv_at hl 1 rfl) ?_
            refine lv_aload hx hb dX10_take_42 (lv_at hl 4 rfl) ?_
            obtain ⟨z44, hz44, hf⟩ := bind_s hf
            refine xV_iu hx hb hml hown htg L10_38 (c_X10_takeEnd l E a0 a1 a12 a3 a7 a8 a9 a10 a11 a4 a5 hz44 _) ⟨⟨rfl, rfl⟩, Nat.le_of_ble_eq_true rfl, Nat.le_of_ble_eq_true rfl⟩ hK hG hA hP hD hS (is := [0, 1, 12, 3, 7, 8, 9, 10, 11, 4, 5]) (sel := [some 0, some 1, none, some 3, some 9, some 10, none, some 4, some 5, some 6, some 7, some 8, some 2]) (ws2 := [(a0, o10 z44.2.1 a12), (a1, o8 z44.2.2.1 z44.2.2.2.1 a4 a5), (a2, o3 T2 u2_7 u2_8 a6 u2_10 u2_11 u2_12 u2_13 u2_14), (a3, o0 z44.2.2.2.2.1 a7 a8 a9 a10 a11), (a4, ab E 900 V4), (a5, al E 23 V5), (a6, al E 5 V6), (a7, ai E 60 z44.2.2.2.2.2.1), (a8, ai E 60 z44.2.2.2.2.2.2.1), (a9, ai E 60 z44.2.2.2.2.2.2.2.1), (a10, ai E 60 z44.2.2.2.2.2.2.2.2.1), (a11, ai E 60 z44.2.2.2.2.2.2.2.2.2), (a12, ai E 3 V12)]) rfl rfl rfl rfl rfl (xrecv hK hP (q0 := 0) (ci := 10) rfl rfl) rfl hl.1 rfl (Nat.le_of_ble_eq_true rfl) dX10_take_44 (fun H locs hP hD hS => ?_)
            refine lv_goto (tgt := 58) hx hb dX10_take_47 (by decide) ?_
            exact b58 x5 z44.1 z44.2.1 z44.2.2.1 z44.2.2.2.1 z44.2.2.2.2.1 z44.2.2.2.2.2.1 z44.2.2.2.2.2.2.1 z44.2.2.2.2.2.2.2.1 z44.2.2.2.2.2.2.2.2.1 z44.2.2.2.2.2.2.2.2.2 V12 _ _ _ hf hP hD hS (lv_sub hl [0, 1, 2, 3, 4, 5] rfl)
  unfold f_X10_take at hf
  refine lv_aload hx hb dX10_take_0 (lv_at hl 4 rfl) ?_
  obtain ⟨z2, hz2, hf⟩ := bind_s hf
  refine xV_vu hx hb hml hown htg L10_17 (c_X0_clear l E a3 hz2 _) ⟨⟨rfl, rfl⟩, Nat.le_of_ble_eq_true rfl, Nat.le_of_ble_eq_true rfl⟩ hK hG hA hP hD hS (is := [3]) (sel := [none, none, none, some 0, none, none, none, none, none, none, none, none, none]) (ws2 := [(a0, o10 T0 a12), (a1, o8 T1 J1_8 a4 a5), (a2, o3 T2 u2_7 u2_8 a6 u2_10 u2_11 u2_12 u2_13 u2_14), (a3, o0 z2 a7 a8 a9 a10 a11), (a4, ab E 900 V4), (a5, al E 23 V5), (a6, al E 5 V6), (a7, ai E 60 V7), (a8, ai E 60 V8), (a9, ai E 60 V9), (a10, ai E 60 V10), (a11, ai E 60 V11), (a12, ai E 3 V12)]) rfl rfl rfl rfl rfl (xrecv hK hP (q0 := 3) (ci := 0) rfl rfl) rfl hl.1 rfl (Nat.le_of_ble_eq_true rfl) dX10_take_2 (fun H locs hP hD hS => ?_)
  refine lv_aload_n hx hb dX10_take_5 rfl (lv_at hl 0 rfl) ?_
  refine lv_iconst (v := 0) hx hb dX10_take_6 rfl ?_
  refine P10_20 hx hb htg hown hK hP hD hS 0 rfl dX10_take_7 (fun H locs hP hD hS => ?_)
  refine lv_aload_n hx hb dX10_take_10 rfl (lv_at hl 1 rfl) ?_
  refine lv_iload_n hx hb dX10_take_11 rfl (lv_at hl 2 rfl) ?_
  obtain ⟨z12, hz12, hf⟩ := bind_s hf
  refine xV_vu hx hb hml hown htg L10_24 (c_X8_begin l E a1 a4 a5 hz12 _) ⟨⟨rfl, rfl⟩, Nat.le_of_ble_eq_true rfl, Nat.le_of_ble_eq_true rfl⟩ hK hG hA hP hD hS (is := [1, 4, 5]) (sel := [none, some 0, none, none, some 1, some 2, none, none, none, none, none, none, none]) (ws2 := [(a0, o10 (upd T0 3 0) a12), (a1, o8 z12.1 z12.2 a4 a5), (a2, o3 T2 u2_7 u2_8 a6 u2_10 u2_11 u2_12 u2_13 u2_14), (a3, o0 z2 a7 a8 a9 a10 a11), (a4, ab E 900 V4), (a5, al E 23 V5), (a6, al E 5 V6), (a7, ai E 60 V7), (a8, ai E 60 V8), (a9, ai E 60 V9), (a10, ai E 60 V10), (a11, ai E 60 V11), (a12, ai E 3 V12)]) rfl rfl rfl rfl rfl (xrecv hK hP (q0 := 1) (ci := 8) rfl rfl) rfl hl.1 rfl (Nat.le_of_ble_eq_true rfl) dX10_take_12 (fun H locs hP hD hS => ?_)
  refine lv_iconst (v := 0) hx hb dX10_take_15 rfl ?_
  refine lv_istore (lv' := [(5, .int 0), (0, .ref a0), (1, .ref a1), (2, .int x2), (3, .ref a2), (4, .ref a3)]) hx hb dX10_take_16 hl (by decide) rfl (fun ls hl => ?_)
  exact b18 xF 0 (upd T0 3 0) z12.1 z12.2 z2 V7 V8 V9 V10 V11 V12 _ _ _ hf hP hD hS (lv_sub hl [1, 2, 3, 4, 5, 0] rfl)
