theorem dX10_takeEnd_0 : decode cX10_takeEnd 0 = .ok (.aload_n 0, 1) := by decide +kernel
theorem dX10_takeEnd_1 : decode cX10_takeEnd 1 = .ok (.getfield 28, 3) := by decide +kernel
theorem dX10_takeEnd_4 : decode cX10_takeEnd 4 = .ok (.ifCond .le 15, 3) := by decide +kernel
theorem dX10_takeEnd_7 : decode cX10_takeEnd 7 = .ok (.aload_n 0, 1) := by decide +kernel
theorem dX10_takeEnd_8 : decode cX10_takeEnd 8 = .ok (.getfield 28, 3) := by decide +kernel
theorem dX10_takeEnd_11 : decode cX10_takeEnd 11 = .ok (.aload_n 0, 1) := by decide +kernel
theorem dX10_takeEnd_12 : decode cX10_takeEnd 12 = .ok (.getfield 11, 3) := by decide +kernel
theorem dX10_takeEnd_15 : decode cX10_takeEnd 15 = .ok (.arraylength, 1) := by decide +kernel
theorem dX10_takeEnd_16 : decode cX10_takeEnd 16 = .ok (.if_icmp .le 9, 3) := by decide +kernel
theorem dX10_takeEnd_19 : decode cX10_takeEnd 19 = .ok (.aload_n 1, 1) := by decide +kernel
theorem dX10_takeEnd_20 : decode cX10_takeEnd 20 = .ok (.iconst 2, 1) := by decide +kernel
theorem dX10_takeEnd_21 : decode cX10_takeEnd 21 = .ok (.invokevirtual 53, 3) := by decide +kernel
theorem dX10_takeEnd_24 : decode cX10_takeEnd 24 = .ok (.ireturn, 1) := by decide +kernel
theorem dX10_takeEnd_25 : decode cX10_takeEnd 25 = .ok (.aload_n 0, 1) := by decide +kernel
theorem dX10_takeEnd_26 : decode cX10_takeEnd 26 = .ok (.dup, 1) := by decide +kernel
theorem dX10_takeEnd_27 : decode cX10_takeEnd 27 = .ok (.getfield 28, 3) := by decide +kernel
theorem dX10_takeEnd_30 : decode cX10_takeEnd 30 = .ok (.iconst 1, 1) := by decide +kernel
theorem dX10_takeEnd_31 : decode cX10_takeEnd 31 = .ok (.isub, 1) := by decide +kernel
theorem dX10_takeEnd_32 : decode cX10_takeEnd 32 = .ok (.putfield 28, 3) := by decide +kernel
theorem dX10_takeEnd_35 : decode cX10_takeEnd 35 = .ok (.aload_n 0, 1) := by decide +kernel
theorem dX10_takeEnd_36 : decode cX10_takeEnd 36 = .ok (.getfield 24, 3) := by decide +kernel
theorem dX10_takeEnd_39 : decode cX10_takeEnd 39 = .ok (.aload_n 0, 1) := by decide +kernel
theorem dX10_takeEnd_40 : decode cX10_takeEnd 40 = .ok (.getfield 11, 3) := by decide +kernel
theorem dX10_takeEnd_43 : decode cX10_takeEnd 43 = .ok (.aload_n 0, 1) := by decide +kernel
theorem dX10_takeEnd_44 : decode cX10_takeEnd 44 = .ok (.getfield 28, 3) := by decide +kernel
theorem dX10_takeEnd_47 : decode cX10_takeEnd 47 = .ok (.iaload, 1) := by decide +kernel
theorem dX10_takeEnd_48 : decode cX10_takeEnd 48 = .ok (.invokevirtual 60, 3) := by decide +kernel
theorem dX10_takeEnd_51 : decode cX10_takeEnd 51 = .ok (.aload_n 1, 1) := by decide +kernel
theorem dX10_takeEnd_52 : decode cX10_takeEnd 52 = .ok (.invokevirtual 63, 3) := by decide +kernel
theorem dX10_takeEnd_55 : decode cX10_takeEnd 55 = .ok (.aload_n 1, 1) := by decide +kernel
theorem dX10_takeEnd_56 : decode cX10_takeEnd 56 = .ok (.bipush 59, 2) := by decide +kernel
theorem dX10_takeEnd_58 : decode cX10_takeEnd 58 = .ok (.invokevirtual 66, 3) := by decide +kernel
theorem dX10_takeEnd_61 : decode cX10_takeEnd 61 = .ok (.ireturn, 1) := by decide +kernel
set_option maxRecDepth 100000 in
theorem c_X10_takeEnd (l : Launch) (E : xE) (a0 a1 a2 a3 a4 a5 a6 a7 a8 a9 a10 : Nat) {T0 : Nat → Int32} {u0_0 : Value} {T1 : Nat → Int32} {J1_8 : Int64} {V2 : Nat → Int32} {T3 : Nat → Int32} {V4 : Nat → Int32} {V5 : Nat → Int32} {V6 : Nat → Int32} {V7 : Nat → Int32} {V8 : Nat → Int32} {V9 : Nat → Int32} {V10 : Nat → Int64} {z : Int32 × (Nat → Int32) × (Nat → Int32) × Int64 × (Nat → Int32) × (Nat → Int32) × (Nat → Int32) × (Nat → Int32) × (Nat → Int32) × (Nat → Int32)} (hf : f_X10_takeEnd T0 T1 J1_8 V2 T3 V4 V5 V6 V7 V8 V9 V10 = some z) (sz : Nat) : Met l yX10_takeEnd (Cond.code yX10_takeEnd cX10_takeEnd 2 (some .boolean) :: gw) ({ frames := 3, cells := 0, slots := 0, locals := 64 }) (xPc E [.ref a0, .ref a1] [(a0, o10 T0 u0_0 (.ref a3) a2), (a1, o8 T1 J1_8 a9 a10), (a2, ai E 3 V2), (a3, o0 T3 a4 a5 a6 a7 a8), (a4, ai E 60 V4), (a5, ai E 60 V5), (a6, ai E 60 V6), (a7, ai E 60 V7), (a8, ai E 60 V8), (a9, ab E 900 V9), (a10, al E 23 V10)] sz) (xQi E z.1 [(a0, o10 T0 u0_0 (.ref a3) a2), (a1, o8 T1 J1_8 a9 a10), (a2, ai E 3 V2), (a3, o0 T3 a4 a5 a6 a7 a8), (a4, ai E 60 V4), (a5, ai E 60 V5), (a6, ai E 60 V6), (a7, ai E 60 V7), (a8, ai E 60 V8), (a9, ab E 900 V9), (a10, al E 23 V10)] [(a0, o10 z.2.1 u0_0 (.ref a3) a2), (a1, o8 z.2.2.1 z.2.2.2.1 a9 a10), (a2, ai E 3 V2), (a3, o0 z.2.2.2.2.1 a4 a5 a6 a7 a8), (a4, ai E 60 z.2.2.2.2.2.1), (a5, ai E 60 z.2.2.2.2.2.2.1), (a6, ai E 60 z.2.2.2.2.2.2.2.1), (a7, ai E 60 z.2.2.2.2.2.2.2.2.1), (a8, ai E 60 z.2.2.2.2.2.2.2.2.2), (a9, ab E 900 V9), (a10, al E 23 V10)] sz) 0 0 (va_A [(a0, o10 T0 u0_0 (.ref a3) a2), (a1, o8 T1 J1_8 a9 a10), (a2, ai E 3 V2), (a3, o0 T3 a4 a5 a6 a7 a8), (a4, ai E 60 V4), (a5, ai E 60 V5), (a6, ai E 60 V6), (a7, ai E 60 V7), (a8, ai E 60 V8), (a9, ab E 900 V9), (a10, al E 23 V10)] sz) := by
  refine xM_i (by decide +kernel) (Nat.le_of_ble_eq_true rfl) ?_
  intro p e s m args below meth c A Q hx hb hml hown htg hK hG hA ret0 H locs ls hP hD hS hl
  have ret : ∀ (z' : Int32 × (Nat → Int32) × (Nat → Int32) × Int64 × (Nat → Int32) × (Nat → Int32) × (Nat → Int32) × (Nat → Int32) × (Nat → Int32) × (Nat → Int32)) {H : Heap} {locs : List Loc} {pc : Nat} {ls : Array Slot}, some z' = some z → narrow .boolean (.int z'.1) = .int z'.1 → va_P E.1 vwCl [(a0, o10 z'.2.1 u0_0 (.ref a3) a2), (a1, o8 z'.2.2.1 z'.2.2.2.1 a9 a10), (a2, ai E 3 V2), (a3, o0 z'.2.2.2.2.1 a4 a5 a6 a7 a8), (a4, ai E 60 z'.2.2.2.2.2.1), (a5, ai E 60 z'.2.2.2.2.2.2.1), (a6, ai E 60 z'.2.2.2.2.2.2.2.1), (a7, ai E 60 z'.2.2.2.2.2.2.2.2.1), (a8, ai E 60 z'.2.2.2.2.2.2.2.2.2), (a9, ab E 900 V9), (a10, al E 23 V10)] H → va_S A s.heap H locs → decode cX10_takeEnd pc = .ok (.ireturn, 1) → W p l e ({ frames := 3, cells := 0, slots := 0, locals := 64 } : Room) s m args below meth c H locs 0 0 Q (F0 m pc ls [.int z'.1]) := by
    intro z' H locs pc ls h
    cases h
    exact ret0
  replace hl : lv_has ls 2 [(0, .ref a0), (1, .ref a1)] := hl
  have b19 : ∀ (T0 : Nat → Int32) (T1 : Nat → Int32) (J1_8 : Int64) (T3 : Nat → Int32) (V4 : Nat → Int32) (V5 : Nat → Int32) (V6 : Nat → Int32) (V7 : Nat → Int32) (V8 : Nat → Int32) (H : Heap) (locs : List Loc) (ls : Array Slot), f_X10_takeEnd_19 V2 V9 V10 T0 T1 J1_8 T3 V4 V5 V6 V7 V8 = some z → va_P E.1 vwCl [(a0, o10 T0 u0_0 (.ref a3) a2), (a1, o8 T1 J1_8 a9 a10), (a2, ai E 3 V2), (a3, o0 T3 a4 a5 a6 a7 a8), (a4, ai E 60 V4), (a5, ai E 60 V5), (a6, ai E 60 V6), (a7, ai E 60 V7), (a8, ai E 60 V8), (a9, ab E 900 V9), (a10, al E 23 V10)] H → va_D A [(a0, o10 T0 u0_0 (.ref a3) a2), (a1, o8 T1 J1_8 a9 a10), (a2, ai E 3 V2), (a3, o0 T3 a4 a5 a6 a7 a8), (a4, ai E 60 V4), (a5, ai E 60 V5), (a6, ai E 60 V6), (a7, ai E 60 V7), (a8, ai E 60 V8), (a9, ab E 900 V9), (a10, al E 23 V10)] → va_S A s.heap H locs → lv_has ls 2 [(1, .ref a1)] → W p l e ({ frames := 3, cells := 0, slots := 0, locals := 64 } : Room) s m args below meth c H locs 0 0 Q (F0 m 19 ls []) := by
    intro T0 T1 J1_8 T3 V4 V5 V6 V7 V8 H locs ls hf hP hD hS hl
    unfold f_X10_takeEnd_19 at hf
    refine lv_aload_n hx hb dX10_takeEnd_19 rfl (lv_at hl 0 rfl) ?_
    refine lv_iconst (v := 2) hx hb dX10_takeEnd_20 rfl ?_
    obtain ⟨z21, hz21, hf⟩ := bind_s hf
    refine xV_iu hx hb hml hown htg L10_53 (c_X8_blame l E a1 hz21 _) ⟨⟨rfl, rfl⟩, Nat.le_of_ble_eq_true rfl, Nat.le_of_ble_eq_true rfl⟩ hK hG hA hP hD hS (is := [1]) (sel := [none, some 0, none, none, none, none, none, none, none, none, none]) (ws2 := [(a0, o10 T0 u0_0 (.ref a3) a2), (a1, o8 z21.2 J1_8 a9 a10), (a2, ai E 3 V2), (a3, o0 T3 a4 a5 a6 a7 a8), (a4, ai E 60 V4), (a5, ai E 60 V5), (a6, ai E 60 V6), (a7, ai E 60 V7), (a8, ai E 60 V8), (a9, ab E 900 V9), (a10, al E 23 V10)]) rfl rfl rfl rfl rfl (xrecv hK hP (q0 := 1) (ci := 8) rfl rfl) rfl hl.1 rfl (Nat.le_of_ble_eq_true rfl) dX10_takeEnd_21 (fun H locs hP hD hS => ?_)
    obtain ⟨g24, hf⟩ := ck_s hf
    exact ret (z21.1, T0, z21.2, J1_8, T3, V4, V5, V6, V7, V8) hf (bz_n g24).1 hP hS dX10_takeEnd_24
  unfold f_X10_takeEnd at hf
  refine lv_aload_n hx hb dX10_takeEnd_0 rfl (lv_at hl 0 rfl) ?_
  refine G10_28 hx hb htg hown hK hP 0 rfl dX10_takeEnd_1 ?_
  refine lv_if_le (tgt := 19) hx hb dX10_takeEnd_4 (by decide) (fun c4 => ?_) (fun c4 => ?_)
  · have hf := it_t c4 hf
    exact b19 T0 T1 J1_8 T3 V4 V5 V6 V7 V8 _ _ _ hf hP hD hS (lv_sub hl [1] rfl)
  · have hf := it_f c4 hf
    refine lv_aload_n hx hb dX10_takeEnd_7 rfl (lv_at hl 0 rfl) ?_
    refine G10_28 hx hb htg hown hK hP 0 rfl dX10_takeEnd_8 ?_
    refine lv_aload_n hx hb dX10_takeEnd_11 rfl (lv_at hl 0 rfl) ?_
    refine G10_11 hx hb htg hown hK hP 0 rfl dX10_takeEnd_12 ?_
    refine va_alen (v := 3) hx hb hK hP 2 1 rfl rfl rfl dX10_takeEnd_15 ?_
    refine lv_icmp_le (tgt := 25) hx hb dX10_takeEnd_16 (by decide) (fun c16 => ?_) (fun c16 => ?_)
    · have hf := it_t c16 hf
      refine lv_aload_n hx hb dX10_takeEnd_25 rfl (lv_at hl 0 rfl) ?_
      refine lv_dup hx hb dX10_takeEnd_26 rfl ?_
      refine G10_28 hx hb htg hown hK hP 0 rfl dX10_takeEnd_27 ?_
      refine lv_iconst (v := 1) hx hb dX10_takeEnd_30 rfl ?_
      refine lv_isub hx hb dX10_takeEnd_31 ?_
      refine P10_28 hx hb htg hown hK hP hD hS 0 rfl dX10_takeEnd_32 (fun H locs hP hD hS => ?_)
      refine lv_aload_n hx hb dX10_takeEnd_35 rfl (lv_at hl 0 rfl) ?_
      refine G10_24 hx hb htg hown hK hP 0 rfl dX10_takeEnd_36 ?_
      refine lv_aload_n hx hb dX10_takeEnd_39 rfl (lv_at hl 0 rfl) ?_
      refine G10_11 hx hb htg hown hK hP 0 rfl dX10_takeEnd_40 ?_
      refine lv_aload_n hx hb dX10_takeEnd_43 rfl (lv_at hl 0 rfl) ?_
      refine G10_28 hx hb htg hown hK hP 0 rfl dX10_takeEnd_44 ?_
      obtain ⟨g47, hf⟩ := ck_s hf
      refine xiald hx hb hK hP 2 rfl g47 dX10_takeEnd_47 ?_
      obtain ⟨z48, hz48, hf⟩ := bind_s hf
      refine xV_vu hx hb hml hown htg L10_60 (c_X0_addEnd l E a3 a4 a5 a6 a7 a8 hz48 _) ⟨⟨rfl, rfl⟩, Nat.le_of_ble_eq_true rfl, Nat.le_of_ble_eq_true rfl⟩ hK hG hA hP hD hS (is := [3, 4, 5, 6, 7, 8]) (sel := [none, none, none, some 0, some 1, some 2, some 3, some 4, some 5, none, none]) (ws2 := [(a0, o10 (upd T0 3 ((T0 3) - 1)) u0_0 (.ref a3) a2), (a1, o8 T1 J1_8 a9 a10), (a2, ai E 3 V2), (a3, o0 z48.1 a4 a5 a6 a7 a8), (a4, ai E 60 z48.2.1), (a5, ai E 60 z48.2.2.1), (a6, ai E 60 z48.2.2.2.1), (a7, ai E 60 z48.2.2.2.2.1), (a8, ai E 60 z48.2.2.2.2.2), (a9, ab E 900 V9), (a10, al E 23 V10)]) rfl rfl rfl rfl rfl (xrecv hK hP (q0 := 3) (ci := 0) rfl rfl) rfl hl.1 rfl (Nat.le_of_ble_eq_true rfl) dX10_takeEnd_48 (fun H locs hP hD hS => ?_)
      refine lv_aload_n hx hb dX10_takeEnd_51 rfl (lv_at hl 1 rfl) ?_
      obtain ⟨z52, hz52, hf⟩ := bind_s hf
      refine xV_vu hx hb hml hown htg L10_63 (c_X8_advance l E a1 a9 a10 hz52 _) ⟨⟨rfl, rfl⟩, Nat.le_of_ble_eq_true rfl, Nat.le_of_ble_eq_true rfl⟩ hK hG hA hP hD hS (is := [1, 9, 10]) (sel := [none, some 0, none, none, none, none, none, none, none, some 1, some 2]) (ws2 := [(a0, o10 (upd T0 3 ((T0 3) - 1)) u0_0 (.ref a3) a2), (a1, o8 z52.1 z52.2 a9 a10), (a2, ai E 3 V2), (a3, o0 z48.1 a4 a5 a6 a7 a8), (a4, ai E 60 z48.2.1), (a5, ai E 60 z48.2.2.1), (a6, ai E 60 z48.2.2.2.1), (a7, ai E 60 z48.2.2.2.2.1), (a8, ai E 60 z48.2.2.2.2.2), (a9, ab E 900 V9), (a10, al E 23 V10)]) rfl rfl rfl rfl rfl (xrecv hK hP (q0 := 1) (ci := 8) rfl rfl) rfl hl.1 rfl (Nat.le_of_ble_eq_true rfl) dX10_takeEnd_52 (fun H locs hP hD hS => ?_)
      refine lv_aload_n hx hb dX10_takeEnd_55 rfl (lv_at hl 1 rfl) ?_
      refine lv_bipush (v := 59) hx hb dX10_takeEnd_56 rfl ?_
      obtain ⟨z58, hz58, hf⟩ := bind_s hf
      refine xV_iu hx hb hml hown htg L10_66 (c_X8_passSign l E a1 a9 a10 hz58 _) ⟨⟨rfl, rfl⟩, Nat.le_of_ble_eq_true rfl, Nat.le_of_ble_eq_true rfl⟩ hK hG hA hP hD hS (is := [1, 9, 10]) (sel := [none, some 0, none, none, none, none, none, none, none, some 1, some 2]) (ws2 := [(a0, o10 (upd T0 3 ((T0 3) - 1)) u0_0 (.ref a3) a2), (a1, o8 z58.2.1 z58.2.2 a9 a10), (a2, ai E 3 V2), (a3, o0 z48.1 a4 a5 a6 a7 a8), (a4, ai E 60 z48.2.1), (a5, ai E 60 z48.2.2.1), (a6, ai E 60 z48.2.2.2.1), (a7, ai E 60 z48.2.2.2.2.1), (a8, ai E 60 z48.2.2.2.2.2), (a9, ab E 900 V9), (a10, al E 23 V10)]) rfl rfl rfl rfl rfl (xrecv hK hP (q0 := 1) (ci := 8) rfl rfl) rfl hl.1 rfl (Nat.le_of_ble_eq_true rfl) dX10_takeEnd_58 (fun H locs hP hD hS => ?_)
      obtain ⟨g61, hf⟩ := ck_s hf
      exact ret (z58.1, upd T0 3 ((T0 3) - 1), z58.2.1, z58.2.2, z48.1, z48.2.1, z48.2.2.1, z48.2.2.2.1, z48.2.2.2.2.1, z48.2.2.2.2.2) hf (bz_n g61).1 hP hS dX10_takeEnd_61
    · have hf := it_f c16 hf
      exact b19 T0 T1 J1_8 T3 V4 V5 V6 V7 V8 _ _ _ hf hP hD hS (lv_sub hl [1] rfl)
theorem dX10_beginsStep_0 : decode cX10_beginsStep 0 = .ok (.iload_n 0, 1) := by decide +kernel
theorem dX10_beginsStep_1 : decode cX10_beginsStep 1 = .ok (.bipush 6, 2) := by decide +kernel
theorem dX10_beginsStep_3 : decode cX10_beginsStep 3 = .ok (.if_icmp .eq 26, 3) := by decide +kernel
theorem dX10_beginsStep_6 : decode cX10_beginsStep 6 = .ok (.iload_n 0, 1) := by decide +kernel
theorem dX10_beginsStep_7 : decode cX10_beginsStep 7 = .ok (.bipush 12, 2) := by decide +kernel
theorem dX10_beginsStep_9 : decode cX10_beginsStep 9 = .ok (.bipush 16, 2) := by decide +kernel
theorem dX10_beginsStep_11 : decode cX10_beginsStep 11 = .ok (.invokestatic 89, 3) := by decide +kernel
theorem dX10_beginsStep_14 : decode cX10_beginsStep 14 = .ok (.ifCond .ne 15, 3) := by decide +kernel
theorem dX10_beginsStep_17 : decode cX10_beginsStep 17 = .ok (.iload_n 0, 1) := by decide +kernel
theorem dX10_beginsStep_18 : decode cX10_beginsStep 18 = .ok (.bipush 20, 2) := by decide +kernel
theorem dX10_beginsStep_20 : decode cX10_beginsStep 20 = .ok (.if_icmp .eq 9, 3) := by decide +kernel
theorem dX10_beginsStep_23 : decode cX10_beginsStep 23 = .ok (.iload_n 0, 1) := by decide +kernel
theorem dX10_beginsStep_24 : decode cX10_beginsStep 24 = .ok (.bipush 22, 2) := by decide +kernel
theorem dX10_beginsStep_26 : decode cX10_beginsStep 26 = .ok (.if_icmp .ne 7, 3) := by decide +kernel
theorem dX10_beginsStep_29 : decode cX10_beginsStep 29 = .ok (.iconst 1, 1) := by decide +kernel
theorem dX10_beginsStep_30 : decode cX10_beginsStep 30 = .ok (.goto 4, 3) := by decide +kernel
theorem dX10_beginsStep_33 : decode cX10_beginsStep 33 = .ok (.iconst 0, 1) := by decide +kernel
theorem dX10_beginsStep_34 : decode cX10_beginsStep 34 = .ok (.ireturn, 1) := by decide +kernel
set_option maxRecDepth 100000 in
theorem c_X10_beginsStep (l : Launch) (E : xE) {x0 : Int32} {z : Int32} (hf : f_X10_beginsStep x0 = some z) (sz : Nat) : Met l yX10_beginsStep (Cond.code yX10_beginsStep cX10_beginsStep 1 (some .boolean) :: gw) ({ frames := 1, cells := 0, slots := 0, locals := 22 }) (xPc E [.int x0] [] sz) (xQi E z [] [] sz) 0 0 (va_A [] sz) := by
  refine xM_i (by decide +kernel) (Nat.le_of_ble_eq_true rfl) ?_
  intro p e s m args below meth c A Q hx hb hml hown htg hK hG hA ret0 H locs ls hP hD hS hl
  have ret : ∀ (z' : Int32) {H : Heap} {locs : List Loc} {pc : Nat} {ls : Array Slot}, some z' = some z → narrow .boolean (.int z') = .int z' → va_P E.1 vwCl [] H → va_S A s.heap H locs → decode cX10_beginsStep pc = .ok (.ireturn, 1) → W p l e ({ frames := 1, cells := 0, slots := 0, locals := 22 } : Room) s m args below meth c H locs 0 0 Q (F0 m pc ls [.int z']) := by
    intro z' H locs pc ls h
    cases h
    exact ret0
  replace hl : lv_has ls 1 [(0, .int x0)] := hl
  unfold f_X10_beginsStep at hf
  refine lv_iload_n hx hb dX10_beginsStep_0 rfl (lv_at hl 0 rfl) ?_
  refine lv_bipush (v := 6) hx hb dX10_beginsStep_1 rfl ?_
  refine lv_icmp_eq (tgt := 29) hx hb dX10_beginsStep_3 (by decide) (fun c3 => ?_) (fun c3 => ?_)
  · have hf := it_t c3 hf
    refine lv_iconst (v := 1) hx hb dX10_beginsStep_29 rfl ?_
    refine lv_goto (tgt := 34) hx hb dX10_beginsStep_30 (by decide) ?_
    exact ret 1 hf nz1 hP hS dX10_beginsStep_34
  · have hf := it_f c3 hf
    refine lv_iload_n hx hb dX10_beginsStep_6 rfl (lv_at hl 0 rfl) ?_
    refine lv_bipush (v := 12) hx hb dX10_beginsStep_7 rfl ?_
    refine lv_bipush (v := 16) hx hb dX10_beginsStep_9 rfl ?_
    obtain ⟨z11, hz11, hf⟩ := bind_s hf
    refine xN_ir hx hb hml hown htg L10_89 16 rfl (c_X11_within l E hz11 _) ⟨⟨rfl, rfl⟩, Nat.le_of_ble_eq_true rfl, Nat.le_of_ble_eq_true rfl⟩ hK hG hA hP hD hS (is := []) rfl rfl rfl hl.1 rfl (Nat.le_of_ble_eq_true rfl) dX10_beginsStep_11 (fun H locs hP hD hS => ?_)
    refine lv_if_ne (tgt := 29) hx hb dX10_beginsStep_14 (by decide) (fun c14 => ?_) (fun c14 => ?_)
    · have hf := it_f c14 hf
      refine lv_iconst (v := 1) hx hb dX10_beginsStep_29 rfl ?_
      refine lv_goto (tgt := 34) hx hb dX10_beginsStep_30 (by decide) ?_
      exact ret 1 hf nz1 hP hS dX10_beginsStep_34
    · have hf := it_t c14 hf
      refine lv_iload_n hx hb dX10_beginsStep_17 rfl (lv_at hl 0 rfl) ?_
      refine lv_bipush (v := 20) hx hb dX10_beginsStep_18 rfl ?_
      refine lv_icmp_eq (tgt := 29) hx hb dX10_beginsStep_20 (by decide) (fun c20 => ?_) (fun c20 => ?_)
      · have hf := it_t c20 hf
        refine lv_iconst (v := 1) hx hb dX10_beginsStep_29 rfl ?_
        refine lv_goto (tgt := 34) hx hb dX10_beginsStep_30 (by decide) ?_
        exact ret 1 hf nz1 hP hS dX10_beginsStep_34
      · have hf := it_f c20 hf
        refine lv_iload_n hx hb dX10_beginsStep_23 rfl (lv_at hl 0 rfl) ?_
        refine lv_bipush (v := 22) hx hb dX10_beginsStep_24 rfl ?_
        refine lv_icmp_ne (tgt := 33) hx hb dX10_beginsStep_26 (by decide) (fun c26 => ?_) (fun c26 => ?_)
        · have hf := it_f c26 hf
          refine lv_iconst (v := 0) hx hb dX10_beginsStep_33 rfl ?_
          exact ret 0 hf nz0 hP hS dX10_beginsStep_34
        · have hf := it_t c26 hf
          refine lv_iconst (v := 1) hx hb dX10_beginsStep_29 rfl ?_
          refine lv_goto (tgt := 34) hx hb dX10_beginsStep_30 (by decide) ?_
          exact ret 1 hf nz1 hP hS dX10_beginsStep_34
theorem dX10_takeName_0 : decode cX10_takeName 0 = .ok (.aload_n 1, 1) := by decide +kernel
theorem dX10_takeName_1 : decode cX10_takeName 1 = .ok (.invokevirtual 128, 3) := by decide +kernel
theorem dX10_takeName_4 : decode cX10_takeName 4 = .ok (.ifCond .ne 9, 3) := by decide +kernel
theorem dX10_takeName_7 : decode cX10_takeName 7 = .ok (.aload_n 1, 1) := by decide +kernel
theorem dX10_takeName_8 : decode cX10_takeName 8 = .ok (.iconst 2, 1) := by decide +kernel
theorem dX10_takeName_9 : decode cX10_takeName 9 = .ok (.invokevirtual 53, 3) := by decide +kernel
theorem dX10_takeName_12 : decode cX10_takeName 12 = .ok (.ireturn, 1) := by decide +kernel
theorem dX10_takeName_13 : decode cX10_takeName 13 = .ok (.aload_n 0, 1) := by decide +kernel
theorem dX10_takeName_14 : decode cX10_takeName 14 = .ok (.aload_n 0, 1) := by decide +kernel
theorem dX10_takeName_15 : decode cX10_takeName 15 = .ok (.getfield 20, 3) := by decide +kernel
theorem dX10_takeName_18 : decode cX10_takeName 18 = .ok (.aload_n 1, 1) := by decide +kernel
theorem dX10_takeName_19 : decode cX10_takeName 19 = .ok (.invokevirtual 131, 3) := by decide +kernel
theorem dX10_takeName_22 : decode cX10_takeName 22 = .ok (.invokevirtual 135, 3) := by decide +kernel
theorem dX10_takeName_25 : decode cX10_takeName 25 = .ok (.putfield 96, 3) := by decide +kernel
theorem dX10_takeName_28 : decode cX10_takeName 28 = .ok (.aload_n 0, 1) := by decide +kernel
theorem dX10_takeName_29 : decode cX10_takeName 29 = .ok (.getfield 96, 3) := by decide +kernel
theorem dX10_takeName_32 : decode cX10_takeName 32 = .ok (.iconst (-1), 1) := by decide +kernel
theorem dX10_takeName_33 : decode cX10_takeName 33 = .ok (.if_icmp .ne 9, 3) := by decide +kernel
theorem dX10_takeName_36 : decode cX10_takeName 36 = .ok (.aload_n 1, 1) := by decide +kernel
theorem dX10_takeName_37 : decode cX10_takeName 37 = .ok (.iconst 3, 1) := by decide +kernel
theorem dX10_takeName_38 : decode cX10_takeName 38 = .ok (.invokevirtual 53, 3) := by decide +kernel
theorem dX10_takeName_41 : decode cX10_takeName 41 = .ok (.ireturn, 1) := by decide +kernel
theorem dX10_takeName_42 : decode cX10_takeName 42 = .ok (.aload_n 1, 1) := by decide +kernel
theorem dX10_takeName_43 : decode cX10_takeName 43 = .ok (.invokevirtual 63, 3) := by decide +kernel
theorem dX10_takeName_46 : decode cX10_takeName 46 = .ok (.iconst 1, 1) := by decide +kernel
theorem dX10_takeName_47 : decode cX10_takeName 47 = .ok (.ireturn, 1) := by decide +kernel
set_option maxRecDepth 100000 in
theorem c_X10_takeName (l : Launch) (E : xE) (a0 a1 a2 a3 a4 a5 : Nat) {T0 : Nat → Int32} {u0_1 : Value} {T1 : Nat → Int32} {J1_8 : Int64} {T2 : Nat → Int32} {V3 : Nat → Int64} {V4 : Nat → Int32} {V5 : Nat → Int64} {u0_2 u2_7 u2_8 u2_10 u2_11 u2_12 u2_13 u2_14 : Nat} {z : Int32 × (Nat → Int32) × (Nat → Int32) × Int64} (hf : f_X10_takeName T0 T1 J1_8 T2 V3 V4 V5 = some z) (sz : Nat) : Met l yX10_takeName (Cond.code yX10_takeName cX10_takeName 2 (some .boolean) :: gw) ({ frames := 2, cells := 0, slots := 0, locals := 41 }) (xPc E [.ref a0, .ref a1] [(a0, o10 T0 (.ref a2) u0_1 u0_2), (a1, o8 T1 J1_8 a4 a5), (a2, o3 T2 u2_7 u2_8 a3 u2_10 u2_11 u2_12 u2_13 u2_14), (a3, al E 5 V3), (a4, ab E 900 V4), (a5, al E 23 V5)] sz) (xQi E z.1 [(a0, o10 T0 (.ref a2) u0_1 u0_2), (a1, o8 T1 J1_8 a4 a5), (a2, o3 T2 u2_7 u2_8 a3 u2_10 u2_11 u2_12 u2_13 u2_14), (a3, al E 5 V3), (a4, ab E 900 V4), (a5, al E 23 V5)] [(a0, o10 z.2.1 (.ref a2) u0_1 u0_2), (a1, o8 z.2.2.1 z.2.2.2 a4 a5), (a2, o3 T2 u2_7 u2_8 a3 u2_10 u2_11 u2_12 u2_13 u2_14), (a3, al E 5 V3), (a4, ab E 900 V4), (a5, al E 23 V5)] sz) 0 0 (va_A [(a0, o10 T0 (.ref a2) u0_1 u0_2), (a1, o8 T1 J1_8 a4 a5), (a2, o3 T2 u2_7 u2_8 a3 u2_10 u2_11 u2_12 u2_13 u2_14), (a3, al E 5 V3), (a4, ab E 900 V4), (a5, al E 23 V5)] sz) := by
  refine xM_i (by decide +kernel) (Nat.le_of_ble_eq_true rfl) ?_
  intro p e s m args below meth c A Q hx hb hml hown htg hK hG hA ret0 H locs ls hP hD hS hl
  have ret : ∀ (z' : Int32 × (Nat → Int32) × (Nat → Int32) × Int64) {H : Heap} {locs : List Loc} {pc : Nat} {ls : Array Slot}, some z' = some z → narrow .boolean (.int z'.1) = .int z'.1 → va_P E.1 vwCl [(a0, o10 z'.2.1 (.ref a2) u0_1 u0_2), (a1, o8 z'.2.2.1 z'.2.2.2 a4 a5), (a2, o3 T2 u2_7 u2_8 a3 u2_10 u2_11 u2_12 u2_13 u2_14), (a3, al E 5 V3), (a4, ab E 900 V4), (a5, al E 23 V5)] H → va_S A s.heap H locs → decode cX10_takeName pc = .ok (.ireturn, 1) → W p l e ({ frames := 2, cells := 0, slots := 0, locals := 41 } : Room) s m args below meth c H locs 0 0 Q (F0 m pc ls [.int z'.1]) := by
    intro z' H locs pc ls h
    cases h
    exact ret0
  replace hl : lv_has ls 2 [(0, .ref a0), (1, .ref a1)] := hl
  unfold f_X10_takeName at hf
  refine lv_aload_n hx hb dX10_takeName_0 rfl (lv_at hl 1 rfl) ?_
  obtain ⟨z1, hz1, hf⟩ := bind_s hf
  refine xV_ir hx hb hml hown htg L10_128 (c_X8_isName l E a1 hz1 _) ⟨⟨rfl, rfl⟩, Nat.le_of_ble_eq_true rfl, Nat.le_of_ble_eq_true rfl⟩ hK hG hA hP hD hS (is := [1]) rfl rfl (xrecv hK hP (q0 := 1) (ci := 8) rfl rfl) rfl hl.1 rfl (Nat.le_of_ble_eq_true rfl) dX10_takeName_1 (fun H locs hP hD hS => ?_)
  refine lv_if_ne (tgt := 13) hx hb dX10_takeName_4 (by decide) (fun c4 => ?_) (fun c4 => ?_)
  · have hf := it_f c4 hf
    refine lv_aload_n hx hb dX10_takeName_13 rfl (lv_at hl 0 rfl) ?_
    refine lv_aload_n hx hb dX10_takeName_14 rfl (lv_at hl 0 rfl) ?_
    refine G10_20 hx hb htg hown hK hP 0 rfl dX10_takeName_15 ?_
    refine lv_aload_n hx hb dX10_takeName_18 rfl (lv_at hl 1 rfl) ?_
    obtain ⟨z19, hz19, hf⟩ := bind_s hf
    refine xV_lr hx hb hml hown htg L10_131 (c_X8_nameCode l E a1 hz19 _) ⟨⟨rfl, rfl⟩, Nat.le_of_ble_eq_true rfl, Nat.le_of_ble_eq_true rfl⟩ hK hG hA hP hD hS (is := [1]) rfl rfl (xrecv hK hP (q0 := 1) (ci := 8) rfl rfl) rfl hl.1 rfl (Nat.le_of_ble_eq_true rfl) dX10_takeName_19 (fun H locs hP hD hS => ?_)
    obtain ⟨z22, hz22, hf⟩ := bind_s hf
    refine xV_ir hx hb hml hown htg L10_135 (c_X3_travellerNamed l E a2 a3 hz22 _) ⟨⟨rfl, rfl⟩, Nat.le_of_ble_eq_true rfl, Nat.le_of_ble_eq_true rfl⟩ hK hG hA hP hD hS (is := [2, 3]) rfl rfl (xrecv hK hP (q0 := 2) (ci := 3) rfl rfl) rfl hl.1 rfl (Nat.le_of_ble_eq_true rfl) dX10_takeName_22 (fun H locs hP hD hS => ?_)
    refine P10_96 hx hb htg hown hK hP hD hS 0 rfl dX10_takeName_25 (fun H locs hP hD hS => ?_)
    refine lv_aload_n hx hb dX10_takeName_28 rfl (lv_at hl 0 rfl) ?_
    refine G10_96 hx hb htg hown hK hP 0 rfl dX10_takeName_29 ?_
    refine lv_iconst (v := (-1)) hx hb dX10_takeName_32 rfl ?_
    refine lv_icmp_ne (tgt := 42) hx hb dX10_takeName_33 (by decide) (fun c33 => ?_) (fun c33 => ?_)
    · have hf := it_f c33 hf
      refine lv_aload_n hx hb dX10_takeName_42 rfl (lv_at hl 1 rfl) ?_
      obtain ⟨z43, hz43, hf⟩ := bind_s hf
      refine xV_vu hx hb hml hown htg L10_63 (c_X8_advance l E a1 a4 a5 hz43 _) ⟨⟨rfl, rfl⟩, Nat.le_of_ble_eq_true rfl, Nat.le_of_ble_eq_true rfl⟩ hK hG hA hP hD hS (is := [1, 4, 5]) (sel := [none, some 0, none, none, some 1, some 2]) (ws2 := [(a0, o10 (upd T0 4 z22) (.ref a2) u0_1 u0_2), (a1, o8 z43.1 z43.2 a4 a5), (a2, o3 T2 u2_7 u2_8 a3 u2_10 u2_11 u2_12 u2_13 u2_14), (a3, al E 5 V3), (a4, ab E 900 V4), (a5, al E 23 V5)]) rfl rfl rfl rfl rfl (xrecv hK hP (q0 := 1) (ci := 8) rfl rfl) rfl hl.1 rfl (Nat.le_of_ble_eq_true rfl) dX10_takeName_43 (fun H locs hP hD hS => ?_)
      refine lv_iconst (v := 1) hx hb dX10_takeName_46 rfl ?_
      exact ret (1, upd T0 4 z22, z43.1, z43.2) hf nz1 hP hS dX10_takeName_47
    · have hf := it_t c33 hf
      refine lv_aload_n hx hb dX10_takeName_36 rfl (lv_at hl 1 rfl) ?_
      refine lv_iconst (v := 3) hx hb dX10_takeName_37 rfl ?_
      obtain ⟨z38, hz38, hf⟩ := bind_s hf
      refine xV_iu hx hb hml hown htg L10_53 (c_X8_blame l E a1 hz38 _) ⟨⟨rfl, rfl⟩, Nat.le_of_ble_eq_true rfl, Nat.le_of_ble_eq_true rfl⟩ hK hG hA hP hD hS (is := [1]) (sel := [none, some 0, none, none, none, none]) (ws2 := [(a0, o10 (upd T0 4 z22) (.ref a2) u0_1 u0_2), (a1, o8 z38.2 J1_8 a4 a5), (a2, o3 T2 u2_7 u2_8 a3 u2_10 u2_11 u2_12 u2_13 u2_14), (a3, al E 5 V3), (a4, ab E 900 V4), (a5, al E 23 V5)]) rfl rfl rfl rfl rfl (xrecv hK hP (q0 := 1) (ci := 8) rfl rfl) rfl hl.1 rfl (Nat.le_of_ble_eq_true rfl) dX10_takeName_38 (fun H locs hP hD hS => ?_)
      obtain ⟨g41, hf⟩ := ck_s hf
      exact ret (z38.1, upd T0 4 z22, z38.2, J1_8) hf (bz_n g41).1 hP hS dX10_takeName_41
  · have hf := it_t c4 hf
    refine lv_aload_n hx hb dX10_takeName_7 rfl (lv_at hl 1 rfl) ?_
    refine lv_iconst (v := 2) hx hb dX10_takeName_8 rfl ?_
    obtain ⟨z9, hz9, hf⟩ := bind_s hf
    refine xV_iu hx hb hml hown htg L10_53 (c_X8_blame l E a1 hz9 _) ⟨⟨rfl, rfl⟩, Nat.le_of_ble_eq_true rfl, Nat.le_of_ble_eq_true rfl⟩ hK hG hA hP hD hS (is := [1]) (sel := [none, some 0, none, none, none, none]) (ws2 := [(a0, o10 T0 (.ref a2) u0_1 u0_2), (a1, o8 z9.2 J1_8 a4 a5), (a2, o3 T2 u2_7 u2_8 a3 u2_10 u2_11 u2_12 u2_13 u2_14), (a3, al E 5 V3), (a4, ab E 900 V4), (a5, al E 23 V5)]) rfl rfl rfl rfl rfl (xrecv hK hP (q0 := 1) (ci := 8) rfl rfl) rfl hl.1 rfl (Nat.le_of_ble_eq_true rfl) dX10_takeName_9 (fun H locs hP hD hS => ?_)
    obtain ⟨g12, hf⟩ := ck_s hf
    exact ret (z9.1, T0, z9.2, J1_8) hf (bz_n g12).1 hP hS dX10_takeName_12
theorem dX10_takeCell_0 : decode cX10_takeCell 0 = .ok (.aload_n 1, 1) := by decide +kernel
theorem dX10_takeCell_1 : decode cX10_takeCell 1 = .ok (.iconst 0, 1) := by decide +kernel
theorem dX10_takeCell_2 : decode cX10_takeCell 2 = .ok (.aload_n 0, 1) := by decide +kernel
theorem dX10_takeCell_3 : decode cX10_takeCell 3 = .ok (.getfield 20, 3) := by decide +kernel
theorem dX10_takeCell_6 : decode cX10_takeCell 6 = .ok (.getfield 141, 3) := by decide +kernel
theorem dX10_takeCell_9 : decode cX10_takeCell 9 = .ok (.iconst 1, 1) := by decide +kernel
theorem dX10_takeCell_10 : decode cX10_takeCell 10 = .ok (.isub, 1) := by decide +kernel
theorem dX10_takeCell_11 : decode cX10_takeCell 11 = .ok (.invokevirtual 144, 3) := by decide +kernel
theorem dX10_takeCell_14 : decode cX10_takeCell 14 = .ok (.ifCond .ne 5, 3) := by decide +kernel
theorem dX10_takeCell_17 : decode cX10_takeCell 17 = .ok (.iconst 0, 1) := by decide +kernel
theorem dX10_takeCell_18 : decode cX10_takeCell 18 = .ok (.ireturn, 1) := by decide +kernel
theorem dX10_takeCell_19 : decode cX10_takeCell 19 = .ok (.aload_n 1, 1) := by decide +kernel
theorem dX10_takeCell_20 : decode cX10_takeCell 20 = .ok (.invokevirtual 148, 3) := by decide +kernel
theorem dX10_takeCell_23 : decode cX10_takeCell 23 = .ok (.istore_n 2, 1) := by decide +kernel
theorem dX10_takeCell_24 : decode cX10_takeCell 24 = .ok (.aload_n 1, 1) := by decide +kernel
theorem dX10_takeCell_25 : decode cX10_takeCell 25 = .ok (.invokevirtual 63, 3) := by decide +kernel
theorem dX10_takeCell_28 : decode cX10_takeCell 28 = .ok (.aload_n 1, 1) := by decide +kernel
theorem dX10_takeCell_29 : decode cX10_takeCell 29 = .ok (.iconst 0, 1) := by decide +kernel
theorem dX10_takeCell_30 : decode cX10_takeCell 30 = .ok (.aload_n 0, 1) := by decide +kernel
theorem dX10_takeCell_31 : decode cX10_takeCell 31 = .ok (.getfield 20, 3) := by decide +kernel
theorem dX10_takeCell_34 : decode cX10_takeCell 34 = .ok (.getfield 150, 3) := by decide +kernel
theorem dX10_takeCell_37 : decode cX10_takeCell 37 = .ok (.iconst 1, 1) := by decide +kernel
theorem dX10_takeCell_38 : decode cX10_takeCell 38 = .ok (.isub, 1) := by decide +kernel
theorem dX10_takeCell_39 : decode cX10_takeCell 39 = .ok (.invokevirtual 144, 3) := by decide +kernel
theorem dX10_takeCell_42 : decode cX10_takeCell 42 = .ok (.ifCond .ne 5, 3) := by decide +kernel
theorem dX10_takeCell_45 : decode cX10_takeCell 45 = .ok (.iconst 0, 1) := by decide +kernel
theorem dX10_takeCell_46 : decode cX10_takeCell 46 = .ok (.ireturn, 1) := by decide +kernel
theorem dX10_takeCell_47 : decode cX10_takeCell 47 = .ok (.aload_n 0, 1) := by decide +kernel
theorem dX10_takeCell_48 : decode cX10_takeCell 48 = .ok (.iload_n 2, 1) := by decide +kernel
theorem dX10_takeCell_49 : decode cX10_takeCell 49 = .ok (.aload_n 0, 1) := by decide +kernel
theorem dX10_takeCell_50 : decode cX10_takeCell 50 = .ok (.getfield 20, 3) := by decide +kernel
theorem dX10_takeCell_53 : decode cX10_takeCell 53 = .ok (.getfield 150, 3) := by decide +kernel
theorem dX10_takeCell_56 : decode cX10_takeCell 56 = .ok (.imul, 1) := by decide +kernel
theorem dX10_takeCell_57 : decode cX10_takeCell 57 = .ok (.aload_n 1, 1) := by decide +kernel
theorem dX10_takeCell_58 : decode cX10_takeCell 58 = .ok (.invokevirtual 148, 3) := by decide +kernel
theorem dX10_takeCell_61 : decode cX10_takeCell 61 = .ok (.iadd, 1) := by decide +kernel
theorem dX10_takeCell_62 : decode cX10_takeCell 62 = .ok (.putfield 109, 3) := by decide +kernel
theorem dX10_takeCell_65 : decode cX10_takeCell 65 = .ok (.aload_n 1, 1) := by decide +kernel
theorem dX10_takeCell_66 : decode cX10_takeCell 66 = .ok (.invokevirtual 63, 3) := by decide +kernel
theorem dX10_takeCell_69 : decode cX10_takeCell 69 = .ok (.iconst 1, 1) := by decide +kernel
theorem dX10_takeCell_70 : decode cX10_takeCell 70 = .ok (.ireturn, 1) := by decide +kernel
set_option maxRecDepth 100000 in
theorem c_X10_takeCell (l : Launch) (E : xE) (a0 a1 a2 a3 a4 : Nat) {T0 : Nat → Int32} {u0_1 : Value} {T1 : Nat → Int32} {J1_8 : Int64} {T2 : Nat → Int32} {V3 : Nat → Int32} {V4 : Nat → Int64} {u0_2 u2_7 u2_8 u2_9 u2_10 u2_11 u2_12 u2_13 u2_14 : Nat} {z : Int32 × (Nat → Int32) × (Nat → Int32) × Int64} (hf : f_X10_takeCell T0 T1 J1_8 T2 V3 V4 = some z) (sz : Nat) : Met l yX10_takeCell (Cond.code yX10_takeCell cX10_takeCell 3 (some .boolean) :: gw) ({ frames := 2, cells := 0, slots := 0, locals := 44 }) (xPc E [.ref a0, .ref a1] [(a0, o10 T0 (.ref a2) u0_1 u0_2), (a1, o8 T1 J1_8 a3 a4), (a2, o3 T2 u2_7 u2_8 u2_9 u2_10 u2_11 u2_12 u2_13 u2_14), (a3, ab E 900 V3), (a4, al E 23 V4)] sz) (xQi E z.1 [(a0, o10 T0 (.ref a2) u0_1 u0_2), (a1, o8 T1 J1_8 a3 a4), (a2, o3 T2 u2_7 u2_8 u2_9 u2_10 u2_11 u2_12 u2_13 u2_14), (a3, ab E 900 V3), (a4, al E 23 V4)] [(a0, o10 z.2.1 (.ref a2) u0_1 u0_2), (a1, o8 z.2.2.1 z.2.2.2 a3 a4), (a2, o3 T2 u2_7 u2_8 u2_9 u2_10 u2_11 u2_12 u2_13 u2_14), (a3, ab E 900 V3), (a4, al E 23 V4)] sz) 0 0 (va_A [(a0, o10 T0 (.ref a2) u0_1 u0_2), (a1, o8 T1 J1_8 a3 a4), (a2, o3 T2 u2_7 u2_8 u2_9 u2_10 u2_11 u2_12 u2_13 u2_14), (a3, ab E 900 V3), (a4, al E 23 V4)] sz) := by
  refine xM_i (by decide +kernel) (Nat.le_of_ble_eq_true rfl) ?_
  intro p e s m args below meth c A Q hx hb hml hown htg hK hG hA ret0 H locs ls hP hD hS hl
  have ret : ∀ (z' : Int32 × (Nat → Int32) × (Nat → Int32) × Int64) {H : Heap} {locs : List Loc} {pc : Nat} {ls : Array Slot}, some z' = some z → narrow .boolean (.int z'.1) = .int z'.1 → va_P E.1 vwCl [(a0, o10 z'.2.1 (.ref a2) u0_1 u0_2), (a1, o8 z'.2.2.1 z'.2.2.2 a3 a4), (a2, o3 T2 u2_7 u2_8 u2_9 u2_10 u2_11 u2_12 u2_13 u2_14), (a3, ab E 900 V3), (a4, al E 23 V4)] H → va_S A s.heap H locs → decode cX10_takeCell pc = .ok (.ireturn, 1) → W p l e ({ frames := 2, cells := 0, slots := 0, locals := 44 } : Room) s m args below meth c H locs 0 0 Q (F0 m pc ls [.int z'.1]) := by
    intro z' H locs pc ls h
    cases h
    exact ret0
  replace hl : lv_has ls 3 [(0, .ref a0), (1, .ref a1)] := hl
  unfold f_X10_takeCell at hf
  refine lv_aload_n hx hb dX10_takeCell_0 rfl (lv_at hl 1 rfl) ?_
  refine lv_iconst (v := 0) hx hb dX10_takeCell_1 rfl ?_
  refine lv_aload_n hx hb dX10_takeCell_2 rfl (lv_at hl 0 rfl) ?_
  refine G10_20 hx hb htg hown hK hP 0 rfl dX10_takeCell_3 ?_
  refine G10_141 hx hb htg hown hK hP 2 rfl dX10_takeCell_6 ?_
  refine lv_iconst (v := 1) hx hb dX10_takeCell_9 rfl ?_
  refine lv_isub hx hb dX10_takeCell_10 ?_
  obtain ⟨z11, hz11, hf⟩ := bind_s hf
  refine xV_iu hx hb hml hown htg L10_144 (c_X8_isNumber l E a1 hz11 _) ⟨⟨rfl, rfl⟩, Nat.le_of_ble_eq_true rfl, Nat.le_of_ble_eq_true rfl⟩ hK hG hA hP hD hS (is := [1]) (sel := [none, some 0, none, none, none]) (ws2 := [(a0, o10 T0 (.ref a2) u0_1 u0_2), (a1, o8 z11.2 J1_8 a3 a4), (a2, o3 T2 u2_7 u2_8 u2_9 u2_10 u2_11 u2_12 u2_13 u2_14), (a3, ab E 900 V3), (a4, al E 23 V4)]) rfl rfl rfl rfl rfl (xrecv hK hP (q0 := 1) (ci := 8) rfl rfl) rfl hl.1 rfl (Nat.le_of_ble_eq_true rfl) dX10_takeCell_11 (fun H locs hP hD hS => ?_)
  refine lv_if_ne (tgt := 19) hx hb dX10_takeCell_14 (by decide) (fun c14 => ?_) (fun c14 => ?_)
  · have hf := it_f c14 hf
    refine lv_aload_n hx hb dX10_takeCell_19 rfl (lv_at hl 1 rfl) ?_
    obtain ⟨z20, hz20, hf⟩ := bind_s hf
    refine xV_ir hx hb hml hown htg L10_148 (c_X8_number l E a1 hz20 _) ⟨⟨rfl, rfl⟩, Nat.le_of_ble_eq_true rfl, Nat.le_of_ble_eq_true rfl⟩ hK hG hA hP hD hS (is := [1]) rfl rfl (xrecv hK hP (q0 := 1) (ci := 8) rfl rfl) rfl hl.1 rfl (Nat.le_of_ble_eq_true rfl) dX10_takeCell_20 (fun H locs hP hD hS => ?_)
    refine lv_istore_n (lv' := [(2, .int z20), (0, .ref a0), (1, .ref a1)]) hx hb dX10_takeCell_23 rfl hl (by decide) rfl (fun ls hl => ?_)
    refine lv_aload_n hx hb dX10_takeCell_24 rfl (lv_at hl 2 rfl) ?_
    obtain ⟨z25, hz25, hf⟩ := bind_s hf
    refine xV_vu hx hb hml hown htg L10_63 (c_X8_advance l E a1 a3 a4 hz25 _) ⟨⟨rfl, rfl⟩, Nat.le_of_ble_eq_true rfl, Nat.le_of_ble_eq_true rfl⟩ hK hG hA hP hD hS (is := [1, 3, 4]) (sel := [none, some 0, none, some 1, some 2]) (ws2 := [(a0, o10 T0 (.ref a2) u0_1 u0_2), (a1, o8 z25.1 z25.2 a3 a4), (a2, o3 T2 u2_7 u2_8 u2_9 u2_10 u2_11 u2_12 u2_13 u2_14), (a3, ab E 900 V3), (a4, al E 23 V4)]) rfl rfl rfl rfl rfl (xrecv hK hP (q0 := 1) (ci := 8) rfl rfl) rfl hl.1 rfl (Nat.le_of_ble_eq_true rfl) dX10_takeCell_25 (fun H locs hP hD hS => ?_)
    refine lv_aload_n hx hb dX10_takeCell_28 rfl (lv_at hl 2 rfl) ?_
    refine lv_iconst (v := 0) hx hb dX10_takeCell_29 rfl ?_
    refine lv_aload_n hx hb dX10_takeCell_30 rfl (lv_at hl 1 rfl) ?_
    refine G10_20 hx hb htg hown hK hP 0 rfl dX10_takeCell_31 ?_
    refine G10_150 hx hb htg hown hK hP 2 rfl dX10_takeCell_34 ?_
    refine lv_iconst (v := 1) hx hb dX10_takeCell_37 rfl ?_
    refine lv_isub hx hb dX10_takeCell_38 ?_
    obtain ⟨z39, hz39, hf⟩ := bind_s hf
    refine xV_iu hx hb hml hown htg L10_144 (c_X8_isNumber l E a1 hz39 _) ⟨⟨rfl, rfl⟩, Nat.le_of_ble_eq_true rfl, Nat.le_of_ble_eq_true rfl⟩ hK hG hA hP hD hS (is := [1]) (sel := [none, some 0, none, none, none]) (ws2 := [(a0, o10 T0 (.ref a2) u0_1 u0_2), (a1, o8 z39.2 z25.2 a3 a4), (a2, o3 T2 u2_7 u2_8 u2_9 u2_10 u2_11 u2_12 u2_13 u2_14), (a3, ab E 900 V3), (a4, al E 23 V4)]) rfl rfl rfl rfl rfl (xrecv hK hP (q0 := 1) (ci := 8) rfl rfl) rfl hl.1 rfl (Nat.le_of_ble_eq_true rfl) dX10_takeCell_39 (fun H locs hP hD hS => ?_)
    refine lv_if_ne (tgt := 47) hx hb dX10_takeCell_42 (by decide) (fun c42 => ?_) (fun c42 => ?_)
    · have hf := it_f c42 hf
      refine lv_aload_n hx hb dX10_takeCell_47 rfl (lv_at hl 1 rfl) ?_
      refine lv_iload_n hx hb dX10_takeCell_48 rfl (lv_at hl 0 rfl) ?_
      refine lv_aload_n hx hb dX10_takeCell_49 rfl (lv_at hl 1 rfl) ?_
      refine G10_20 hx hb htg hown hK hP 0 rfl dX10_takeCell_50 ?_
      refine G10_150 hx hb htg hown hK hP 2 rfl dX10_takeCell_53 ?_
      refine lv_imul hx hb dX10_takeCell_56 ?_
      refine lv_aload_n hx hb dX10_takeCell_57 rfl (lv_at hl 2 rfl) ?_
      obtain ⟨z58, hz58, hf⟩ := bind_s hf
      refine xV_ir hx hb hml hown htg L10_148 (c_X8_number l E a1 hz58 _) ⟨⟨rfl, rfl⟩, Nat.le_of_ble_eq_true rfl, Nat.le_of_ble_eq_true rfl⟩ hK hG hA hP hD hS (is := [1]) rfl rfl (xrecv hK hP (q0 := 1) (ci := 8) rfl rfl) rfl hl.1 rfl (Nat.le_of_ble_eq_true rfl) dX10_takeCell_58 (fun H locs hP hD hS => ?_)
      refine lv_iadd hx hb dX10_takeCell_61 ?_
      refine P10_109 hx hb htg hown hK hP hD hS 0 rfl dX10_takeCell_62 (fun H locs hP hD hS => ?_)
      refine lv_aload_n hx hb dX10_takeCell_65 rfl (lv_at hl 2 rfl) ?_
      obtain ⟨z66, hz66, hf⟩ := bind_s hf
      refine xV_vu hx hb hml hown htg L10_63 (c_X8_advance l E a1 a3 a4 hz66 _) ⟨⟨rfl, rfl⟩, Nat.le_of_ble_eq_true rfl, Nat.le_of_ble_eq_true rfl⟩ hK hG hA hP hD hS (is := [1, 3, 4]) (sel := [none, some 0, none, some 1, some 2]) (ws2 := [(a0, o10 (upd T0 5 ((z20 * (T2 1)) + z58)) (.ref a2) u0_1 u0_2), (a1, o8 z66.1 z66.2 a3 a4), (a2, o3 T2 u2_7 u2_8 u2_9 u2_10 u2_11 u2_12 u2_13 u2_14), (a3, ab E 900 V3), (a4, al E 23 V4)]) rfl rfl rfl rfl rfl (xrecv hK hP (q0 := 1) (ci := 8) rfl rfl) rfl hl.1 rfl (Nat.le_of_ble_eq_true rfl) dX10_takeCell_66 (fun H locs hP hD hS => ?_)
      refine lv_iconst (v := 1) hx hb dX10_takeCell_69 rfl ?_
      exact ret (1, upd T0 5 ((z20 * (T2 1)) + z58), z66.1, z66.2) hf nz1 hP hS dX10_takeCell_70
    · have hf := it_t c42 hf
      refine lv_iconst (v := 0) hx hb dX10_takeCell_45 rfl ?_
      exact ret (0, T0, z39.2, z25.2) hf nz0 hP hS dX10_takeCell_46
  · have hf := it_t c14 hf
    refine lv_iconst (v := 0) hx hb dX10_takeCell_17 rfl ?_
    exact ret (0, T0, z11.2, J1_8) hf nz0 hP hS dX10_takeCell_18
theorem dX10_takeFeeling_0 : decode cX10_takeFeeling 0 = .ok (.aload_n 0, 1) := by decide +kernel
theorem dX10_takeFeeling_1 : decode cX10_takeFeeling 1 = .ok (.aload_n 1, 1) := by decide +kernel
theorem dX10_takeFeeling_2 : decode cX10_takeFeeling 2 = .ok (.invokevirtual 153, 3) := by decide +kernel
theorem dX10_takeFeeling_5 : decode cX10_takeFeeling 5 = .ok (.putfield 112, 3) := by decide +kernel
theorem dX10_takeFeeling_8 : decode cX10_takeFeeling 8 = .ok (.aload_n 0, 1) := by decide +kernel
theorem dX10_takeFeeling_9 : decode cX10_takeFeeling 9 = .ok (.getfield 112, 3) := by decide +kernel
theorem dX10_takeFeeling_12 : decode cX10_takeFeeling 12 = .ok (.iconst (-1), 1) := by decide +kernel
theorem dX10_takeFeeling_13 : decode cX10_takeFeeling 13 = .ok (.if_icmp .ne 9, 3) := by decide +kernel
theorem dX10_takeFeeling_16 : decode cX10_takeFeeling 16 = .ok (.aload_n 1, 1) := by decide +kernel
theorem dX10_takeFeeling_17 : decode cX10_takeFeeling 17 = .ok (.iconst 2, 1) := by decide +kernel
theorem dX10_takeFeeling_18 : decode cX10_takeFeeling 18 = .ok (.invokevirtual 53, 3) := by decide +kernel
theorem dX10_takeFeeling_21 : decode cX10_takeFeeling 21 = .ok (.ireturn, 1) := by decide +kernel
theorem dX10_takeFeeling_22 : decode cX10_takeFeeling 22 = .ok (.aload_n 1, 1) := by decide +kernel
theorem dX10_takeFeeling_23 : decode cX10_takeFeeling 23 = .ok (.invokevirtual 63, 3) := by decide +kernel
theorem dX10_takeFeeling_26 : decode cX10_takeFeeling 26 = .ok (.iconst 1, 1) := by decide +kernel
theorem dX10_takeFeeling_27 : decode cX10_takeFeeling 27 = .ok (.ireturn, 1) := by decide +kernel
set_option maxRecDepth 100000 in
theorem c_X10_takeFeeling (l : Launch) (E : xE) (a0 a1 a2 a3 : Nat) {T0 : Nat → Int32} {u0_0 : Value} {u0_1 : Value} {T1 : Nat → Int32} {J1_8 : Int64} {V2 : Nat → Int32} {V3 : Nat → Int64} {u0_2 : Nat} {z : Int32 × (Nat → Int32) × (Nat → Int32) × Int64} (hf : f_X10_takeFeeling T0 T1 J1_8 V2 V3 = some z) (sz : Nat) : Met l yX10_takeFeeling (Cond.code yX10_takeFeeling cX10_takeFeeling 2 (some .boolean) :: gw) ({ frames := 2, cells := 0, slots := 0, locals := 42 }) (xPc E [.ref a0, .ref a1] [(a0, o10 T0 u0_0 u0_1 u0_2), (a1, o8 T1 J1_8 a2 a3), (a2, ab E 900 V2), (a3, al E 23 V3)] sz) (xQi E z.1 [(a0, o10 T0 u0_0 u0_1 u0_2), (a1, o8 T1 J1_8 a2 a3), (a2, ab E 900 V2), (a3, al E 23 V3)] [(a0, o10 z.2.1 u0_0 u0_1 u0_2), (a1, o8 z.2.2.1 z.2.2.2 a2 a3), (a2, ab E 900 V2), (a3, al E 23 V3)] sz) 0 0 (va_A [(a0, o10 T0 u0_0 u0_1 u0_2), (a1, o8 T1 J1_8 a2 a3), (a2, ab E 900 V2), (a3, al E 23 V3)] sz) := by
  refine xM_i (by decide +kernel) (Nat.le_of_ble_eq_true rfl) ?_
  intro p e s m args below meth c A Q hx hb hml hown htg hK hG hA ret0 H locs ls hP hD hS hl
  have ret : ∀ (z' : Int32 × (Nat → Int32) × (Nat → Int32) × Int64) {H : Heap} {locs : List Loc} {pc : Nat} {ls : Array Slot}, some z' = some z → narrow .boolean (.int z'.1) = .int z'.1 → va_P E.1 vwCl [(a0, o10 z'.2.1 u0_0 u0_1 u0_2), (a1, o8 z'.2.2.1 z'.2.2.2 a2 a3), (a2, ab E 900 V2), (a3, al E 23 V3)] H → va_S A s.heap H locs → decode cX10_takeFeeling pc = .ok (.ireturn, 1) → W p l e ({ frames := 2, cells := 0, slots := 0, locals := 42 } : Room) s m args below meth c H locs 0 0 Q (F0 m pc ls [.int z'.1]) := by
    intro z' H locs pc ls h
    cases h
    exact ret0
  replace hl : lv_has ls 2 [(0, .ref a0), (1, .ref a1)] := hl
  unfold f_X10_takeFeeling at hf
  refine lv_aload_n hx hb dX10_takeFeeling_0 rfl (lv_at hl 0 rfl) ?_
  refine lv_aload_n hx hb dX10_takeFeeling_1 rfl (lv_at hl 1 rfl) ?_
  obtain ⟨z2, hz2, hf⟩ := bind_s hf
  refine xV_ir hx hb hml hown htg L10_153 (c_X8_feeling l E a1 hz2 _) ⟨⟨rfl, rfl⟩, Nat.le_of_ble_eq_true rfl, Nat.le_of_ble_eq_true rfl⟩ hK hG hA hP hD hS (is := [1]) rfl rfl (xrecv hK hP (q0 := 1) (ci := 8) rfl rfl) rfl hl.1 rfl (Nat.le_of_ble_eq_true rfl) dX10_takeFeeling_2 (fun H locs hP hD hS => ?_)
  refine P10_112 hx hb htg hown hK hP hD hS 0 rfl dX10_takeFeeling_5 (fun H locs hP hD hS => ?_)
  refine lv_aload_n hx hb dX10_takeFeeling_8 rfl (lv_at hl 0 rfl) ?_
  refine G10_112 hx hb htg hown hK hP 0 rfl dX10_takeFeeling_9 ?_
  refine lv_iconst (v := (-1)) hx hb dX10_takeFeeling_12 rfl ?_
  refine lv_icmp_ne (tgt := 22) hx hb dX10_takeFeeling_13 (by decide) (fun c13 => ?_) (fun c13 => ?_)
  · have hf := it_f c13 hf
    refine lv_aload_n hx hb dX10_takeFeeling_22 rfl (lv_at hl 1 rfl) ?_
    obtain ⟨z23, hz23, hf⟩ := bind_s hf
    refine xV_vu hx hb hml hown htg L10_63 (c_X8_advance l E a1 a2 a3 hz23 _) ⟨⟨rfl, rfl⟩, Nat.le_of_ble_eq_true rfl, Nat.le_of_ble_eq_true rfl⟩ hK hG hA hP hD hS (is := [1, 2, 3]) (sel := [none, some 0, some 1, some 2]) (ws2 := [(a0, o10 (upd T0 6 z2) u0_0 u0_1 u0_2), (a1, o8 z23.1 z23.2 a2 a3), (a2, ab E 900 V2), (a3, al E 23 V3)]) rfl rfl rfl rfl rfl (xrecv hK hP (q0 := 1) (ci := 8) rfl rfl) rfl hl.1 rfl (Nat.le_of_ble_eq_true rfl) dX10_takeFeeling_23 (fun H locs hP hD hS => ?_)
    refine lv_iconst (v := 1) hx hb dX10_takeFeeling_26 rfl ?_
    exact ret (1, upd T0 6 z2, z23.1, z23.2) hf nz1 hP hS dX10_takeFeeling_27
  · have hf := it_t c13 hf
    refine lv_aload_n hx hb dX10_takeFeeling_16 rfl (lv_at hl 1 rfl) ?_
    refine lv_iconst (v := 2) hx hb dX10_takeFeeling_17 rfl ?_
    obtain ⟨z18, hz18, hf⟩ := bind_s hf
    refine xV_iu hx hb hml hown htg L10_53 (c_X8_blame l E a1 hz18 _) ⟨⟨rfl, rfl⟩, Nat.le_of_ble_eq_true rfl, Nat.le_of_ble_eq_true rfl⟩ hK hG hA hP hD hS (is := [1]) (sel := [none, some 0, none, none]) (ws2 := [(a0, o10 (upd T0 6 z2) u0_0 u0_1 u0_2), (a1, o8 z18.2 J1_8 a2 a3), (a2, ab E 900 V2), (a3, al E 23 V3)]) rfl rfl rfl rfl rfl (xrecv hK hP (q0 := 1) (ci := 8) rfl rfl) rfl hl.1 rfl (Nat.le_of_ble_eq_true rfl) dX10_takeFeeling_18 (fun H locs hP hD hS => ?_)
    obtain ⟨g21, hf⟩ := ck_s hf
    exact ret (z18.1, upd T0 6 z2, z18.2, J1_8) hf (bz_n g21).1 hP hS dX10_takeFeeling_21
theorem dX10_takeComparison_0 : decode cX10_takeComparison 0 = .ok (.aload_n 0, 1) := by decide +kernel
theorem dX10_takeComparison_1 : decode cX10_takeComparison 1 = .ok (.aload_n 1, 1) := by decide +kernel
theorem dX10_takeComparison_2 : decode cX10_takeComparison 2 = .ok (.invokevirtual 156, 3) := by decide +kernel
theorem dX10_takeComparison_5 : decode cX10_takeComparison 5 = .ok (.putfield 125, 3) := by decide +kernel
theorem dX10_takeComparison_8 : decode cX10_takeComparison 8 = .ok (.aload_n 0, 1) := by decide +kernel
theorem dX10_takeComparison_9 : decode cX10_takeComparison 9 = .ok (.getfield 125, 3) := by decide +kernel
theorem dX10_takeComparison_12 : decode cX10_takeComparison 12 = .ok (.iconst (-1), 1) := by decide +kernel
theorem dX10_takeComparison_13 : decode cX10_takeComparison 13 = .ok (.iconst 1, 1) := by decide +kernel
theorem dX10_takeComparison_14 : decode cX10_takeComparison 14 = .ok (.invokestatic 89, 3) := by decide +kernel
theorem dX10_takeComparison_17 : decode cX10_takeComparison 17 = .ok (.ifCond .ne 9, 3) := by decide +kernel
theorem dX10_takeComparison_20 : decode cX10_takeComparison 20 = .ok (.aload_n 1, 1) := by decide +kernel
theorem dX10_takeComparison_21 : decode cX10_takeComparison 21 = .ok (.iconst 2, 1) := by decide +kernel
theorem dX10_takeComparison_22 : decode cX10_takeComparison 22 = .ok (.invokevirtual 53, 3) := by decide +kernel
theorem dX10_takeComparison_25 : decode cX10_takeComparison 25 = .ok (.ireturn, 1) := by decide +kernel
theorem dX10_takeComparison_26 : decode cX10_takeComparison 26 = .ok (.aload_n 1, 1) := by decide +kernel
theorem dX10_takeComparison_27 : decode cX10_takeComparison 27 = .ok (.invokevirtual 63, 3) := by decide +kernel
theorem dX10_takeComparison_30 : decode cX10_takeComparison 30 = .ok (.iconst 1, 1) := by decide +kernel
theorem dX10_takeComparison_31 : decode cX10_takeComparison 31 = .ok (.ireturn, 1) := by decide +kernel
set_option maxRecDepth 100000 in
theorem c_X10_takeComparison (l : Launch) (E : xE) (a0 a1 a2 a3 : Nat) {T0 : Nat → Int32} {u0_0 : Value} {u0_1 : Value} {T1 : Nat → Int32} {J1_8 : Int64} {V2 : Nat → Int32} {V3 : Nat → Int64} {u0_2 : Nat} {z : Int32 × (Nat → Int32) × (Nat → Int32) × Int64} (hf : f_X10_takeComparison T0 T1 J1_8 V2 V3 = some z) (sz : Nat) : Met l yX10_takeComparison (Cond.code yX10_takeComparison cX10_takeComparison 2 (some .boolean) :: gw) ({ frames := 2, cells := 0, slots := 0, locals := 41 }) (xPc E [.ref a0, .ref a1] [(a0, o10 T0 u0_0 u0_1 u0_2), (a1, o8 T1 J1_8 a2 a3), (a2, ab E 900 V2), (a3, al E 23 V3)] sz) (xQi E z.1 [(a0, o10 T0 u0_0 u0_1 u0_2), (a1, o8 T1 J1_8 a2 a3), (a2, ab E 900 V2), (a3, al E 23 V3)] [(a0, o10 z.2.1 u0_0 u0_1 u0_2), (a1, o8 z.2.2.1 z.2.2.2 a2 a3), (a2, ab E 900 V2), (a3, al E 23 V3)] sz) 0 0 (va_A [(a0, o10 T0 u0_0 u0_1 u0_2), (a1, o8 T1 J1_8 a2 a3), (a2, ab E 900 V2), (a3, al E 23 V3)] sz) := by
  refine xM_i (by decide +kernel) (Nat.le_of_ble_eq_true rfl) ?_
  intro p e s m args below meth c A Q hx hb hml hown htg hK hG hA ret0 H locs ls hP hD hS hl
  have ret : ∀ (z' : Int32 × (Nat → Int32) × (Nat → Int32) × Int64) {H : Heap} {locs : List Loc} {pc : Nat} {ls : Array Slot}, some z' = some z → narrow .boolean (.int z'.1) = .int z'.1 → va_P E.1 vwCl [(a0, o10 z'.2.1 u0_0 u0_1 u0_2), (a1, o8 z'.2.2.1 z'.2.2.2 a2 a3), (a2, ab E 900 V2), (a3, al E 23 V3)] H → va_S A s.heap H locs → decode cX10_takeComparison pc = .ok (.ireturn, 1) → W p l e ({ frames := 2, cells := 0, slots := 0, locals := 41 } : Room) s m args below meth c H locs 0 0 Q (F0 m pc ls [.int z'.1]) := by
    intro z' H locs pc ls h
    cases h
    exact ret0
  replace hl : lv_has ls 2 [(0, .ref a0), (1, .ref a1)] := hl
  unfold f_X10_takeComparison at hf
  refine lv_aload_n hx hb dX10_takeComparison_0 rfl (lv_at hl 0 rfl) ?_
  refine lv_aload_n hx hb dX10_takeComparison_1 rfl (lv_at hl 1 rfl) ?_
  obtain ⟨z2, hz2, hf⟩ := bind_s hf
  refine xV_ir hx hb hml hown htg L10_156 (c_X8_comparison l E a1 hz2 _) ⟨⟨rfl, rfl⟩, Nat.le_of_ble_eq_true rfl, Nat.le_of_ble_eq_true rfl⟩ hK hG hA hP hD hS (is := [1]) rfl rfl (xrecv hK hP (q0 := 1) (ci := 8) rfl rfl) rfl hl.1 rfl (Nat.le_of_ble_eq_true rfl) dX10_takeComparison_2 (fun H locs hP hD hS => ?_)
  refine P10_125 hx hb htg hown hK hP hD hS 0 rfl dX10_takeComparison_5 (fun H locs hP hD hS => ?_)
  refine lv_aload_n hx hb dX10_takeComparison_8 rfl (lv_at hl 0 rfl) ?_
  refine G10_125 hx hb htg hown hK hP 0 rfl dX10_takeComparison_9 ?_
  refine lv_iconst (v := (-1)) hx hb dX10_takeComparison_12 rfl ?_
  refine lv_iconst (v := 1) hx hb dX10_takeComparison_13 rfl ?_
  obtain ⟨z14, hz14, hf⟩ := bind_s hf
  refine xN_ir hx hb hml hown htg L10_89 16 rfl (c_X11_within l E hz14 _) ⟨⟨rfl, rfl⟩, Nat.le_of_ble_eq_true rfl, Nat.le_of_ble_eq_true rfl⟩ hK hG hA hP hD hS (is := []) rfl rfl rfl hl.1 rfl (Nat.le_of_ble_eq_true rfl) dX10_takeComparison_14 (fun H locs hP hD hS => ?_)
  refine lv_if_ne (tgt := 26) hx hb dX10_takeComparison_17 (by decide) (fun c17 => ?_) (fun c17 => ?_)
  · have hf := it_f c17 hf
    refine lv_aload_n hx hb dX10_takeComparison_26 rfl (lv_at hl 1 rfl) ?_
    obtain ⟨z27, hz27, hf⟩ := bind_s hf
    refine xV_vu hx hb hml hown htg L10_63 (c_X8_advance l E a1 a2 a3 hz27 _) ⟨⟨rfl, rfl⟩, Nat.le_of_ble_eq_true rfl, Nat.le_of_ble_eq_true rfl⟩ hK hG hA hP hD hS (is := [1, 2, 3]) (sel := [none, some 0, some 1, some 2]) (ws2 := [(a0, o10 (upd T0 7 z2) u0_0 u0_1 u0_2), (a1, o8 z27.1 z27.2 a2 a3), (a2, ab E 900 V2), (a3, al E 23 V3)]) rfl rfl rfl rfl rfl (xrecv hK hP (q0 := 1) (ci := 8) rfl rfl) rfl hl.1 rfl (Nat.le_of_ble_eq_true rfl) dX10_takeComparison_27 (fun H locs hP hD hS => ?_)
    refine lv_iconst (v := 1) hx hb dX10_takeComparison_30 rfl ?_
    exact ret (1, upd T0 7 z2, z27.1, z27.2) hf nz1 hP hS dX10_takeComparison_31
  · have hf := it_t c17 hf
    refine lv_aload_n hx hb dX10_takeComparison_20 rfl (lv_at hl 1 rfl) ?_
    refine lv_iconst (v := 2) hx hb dX10_takeComparison_21 rfl ?_
    obtain ⟨z22, hz22, hf⟩ := bind_s hf
    refine xV_iu hx hb hml hown htg L10_53 (c_X8_blame l E a1 hz22 _) ⟨⟨rfl, rfl⟩, Nat.le_of_ble_eq_true rfl, Nat.le_of_ble_eq_true rfl⟩ hK hG hA hP hD hS (is := [1]) (sel := [none, some 0, none, none]) (ws2 := [(a0, o10 (upd T0 7 z2) u0_0 u0_1 u0_2), (a1, o8 z22.2 J1_8 a2 a3), (a2, ab E 900 V2), (a3, al E 23 V3)]) rfl rfl rfl rfl rfl (xrecv hK hP (q0 := 1) (ci := 8) rfl rfl) rfl hl.1 rfl (Nat.le_of_ble_eq_true rfl) dX10_takeComparison_22 (fun H locs hP hD hS => ?_)
    obtain ⟨g25, hf⟩ := ck_s hf
    exact ret (z22.1, upd T0 7 z2, z22.2, J1_8) hf (bz_n g25).1 hP hS dX10_takeComparison_25
theorem dX10_takeNumber_0 : decode cX10_takeNumber 0 = .ok (.aload_n 1, 1) := by decide +kernel
theorem dX10_takeNumber_1 : decode cX10_takeNumber 1 = .ok (.iload_n 2, 1) := by decide +kernel
theorem dX10_takeNumber_2 : decode cX10_takeNumber 2 = .ok (.iload_n 3, 1) := by decide +kernel
theorem dX10_takeNumber_3 : decode cX10_takeNumber 3 = .ok (.invokevirtual 144, 3) := by decide +kernel
theorem dX10_takeNumber_6 : decode cX10_takeNumber 6 = .ok (.ifCond .ne 5, 3) := by decide +kernel
theorem dX10_takeNumber_9 : decode cX10_takeNumber 9 = .ok (.iconst 0, 1) := by decide +kernel
theorem dX10_takeNumber_10 : decode cX10_takeNumber 10 = .ok (.ireturn, 1) := by decide +kernel
theorem dX10_takeNumber_11 : decode cX10_takeNumber 11 = .ok (.aload_n 0, 1) := by decide +kernel
theorem dX10_takeNumber_12 : decode cX10_takeNumber 12 = .ok (.aload_n 1, 1) := by decide +kernel
theorem dX10_takeNumber_13 : decode cX10_takeNumber 13 = .ok (.invokevirtual 148, 3) := by decide +kernel
theorem dX10_takeNumber_16 : decode cX10_takeNumber 16 = .ok (.putfield 119, 3) := by decide +kernel
theorem dX10_takeNumber_19 : decode cX10_takeNumber 19 = .ok (.aload_n 1, 1) := by decide +kernel
theorem dX10_takeNumber_20 : decode cX10_takeNumber 20 = .ok (.invokevirtual 63, 3) := by decide +kernel
theorem dX10_takeNumber_23 : decode cX10_takeNumber 23 = .ok (.iconst 1, 1) := by decide +kernel
theorem dX10_takeNumber_24 : decode cX10_takeNumber 24 = .ok (.ireturn, 1) := by decide +kernel
set_option maxRecDepth 100000 in
theorem c_X10_takeNumber (l : Launch) (E : xE) (a0 a1 a2 a3 : Nat) {T0 : Nat → Int32} {u0_0 : Value} {u0_1 : Value} {T1 : Nat → Int32} {J1_8 : Int64} {V2 : Nat → Int32} {V3 : Nat → Int64} {u0_2 : Nat} {x2 : Int32} {x3 : Int32} {z : Int32 × (Nat → Int32) × (Nat → Int32) × Int64} (hf : f_X10_takeNumber T0 T1 J1_8 V2 V3 x2 x3 = some z) (sz : Nat) : Met l yX10_takeNumber (Cond.code yX10_takeNumber cX10_takeNumber 4 (some .boolean) :: gw) ({ frames := 2, cells := 0, slots := 0, locals := 44 }) (xPc E [.ref a0, .ref a1, .int x2, .int x3] [(a0, o10 T0 u0_0 u0_1 u0_2), (a1, o8 T1 J1_8 a2 a3), (a2, ab E 900 V2), (a3, al E 23 V3)] sz) (xQi E z.1 [(a0, o10 T0 u0_0 u0_1 u0_2), (a1, o8 T1 J1_8 a2 a3), (a2, ab E 900 V2), (a3, al E 23 V3)] [(a0, o10 z.2.1 u0_0 u0_1 u0_2), (a1, o8 z.2.2.1 z.2.2.2 a2 a3), (a2, ab E 900 V2), (a3, al E 23 V3)] sz) 0 0 (va_A [(a0, o10 T0 u0_0 u0_1 u0_2), (a1, o8 T1 J1_8 a2 a3), (a2, ab E 900 V2), (a3, al E 23 V3)] sz) := by
  refine xM_i (by decide +kernel) (Nat.le_of_ble_eq_true rfl) ?_
  intro p e s m args below meth c A Q hx hb hml hown htg hK hG hA ret0 H locs ls hP hD hS hl
  have ret : ∀ (z' : Int32 × (Nat → Int32) × (Nat → Int32) × Int64) {H : Heap} {locs : List Loc} {pc : Nat} {ls : Array Slot}, some z' = some z → narrow .boolean (.int z'.1) = .int z'.1 → va_P E.1 vwCl [(a0, o10 z'.2.1 u0_0 u0_1 u0_2), (a1, o8 z'.2.2.1 z'.2.2.2 a2 a3), (a2, ab E 900 V2), (a3, al E 23 V3)] H → va_S A s.heap H locs → decode cX10_takeNumber pc = .ok (.ireturn, 1) → W p l e ({ frames := 2, cells := 0, slots := 0, locals := 44 } : Room) s m args below meth c H locs 0 0 Q (F0 m pc ls [.int z'.1]) := by
    intro z' H locs pc ls h
    cases h
    exact ret0
  replace hl : lv_has ls 4 [(0, .ref a0), (1, .ref a1), (2, .int x2), (3, .int x3)] := hl
  unfold f_X10_takeNumber at hf
  refine lv_aload_n hx hb dX10_takeNumber_0 rfl (lv_at hl 1 rfl) ?_
  refine lv_iload_n hx hb dX10_takeNumber_1 rfl (lv_at hl 2 rfl) ?_
  refine lv_iload_n hx hb dX10_takeNumber_2 rfl (lv_at hl 3 rfl) ?_
  obtain ⟨z3, hz3, hf⟩ := bind_s hf
  refine xV_iu hx hb hml hown htg L10_144 (c_X8_isNumber l E a1 hz3 _) ⟨⟨rfl, rfl⟩, Nat.le_of_ble_eq_true rfl, Nat.le_of_ble_eq_true rfl⟩ hK hG hA hP hD hS (is := [1]) (sel := [none, some 0, none, none]) (ws2 := [(a0, o10 T0 u0_0 u0_1 u0_2), (a1, o8 z3.2 J1_8 a2 a3), (a2, ab E 900 V2), (a3, al E 23 V3)]) rfl rfl rfl rfl rfl (xrecv hK hP (q0 := 1) (ci := 8) rfl rfl) rfl hl.1 rfl (Nat.le_of_ble_eq_true rfl) dX10_takeNumber_3 (fun H locs hP hD hS => ?_)
  refine lv_if_ne (tgt := 11) hx hb dX10_takeNumber_6 (by decide) (fun c6 => ?_) (fun c6 => ?_)
  · have hf := it_f c6 hf
    refine lv_aload_n hx hb dX10_takeNumber_11 rfl (lv_at hl 0 rfl) ?_
    refine lv_aload_n hx hb dX10_takeNumber_12 rfl (lv_at hl 1 rfl) ?_
    obtain ⟨z13, hz13, hf⟩ := bind_s hf
    refine xV_ir hx hb hml hown htg L10_148 (c_X8_number l E a1 hz13 _) ⟨⟨rfl, rfl⟩, Nat.le_of_ble_eq_true rfl, Nat.le_of_ble_eq_true rfl⟩ hK hG hA hP hD hS (is := [1]) rfl rfl (xrecv hK hP (q0 := 1) (ci := 8) rfl rfl) rfl hl.1 rfl (Nat.le_of_ble_eq_true rfl) dX10_takeNumber_13 (fun H locs hP hD hS => ?_)
    refine P10_119 hx hb htg hown hK hP hD hS 0 rfl dX10_takeNumber_16 (fun H locs hP hD hS => ?_)
    refine lv_aload_n hx hb dX10_takeNumber_19 rfl (lv_at hl 1 rfl) ?_
    obtain ⟨z20, hz20, hf⟩ := bind_s hf
    refine xV_vu hx hb hml hown htg L10_63 (c_X8_advance l E a1 a2 a3 hz20 _) ⟨⟨rfl, rfl⟩, Nat.le_of_ble_eq_true rfl, Nat.le_of_ble_eq_true rfl⟩ hK hG hA hP hD hS (is := [1, 2, 3]) (sel := [none, some 0, some 1, some 2]) (ws2 := [(a0, o10 (upd T0 8 z13) u0_0 u0_1 u0_2), (a1, o8 z20.1 z20.2 a2 a3), (a2, ab E 900 V2), (a3, al E 23 V3)]) rfl rfl rfl rfl rfl (xrecv hK hP (q0 := 1) (ci := 8) rfl rfl) rfl hl.1 rfl (Nat.le_of_ble_eq_true rfl) dX10_takeNumber_20 (fun H locs hP hD hS => ?_)
    refine lv_iconst (v := 1) hx hb dX10_takeNumber_23 rfl ?_
    exact ret (1, upd T0 8 z13, z20.1, z20.2) hf nz1 hP hS dX10_takeNumber_24
  · have hf := it_t c6 hf
    refine lv_iconst (v := 0) hx hb dX10_takeNumber_9 rfl ?_
    exact ret (0, T0, z3.2, J1_8) hf nz0 hP hS dX10_takeNumber_10
theorem dX10_takeTest_0 : decode cX10_takeTest 0 = .ok (.aload_n 1, 1) := by decide +kernel
theorem dX10_takeTest_1 : decode cX10_takeTest 1 = .ok (.invokevirtual 69, 3) := by decide +kernel
theorem dX10_takeTest_4 : decode cX10_takeTest 4 = .ok (.istore_n 2, 1) := by decide +kernel
theorem dX10_takeTest_5 : decode cX10_takeTest 5 = .ok (.iload_n 2, 1) := by decide +kernel
theorem dX10_takeTest_6 : decode cX10_takeTest 6 = .ok (.iconst 5, 1) := by decide +kernel
theorem dX10_takeTest_7 : decode cX10_takeTest 7 = .ok (.if_icmp .eq 27, 3) := by decide +kernel
theorem dX10_takeTest_10 : decode cX10_takeTest 10 = .ok (.iload_n 2, 1) := by decide +kernel
theorem dX10_takeTest_11 : decode cX10_takeTest 11 = .ok (.bipush 18, 2) := by decide +kernel
theorem dX10_takeTest_13 : decode cX10_takeTest 13 = .ok (.if_icmp .eq 21, 3) := by decide +kernel
theorem dX10_takeTest_16 : decode cX10_takeTest 16 = .ok (.iload_n 2, 1) := by decide +kernel
theorem dX10_takeTest_17 : decode cX10_takeTest 17 = .ok (.bipush 17, 2) := by decide +kernel
theorem dX10_takeTest_19 : decode cX10_takeTest 19 = .ok (.if_icmp .eq 15, 3) := by decide +kernel
theorem dX10_takeTest_22 : decode cX10_takeTest 22 = .ok (.iload_n 2, 1) := by decide +kernel
theorem dX10_takeTest_23 : decode cX10_takeTest 23 = .ok (.bipush 19, 2) := by decide +kernel
theorem dX10_takeTest_25 : decode cX10_takeTest 25 = .ok (.if_icmp .eq 9, 3) := by decide +kernel
theorem dX10_takeTest_28 : decode cX10_takeTest 28 = .ok (.aload_n 1, 1) := by decide +kernel
theorem dX10_takeTest_29 : decode cX10_takeTest 29 = .ok (.iconst 2, 1) := by decide +kernel
theorem dX10_takeTest_30 : decode cX10_takeTest 30 = .ok (.invokevirtual 53, 3) := by decide +kernel
theorem dX10_takeTest_33 : decode cX10_takeTest 33 = .ok (.ireturn, 1) := by decide +kernel
theorem dX10_takeTest_34 : decode cX10_takeTest 34 = .ok (.aload_n 1, 1) := by decide +kernel
theorem dX10_takeTest_35 : decode cX10_takeTest 35 = .ok (.invokevirtual 63, 3) := by decide +kernel
theorem dX10_takeTest_38 : decode cX10_takeTest 38 = .ok (.iload_n 2, 1) := by decide +kernel
theorem dX10_takeTest_39 : decode cX10_takeTest 39 = .ok (.lookupswitch 137 #[(5, 33), (17, 95), (18, 64)], 33) := by decide +kernel
theorem dX10_takeTest_72 : decode cX10_takeTest 72 = .ok (.aload_n 0, 1) := by decide +kernel
theorem dX10_takeTest_73 : decode cX10_takeTest 73 = .ok (.aload_n 1, 1) := by decide +kernel
theorem dX10_takeTest_74 : decode cX10_takeTest 74 = .ok (.invokevirtual 93, 3) := by decide +kernel
theorem dX10_takeTest_77 : decode cX10_takeTest 77 = .ok (.ifCond .eq 24, 3) := by decide +kernel
theorem dX10_takeTest_80 : decode cX10_takeTest 80 = .ok (.aload_n 0, 1) := by decide +kernel
theorem dX10_takeTest_81 : decode cX10_takeTest 81 = .ok (.getfield 24, 3) := by decide +kernel
theorem dX10_takeTest_84 : decode cX10_takeTest 84 = .ok (.iload_n 2, 1) := by decide +kernel
theorem dX10_takeTest_85 : decode cX10_takeTest 85 = .ok (.aload_n 0, 1) := by decide +kernel
theorem dX10_takeTest_86 : decode cX10_takeTest 86 = .ok (.getfield 96, 3) := by decide +kernel
theorem dX10_takeTest_89 : decode cX10_takeTest 89 = .ok (.iconst 0, 1) := by decide +kernel
theorem dX10_takeTest_90 : decode cX10_takeTest 90 = .ok (.iconst 0, 1) := by decide +kernel
theorem dX10_takeTest_91 : decode cX10_takeTest 91 = .ok (.invokevirtual 99, 3) := by decide +kernel
theorem dX10_takeTest_94 : decode cX10_takeTest 94 = .ok (.ifCond .eq 7, 3) := by decide +kernel
theorem dX10_takeTest_97 : decode cX10_takeTest 97 = .ok (.iconst 1, 1) := by decide +kernel
theorem dX10_takeTest_98 : decode cX10_takeTest 98 = .ok (.goto 4, 3) := by decide +kernel
theorem dX10_takeTest_101 : decode cX10_takeTest 101 = .ok (.iconst 0, 1) := by decide +kernel
theorem dX10_takeTest_102 : decode cX10_takeTest 102 = .ok (.ireturn, 1) := by decide +kernel
theorem dX10_takeTest_103 : decode cX10_takeTest 103 = .ok (.aload_n 0, 1) := by decide +kernel
theorem dX10_takeTest_104 : decode cX10_takeTest 104 = .ok (.aload_n 1, 1) := by decide +kernel
theorem dX10_takeTest_105 : decode cX10_takeTest 105 = .ok (.invokevirtual 103, 3) := by decide +kernel
theorem dX10_takeTest_108 : decode cX10_takeTest 108 = .ok (.ifCond .eq 24, 3) := by decide +kernel
theorem dX10_takeTest_111 : decode cX10_takeTest 111 = .ok (.aload_n 0, 1) := by decide +kernel
theorem dX10_takeTest_112 : decode cX10_takeTest 112 = .ok (.getfield 24, 3) := by decide +kernel
theorem dX10_takeTest_115 : decode cX10_takeTest 115 = .ok (.iload_n 2, 1) := by decide +kernel
theorem dX10_takeTest_116 : decode cX10_takeTest 116 = .ok (.aload_n 0, 1) := by decide +kernel
theorem dX10_takeTest_117 : decode cX10_takeTest 117 = .ok (.getfield 109, 3) := by decide +kernel
theorem dX10_takeTest_120 : decode cX10_takeTest 120 = .ok (.iconst 0, 1) := by decide +kernel
theorem dX10_takeTest_121 : decode cX10_takeTest 121 = .ok (.iconst 0, 1) := by decide +kernel
theorem dX10_takeTest_122 : decode cX10_takeTest 122 = .ok (.invokevirtual 99, 3) := by decide +kernel
theorem dX10_takeTest_125 : decode cX10_takeTest 125 = .ok (.ifCond .eq 7, 3) := by decide +kernel
theorem dX10_takeTest_128 : decode cX10_takeTest 128 = .ok (.iconst 1, 1) := by decide +kernel
theorem dX10_takeTest_129 : decode cX10_takeTest 129 = .ok (.goto 4, 3) := by decide +kernel
theorem dX10_takeTest_132 : decode cX10_takeTest 132 = .ok (.iconst 0, 1) := by decide +kernel
theorem dX10_takeTest_133 : decode cX10_takeTest 133 = .ok (.ireturn, 1) := by decide +kernel
theorem dX10_takeTest_134 : decode cX10_takeTest 134 = .ok (.aload_n 0, 1) := by decide +kernel
theorem dX10_takeTest_135 : decode cX10_takeTest 135 = .ok (.aload_n 1, 1) := by decide +kernel
theorem dX10_takeTest_136 : decode cX10_takeTest 136 = .ok (.invokevirtual 103, 3) := by decide +kernel
theorem dX10_takeTest_139 : decode cX10_takeTest 139 = .ok (.ifCond .eq 35, 3) := by decide +kernel
theorem dX10_takeTest_142 : decode cX10_takeTest 142 = .ok (.aload_n 0, 1) := by decide +kernel
theorem dX10_takeTest_143 : decode cX10_takeTest 143 = .ok (.aload_n 1, 1) := by decide +kernel
theorem dX10_takeTest_144 : decode cX10_takeTest 144 = .ok (.invokevirtual 106, 3) := by decide +kernel
theorem dX10_takeTest_147 : decode cX10_takeTest 147 = .ok (.ifCond .eq 27, 3) := by decide +kernel
theorem dX10_takeTest_150 : decode cX10_takeTest 150 = .ok (.aload_n 0, 1) := by decide +kernel
theorem dX10_takeTest_151 : decode cX10_takeTest 151 = .ok (.getfield 24, 3) := by decide +kernel
theorem dX10_takeTest_154 : decode cX10_takeTest 154 = .ok (.iload_n 2, 1) := by decide +kernel
theorem dX10_takeTest_155 : decode cX10_takeTest 155 = .ok (.aload_n 0, 1) := by decide +kernel
theorem dX10_takeTest_156 : decode cX10_takeTest 156 = .ok (.getfield 109, 3) := by decide +kernel
theorem dX10_takeTest_159 : decode cX10_takeTest 159 = .ok (.aload_n 0, 1) := by decide +kernel
theorem dX10_takeTest_160 : decode cX10_takeTest 160 = .ok (.getfield 112, 3) := by decide +kernel
theorem dX10_takeTest_163 : decode cX10_takeTest 163 = .ok (.iconst 0, 1) := by decide +kernel
theorem dX10_takeTest_164 : decode cX10_takeTest 164 = .ok (.invokevirtual 99, 3) := by decide +kernel
theorem dX10_takeTest_167 : decode cX10_takeTest 167 = .ok (.ifCond .eq 7, 3) := by decide +kernel
theorem dX10_takeTest_170 : decode cX10_takeTest 170 = .ok (.iconst 1, 1) := by decide +kernel
theorem dX10_takeTest_171 : decode cX10_takeTest 171 = .ok (.goto 4, 3) := by decide +kernel
theorem dX10_takeTest_174 : decode cX10_takeTest 174 = .ok (.iconst 0, 1) := by decide +kernel
theorem dX10_takeTest_175 : decode cX10_takeTest 175 = .ok (.ireturn, 1) := by decide +kernel
theorem dX10_takeTest_176 : decode cX10_takeTest 176 = .ok (.aload_n 0, 1) := by decide +kernel
theorem dX10_takeTest_177 : decode cX10_takeTest 177 = .ok (.aload_n 1, 1) := by decide +kernel
theorem dX10_takeTest_178 : decode cX10_takeTest 178 = .ok (.invokevirtual 122, 3) := by decide +kernel
theorem dX10_takeTest_181 : decode cX10_takeTest 181 = .ok (.ifCond .eq 38, 3) := by decide +kernel
theorem dX10_takeTest_184 : decode cX10_takeTest 184 = .ok (.aload_n 0, 1) := by decide +kernel
theorem dX10_takeTest_185 : decode cX10_takeTest 185 = .ok (.aload_n 1, 1) := by decide +kernel
theorem dX10_takeTest_186 : decode cX10_takeTest 186 = .ok (.iconst 0, 1) := by decide +kernel
theorem dX10_takeTest_187 : decode cX10_takeTest 187 = .ok (.bipush 36, 2) := by decide +kernel
theorem dX10_takeTest_189 : decode cX10_takeTest 189 = .ok (.invokevirtual 115, 3) := by decide +kernel
theorem dX10_takeTest_192 : decode cX10_takeTest 192 = .ok (.ifCond .eq 27, 3) := by decide +kernel
theorem dX10_takeTest_195 : decode cX10_takeTest 195 = .ok (.aload_n 0, 1) := by decide +kernel
theorem dX10_takeTest_196 : decode cX10_takeTest 196 = .ok (.getfield 24, 3) := by decide +kernel
theorem dX10_takeTest_199 : decode cX10_takeTest 199 = .ok (.iload_n 2, 1) := by decide +kernel
theorem dX10_takeTest_200 : decode cX10_takeTest 200 = .ok (.aload_n 0, 1) := by decide +kernel
theorem dX10_takeTest_201 : decode cX10_takeTest 201 = .ok (.getfield 125, 3) := by decide +kernel
theorem dX10_takeTest_204 : decode cX10_takeTest 204 = .ok (.aload_n 0, 1) := by decide +kernel
theorem dX10_takeTest_205 : decode cX10_takeTest 205 = .ok (.getfield 119, 3) := by decide +kernel
theorem dX10_takeTest_208 : decode cX10_takeTest 208 = .ok (.iconst 0, 1) := by decide +kernel
theorem dX10_takeTest_209 : decode cX10_takeTest 209 = .ok (.invokevirtual 99, 3) := by decide +kernel
theorem dX10_takeTest_212 : decode cX10_takeTest 212 = .ok (.ifCond .eq 7, 3) := by decide +kernel
theorem dX10_takeTest_215 : decode cX10_takeTest 215 = .ok (.iconst 1, 1) := by decide +kernel
theorem dX10_takeTest_216 : decode cX10_takeTest 216 = .ok (.goto 4, 3) := by decide +kernel
theorem dX10_takeTest_219 : decode cX10_takeTest 219 = .ok (.iconst 0, 1) := by decide +kernel
theorem dX10_takeTest_220 : decode cX10_takeTest 220 = .ok (.ireturn, 1) := by decide +kernel
set_option maxRecDepth 100000 in
theorem c_X10_takeTest (l : Launch) (E : xE) (a0 a1 a2 a3 a4 a5 a6 a7 a8 a9 a10 a11 : Nat) {T0 : Nat → Int32} {T1 : Nat → Int32} {J1_8 : Int64} {V2 : Nat → Int32} {V3 : Nat → Int64} {T4 : Nat → Int32} {V5 : Nat → Int64} {T6 : Nat → Int32} {V7 : Nat → Int32} {V8 : Nat → Int32} {V9 : Nat → Int32} {V10 : Nat → Int32} {V11 : Nat → Int32} {u0_2 u4_7 u4_8 u4_10 u4_11 u4_12 u4_13 u4_14 : Nat} {z : Int32 × (Nat → Int32) × (Nat → Int32) × Int64 × (Nat → Int32) × (Nat → Int32) × (Nat → Int32) × (Nat → Int32) × (Nat → Int32) × (Nat → Int32)} (hf : f_X10_takeTest T0 T1 J1_8 V2 V3 T4 V5 T6 V7 V8 V9 V10 V11 = some z) (sz : Nat) : Met l yX10_takeTest (Cond.code yX10_takeTest cX10_takeTest 3 (some .boolean) :: gw) ({ frames := 3, cells := 0, slots := 0, locals := 67 }) (xPc E [.ref a0, .ref a1] [(a0, o10 T0 (.ref a4) (.ref a6) u0_2), (a1, o8 T1 J1_8 a2 a3), (a2, ab E 900 V2), (a3, al E 23 V3), (a4, o3 T4 u4_7 u4_8 a5 u4_10 u4_11 u4_12 u4_13 u4_14), (a5, al E 5 V5), (a6, o0 T6 a7 a8 a9 a10 a11), (a7, ai E 60 V7), (a8, ai E 60 V8), (a9, ai E 60 V9), (a10, ai E 60 V10), (a11, ai E 60 V11)] sz) (xQi E z.1 [(a0, o10 T0 (.ref a4) (.ref a6) u0_2), (a1, o8 T1 J1_8 a2 a3), (a2, ab E 900 V2), (a3, al E 23 V3), (a4, o3 T4 u4_7 u4_8 a5 u4_10 u4_11 u4_12 u4_13 u4_14), (a5, al E 5 V5), (a6, o0 T6 a7 a8 a9 a10 a11), (a7, ai E 60 V7), (a8, ai E 60 V8), (a9, ai E 60 V9), (a10, ai E 60 V10), (a11, ai E 60 V11)] [(a0, o10 z.2.1 (.ref a4) (.ref a6) u0_2), (a1, o8 z.2.2.1 z.2.2.2.1 a2 a3), (a2, ab E 900 V2), (a3, al E 23 V3), (a4, o3 T4 u4_7 u4_8 a5 u4_10 u4_11 u4_12 u4_13 u4_14), (a5, al E 5 V5), (a6, o0 z.2.2.2.2.1 a7 a8 a9 a10 a11), (a7, ai E 60 z.2.2.2.2.2.1), (a8, ai E 60 z.2.2.2.2.2.2.1), (a9, ai E 60 z.2.2.2.2.2.2.2.1), (a10, ai E 60 z.2.2.2.2.2.2.2.2.1), (a11, ai E 60 z.2.2.2.2.2.2.2.2.2)] sz) 0 0 (va_A [(a0, o10 T0 (.ref a4) (.ref a6) u0_2), (a1, o8 T1 J1_8 a2 a3), (a2, ab E 900 V2), (a3, al E 23 V3), (a4, o3 T4 u4_7 u4_8 a5 u4_10 u4_11 u4_12 u4_13 u4_14), (a5, al E 5 V5), (a6, o0 T6 a7 a8 a9 a10 a11), (a7, ai E 60 V7), (a8, ai E 60 V8), (a9, ai E 60 V9), (a10, ai E 60 V10), (a11, ai E 60 V11)] sz) := by
  refine xM_i (by decide +kernel) (Nat.le_of_ble_eq_true rfl) ?_
  intro p e s m args below meth c A Q hx hb hml hown htg hK hG hA ret0 H locs ls hP hD hS hl
  have ret : ∀ (z' : Int32 × (Nat → Int32) × (Nat → Int32) × Int64 × (Nat → Int32) × (Nat → Int32) × (Nat → Int32) × (Nat → Int32) × (Nat → Int32) × (Nat → Int32)) {H : Heap} {locs : List Loc} {pc : Nat} {ls : Array Slot}, some z' = some z → narrow .boolean (.int z'.1) = .int z'.1 → va_P E.1 vwCl [(a0, o10 z'.2.1 (.ref a4) (.ref a6) u0_2), (a1, o8 z'.2.2.1 z'.2.2.2.1 a2 a3), (a2, ab E 900 V2), (a3, al E 23 V3), (a4, o3 T4 u4_7 u4_8 a5 u4_10 u4_11 u4_12 u4_13 u4_14), (a5, al E 5 V5), (a6, o0 z'.2.2.2.2.1 a7 a8 a9 a10 a11), (a7, ai E 60 z'.2.2.2.2.2.1), (a8, ai E 60 z'.2.2.2.2.2.2.1), (a9, ai E 60 z'.2.2.2.2.2.2.2.1), (a10, ai E 60 z'.2.2.2.2.2.2.2.2.1), (a11, ai E 60 z'.2.2.2.2.2.2.2.2.2)] H → va_S A s.heap H locs → decode cX10_takeTest pc = .ok (.ireturn, 1) → W p l e ({ frames := 3, cells := 0, slots := 0, locals := 67 } : Room) s m args below meth c H locs 0 0 Q (F0 m pc ls [.int z'.1]) := by
    intro z' H locs pc ls h
    cases h
    exact ret0
  replace hl : lv_has ls 3 [(0, .ref a0), (1, .ref a1)] := hl
  have b34 : ∀ (x2 : Int32) (T0 : Nat → Int32) (T1 : Nat → Int32) (J1_8 : Int64) (T6 : Nat → Int32) (V7 : Nat → Int32) (V8 : Nat → Int32) (V9 : Nat → Int32) (V10 : Nat → Int32) (V11 : Nat → Int32) (H : Heap) (locs : List Loc) (ls : Array Slot), f_X10_takeTest_34 V2 V3 T4 V5 x2 T0 T1 J1_8 T6 V7 V8 V9 V10 V11 = some z → va_P E.1 vwCl [(a0, o10 T0 (.ref a4) (.ref a6) u0_2), (a1, o8 T1 J1_8 a2 a3), (a2, ab E 900 V2), (a3, al E 23 V3), (a4, o3 T4 u4_7 u4_8 a5 u4_10 u4_11 u4_12 u4_13 u4_14), (a5, al E 5 V5), (a6, o0 T6 a7 a8 a9 a10 a11), (a7, ai E 60 V7), (a8, ai E 60 V8), (a9, ai E 60 V9), (a10, ai E 60 V10), (a11, ai E 60 V11)] H → va_D A [(a0, o10 T0 (.ref a4) (.ref a6) u0_2), (a1, o8 T1 J1_8 a2 a3), (a2, ab E 900 V2), (a3, al E 23 V3), (a4, o3 T4 u4_7 u4_8 a5 u4_10 u4_11 u4_12 u4_13 u4_14), (a5, al E 5 V5), (a6, o0 T6 a7 a8 a9 a10 a11), (a7, ai E 60 V7), (a8, ai E 60 V8), (a9, ai E 60 V9), (a10, ai E 60 V10), (a11, ai E 60 V11)] → va_S A s.heap H locs → lv_has ls 3 [(0, .ref a0), (1, .ref a1), (2, .int x2)] → W p l e ({ frames := 3, cells := 0, slots := 0, locals := 67 } : Room) s m args below meth c H locs 0 0 Q (F0 m 34 ls []) := by
    intro x2 T0 T1 J1_8 T6 V7 V8 V9 V10 V11 H locs ls hf hP hD hS hl
    unfold f_X10_takeTest_34 at hf
    refine lv_aload_n hx hb dX10_takeTest_34 rfl (lv_at hl 1 rfl) ?_
    obtain ⟨z35, hz35, hf⟩ := bind_s hf
    refine xV_vu hx hb hml hown htg L10_63 (c_X8_advance l E a1 a2 a3 hz35 _) ⟨⟨rfl, rfl⟩, Nat.le_of_ble_eq_true rfl, Nat.le_of_ble_eq_true rfl⟩ hK hG hA hP hD hS (is := [1, 2, 3]) (sel := [none, some 0, some 1, some 2, none, none, none, none, none, none, none, none]) (ws2 := [(a0, o10 T0 (.ref a4) (.ref a6) u0_2), (a1, o8 z35.1 z35.2 a2 a3), (a2, ab E 900 V2), (a3, al E 23 V3), (a4, o3 T4 u4_7 u4_8 a5 u4_10 u4_11 u4_12 u4_13 u4_14), (a5, al E 5 V5), (a6, o0 T6 a7 a8 a9 a10 a11), (a7, ai E 60 V7), (a8, ai E 60 V8), (a9, ai E 60 V9), (a10, ai E 60 V10), (a11, ai E 60 V11)]) rfl rfl rfl rfl rfl (xrecv hK hP (q0 := 1) (ci := 8) rfl rfl) rfl hl.1 rfl (Nat.le_of_ble_eq_true rfl) dX10_takeTest_35 (fun H locs hP hD hS => ?_)
    refine lv_iload_n hx hb dX10_takeTest_38 rfl (lv_at hl 2 rfl) ?_
    by_cases c39_5 : x2 = 5
    · have hf := it_t c39_5 hf
      refine xlkI (off := 33) (tgt := 72) hx hb c39_5 dX10_takeTest_39 rfl (by decide) ?_
      refine lv_aload_n hx hb dX10_takeTest_72 rfl (lv_at hl 0 rfl) ?_
      refine lv_aload_n hx hb dX10_takeTest_73 rfl (lv_at hl 1 rfl) ?_
      obtain ⟨z74, hz74, hf⟩ := bind_s hf
      refine xV_iu hx hb hml hown htg L10_93 (c_X10_takeName l E a0 a1 a4 a5 a2 a3 hz74 _) ⟨⟨rfl, rfl⟩, Nat.le_of_ble_eq_true rfl, Nat.le_of_ble_eq_true rfl⟩ hK hG hA hP hD hS (is := [0, 1, 4, 5, 2, 3]) (sel := [some 0, some 1, some 4, some 5, some 2, some 3, none, none, none, none, none, none]) (ws2 := [(a0, o10 z74.2.1 (.ref a4) (.ref a6) u0_2), (a1, o8 z74.2.2.1 z74.2.2.2 a2 a3), (a2, ab E 900 V2), (a3, al E 23 V3), (a4, o3 T4 u4_7 u4_8 a5 u4_10 u4_11 u4_12 u4_13 u4_14), (a5, al E 5 V5), (a6, o0 T6 a7 a8 a9 a10 a11), (a7, ai E 60 V7), (a8, ai E 60 V8), (a9, ai E 60 V9), (a10, ai E 60 V10), (a11, ai E 60 V11)]) rfl rfl rfl rfl rfl (xrecv hK hP (q0 := 0) (ci := 10) rfl rfl) rfl hl.1 rfl (Nat.le_of_ble_eq_true rfl) dX10_takeTest_74 (fun H locs hP hD hS => ?_)
      refine lv_if_eq (tgt := 101) hx hb dX10_takeTest_77 (by decide) (fun c77 => ?_) (fun c77 => ?_)
      · have hf := it_t c77 hf
        refine lv_iconst (v := 0) hx hb dX10_takeTest_101 rfl ?_
        exact ret (0, z74.2.1, z74.2.2.1, z74.2.2.2, T6, V7, V8, V9, V10, V11) hf nz0 hP hS dX10_takeTest_102
      · have hf := it_f c77 hf
        refine lv_aload_n hx hb dX10_takeTest_80 rfl (lv_at hl 0 rfl) ?_
        refine G10_24 hx hb htg hown hK hP 0 rfl dX10_takeTest_81 ?_
        refine lv_iload_n hx hb dX10_takeTest_84 rfl (lv_at hl 2 rfl) ?_
        refine lv_aload_n hx hb dX10_takeTest_85 rfl (lv_at hl 0 rfl) ?_
        refine G10_96 hx hb htg hown hK hP 0 rfl dX10_takeTest_86 ?_
        refine lv_iconst (v := 0) hx hb dX10_takeTest_89 rfl ?_
        refine lv_iconst (v := 0) hx hb dX10_takeTest_90 rfl ?_
        obtain ⟨z91, hz91, hf⟩ := bind_s hf
        refine xV_iu hx hb hml hown htg L10_99 (c_X0_addStep l E a6 a7 a8 a9 a10 a11 hz91 _) ⟨⟨rfl, rfl⟩, Nat.le_of_ble_eq_true rfl, Nat.le_of_ble_eq_true rfl⟩ hK hG hA hP hD hS (is := [6, 7, 8, 9, 10, 11]) (sel := [none, none, none, none, none, none, some 0, some 1, some 2, some 3, some 4, some 5]) (ws2 := [(a0, o10 z74.2.1 (.ref a4) (.ref a6) u0_2), (a1, o8 z74.2.2.1 z74.2.2.2 a2 a3), (a2, ab E 900 V2), (a3, al E 23 V3), (a4, o3 T4 u4_7 u4_8 a5 u4_10 u4_11 u4_12 u4_13 u4_14), (a5, al E 5 V5), (a6, o0 z91.2.1 a7 a8 a9 a10 a11), (a7, ai E 60 z91.2.2.1), (a8, ai E 60 z91.2.2.2.1), (a9, ai E 60 z91.2.2.2.2.1), (a10, ai E 60 z91.2.2.2.2.2.1), (a11, ai E 60 z91.2.2.2.2.2.2)]) rfl rfl rfl rfl rfl (xrecv hK hP (q0 := 6) (ci := 0) rfl rfl) rfl hl.1 rfl (Nat.le_of_ble_eq_true rfl) dX10_takeTest_91 (fun H locs hP hD hS => ?_)
        refine lv_if_eq (tgt := 101) hx hb dX10_takeTest_94 (by decide) (fun c94 => ?_) (fun c94 => ?_)
        · have hf := it_t c94 hf
          refine lv_iconst (v := 0) hx hb dX10_takeTest_101 rfl ?_
          exact ret (0, z74.2.1, z74.2.2.1, z74.2.2.2, z91.2.1, z91.2.2.1, z91.2.2.2.1, z91.2.2.2.2.1, z91.2.2.2.2.2.1, z91.2.2.2.2.2.2) hf nz0 hP hS dX10_takeTest_102
        · have hf := it_f c94 hf
          refine lv_iconst (v := 1) hx hb dX10_takeTest_97 rfl ?_
          refine lv_goto (tgt := 102) hx hb dX10_takeTest_98 (by decide) ?_
          exact ret (1, z74.2.1, z74.2.2.1, z74.2.2.2, z91.2.1, z91.2.2.1, z91.2.2.2.1, z91.2.2.2.2.1, z91.2.2.2.2.2.1, z91.2.2.2.2.2.2) hf nz1 hP hS dX10_takeTest_102
    have hf := it_f c39_5 hf
    by_cases c39_17 : x2 = 17
    · have hf := it_t c39_17 hf
      refine xlkI (off := 95) (tgt := 134) hx hb c39_17 dX10_takeTest_39 rfl (by decide) ?_
      refine lv_aload_n hx hb dX10_takeTest_134 rfl (lv_at hl 0 rfl) ?_
      refine lv_aload_n hx hb dX10_takeTest_135 rfl (lv_at hl 1 rfl) ?_
      obtain ⟨z136, hz136, hf⟩ := bind_s hf
      refine xV_iu hx hb hml hown htg L10_103 (c_X10_takeCell l E a0 a1 a4 a2 a3 hz136 _) ⟨⟨rfl, rfl⟩, Nat.le_of_ble_eq_true rfl, Nat.le_of_ble_eq_true rfl⟩ hK hG hA hP hD hS (is := [0, 1, 4, 2, 3]) (sel := [some 0, some 1, some 3, some 4, some 2, none, none, none, none, none, none, none]) (ws2 := [(a0, o10 z136.2.1 (.ref a4) (.ref a6) u0_2), (a1, o8 z136.2.2.1 z136.2.2.2 a2 a3), (a2, ab E 900 V2), (a3, al E 23 V3), (a4, o3 T4 u4_7 u4_8 a5 u4_10 u4_11 u4_12 u4_13 u4_14), (a5, al E 5 V5), (a6, o0 T6 a7 a8 a9 a10 a11), (a7, ai E 60 V7), (a8, ai E 60 V8), (a9, ai E 60 V9), (a10, ai E 60 V10), (a11, ai E 60 V11)]) rfl rfl rfl rfl rfl (xrecv hK hP (q0 := 0) (ci := 10) rfl rfl) rfl hl.1 rfl (Nat.le_of_ble_eq_true rfl) dX10_takeTest_136 (fun H locs hP hD hS => ?_)
      refine lv_if_eq (tgt := 174) hx hb dX10_takeTest_139 (by decide) (fun c139 => ?_) (fun c139 => ?_)
      · have hf := it_t c139 hf
        refine lv_iconst (v := 0) hx hb dX10_takeTest_174 rfl ?_
        exact ret (0, z136.2.1, z136.2.2.1, z136.2.2.2, T6, V7, V8, V9, V10, V11) hf nz0 hP hS dX10_takeTest_175
      · have hf := it_f c139 hf
        refine lv_aload_n hx hb dX10_takeTest_142 rfl (lv_at hl 0 rfl) ?_
        refine lv_aload_n hx hb dX10_takeTest_143 rfl (lv_at hl 1 rfl) ?_
        obtain ⟨z144, hz144, hf⟩ := bind_s hf
        refine xV_iu hx hb hml hown htg L10_106 (c_X10_takeFeeling l E a0 a1 a2 a3 hz144 _) ⟨⟨rfl, rfl⟩, Nat.le_of_ble_eq_true rfl, Nat.le_of_ble_eq_true rfl⟩ hK hG hA hP hD hS (is := [0, 1, 2, 3]) (sel := [some 0, some 1, some 2, some 3, none, none, none, none, none, none, none, none]) (ws2 := [(a0, o10 z144.2.1 (.ref a4) (.ref a6) u0_2), (a1, o8 z144.2.2.1 z144.2.2.2 a2 a3), (a2, ab E 900 V2), (a3, al E 23 V3), (a4, o3 T4 u4_7 u4_8 a5 u4_10 u4_11 u4_12 u4_13 u4_14), (a5, al E 5 V5), (a6, o0 T6 a7 a8 a9 a10 a11), (a7, ai E 60 V7), (a8, ai E 60 V8), (a9, ai E 60 V9), (a10, ai E 60 V10), (a11, ai E 60 V11)]) rfl rfl rfl rfl rfl (xrecv hK hP (q0 := 0) (ci := 10) rfl rfl) rfl hl.1 rfl (Nat.le_of_ble_eq_true rfl) dX10_takeTest_144 (fun H locs hP hD hS => ?_)
        refine lv_if_eq (tgt := 174) hx hb dX10_takeTest_147 (by decide) (fun c147 => ?_) (fun c147 => ?_)
        · have hf := it_t c147 hf
          refine lv_iconst (v := 0) hx hb dX10_takeTest_174 rfl ?_
          exact ret (0, z144.2.1, z144.2.2.1, z144.2.2.2, T6, V7, V8, V9, V10, V11) hf nz0 hP hS dX10_takeTest_175
        · have hf := it_f c147 hf
          refine lv_aload_n hx hb dX10_takeTest_150 rfl (lv_at hl 0 rfl) ?_
          refine G10_24 hx hb htg hown hK hP 0 rfl dX10_takeTest_151 ?_
          refine lv_iload_n hx hb dX10_takeTest_154 rfl (lv_at hl 2 rfl) ?_
          refine lv_aload_n hx hb dX10_takeTest_155 rfl (lv_at hl 0 rfl) ?_
          refine G10_109 hx hb htg hown hK hP 0 rfl dX10_takeTest_156 ?_
          refine lv_aload_n hx hb dX10_takeTest_159 rfl (lv_at hl 0 rfl) ?_
          refine G10_112 hx hb htg hown hK hP 0 rfl dX10_takeTest_160 ?_
          refine lv_iconst (v := 0) hx hb dX10_takeTest_163 rfl ?_
          obtain ⟨z164, hz164, hf⟩ := bind_s hf
          refine xV_iu hx hb hml hown htg L10_99 (c_X0_addStep l E a6 a7 a8 a9 a10 a11 hz164 _) ⟨⟨rfl, rfl⟩, Nat.le_of_ble_eq_true rfl, Nat.le_of_ble_eq_true rfl⟩ hK hG hA hP hD hS (is := [6, 7, 8, 9, 10, 11]) (sel := [none, none, none, none, none, none, some 0, some 1, some 2, some 3, some 4, some 5]) (ws2 := [(a0, o10 z144.2.1 (.ref a4) (.ref a6) u0_2), (a1, o8 z144.2.2.1 z144.2.2.2 a2 a3), (a2, ab E 900 V2), (a3, al E 23 V3), (a4, o3 T4 u4_7 u4_8 a5 u4_10 u4_11 u4_12 u4_13 u4_14), (a5, al E 5 V5), (a6, o0 z164.2.1 a7 a8 a9 a10 a11), (a7, ai E 60 z164.2.2.1), (a8, ai E 60 z164.2.2.2.1), (a9, ai E 60 z164.2.2.2.2.1), (a10, ai E 60 z164.2.2.2.2.2.1), (a11, ai E 60 z164.2.2.2.2.2.2)]) rfl rfl rfl rfl rfl (xrecv hK hP (q0 := 6) (ci := 0) rfl rfl) rfl hl.1 rfl (Nat.le_of_ble_eq_true rfl) dX10_takeTest_164 (fun H locs hP hD hS => ?_)
          refine lv_if_eq (tgt := 174) hx hb dX10_takeTest_167 (by decide) (fun c167 => ?_) (fun c167 => ?_)
          · have hf := it_t c167 hf
            refine lv_iconst (v := 0) hx hb dX10_takeTest_174 rfl ?_
            exact ret (0, z144.2.1, z144.2.2.1, z144.2.2.2, z164.2.1, z164.2.2.1, z164.2.2.2.1, z164.2.2.2.2.1, z164.2.2.2.2.2.1, z164.2.2.2.2.2.2) hf nz0 hP hS dX10_takeTest_175
          · have hf := it_f c167 hf
            refine lv_iconst (v := 1) hx hb dX10_takeTest_170 rfl ?_
            refine lv_goto (tgt := 175) hx hb dX10_takeTest_171 (by decide) ?_
            exact ret (1, z144.2.1, z144.2.2.1, z144.2.2.2, z164.2.1, z164.2.2.1, z164.2.2.2.1, z164.2.2.2.2.1, z164.2.2.2.2.2.1, z164.2.2.2.2.2.2) hf nz1 hP hS dX10_takeTest_175
    have hf := it_f c39_17 hf
    by_cases c39_18 : x2 = 18
    · have hf := it_t c39_18 hf
      refine xlkI (off := 64) (tgt := 103) hx hb c39_18 dX10_takeTest_39 rfl (by decide) ?_
      refine lv_aload_n hx hb dX10_takeTest_103 rfl (lv_at hl 0 rfl) ?_
      refine lv_aload_n hx hb dX10_takeTest_104 rfl (lv_at hl 1 rfl) ?_
      obtain ⟨z105, hz105, hf⟩ := bind_s hf
      refine xV_iu hx hb hml hown htg L10_103 (c_X10_takeCell l E a0 a1 a4 a2 a3 hz105 _) ⟨⟨rfl, rfl⟩, Nat.le_of_ble_eq_true rfl, Nat.le_of_ble_eq_true rfl⟩ hK hG hA hP hD hS (is := [0, 1, 4, 2, 3]) (sel := [some 0, some 1, some 3, some 4, some 2, none, none, none, none, none, none, none]) (ws2 := [(a0, o10 z105.2.1 (.ref a4) (.ref a6) u0_2), (a1, o8 z105.2.2.1 z105.2.2.2 a2 a3), (a2, ab E 900 V2), (a3, al E 23 V3), (a4, o3 T4 u4_7 u4_8 a5 u4_10 u4_11 u4_12 u4_13 u4_14), (a5, al E 5 V5), (a6, o0 T6 a7 a8 a9 a10 a11), (a7, ai E 60 V7), (a8, ai E 60 V8), (a9, ai E 60 V9), (a10, ai E 60 V10), (a11, ai E 60 V11)]) rfl rfl rfl rfl rfl (xrecv hK hP (q0 := 0) (ci := 10) rfl rfl) rfl hl.1 rfl (Nat.le_of_ble_eq_true rfl) dX10_takeTest_105 (fun H locs hP hD hS => ?_)
      refine lv_if_eq (tgt := 132) hx hb dX10_takeTest_108 (by decide) (fun c108 => ?_) (fun c108 => ?_)
      · have hf := it_t c108 hf
        refine lv_iconst (v := 0) hx hb dX10_takeTest_132 rfl ?_
        exact ret (0, z105.2.1, z105.2.2.1, z105.2.2.2, T6, V7, V8, V9, V10, V11) hf nz0 hP hS dX10_takeTest_133
      · have hf := it_f c108 hf
        refine lv_aload_n hx hb dX10_takeTest_111 rfl (lv_at hl 0 rfl) ?_
        refine G10_24 hx hb htg hown hK hP 0 rfl dX10_takeTest_112 ?_
        refine lv_iload_n hx hb dX10_takeTest_115 rfl (lv_at hl 2 rfl) ?_
        refine lv_aload_n hx hb dX10_takeTest_116 rfl (lv_at hl 0 rfl) ?_
        refine G10_109 hx hb htg hown hK hP 0 rfl dX10_takeTest_117 ?_
        refine lv_iconst (v := 0) hx hb dX10_takeTest_120 rfl ?_
        refine lv_iconst (v := 0) hx hb dX10_takeTest_121 rfl ?_
        obtain ⟨z122, hz122, hf⟩ := bind_s hf
        refine xV_iu hx hb hml hown htg L10_99 (c_X0_addStep l E a6 a7 a8 a9 a10 a11 hz122 _) ⟨⟨rfl, rfl⟩, Nat.le_of_ble_eq_true rfl, Nat.le_of_ble_eq_true rfl⟩ hK hG hA hP hD hS (is := [6, 7, 8, 9, 10, 11]) (sel := [none, none, none, none, none, none, some 0, some 1, some 2, some 3, some 4, some 5]) (ws2 := [(a0, o10 z105.2.1 (.ref a4) (.ref a6) u0_2), (a1, o8 z105.2.2.1 z105.2.2.2 a2 a3), (a2, ab E 900 V2), (a3, al E 23 V3), (a4, o3 T4 u4_7 u4_8 a5 u4_10 u4_11 u4_12 u4_13 u4_14), (a5, al E 5 V5), (a6, o0 z122.2.1 a7 a8 a9 a10 a11), (a7, ai E 60 z122.2.2.1), (a8, ai E 60 z122.2.2.2.1), (a9, ai E 60 z122.2.2.2.2.1), (a10, ai E 60 z122.2.2.2.2.2.1), (a11, ai E 60 z122.2.2.2.2.2.2)]) rfl rfl rfl rfl rfl (xrecv hK hP (q0 := 6) (ci := 0) rfl rfl) rfl hl.1 rfl (Nat.le_of_ble_eq_true rfl) dX10_takeTest_122 (fun H locs hP hD hS => ?_)
        refine lv_if_eq (tgt := 132) hx hb dX10_takeTest_125 (by decide) (fun c125 => ?_) (fun c125 => ?_)
        · have hf := it_t c125 hf
          refine lv_iconst (v := 0) hx hb dX10_takeTest_132 rfl ?_
          exact ret (0, z105.2.1, z105.2.2.1, z105.2.2.2, z122.2.1, z122.2.2.1, z122.2.2.2.1, z122.2.2.2.2.1, z122.2.2.2.2.2.1, z122.2.2.2.2.2.2) hf nz0 hP hS dX10_takeTest_133
        · have hf := it_f c125 hf
          refine lv_iconst (v := 1) hx hb dX10_takeTest_128 rfl ?_
          refine lv_goto (tgt := 133) hx hb dX10_takeTest_129 (by decide) ?_
          exact ret (1, z105.2.1, z105.2.2.1, z105.2.2.2, z122.2.1, z122.2.2.1, z122.2.2.2.1, z122.2.2.2.2.1, z122.2.2.2.2.2.1, z122.2.2.2.2.2.2) hf nz1 hP hS dX10_takeTest_133
    have hf := it_f c39_18 hf
    refine xlkD (tgt := 176) (cs := [5, 17, 18]) hx hb (by simp only [List.forall_mem_cons]; exact ⟨c39_5, c39_17, c39_18, fun _ h => absurd h List.not_mem_nil⟩) rfl dX10_takeTest_39 (by decide) ?_
    refine lv_aload_n hx hb dX10_takeTest_176 rfl (lv_at hl 0 rfl) ?_
    refine lv_aload_n hx hb dX10_takeTest_177 rfl (lv_at hl 1 rfl) ?_
    obtain ⟨z178, hz178, hf⟩ := bind_s hf
    refine xV_iu hx hb hml hown htg L10_122 (c_X10_takeComparison l E a0 a1 a2 a3 hz178 _) ⟨⟨rfl, rfl⟩, Nat.le_of_ble_eq_true rfl, Nat.le_of_ble_eq_true rfl⟩ hK hG hA hP hD hS (is := [0, 1, 2, 3]) (sel := [some 0, some 1, some 2, some 3, none, none, none, none, none, none, none, none]) (ws2 := [(a0, o10 z178.2.1 (.ref a4) (.ref a6) u0_2), (a1, o8 z178.2.2.1 z178.2.2.2 a2 a3), (a2, ab E 900 V2), (a3, al E 23 V3), (a4, o3 T4 u4_7 u4_8 a5 u4_10 u4_11 u4_12 u4_13 u4_14), (a5, al E 5 V5), (a6, o0 T6 a7 a8 a9 a10 a11), (a7, ai E 60 V7), (a8, ai E 60 V8), (a9, ai E 60 V9), (a10, ai E 60 V10), (a11, ai E 60 V11)]) rfl rfl rfl rfl rfl (xrecv hK hP (q0 := 0) (ci := 10) rfl rfl) rfl hl.1 rfl (Nat.le_of_ble_eq_true rfl) dX10_takeTest_178 (fun H locs hP hD hS => ?_)
    refine lv_if_eq (tgt := 219) hx hb dX10_takeTest_181 (by decide) (fun c181 => ?_) (fun c181 => ?_)
    · have hf := it_t c181 hf
      refine lv_iconst (v := 0) hx hb dX10_takeTest_219 rfl ?_
      exact ret (0, z178.2.1, z178.2.2.1, z178.2.2.2, T6, V7, V8, V9, V10, V11) hf nz0 hP hS dX10_takeTest_220
    · have hf := it_f c181 hf
      refine lv_aload_n hx hb dX10_takeTest_184 rfl (lv_at hl 0 rfl) ?_
      refine lv_aload_n hx hb dX10_takeTest_185 rfl (lv_at hl 1 rfl) ?_
      refine lv_iconst (v := 0) hx hb dX10_takeTest_186 rfl ?_
      refine lv_bipush (v := 36) hx hb dX10_takeTest_187 rfl ?_
      obtain ⟨z189, hz189, hf⟩ := bind_s hf
      refine xV_iu hx hb hml hown htg L10_115 (c_X10_takeNumber l E a0 a1 a2 a3 hz189 _) ⟨⟨rfl, rfl⟩, Nat.le_of_ble_eq_true rfl, Nat.le_of_ble_eq_true rfl⟩ hK hG hA hP hD hS (is := [0, 1, 2, 3]) (sel := [some 0, some 1, some 2, some 3, none, none, none, none, none, none, none, none]) (ws2 := [(a0, o10 z189.2.1 (.ref a4) (.ref a6) u0_2), (a1, o8 z189.2.2.1 z189.2.2.2 a2 a3), (a2, ab E 900 V2), (a3, al E 23 V3), (a4, o3 T4 u4_7 u4_8 a5 u4_10 u4_11 u4_12 u4_13 u4_14), (a5, al E 5 V5), (a6, o0 T6 a7 a8 a9 a10 a11), (a7, ai E 60 V7), (a8, ai E 60 V8), (a9, ai E 60 V9), (a10, ai E 60 V10), (a11, ai E 60 V11)]) rfl rfl rfl rfl rfl (xrecv hK hP (q0 := 0) (ci := 10) rfl rfl) rfl hl.1 rfl (Nat.le_of_ble_eq_true rfl) dX10_takeTest_189 (fun H locs hP hD hS => ?_)
      refine lv_if_eq (tgt := 219) hx hb dX10_takeTest_192 (by decide) (fun c192 => ?_) (fun c192 => ?_)
      · have hf := it_t c192 hf
        refine lv_iconst (v := 0) hx hb dX10_takeTest_219 rfl ?_
        exact ret (0, z189.2.1, z189.2.2.1, z189.2.2.2, T6, V7, V8, V9, V10, V11) hf nz0 hP hS dX10_takeTest_220
      · have hf := it_f c192 hf
        refine lv_aload_n hx hb dX10_takeTest_195 rfl (lv_at hl 0 rfl) ?_
        refine G10_24 hx hb htg hown hK hP 0 rfl dX10_takeTest_196 ?_
        refine lv_iload_n hx hb dX10_takeTest_199 rfl (lv_at hl 2 rfl) ?_
        refine lv_aload_n hx hb dX10_takeTest_200 rfl (lv_at hl 0 rfl) ?_
        refine G10_125 hx hb htg hown hK hP 0 rfl dX10_takeTest_201 ?_
        refine lv_aload_n hx hb dX10_takeTest_204 rfl (lv_at hl 0 rfl) ?_
        refine G10_119 hx hb htg hown hK hP 0 rfl dX10_takeTest_205 ?_
        refine lv_iconst (v := 0) hx hb dX10_takeTest_208 rfl ?_
        obtain ⟨z209, hz209, hf⟩ := bind_s hf
        refine xV_iu hx hb hml hown htg L10_99 (c_X0_addStep l E a6 a7 a8 a9 a10 a11 hz209 _) ⟨⟨rfl, rfl⟩, Nat.le_of_ble_eq_true rfl, Nat.le_of_ble_eq_true rfl⟩ hK hG hA hP hD hS (is := [6, 7, 8, 9, 10, 11]) (sel := [none, none, none, none, none, none, some 0, some 1, some 2, some 3, some 4, some 5]) (ws2 := [(a0, o10 z189.2.1 (.ref a4) (.ref a6) u0_2), (a1, o8 z189.2.2.1 z189.2.2.2 a2 a3), (a2, ab E 900 V2), (a3, al E 23 V3), (a4, o3 T4 u4_7 u4_8 a5 u4_10 u4_11 u4_12 u4_13 u4_14), (a5, al E 5 V5), (a6, o0 z209.2.1 a7 a8 a9 a10 a11), (a7, ai E 60 z209.2.2.1), (a8, ai E 60 z209.2.2.2.1), (a9, ai E 60 z209.2.2.2.2.1), (a10, ai E 60 z209.2.2.2.2.2.1), (a11, ai E 60 z209.2.2.2.2.2.2)]) rfl rfl rfl rfl rfl (xrecv hK hP (q0 := 6) (ci := 0) rfl rfl) rfl hl.1 rfl (Nat.le_of_ble_eq_true rfl) dX10_takeTest_209 (fun H locs hP hD hS => ?_)
        refine lv_if_eq (tgt := 219) hx hb dX10_takeTest_212 (by decide) (fun c212 => ?_) (fun c212 => ?_)
        · have hf := it_t c212 hf
          refine lv_iconst (v := 0) hx hb dX10_takeTest_219 rfl ?_
          exact ret (0, z189.2.1, z189.2.2.1, z189.2.2.2, z209.2.1, z209.2.2.1, z209.2.2.2.1, z209.2.2.2.2.1, z209.2.2.2.2.2.1, z209.2.2.2.2.2.2) hf nz0 hP hS dX10_takeTest_220
        · have hf := it_f c212 hf
          refine lv_iconst (v := 1) hx hb dX10_takeTest_215 rfl ?_
          refine lv_goto (tgt := 220) hx hb dX10_takeTest_216 (by decide) ?_
          exact ret (1, z189.2.1, z189.2.2.1, z189.2.2.2, z209.2.1, z209.2.2.1, z209.2.2.2.1, z209.2.2.2.2.1, z209.2.2.2.2.2.1, z209.2.2.2.2.2.2) hf nz1 hP hS dX10_takeTest_220
  unfold f_X10_takeTest at hf
  refine lv_aload_n hx hb dX10_takeTest_0 rfl (lv_at hl 1 rfl) ?_
  obtain ⟨z1, hz1, hf⟩ := bind_s hf
  refine xV_ir hx hb hml hown htg L10_69 (c_X8_word l E a1 hz1 _) ⟨⟨rfl, rfl⟩, Nat.le_of_ble_eq_true rfl, Nat.le_of_ble_eq_true rfl⟩ hK hG hA hP hD hS (is := [1]) rfl rfl (xrecv hK hP (q0 := 1) (ci := 8) rfl rfl) rfl hl.1 rfl (Nat.le_of_ble_eq_true rfl) dX10_takeTest_1 (fun H locs hP hD hS => ?_)
  refine lv_istore_n (lv' := [(2, .int z1), (0, .ref a0), (1, .ref a1)]) hx hb dX10_takeTest_4 rfl hl (by decide) rfl (fun ls hl => ?_)
  refine lv_iload_n hx hb dX10_takeTest_5 rfl (lv_at hl 0 rfl) ?_
  refine lv_iconst (v := 5) hx hb dX10_takeTest_6 rfl ?_
  refine lv_icmp_eq (tgt := 34) hx hb dX10_takeTest_7 (by decide) (fun c7 => ?_) (fun c7 => ?_)
  · have hf := it_t c7 hf
    exact b34 z1 T0 T1 J1_8 T6 V7 V8 V9 V10 V11 _ _ _ hf hP hD hS (lv_sub hl [1, 2, 0] rfl)
  · have hf := it_f c7 hf
    refine lv_iload_n hx hb dX10_takeTest_10 rfl (lv_at hl 0 rfl) ?_
    refine lv_bipush (v := 18) hx hb dX10_takeTest_11 rfl ?_
    refine lv_icmp_eq (tgt := 34) hx hb dX10_takeTest_13 (by decide) (fun c13 => ?_) (fun c13 => ?_)
    · have hf := it_t c13 hf
      exact b34 z1 T0 T1 J1_8 T6 V7 V8 V9 V10 V11 _ _ _ hf hP hD hS (lv_sub hl [1, 2, 0] rfl)
    · have hf := it_f c13 hf
      refine lv_iload_n hx hb dX10_takeTest_16 rfl (lv_at hl 0 rfl) ?_
      refine lv_bipush (v := 17) hx hb dX10_takeTest_17 rfl ?_
      refine lv_icmp_eq (tgt := 34) hx hb dX10_takeTest_19 (by decide) (fun c19 => ?_) (fun c19 => ?_)
      · have hf := it_t c19 hf
        exact b34 z1 T0 T1 J1_8 T6 V7 V8 V9 V10 V11 _ _ _ hf hP hD hS (lv_sub hl [1, 2, 0] rfl)
      · have hf := it_f c19 hf
        refine lv_iload_n hx hb dX10_takeTest_22 rfl (lv_at hl 0 rfl) ?_
        refine lv_bipush (v := 19) hx hb dX10_takeTest_23 rfl ?_
        refine lv_icmp_eq (tgt := 34) hx hb dX10_takeTest_25 (by decide) (fun c25 => ?_) (fun c25 => ?_)
        · have hf := it_t c25 hf
          exact b34 z1 T0 T1 J1_8 T6 V7 V8 V9 V10 V11 _ _ _ hf hP hD hS (lv_sub hl [1, 2, 0] rfl)
        · have hf := it_f c25 hf
          refine lv_aload_n hx hb dX10_takeTest_28 rfl (lv_at hl 2 rfl) ?_
          refine lv_iconst (v := 2) hx hb dX10_takeTest_29 rfl ?_
          obtain ⟨z30, hz30, hf⟩ := bind_s hf
          refine xV_iu hx hb hml hown htg L10_53 (c_X8_blame l E a1 hz30 _) ⟨⟨rfl, rfl⟩, Nat.le_of_ble_eq_true rfl, Nat.le_of_ble_eq_true rfl⟩ hK hG hA hP hD hS (is := [1]) (sel := [none, some 0, none, none, none, none, none, none, none, none, none, none]) (ws2 := [(a0, o10 T0 (.ref a4) (.ref a6) u0_2), (a1, o8 z30.2 J1_8 a2 a3), (a2, ab E 900 V2), (a3, al E 23 V3), (a4, o3 T4 u4_7 u4_8 a5 u4_10 u4_11 u4_12 u4_13 u4_14), (a5, al E 5 V5), (a6, o0 T6 a7 a8 a9 a10 a11), (a7, ai E 60 V7), (a8, ai E 60 V8), (a9, ai E 60 V9), (a10, ai E 60 V10), (a11, ai E 60 V11)]) rfl rfl rfl rfl rfl (xrecv hK hP (q0 := 1) (ci := 8) rfl rfl) rfl hl.1 rfl (Nat.le_of_ble_eq_true rfl) dX10_takeTest_30 (fun H locs hP hD hS => ?_)
          obtain ⟨g33, hf⟩ := ck_s hf
          exact ret (z30.1, T0, z30.2, J1_8, T6, V7, V8, V9, V10, V11) hf (bz_n g33).1 hP hS dX10_takeTest_33
theorem dX10_takeRest_0 : decode cX10_takeRest 0 = .ok (.iload_n 2, 1) := by decide +kernel
theorem dX10_takeRest_1 : decode cX10_takeRest 1 = .ok (.tableswitch 224 6 20 #[106, 224, 224, 224, 224, 224, 75, 75, 159, 224, 224, 224, 224, 224, 190], 75) := by decide +kernel
theorem dX10_takeRest_76 : decode cX10_takeRest 76 = .ok (.aload_n 0, 1) := by decide +kernel
theorem dX10_takeRest_77 : decode cX10_takeRest 77 = .ok (.aload_n 1, 1) := by decide +kernel
theorem dX10_takeRest_78 : decode cX10_takeRest 78 = .ok (.invokevirtual 93, 3) := by decide +kernel
theorem dX10_takeRest_81 : decode cX10_takeRest 81 = .ok (.ifCond .eq 24, 3) := by decide +kernel
theorem dX10_takeRest_84 : decode cX10_takeRest 84 = .ok (.aload_n 0, 1) := by decide +kernel
theorem dX10_takeRest_85 : decode cX10_takeRest 85 = .ok (.getfield 24, 3) := by decide +kernel
theorem dX10_takeRest_88 : decode cX10_takeRest 88 = .ok (.iload_n 2, 1) := by decide +kernel
theorem dX10_takeRest_89 : decode cX10_takeRest 89 = .ok (.aload_n 0, 1) := by decide +kernel
theorem dX10_takeRest_90 : decode cX10_takeRest 90 = .ok (.getfield 96, 3) := by decide +kernel
theorem dX10_takeRest_93 : decode cX10_takeRest 93 = .ok (.iconst 0, 1) := by decide +kernel
theorem dX10_takeRest_94 : decode cX10_takeRest 94 = .ok (.iconst 0, 1) := by decide +kernel
theorem dX10_takeRest_95 : decode cX10_takeRest 95 = .ok (.invokevirtual 99, 3) := by decide +kernel
theorem dX10_takeRest_98 : decode cX10_takeRest 98 = .ok (.ifCond .eq 7, 3) := by decide +kernel
theorem dX10_takeRest_101 : decode cX10_takeRest 101 = .ok (.iconst 1, 1) := by decide +kernel
theorem dX10_takeRest_102 : decode cX10_takeRest 102 = .ok (.goto 4, 3) := by decide +kernel
theorem dX10_takeRest_105 : decode cX10_takeRest 105 = .ok (.iconst 0, 1) := by decide +kernel
theorem dX10_takeRest_106 : decode cX10_takeRest 106 = .ok (.ireturn, 1) := by decide +kernel
theorem dX10_takeRest_107 : decode cX10_takeRest 107 = .ok (.aload_n 0, 1) := by decide +kernel
theorem dX10_takeRest_108 : decode cX10_takeRest 108 = .ok (.aload_n 1, 1) := by decide +kernel
theorem dX10_takeRest_109 : decode cX10_takeRest 109 = .ok (.invokevirtual 93, 3) := by decide +kernel
theorem dX10_takeRest_112 : decode cX10_takeRest 112 = .ok (.ifCond .eq 46, 3) := by decide +kernel
theorem dX10_takeRest_115 : decode cX10_takeRest 115 = .ok (.aload_n 0, 1) := by decide +kernel
theorem dX10_takeRest_116 : decode cX10_takeRest 116 = .ok (.aload_n 1, 1) := by decide +kernel
theorem dX10_takeRest_117 : decode cX10_takeRest 117 = .ok (.invokevirtual 103, 3) := by decide +kernel
theorem dX10_takeRest_120 : decode cX10_takeRest 120 = .ok (.ifCond .eq 38, 3) := by decide +kernel
theorem dX10_takeRest_123 : decode cX10_takeRest 123 = .ok (.aload_n 0, 1) := by decide +kernel
theorem dX10_takeRest_124 : decode cX10_takeRest 124 = .ok (.aload_n 1, 1) := by decide +kernel
theorem dX10_takeRest_125 : decode cX10_takeRest 125 = .ok (.invokevirtual 106, 3) := by decide +kernel
theorem dX10_takeRest_128 : decode cX10_takeRest 128 = .ok (.ifCond .eq 30, 3) := by decide +kernel
theorem dX10_takeRest_131 : decode cX10_takeRest 131 = .ok (.aload_n 0, 1) := by decide +kernel
theorem dX10_takeRest_132 : decode cX10_takeRest 132 = .ok (.getfield 24, 3) := by decide +kernel
theorem dX10_takeRest_135 : decode cX10_takeRest 135 = .ok (.iload_n 2, 1) := by decide +kernel
theorem dX10_takeRest_136 : decode cX10_takeRest 136 = .ok (.aload_n 0, 1) := by decide +kernel
theorem dX10_takeRest_137 : decode cX10_takeRest 137 = .ok (.getfield 96, 3) := by decide +kernel
theorem dX10_takeRest_140 : decode cX10_takeRest 140 = .ok (.aload_n 0, 1) := by decide +kernel
theorem dX10_takeRest_141 : decode cX10_takeRest 141 = .ok (.getfield 109, 3) := by decide +kernel
theorem dX10_takeRest_144 : decode cX10_takeRest 144 = .ok (.aload_n 0, 1) := by decide +kernel
theorem dX10_takeRest_145 : decode cX10_takeRest 145 = .ok (.getfield 112, 3) := by decide +kernel
theorem dX10_takeRest_148 : decode cX10_takeRest 148 = .ok (.invokevirtual 99, 3) := by decide +kernel
theorem dX10_takeRest_151 : decode cX10_takeRest 151 = .ok (.ifCond .eq 7, 3) := by decide +kernel
theorem dX10_takeRest_154 : decode cX10_takeRest 154 = .ok (.iconst 1, 1) := by decide +kernel
theorem dX10_takeRest_155 : decode cX10_takeRest 155 = .ok (.goto 4, 3) := by decide +kernel
theorem dX10_takeRest_158 : decode cX10_takeRest 158 = .ok (.iconst 0, 1) := by decide +kernel
theorem dX10_takeRest_159 : decode cX10_takeRest 159 = .ok (.ireturn, 1) := by decide +kernel
theorem dX10_takeRest_160 : decode cX10_takeRest 160 = .ok (.aload_n 0, 1) := by decide +kernel
theorem dX10_takeRest_161 : decode cX10_takeRest 161 = .ok (.aload_n 1, 1) := by decide +kernel
theorem dX10_takeRest_162 : decode cX10_takeRest 162 = .ok (.invokevirtual 103, 3) := by decide +kernel
theorem dX10_takeRest_165 : decode cX10_takeRest 165 = .ok (.ifCond .eq 24, 3) := by decide +kernel
theorem dX10_takeRest_168 : decode cX10_takeRest 168 = .ok (.aload_n 0, 1) := by decide +kernel
theorem dX10_takeRest_169 : decode cX10_takeRest 169 = .ok (.getfield 24, 3) := by decide +kernel
theorem dX10_takeRest_172 : decode cX10_takeRest 172 = .ok (.iload_n 2, 1) := by decide +kernel
theorem dX10_takeRest_173 : decode cX10_takeRest 173 = .ok (.aload_n 0, 1) := by decide +kernel
theorem dX10_takeRest_174 : decode cX10_takeRest 174 = .ok (.getfield 109, 3) := by decide +kernel
theorem dX10_takeRest_177 : decode cX10_takeRest 177 = .ok (.iconst 0, 1) := by decide +kernel
theorem dX10_takeRest_178 : decode cX10_takeRest 178 = .ok (.iconst 0, 1) := by decide +kernel
theorem dX10_takeRest_179 : decode cX10_takeRest 179 = .ok (.invokevirtual 99, 3) := by decide +kernel
theorem dX10_takeRest_182 : decode cX10_takeRest 182 = .ok (.ifCond .eq 7, 3) := by decide +kernel
theorem dX10_takeRest_185 : decode cX10_takeRest 185 = .ok (.iconst 1, 1) := by decide +kernel
theorem dX10_takeRest_186 : decode cX10_takeRest 186 = .ok (.goto 4, 3) := by decide +kernel
theorem dX10_takeRest_189 : decode cX10_takeRest 189 = .ok (.iconst 0, 1) := by decide +kernel
theorem dX10_takeRest_190 : decode cX10_takeRest 190 = .ok (.ireturn, 1) := by decide +kernel
theorem dX10_takeRest_191 : decode cX10_takeRest 191 = .ok (.aload_n 0, 1) := by decide +kernel
theorem dX10_takeRest_192 : decode cX10_takeRest 192 = .ok (.aload_n 1, 1) := by decide +kernel
theorem dX10_takeRest_193 : decode cX10_takeRest 193 = .ok (.iconst 1, 1) := by decide +kernel
theorem dX10_takeRest_194 : decode cX10_takeRest 194 = .ok (.bipush 99, 2) := by decide +kernel
theorem dX10_takeRest_196 : decode cX10_takeRest 196 = .ok (.invokevirtual 115, 3) := by decide +kernel
theorem dX10_takeRest_199 : decode cX10_takeRest 199 = .ok (.ifCond .eq 24, 3) := by decide +kernel
theorem dX10_takeRest_202 : decode cX10_takeRest 202 = .ok (.aload_n 0, 1) := by decide +kernel
theorem dX10_takeRest_203 : decode cX10_takeRest 203 = .ok (.getfield 24, 3) := by decide +kernel
theorem dX10_takeRest_206 : decode cX10_takeRest 206 = .ok (.iload_n 2, 1) := by decide +kernel
theorem dX10_takeRest_207 : decode cX10_takeRest 207 = .ok (.aload_n 0, 1) := by decide +kernel
theorem dX10_takeRest_208 : decode cX10_takeRest 208 = .ok (.getfield 119, 3) := by decide +kernel
theorem dX10_takeRest_211 : decode cX10_takeRest 211 = .ok (.iconst 0, 1) := by decide +kernel
theorem dX10_takeRest_212 : decode cX10_takeRest 212 = .ok (.iconst 0, 1) := by decide +kernel
theorem dX10_takeRest_213 : decode cX10_takeRest 213 = .ok (.invokevirtual 99, 3) := by decide +kernel
theorem dX10_takeRest_216 : decode cX10_takeRest 216 = .ok (.ifCond .eq 7, 3) := by decide +kernel
theorem dX10_takeRest_219 : decode cX10_takeRest 219 = .ok (.iconst 1, 1) := by decide +kernel
theorem dX10_takeRest_220 : decode cX10_takeRest 220 = .ok (.goto 4, 3) := by decide +kernel
theorem dX10_takeRest_223 : decode cX10_takeRest 223 = .ok (.iconst 0, 1) := by decide +kernel
theorem dX10_takeRest_224 : decode cX10_takeRest 224 = .ok (.ireturn, 1) := by decide +kernel
theorem dX10_takeRest_225 : decode cX10_takeRest 225 = .ok (.aload_n 0, 1) := by decide +kernel
theorem dX10_takeRest_226 : decode cX10_takeRest 226 = .ok (.getfield 24, 3) := by decide +kernel
theorem dX10_takeRest_229 : decode cX10_takeRest 229 = .ok (.iload_n 2, 1) := by decide +kernel
theorem dX10_takeRest_230 : decode cX10_takeRest 230 = .ok (.iconst 0, 1) := by decide +kernel
theorem dX10_takeRest_231 : decode cX10_takeRest 231 = .ok (.iconst 0, 1) := by decide +kernel
theorem dX10_takeRest_232 : decode cX10_takeRest 232 = .ok (.iconst 0, 1) := by decide +kernel
theorem dX10_takeRest_233 : decode cX10_takeRest 233 = .ok (.invokevirtual 99, 3) := by decide +kernel
theorem dX10_takeRest_236 : decode cX10_takeRest 236 = .ok (.ireturn, 1) := by decide +kernel
set_option maxRecDepth 100000 in
theorem c_X10_takeRest (l : Launch) (E : xE) (a0 a1 a2 a3 a4 a5 a6 a7 a8 a9 a10 a11 : Nat) {T0 : Nat → Int32} {T1 : Nat → Int32} {J1_8 : Int64} {T2 : Nat → Int32} {V3 : Nat → Int64} {V4 : Nat → Int32} {V5 : Nat → Int64} {T6 : Nat → Int32} {V7 : Nat → Int32} {V8 : Nat → Int32} {V9 : Nat → Int32} {V10 : Nat → Int32} {V11 : Nat → Int32} {u0_2 u2_7 u2_8 u2_10 u2_11 u2_12 u2_13 u2_14 : Nat} {x2 : Int32} {z : Int32 × (Nat → Int32) × (Nat → Int32) × Int64 × (Nat → Int32) × (Nat → Int32) × (Nat → Int32) × (Nat → Int32) × (Nat → Int32) × (Nat → Int32)} (hf : f_X10_takeRest T0 T1 J1_8 T2 V3 V4 V5 T6 V7 V8 V9 V10 V11 x2 = some z) (sz : Nat) : Met l yX10_takeRest (Cond.code yX10_takeRest cX10_takeRest 3 (some .boolean) :: gw) ({ frames := 3, cells := 0, slots := 0, locals := 67 }) (xPc E [.ref a0, .ref a1, .int x2] [(a0, o10 T0 (.ref a2) (.ref a6) u0_2), (a1, o8 T1 J1_8 a4 a5), (a2, o3 T2 u2_7 u2_8 a3 u2_10 u2_11 u2_12 u2_13 u2_14), (a3, al E 5 V3), (a4, ab E 900 V4), (a5, al E 23 V5), (a6, o0 T6 a7 a8 a9 a10 a11), (a7, ai E 60 V7), (a8, ai E 60 V8), (a9, ai E 60 V9), (a10, ai E 60 V10), (a11, ai E 60 V11)] sz) (xQi E z.1 [(a0, o10 T0 (.ref a2) (.ref a6) u0_2), (a1, o8 T1 J1_8 a4 a5), (a2, o3 T2 u2_7 u2_8 a3 u2_10 u2_11 u2_12 u2_13 u2_14), (a3, al E 5 V3), (a4, ab E 900 V4), (a5, al E 23 V5), (a6, o0 T6 a7 a8 a9 a10 a11), (a7, ai E 60 V7), (a8, ai E 60 V8), (a9, ai E 60 V9), (a10, ai E 60 V10), (a11, ai E 60 V11)] [(a0, o10 z.2.1 (.ref a2) (.ref a6) u0_2), (a1, o8 z.2.2.1 z.2.2.2.1 a4 a5), (a2, o3 T2 u2_7 u2_8 a3 u2_10 u2_11 u2_12 u2_13 u2_14), (a3, al E 5 V3), (a4, ab E 900 V4), (a5, al E 23 V5), (a6, o0 z.2.2.2.2.1 a7 a8 a9 a10 a11), (a7, ai E 60 z.2.2.2.2.2.1), (a8, ai E 60 z.2.2.2.2.2.2.1), (a9, ai E 60 z.2.2.2.2.2.2.2.1), (a10, ai E 60 z.2.2.2.2.2.2.2.2.1), (a11, ai E 60 z.2.2.2.2.2.2.2.2.2)] sz) 0 0 (va_A [(a0, o10 T0 (.ref a2) (.ref a6) u0_2), (a1, o8 T1 J1_8 a4 a5), (a2, o3 T2 u2_7 u2_8 a3 u2_10 u2_11 u2_12 u2_13 u2_14), (a3, al E 5 V3), (a4, ab E 900 V4), (a5, al E 23 V5), (a6, o0 T6 a7 a8 a9 a10 a11), (a7, ai E 60 V7), (a8, ai E 60 V8), (a9, ai E 60 V9), (a10, ai E 60 V10), (a11, ai E 60 V11)] sz) := by
  refine xM_i (by decide +kernel) (Nat.le_of_ble_eq_true rfl) ?_
  intro p e s m args below meth c A Q hx hb hml hown htg hK hG hA ret0 H locs ls hP hD hS hl
  have ret : ∀ (z' : Int32 × (Nat → Int32) × (Nat → Int32) × Int64 × (Nat → Int32) × (Nat → Int32) × (Nat → Int32) × (Nat → Int32) × (Nat → Int32) × (Nat → Int32)) {H : Heap} {locs : List Loc} {pc : Nat} {ls : Array Slot}, some z' = some z → narrow .boolean (.int z'.1) = .int z'.1 → va_P E.1 vwCl [(a0, o10 z'.2.1 (.ref a2) (.ref a6) u0_2), (a1, o8 z'.2.2.1 z'.2.2.2.1 a4 a5), (a2, o3 T2 u2_7 u2_8 a3 u2_10 u2_11 u2_12 u2_13 u2_14), (a3, al E 5 V3), (a4, ab E 900 V4), (a5, al E 23 V5), (a6, o0 z'.2.2.2.2.1 a7 a8 a9 a10 a11), (a7, ai E 60 z'.2.2.2.2.2.1), (a8, ai E 60 z'.2.2.2.2.2.2.1), (a9, ai E 60 z'.2.2.2.2.2.2.2.1), (a10, ai E 60 z'.2.2.2.2.2.2.2.2.1), (a11, ai E 60 z'.2.2.2.2.2.2.2.2.2)] H → va_S A s.heap H locs → decode cX10_takeRest pc = .ok (.ireturn, 1) → W p l e ({ frames := 3, cells := 0, slots := 0, locals := 67 } : Room) s m args below meth c H locs 0 0 Q (F0 m pc ls [.int z'.1]) := by
    intro z' H locs pc ls h
    cases h
    exact ret0
  replace hl : lv_has ls 3 [(0, .ref a0), (1, .ref a1), (2, .int x2)] := hl
  have b76 : ∀ (T0 : Nat → Int32) (T1 : Nat → Int32) (J1_8 : Int64) (T6 : Nat → Int32) (V7 : Nat → Int32) (V8 : Nat → Int32) (V9 : Nat → Int32) (V10 : Nat → Int32) (V11 : Nat → Int32) (H : Heap) (locs : List Loc) (ls : Array Slot), f_X10_takeRest_76 T2 V3 V4 V5 x2 T0 T1 J1_8 T6 V7 V8 V9 V10 V11 = some z → va_P E.1 vwCl [(a0, o10 T0 (.ref a2) (.ref a6) u0_2), (a1, o8 T1 J1_8 a4 a5), (a2, o3 T2 u2_7 u2_8 a3 u2_10 u2_11 u2_12 u2_13 u2_14), (a3, al E 5 V3), (a4, ab E 900 V4), (a5, al E 23 V5), (a6, o0 T6 a7 a8 a9 a10 a11), (a7, ai E 60 V7), (a8, ai E 60 V8), (a9, ai E 60 V9), (a10, ai E 60 V10), (a11, ai E 60 V11)] H → va_D A [(a0, o10 T0 (.ref a2) (.ref a6) u0_2), (a1, o8 T1 J1_8 a4 a5), (a2, o3 T2 u2_7 u2_8 a3 u2_10 u2_11 u2_12 u2_13 u2_14), (a3, al E 5 V3), (a4, ab E 900 V4), (a5, al E 23 V5), (a6, o0 T6 a7 a8 a9 a10 a11), (a7, ai E 60 V7), (a8, ai E 60 V8), (a9, ai E 60 V9), (a10, ai E 60 V10), (a11, ai E 60 V11)] → va_S A s.heap H locs → lv_has ls 3 [(0, .ref a0), (1, .ref a1), (2, .int x2)] → W p l e ({ frames := 3, cells := 0, slots := 0, locals := 67 } : Room) s m args below meth c H locs 0 0 Q (F0 m 76 ls []) := by
    intro T0 T1 J1_8 T6 V7 V8 V9 V10 V11 H locs ls hf hP hD hS hl
    unfold f_X10_takeRest_76 at hf
    refine lv_aload_n hx hb dX10_takeRest_76 rfl (lv_at hl 0 rfl) ?_
    refine lv_aload_n hx hb dX10_takeRest_77 rfl (lv_at hl 1 rfl) ?_
    obtain ⟨z78, hz78, hf⟩ := bind_s hf
    refine xV_iu hx hb hml hown htg L10_93 (c_X10_takeName l E a0 a1 a2 a3 a4 a5 hz78 _) ⟨⟨rfl, rfl⟩, Nat.le_of_ble_eq_true rfl, Nat.le_of_ble_eq_true rfl⟩ hK hG hA hP hD hS (is := [0, 1, 2, 3, 4, 5]) (sel := [some 0, some 1, some 2, some 3, some 4, some 5, none, none, none, none, none, none]) (ws2 := [(a0, o10 z78.2.1 (.ref a2) (.ref a6) u0_2), (a1, o8 z78.2.2.1 z78.2.2.2 a4 a5), (a2, o3 T2 u2_7 u2_8 a3 u2_10 u2_11 u2_12 u2_13 u2_14), (a3, al E 5 V3), (a4, ab E 900 V4), (a5, al E 23 V5), (a6, o0 T6 a7 a8 a9 a10 a11), (a7, ai E 60 V7), (a8, ai E 60 V8), (a9, ai E 60 V9), (a10, ai E 60 V10), (a11, ai E 60 V11)]) rfl rfl rfl rfl rfl (xrecv hK hP (q0 := 0) (ci := 10) rfl rfl) rfl hl.1 rfl (Nat.le_of_ble_eq_true rfl) dX10_takeRest_78 (fun H locs hP hD hS => ?_)
    refine lv_if_eq (tgt := 105) hx hb dX10_takeRest_81 (by decide) (fun c81 => ?_) (fun c81 => ?_)
    · have hf := it_t c81 hf
      refine lv_iconst (v := 0) hx hb dX10_takeRest_105 rfl ?_
      exact ret (0, z78.2.1, z78.2.2.1, z78.2.2.2, T6, V7, V8, V9, V10, V11) hf nz0 hP hS dX10_takeRest_106
    · have hf := it_f c81 hf
      refine lv_aload_n hx hb dX10_takeRest_84 rfl (lv_at hl 0 rfl) ?_
      refine G10_24 hx hb htg hown hK hP 0 rfl dX10_takeRest_85 ?_
      refine lv_iload_n hx hb dX10_takeRest_88 rfl (lv_at hl 2 rfl) ?_
      refine lv_aload_n hx hb dX10_takeRest_89 rfl (lv_at hl 0 rfl) ?_
      refine G10_96 hx hb htg hown hK hP 0 rfl dX10_takeRest_90 ?_
      refine lv_iconst (v := 0) hx hb dX10_takeRest_93 rfl ?_
      refine lv_iconst (v := 0) hx hb dX10_takeRest_94 rfl ?_
      obtain ⟨z95, hz95, hf⟩ := bind_s hf
      refine xV_iu hx hb hml hown htg L10_99 (c_X0_addStep l E a6 a7 a8 a9 a10 a11 hz95 _) ⟨⟨rfl, rfl⟩, Nat.le_of_ble_eq_true rfl, Nat.le_of_ble_eq_true rfl⟩ hK hG hA hP hD hS (is := [6, 7, 8, 9, 10, 11]) (sel := [none, none, none, none, none, none, some 0, some 1, some 2, some 3, some 4, some 5]) (ws2 := [(a0, o10 z78.2.1 (.ref a2) (.ref a6) u0_2), (a1, o8 z78.2.2.1 z78.2.2.2 a4 a5), (a2, o3 T2 u2_7 u2_8 a3 u2_10 u2_11 u2_12 u2_13 u2_14), (a3, al E 5 V3), (a4, ab E 900 V4), (a5, al E 23 V5), (a6, o0 z95.2.1 a7 a8 a9 a10 a11), (a7, ai E 60 z95.2.2.1), (a8, ai E 60 z95.2.2.2.1), (a9, ai E 60 z95.2.2.2.2.1), (a10, ai E 60 z95.2.2.2.2.2.1), (a11, ai E 60 z95.2.2.2.2.2.2)]) rfl rfl rfl rfl rfl (xrecv hK hP (q0 := 6) (ci := 0) rfl rfl) rfl hl.1 rfl (Nat.le_of_ble_eq_true rfl) dX10_takeRest_95 (fun H locs hP hD hS => ?_)
      refine lv_if_eq (tgt := 105) hx hb dX10_takeRest_98 (by decide) (fun c98 => ?_) (fun c98 => ?_)
      · have hf := it_t c98 hf
        refine lv_iconst (v := 0) hx hb dX10_takeRest_105 rfl ?_
        exact ret (0, z78.2.1, z78.2.2.1, z78.2.2.2, z95.2.1, z95.2.2.1, z95.2.2.2.1, z95.2.2.2.2.1, z95.2.2.2.2.2.1, z95.2.2.2.2.2.2) hf nz0 hP hS dX10_takeRest_106
      · have hf := it_f c98 hf
        refine lv_iconst (v := 1) hx hb dX10_takeRest_101 rfl ?_
        refine lv_goto (tgt := 106) hx hb dX10_takeRest_102 (by decide) ?_
        exact ret (1, z78.2.1, z78.2.2.1, z78.2.2.2, z95.2.1, z95.2.2.1, z95.2.2.2.1, z95.2.2.2.2.1, z95.2.2.2.2.2.1, z95.2.2.2.2.2.2) hf nz1 hP hS dX10_takeRest_106
  have b225 : ∀ (T0 : Nat → Int32) (T1 : Nat → Int32) (J1_8 : Int64) (T6 : Nat → Int32) (V7 : Nat → Int32) (V8 : Nat → Int32) (V9 : Nat → Int32) (V10 : Nat → Int32) (V11 : Nat → Int32) (H : Heap) (locs : List Loc) (ls : Array Slot), f_X10_takeRest_225 T2 V3 V4 V5 x2 T0 T1 J1_8 T6 V7 V8 V9 V10 V11 = some z → va_P E.1 vwCl [(a0, o10 T0 (.ref a2) (.ref a6) u0_2), (a1, o8 T1 J1_8 a4 a5), (a2, o3 T2 u2_7 u2_8 a3 u2_10 u2_11 u2_12 u2_13 u2_14), (a3, al E 5 V3), (a4, ab E 900 V4), (a5, al E 23 V5), (a6, o0 T6 a7 a8 a9 a10 a11), (a7, ai E 60 V7), (a8, ai E 60 V8), (a9, ai E 60 V9), (a10, ai E 60 V10), (a11, ai E 60 V11)] H → va_D A [(a0, o10 T0 (.ref a2) (.ref a6) u0_2), (a1, o8 T1 J1_8 a4 a5), (a2, o3 T2 u2_7 u2_8 a3 u2_10 u2_11 u2_12 u2_13 u2_14), (a3, al E 5 V3), (a4, ab E 900 V4), (a5, al E 23 V5), (a6, o0 T6 a7 a8 a9 a10 a11), (a7, ai E 60 V7), (a8, ai E 60 V8), (a9, ai E 60 V9), (a10, ai E 60 V10), (a11, ai E 60 V11)] → va_S A s.heap H locs → lv_has ls 3 [(0, .ref a0), (2, .int x2)] → W p l e ({ frames := 3, cells := 0, slots := 0, locals := 67 } : Room) s m args below meth c H locs 0 0 Q (F0 m 225 ls []) := by
    intro T0 T1 J1_8 T6 V7 V8 V9 V10 V11 H locs ls hf hP hD hS hl
    unfold f_X10_takeRest_225 at hf
    refine lv_aload_n hx hb dX10_takeRest_225 rfl (lv_at hl 0 rfl) ?_
    refine G10_24 hx hb htg hown hK hP 0 rfl dX10_takeRest_226 ?_
    refine lv_iload_n hx hb dX10_takeRest_229 rfl (lv_at hl 1 rfl) ?_
    refine lv_iconst (v := 0) hx hb dX10_takeRest_230 rfl ?_
    refine lv_iconst (v := 0) hx hb dX10_takeRest_231 rfl ?_
    refine lv_iconst (v := 0) hx hb dX10_takeRest_232 rfl ?_
    obtain ⟨z233, hz233, hf⟩ := bind_s hf
    refine xV_iu hx hb hml hown htg L10_99 (c_X0_addStep l E a6 a7 a8 a9 a10 a11 hz233 _) ⟨⟨rfl, rfl⟩, Nat.le_of_ble_eq_true rfl, Nat.le_of_ble_eq_true rfl⟩ hK hG hA hP hD hS (is := [6, 7, 8, 9, 10, 11]) (sel := [none, none, none, none, none, none, some 0, some 1, some 2, some 3, some 4, some 5]) (ws2 := [(a0, o10 T0 (.ref a2) (.ref a6) u0_2), (a1, o8 T1 J1_8 a4 a5), (a2, o3 T2 u2_7 u2_8 a3 u2_10 u2_11 u2_12 u2_13 u2_14), (a3, al E 5 V3), (a4, ab E 900 V4), (a5, al E 23 V5), (a6, o0 z233.2.1 a7 a8 a9 a10 a11), (a7, ai E 60 z233.2.2.1), (a8, ai E 60 z233.2.2.2.1), (a9, ai E 60 z233.2.2.2.2.1), (a10, ai E 60 z233.2.2.2.2.2.1), (a11, ai E 60 z233.2.2.2.2.2.2)]) rfl rfl rfl rfl rfl (xrecv hK hP (q0 := 6) (ci := 0) rfl rfl) rfl hl.1 rfl (Nat.le_of_ble_eq_true rfl) dX10_takeRest_233 (fun H locs hP hD hS => ?_)
    obtain ⟨g236, hf⟩ := ck_s hf
    exact ret (z233.1, T0, T1, J1_8, z233.2.1, z233.2.2.1, z233.2.2.2.1, z233.2.2.2.2.1, z233.2.2.2.2.2.1, z233.2.2.2.2.2.2) hf (bz_n g236).1 hP hS dX10_takeRest_236
  unfold f_X10_takeRest at hf
  refine lv_iload_n hx hb dX10_takeRest_0 rfl (lv_at hl 2 rfl) ?_
  by_cases c1_6 : x2 = 6
  · have hf := it_t c1_6 hf
    refine xtabI (off := 106) (tgt := 107) hx hb c1_6 dX10_takeRest_1 rfl (by decide) ?_
    refine lv_aload_n hx hb dX10_takeRest_107 rfl (lv_at hl 0 rfl) ?_
    refine lv_aload_n hx hb dX10_takeRest_108 rfl (lv_at hl 1 rfl) ?_
    obtain ⟨z109, hz109, hf⟩ := bind_s hf
    refine xV_iu hx hb hml hown htg L10_93 (c_X10_takeName l E a0 a1 a2 a3 a4 a5 hz109 _) ⟨⟨rfl, rfl⟩, Nat.le_of_ble_eq_true rfl, Nat.le_of_ble_eq_true rfl⟩ hK hG hA hP hD hS (is := [0, 1, 2, 3, 4, 5]) (sel := [some 0, some 1, some 2, some 3, some 4, some 5, none, none, none, none, none, none]) (ws2 := [(a0, o10 z109.2.1 (.ref a2) (.ref a6) u0_2), (a1, o8 z109.2.2.1 z109.2.2.2 a4 a5), (a2, o3 T2 u2_7 u2_8 a3 u2_10 u2_11 u2_12 u2_13 u2_14), (a3, al E 5 V3), (a4, ab E 900 V4), (a5, al E 23 V5), (a6, o0 T6 a7 a8 a9 a10 a11), (a7, ai E 60 V7), (a8, ai E 60 V8), (a9, ai E 60 V9), (a10, ai E 60 V10), (a11, ai E 60 V11)]) rfl rfl rfl rfl rfl (xrecv hK hP (q0 := 0) (ci := 10) rfl rfl) rfl hl.1 rfl (Nat.le_of_ble_eq_true rfl) dX10_takeRest_109 (fun H locs hP hD hS => ?_)
    refine lv_if_eq (tgt := 158) hx hb dX10_takeRest_112 (by decide) (fun c112 => ?_) (fun c112 => ?_)
    · have hf := it_t c112 hf
      refine lv_iconst (v := 0) hx hb dX10_takeRest_158 rfl ?_
      exact ret (0, z109.2.1, z109.2.2.1, z109.2.2.2, T6, V7, V8, V9, V10, V11) hf nz0 hP hS dX10_takeRest_159
    · have hf := it_f c112 hf
      refine lv_aload_n hx hb dX10_takeRest_115 rfl (lv_at hl 0 rfl) ?_
      refine lv_aload_n hx hb dX10_takeRest_116 rfl (lv_at hl 1 rfl) ?_
      obtain ⟨z117, hz117, hf⟩ := bind_s hf
      refine xV_iu hx hb hml hown htg L10_103 (c_X10_takeCell l E a0 a1 a2 a4 a5 hz117 _) ⟨⟨rfl, rfl⟩, Nat.le_of_ble_eq_true rfl, Nat.le_of_ble_eq_true rfl⟩ hK hG hA hP hD hS (is := [0, 1, 2, 4, 5]) (sel := [some 0, some 1, some 2, none, some 3, some 4, none, none, none, none, none, none]) (ws2 := [(a0, o10 z117.2.1 (.ref a2) (.ref a6) u0_2), (a1, o8 z117.2.2.1 z117.2.2.2 a4 a5), (a2, o3 T2 u2_7 u2_8 a3 u2_10 u2_11 u2_12 u2_13 u2_14), (a3, al E 5 V3), (a4, ab E 900 V4), (a5, al E 23 V5), (a6, o0 T6 a7 a8 a9 a10 a11), (a7, ai E 60 V7), (a8, ai E 60 V8), (a9, ai E 60 V9), (a10, ai E 60 V10), (a11, ai E 60 V11)]) rfl rfl rfl rfl rfl (xrecv hK hP (q0 := 0) (ci := 10) rfl rfl) rfl hl.1 rfl (Nat.le_of_ble_eq_true rfl) dX10_takeRest_117 (fun H locs hP hD hS => ?_)
      refine lv_if_eq (tgt := 158) hx hb dX10_takeRest_120 (by decide) (fun c120 => ?_) (fun c120 => ?_)
      · have hf := it_t c120 hf
        refine lv_iconst (v := 0) hx hb dX10_takeRest_158 rfl ?_
        exact ret (0, z117.2.1, z117.2.2.1, z117.2.2.2, T6, V7, V8, V9, V10, V11) hf nz0 hP hS dX10_takeRest_159
      · have hf := it_f c120 hf
        refine lv_aload_n hx hb dX10_takeRest_123 rfl (lv_at hl 0 rfl) ?_
        refine lv_aload_n hx hb dX10_takeRest_124 rfl (lv_at hl 1 rfl) ?_
        obtain ⟨z125, hz125, hf⟩ := bind_s hf
        refine xV_iu hx hb hml hown htg L10_106 (c_X10_takeFeeling l E a0 a1 a4 a5 hz125 _) ⟨⟨rfl, rfl⟩, Nat.le_of_ble_eq_true rfl, Nat.le_of_ble_eq_true rfl⟩ hK hG hA hP hD hS (is := [0, 1, 4, 5]) (sel := [some 0, some 1, none, none, some 2, some 3, none, none, none, none, none, none]) (ws2 := [(a0, o10 z125.2.1 (.ref a2) (.ref a6) u0_2), (a1, o8 z125.2.2.1 z125.2.2.2 a4 a5), (a2, o3 T2 u2_7 u2_8 a3 u2_10 u2_11 u2_12 u2_13 u2_14), (a3, al E 5 V3), (a4, ab E 900 V4), (a5, al E 23 V5), (a6, o0 T6 a7 a8 a9 a10 a11), (a7, ai E 60 V7), (a8, ai E 60 V8), (a9, ai E 60 V9), (a10, ai E 60 V10), (a11, ai E 60 V11)]) rfl rfl rfl rfl rfl (xrecv hK hP (q0 := 0) (ci := 10) rfl rfl) rfl hl.1 rfl (Nat.le_of_ble_eq_true rfl) dX10_takeRest_125 (fun H locs hP hD hS => ?_)
        refine lv_if_eq (tgt := 158) hx hb dX10_takeRest_128 (by decide) (fun c128 => ?_) (fun c128 => ?_)
        · have hf := it_t c128 hf
          refine lv_iconst (v := 0) hx hb dX10_takeRest_158 rfl ?_
          exact ret (0, z125.2.1, z125.2.2.1, z125.2.2.2, T6, V7, V8, V9, V10, V11) hf nz0 hP hS dX10_takeRest_159
        · have hf := it_f c128 hf
          refine lv_aload_n hx hb dX10_takeRest_131 rfl (lv_at hl 0 rfl) ?_
          refine G10_24 hx hb htg hown hK hP 0 rfl dX10_takeRest_132 ?_
          refine lv_iload_n hx hb dX10_takeRest_135 rfl (lv_at hl 2 rfl) ?_
          refine lv_aload_n hx hb dX10_takeRest_136 rfl (lv_at hl 0 rfl) ?_
          refine G10_96 hx hb htg hown hK hP 0 rfl dX10_takeRest_137 ?_
          refine lv_aload_n hx hb dX10_takeRest_140 rfl (lv_at hl 0 rfl) ?_
          refine G10_109 hx hb htg hown hK hP 0 rfl dX10_takeRest_141 ?_
          refine lv_aload_n hx hb dX10_takeRest_144 rfl (lv_at hl 0 rfl) ?_
          refine G10_112 hx hb htg hown hK hP 0 rfl dX10_takeRest_145 ?_
          obtain ⟨z148, hz148, hf⟩ := bind_s hf
          refine xV_iu hx hb hml hown htg L10_99 (c_X0_addStep l E a6 a7 a8 a9 a10 a11 hz148 _) ⟨⟨rfl, rfl⟩, Nat.le_of_ble_eq_true rfl, Nat.le_of_ble_eq_true rfl⟩ hK hG hA hP hD hS (is := [6, 7, 8, 9, 10, 11]) (sel := [none, none, none, none, none, none, some 0, some 1, some 2, some 3, some 4, some 5]) (ws2 := [(a0, o10 z125.2.1 (.ref a2) (.ref a6) u0_2), (a1, o8 z125.2.2.1 z125.2.2.2 a4 a5), (a2, o3 T2 u2_7 u2_8 a3 u2_10 u2_11 u2_12 u2_13 u2_14), (a3, al E 5 V3), (a4, ab E 900 V4), (a5, al E 23 V5), (a6, o0 z148.2.1 a7 a8 a9 a10 a11), (a7, ai E 60 z148.2.2.1), (a8, ai E 60 z148.2.2.2.1), (a9, ai E 60 z148.2.2.2.2.1), (a10, ai E 60 z148.2.2.2.2.2.1), (a11, ai E 60 z148.2.2.2.2.2.2)]) rfl rfl rfl rfl rfl (xrecv hK hP (q0 := 6) (ci := 0) rfl rfl) rfl hl.1 rfl (Nat.le_of_ble_eq_true rfl) dX10_takeRest_148 (fun H locs hP hD hS => ?_)
          refine lv_if_eq (tgt := 158) hx hb dX10_takeRest_151 (by decide) (fun c151 => ?_) (fun c151 => ?_)
          · have hf := it_t c151 hf
            refine lv_iconst (v := 0) hx hb dX10_takeRest_158 rfl ?_
            exact ret (0, z125.2.1, z125.2.2.1, z125.2.2.2, z148.2.1, z148.2.2.1, z148.2.2.2.1, z148.2.2.2.2.1, z148.2.2.2.2.2.1, z148.2.2.2.2.2.2) hf nz0 hP hS dX10_takeRest_159
          · have hf := it_f c151 hf
            refine lv_iconst (v := 1) hx hb dX10_takeRest_154 rfl ?_
            refine lv_goto (tgt := 159) hx hb dX10_takeRest_155 (by decide) ?_
            exact ret (1, z125.2.1, z125.2.2.1, z125.2.2.2, z148.2.1, z148.2.2.1, z148.2.2.2.1, z148.2.2.2.2.1, z148.2.2.2.2.2.1, z148.2.2.2.2.2.2) hf nz1 hP hS dX10_takeRest_159
  have hf := it_f c1_6 hf
  by_cases c1_12 : x2 = 12
  · have hf := it_t c1_12 hf
    refine xtabI (off := 75) (tgt := 76) hx hb c1_12 dX10_takeRest_1 rfl (by decide) ?_
    exact b76 T0 T1 J1_8 T6 V7 V8 V9 V10 V11 _ _ _ hf hP hD hS (lv_sub hl [0, 1, 2] rfl)
  have hf := it_f c1_12 hf
  by_cases c1_13 : x2 = 13
  · have hf := it_t c1_13 hf
    refine xtabI (off := 75) (tgt := 76) hx hb c1_13 dX10_takeRest_1 rfl (by decide) ?_
    exact b76 T0 T1 J1_8 T6 V7 V8 V9 V10 V11 _ _ _ hf hP hD hS (lv_sub hl [0, 1, 2] rfl)
  have hf := it_f c1_13 hf
  by_cases c1_14 : x2 = 14
  · have hf := it_t c1_14 hf
    refine xtabI (off := 159) (tgt := 160) hx hb c1_14 dX10_takeRest_1 rfl (by decide) ?_
    refine lv_aload_n hx hb dX10_takeRest_160 rfl (lv_at hl 0 rfl) ?_
    refine lv_aload_n hx hb dX10_takeRest_161 rfl (lv_at hl 1 rfl) ?_
    obtain ⟨z162, hz162, hf⟩ := bind_s hf
    refine xV_iu hx hb hml hown htg L10_103 (c_X10_takeCell l E a0 a1 a2 a4 a5 hz162 _) ⟨⟨rfl, rfl⟩, Nat.le_of_ble_eq_true rfl, Nat.le_of_ble_eq_true rfl⟩ hK hG hA hP hD hS (is := [0, 1, 2, 4, 5]) (sel := [some 0, some 1, some 2, none, some 3, some 4, none, none, none, none, none, none]) (ws2 := [(a0, o10 z162.2.1 (.ref a2) (.ref a6) u0_2), (a1, o8 z162.2.2.1 z162.2.2.2 a4 a5), (a2, o3 T2 u2_7 u2_8 a3 u2_10 u2_11 u2_12 u2_13 u2_14), (a3, al E 5 V3), (a4, ab E 900 V4), (a5, al E 23 V5), (a6, o0 T6 a7 a8 a9 a10 a11), (a7, ai E 60 V7), (a8, ai E 60 V8), (a9, ai E 60 V9), (a10, ai E 60 V10), (a11, ai E 60 V11)]) rfl rfl rfl rfl rfl (xrecv hK hP (q0 := 0) (ci := 10) rfl rfl) rfl hl.1 rfl (Nat.le_of_ble_eq_true rfl) dX10_takeRest_162 (fun H locs hP hD hS => ?_)
    refine lv_if_eq (tgt := 189) hx hb dX10_takeRest_165 (by decide) (fun c165 => ?_) (fun c165 => ?_)
    · have hf := it_t c165 hf
      refine lv_iconst (v := 0) hx hb dX10_takeRest_189 rfl ?_
      exact ret (0, z162.2.1, z162.2.2.1, z162.2.2.2, T6, V7, V8, V9, V10, V11) hf nz0 hP hS dX10_takeRest_190
    · have hf := it_f c165 hf
      refine lv_aload_n hx hb dX10_takeRest_168 rfl (lv_at hl 0 rfl) ?_
      refine G10_24 hx hb htg hown hK hP 0 rfl dX10_takeRest_169 ?_
      refine lv_iload_n hx hb dX10_takeRest_172 rfl (lv_at hl 2 rfl) ?_
      refine lv_aload_n hx hb dX10_takeRest_173 rfl (lv_at hl 0 rfl) ?_
      refine G10_109 hx hb htg hown hK hP 0 rfl dX10_takeRest_174 ?_
      refine lv_iconst (v := 0) hx hb dX10_takeRest_177 rfl ?_
      refine lv_iconst (v := 0) hx hb dX10_takeRest_178 rfl ?_
      obtain ⟨z179, hz179, hf⟩ := bind_s hf
      refine xV_iu hx hb hml hown htg L10_99 (c_X0_addStep l E a6 a7 a8 a9 a10 a11 hz179 _) ⟨⟨rfl, rfl⟩, Nat.le_of_ble_eq_true rfl, Nat.le_of_ble_eq_true rfl⟩ hK hG hA hP hD hS (is := [6, 7, 8, 9, 10, 11]) (sel := [none, none, none, none, none, none, some 0, some 1, some 2, some 3, some 4, some 5]) (ws2 := [(a0, o10 z162.2.1 (.ref a2) (.ref a6) u0_2), (a1, o8 z162.2.2.1 z162.2.2.2 a4 a5), (a2, o3 T2 u2_7 u2_8 a3 u2_10 u2_11 u2_12 u2_13 u2_14), (a3, al E 5 V3), (a4, ab E 900 V4), (a5, al E 23 V5), (a6, o0 z179.2.1 a7 a8 a9 a10 a11), (a7, ai E 60 z179.2.2.1), (a8, ai E 60 z179.2.2.2.1), (a9, ai E 60 z179.2.2.2.2.1), (a10, ai E 60 z179.2.2.2.2.2.1), (a11, ai E 60 z179.2.2.2.2.2.2)]) rfl rfl rfl rfl rfl (xrecv hK hP (q0 := 6) (ci := 0) rfl rfl) rfl hl.1 rfl (Nat.le_of_ble_eq_true rfl) dX10_takeRest_179 (fun H locs hP hD hS => ?_)
      refine lv_if_eq (tgt := 189) hx hb dX10_takeRest_182 (by decide) (fun c182 => ?_) (fun c182 => ?_)
      · have hf := it_t c182 hf
        refine lv_iconst (v := 0) hx hb dX10_takeRest_189 rfl ?_
        exact ret (0, z162.2.1, z162.2.2.1, z162.2.2.2, z179.2.1, z179.2.2.1, z179.2.2.2.1, z179.2.2.2.2.1, z179.2.2.2.2.2.1, z179.2.2.2.2.2.2) hf nz0 hP hS dX10_takeRest_190
      · have hf := it_f c182 hf
        refine lv_iconst (v := 1) hx hb dX10_takeRest_185 rfl ?_
        refine lv_goto (tgt := 190) hx hb dX10_takeRest_186 (by decide) ?_
        exact ret (1, z162.2.1, z162.2.2.1, z162.2.2.2, z179.2.1, z179.2.2.1, z179.2.2.2.1, z179.2.2.2.2.1, z179.2.2.2.2.2.1, z179.2.2.2.2.2.2) hf nz1 hP hS dX10_takeRest_190
  have hf := it_f c1_14 hf
  by_cases c1_20 : x2 = 20
  · have hf := it_t c1_20 hf
    refine xtabI (off := 190) (tgt := 191) hx hb c1_20 dX10_takeRest_1 rfl (by decide) ?_
    refine lv_aload_n hx hb dX10_takeRest_191 rfl (lv_at hl 0 rfl) ?_
    refine lv_aload_n hx hb dX10_takeRest_192 rfl (lv_at hl 1 rfl) ?_
    refine lv_iconst (v := 1) hx hb dX10_takeRest_193 rfl ?_
    refine lv_bipush (v := 99) hx hb dX10_takeRest_194 rfl ?_
    obtain ⟨z196, hz196, hf⟩ := bind_s hf
    refine xV_iu hx hb hml hown htg L10_115 (c_X10_takeNumber l E a0 a1 a4 a5 hz196 _) ⟨⟨rfl, rfl⟩, Nat.le_of_ble_eq_true rfl, Nat.le_of_ble_eq_true rfl⟩ hK hG hA hP hD hS (is := [0, 1, 4, 5]) (sel := [some 0, some 1, none, none, some 2, some 3, none, none, none, none, none, none]) (ws2 := [(a0, o10 z196.2.1 (.ref a2) (.ref a6) u0_2), (a1, o8 z196.2.2.1 z196.2.2.2 a4 a5), (a2, o3 T2 u2_7 u2_8 a3 u2_10 u2_11 u2_12 u2_13 u2_14), (a3, al E 5 V3), (a4, ab E 900 V4), (a5, al E 23 V5), (a6, o0 T6 a7 a8 a9 a10 a11), (a7, ai E 60 V7), (a8, ai E 60 V8), (a9, ai E 60 V9), (a10, ai E 60 V10), (a11, ai E 60 V11)]) rfl rfl rfl rfl rfl (xrecv hK hP (q0 := 0) (ci := 10) rfl rfl) rfl hl.1 rfl (Nat.le_of_ble_eq_true rfl) dX10_takeRest_196 (fun H locs hP hD hS => ?_)
    refine lv_if_eq (tgt := 223) hx hb dX10_takeRest_199 (by decide) (fun c199 => ?_) (fun c199 => ?_)
    · have hf := it_t c199 hf
      refine lv_iconst (v := 0) hx hb dX10_takeRest_223 rfl ?_
      exact ret (0, z196.2.1, z196.2.2.1, z196.2.2.2, T6, V7, V8, V9, V10, V11) hf nz0 hP hS dX10_takeRest_224
    · have hf := it_f c199 hf
      refine lv_aload_n hx hb dX10_takeRest_202 rfl (lv_at hl 0 rfl) ?_
      refine G10_24 hx hb htg hown hK hP 0 rfl dX10_takeRest_203 ?_
      refine lv_iload_n hx hb dX10_takeRest_206 rfl (lv_at hl 2 rfl) ?_
      refine lv_aload_n hx hb dX10_takeRest_207 rfl (lv_at hl 0 rfl) ?_
      refine G10_119 hx hb htg hown hK hP 0 rfl dX10_takeRest_208 ?_
      refine lv_iconst (v := 0) hx hb dX10_takeRest_211 rfl ?_
      refine lv_iconst (v := 0) hx hb dX10_takeRest_212 rfl ?_
      obtain ⟨z213, hz213, hf⟩ := bind_s hf
      refine xV_iu hx hb hml hown htg L10_99 (c_X0_addStep l E a6 a7 a8 a9 a10 a11 hz213 _) ⟨⟨rfl, rfl⟩, Nat.le_of_ble_eq_true rfl, Nat.le_of_ble_eq_true rfl⟩ hK hG hA hP hD hS (is := [6, 7, 8, 9, 10, 11]) (sel := [none, none, none, none, none, none, some 0, some 1, some 2, some 3, some 4, some 5]) (ws2 := [(a0, o10 z196.2.1 (.ref a2) (.ref a6) u0_2), (a1, o8 z196.2.2.1 z196.2.2.2 a4 a5), (a2, o3 T2 u2_7 u2_8 a3 u2_10 u2_11 u2_12 u2_13 u2_14), (a3, al E 5 V3), (a4, ab E 900 V4), (a5, al E 23 V5), (a6, o0 z213.2.1 a7 a8 a9 a10 a11), (a7, ai E 60 z213.2.2.1), (a8, ai E 60 z213.2.2.2.1), (a9, ai E 60 z213.2.2.2.2.1), (a10, ai E 60 z213.2.2.2.2.2.1), (a11, ai E 60 z213.2.2.2.2.2.2)]) rfl rfl rfl rfl rfl (xrecv hK hP (q0 := 6) (ci := 0) rfl rfl) rfl hl.1 rfl (Nat.le_of_ble_eq_true rfl) dX10_takeRest_213 (fun H locs hP hD hS => ?_)
      refine lv_if_eq (tgt := 223) hx hb dX10_takeRest_216 (by decide) (fun c216 => ?_) (fun c216 => ?_)
      · have hf := it_t c216 hf
        refine lv_iconst (v := 0) hx hb dX10_takeRest_223 rfl ?_
        exact ret (0, z196.2.1, z196.2.2.1, z196.2.2.2, z213.2.1, z213.2.2.1, z213.2.2.2.1, z213.2.2.2.2.1, z213.2.2.2.2.2.1, z213.2.2.2.2.2.2) hf nz0 hP hS dX10_takeRest_224
      · have hf := it_f c216 hf
        refine lv_iconst (v := 1) hx hb dX10_takeRest_219 rfl ?_
        refine lv_goto (tgt := 224) hx hb dX10_takeRest_220 (by decide) ?_
        exact ret (1, z196.2.1, z196.2.2.1, z196.2.2.2, z213.2.1, z213.2.2.1, z213.2.2.2.1, z213.2.2.2.2.1, z213.2.2.2.2.2.1, z213.2.2.2.2.2.2) hf nz1 hP hS dX10_takeRest_224
  have hf := it_f c1_20 hf
  refine xtabD (tgt := 225) (cs := [6, 12, 13, 14, 20]) hx hb (by simp only [List.forall_mem_cons]; exact ⟨c1_6, c1_12, c1_13, c1_14, c1_20, fun _ h => absurd h List.not_mem_nil⟩) rfl dX10_takeRest_1 (by decide) ?_
  exact b225 T0 T1 J1_8 T6 V7 V8 V9 V10 V11 _ _ _ hf hP hD hS (lv_sub hl [0, 2] rfl)
theorem dX10_takeStep_0 : decode cX10_takeStep 0 = .ok (.aload_n 1, 1) := by decide +kernel
theorem dX10_takeStep_1 : decode cX10_takeStep 1 = .ok (.invokevirtual 69, 3) := by decide +kernel
theorem dX10_takeStep_4 : decode cX10_takeStep 4 = .ok (.istore_n 2, 1) := by decide +kernel
theorem dX10_takeStep_5 : decode cX10_takeStep 5 = .ok (.iload_n 2, 1) := by decide +kernel
theorem dX10_takeStep_6 : decode cX10_takeStep 6 = .ok (.invokestatic 73, 3) := by decide +kernel
theorem dX10_takeStep_9 : decode cX10_takeStep 9 = .ok (.ifCond .ne 9, 3) := by decide +kernel
theorem dX10_takeStep_12 : decode cX10_takeStep 12 = .ok (.aload_n 1, 1) := by decide +kernel
theorem dX10_takeStep_13 : decode cX10_takeStep 13 = .ok (.iconst 2, 1) := by decide +kernel
theorem dX10_takeStep_14 : decode cX10_takeStep 14 = .ok (.invokevirtual 53, 3) := by decide +kernel
theorem dX10_takeStep_17 : decode cX10_takeStep 17 = .ok (.ireturn, 1) := by decide +kernel
theorem dX10_takeStep_18 : decode cX10_takeStep 18 = .ok (.aload_n 0, 1) := by decide +kernel
theorem dX10_takeStep_19 : decode cX10_takeStep 19 = .ok (.getfield 24, 3) := by decide +kernel
theorem dX10_takeStep_22 : decode cX10_takeStep 22 = .ok (.getfield 76, 3) := by decide +kernel
theorem dX10_takeStep_25 : decode cX10_takeStep 25 = .ok (.bipush 30, 2) := by decide +kernel
theorem dX10_takeStep_27 : decode cX10_takeStep 27 = .ok (.if_icmp .lt 10, 3) := by decide +kernel
theorem dX10_takeStep_30 : decode cX10_takeStep 30 = .ok (.aload_n 1, 1) := by decide +kernel
theorem dX10_takeStep_31 : decode cX10_takeStep 31 = .ok (.bipush 6, 2) := by decide +kernel
theorem dX10_takeStep_33 : decode cX10_takeStep 33 = .ok (.invokevirtual 53, 3) := by decide +kernel
theorem dX10_takeStep_36 : decode cX10_takeStep 36 = .ok (.ireturn, 1) := by decide +kernel
theorem dX10_takeStep_37 : decode cX10_takeStep 37 = .ok (.iload_n 2, 1) := by decide +kernel
theorem dX10_takeStep_38 : decode cX10_takeStep 38 = .ok (.bipush 16, 2) := by decide +kernel
theorem dX10_takeStep_40 : decode cX10_takeStep 40 = .ok (.if_icmp .eq 9, 3) := by decide +kernel
theorem dX10_takeStep_43 : decode cX10_takeStep 43 = .ok (.iload_n 2, 1) := by decide +kernel
theorem dX10_takeStep_44 : decode cX10_takeStep 44 = .ok (.bipush 20, 2) := by decide +kernel
theorem dX10_takeStep_46 : decode cX10_takeStep 46 = .ok (.if_icmp .ne 48, 3) := by decide +kernel
theorem dX10_takeStep_49 : decode cX10_takeStep 49 = .ok (.aload_n 0, 1) := by decide +kernel
theorem dX10_takeStep_50 : decode cX10_takeStep 50 = .ok (.getfield 28, 3) := by decide +kernel
theorem dX10_takeStep_53 : decode cX10_takeStep 53 = .ok (.aload_n 0, 1) := by decide +kernel
theorem dX10_takeStep_54 : decode cX10_takeStep 54 = .ok (.getfield 11, 3) := by decide +kernel
theorem dX10_takeStep_57 : decode cX10_takeStep 57 = .ok (.arraylength, 1) := by decide +kernel
theorem dX10_takeStep_58 : decode cX10_takeStep 58 = .ok (.if_icmp .lt 10, 3) := by decide +kernel
theorem dX10_takeStep_61 : decode cX10_takeStep 61 = .ok (.aload_n 1, 1) := by decide +kernel
theorem dX10_takeStep_62 : decode cX10_takeStep 62 = .ok (.bipush 7, 2) := by decide +kernel
theorem dX10_takeStep_64 : decode cX10_takeStep 64 = .ok (.invokevirtual 53, 3) := by decide +kernel
theorem dX10_takeStep_67 : decode cX10_takeStep 67 = .ok (.ireturn, 1) := by decide +kernel
theorem dX10_takeStep_68 : decode cX10_takeStep 68 = .ok (.aload_n 0, 1) := by decide +kernel
theorem dX10_takeStep_69 : decode cX10_takeStep 69 = .ok (.getfield 11, 3) := by decide +kernel
theorem dX10_takeStep_72 : decode cX10_takeStep 72 = .ok (.aload_n 0, 1) := by decide +kernel
theorem dX10_takeStep_73 : decode cX10_takeStep 73 = .ok (.getfield 28, 3) := by decide +kernel
theorem dX10_takeStep_76 : decode cX10_takeStep 76 = .ok (.aload_n 0, 1) := by decide +kernel
theorem dX10_takeStep_77 : decode cX10_takeStep 77 = .ok (.getfield 24, 3) := by decide +kernel
theorem dX10_takeStep_80 : decode cX10_takeStep 80 = .ok (.getfield 79, 3) := by decide +kernel
theorem dX10_takeStep_83 : decode cX10_takeStep 83 = .ok (.iastore, 1) := by decide +kernel
theorem dX10_takeStep_84 : decode cX10_takeStep 84 = .ok (.aload_n 0, 1) := by decide +kernel
theorem dX10_takeStep_85 : decode cX10_takeStep 85 = .ok (.dup, 1) := by decide +kernel
theorem dX10_takeStep_86 : decode cX10_takeStep 86 = .ok (.getfield 28, 3) := by decide +kernel
theorem dX10_takeStep_89 : decode cX10_takeStep 89 = .ok (.iconst 1, 1) := by decide +kernel
theorem dX10_takeStep_90 : decode cX10_takeStep 90 = .ok (.iadd, 1) := by decide +kernel
theorem dX10_takeStep_91 : decode cX10_takeStep 91 = .ok (.putfield 28, 3) := by decide +kernel
theorem dX10_takeStep_94 : decode cX10_takeStep 94 = .ok (.aload_n 1, 1) := by decide +kernel
theorem dX10_takeStep_95 : decode cX10_takeStep 95 = .ok (.invokevirtual 63, 3) := by decide +kernel
theorem dX10_takeStep_98 : decode cX10_takeStep 98 = .ok (.iload_n 2, 1) := by decide +kernel
theorem dX10_takeStep_99 : decode cX10_takeStep 99 = .ok (.bipush 16, 2) := by decide +kernel
theorem dX10_takeStep_101 : decode cX10_takeStep 101 = .ok (.if_icmp .ne 11, 3) := by decide +kernel
theorem dX10_takeStep_104 : decode cX10_takeStep 104 = .ok (.aload_n 0, 1) := by decide +kernel
theorem dX10_takeStep_105 : decode cX10_takeStep 105 = .ok (.aload_n 1, 1) := by decide +kernel
theorem dX10_takeStep_106 : decode cX10_takeStep 106 = .ok (.invokevirtual 82, 3) := by decide +kernel
theorem dX10_takeStep_109 : decode cX10_takeStep 109 = .ok (.goto 9, 3) := by decide +kernel
theorem dX10_takeStep_112 : decode cX10_takeStep 112 = .ok (.aload_n 0, 1) := by decide +kernel
theorem dX10_takeStep_113 : decode cX10_takeStep 113 = .ok (.aload_n 1, 1) := by decide +kernel
theorem dX10_takeStep_114 : decode cX10_takeStep 114 = .ok (.iload_n 2, 1) := by decide +kernel
theorem dX10_takeStep_115 : decode cX10_takeStep 115 = .ok (.invokevirtual 85, 3) := by decide +kernel
theorem dX10_takeStep_118 : decode cX10_takeStep 118 = .ok (.istore_n 3, 1) := by decide +kernel
theorem dX10_takeStep_119 : decode cX10_takeStep 119 = .ok (.iload_n 3, 1) := by decide +kernel
theorem dX10_takeStep_120 : decode cX10_takeStep 120 = .ok (.ifCond .eq 16, 3) := by decide +kernel
theorem dX10_takeStep_123 : decode cX10_takeStep 123 = .ok (.aload_n 1, 1) := by decide +kernel
theorem dX10_takeStep_124 : decode cX10_takeStep 124 = .ok (.bipush 59, 2) := by decide +kernel
theorem dX10_takeStep_126 : decode cX10_takeStep 126 = .ok (.invokevirtual 66, 3) := by decide +kernel
theorem dX10_takeStep_129 : decode cX10_takeStep 129 = .ok (.ifCond .eq 7, 3) := by decide +kernel
theorem dX10_takeStep_132 : decode cX10_takeStep 132 = .ok (.iconst 1, 1) := by decide +kernel
theorem dX10_takeStep_133 : decode cX10_takeStep 133 = .ok (.goto 4, 3) := by decide +kernel
theorem dX10_takeStep_136 : decode cX10_takeStep 136 = .ok (.iconst 0, 1) := by decide +kernel
theorem dX10_takeStep_137 : decode cX10_takeStep 137 = .ok (.ireturn, 1) := by decide +kernel
set_option maxRecDepth 100000 in
theorem c_X10_takeStep (l : Launch) (E : xE) (a0 a1 a2 a3 a4 a5 a6 a7 a8 a9 a10 a11 a12 : Nat) {T0 : Nat → Int32} {T1 : Nat → Int32} {J1_8 : Int64} {T2 : Nat → Int32} {V3 : Nat → Int32} {V4 : Nat → Int64} {T5 : Nat → Int32} {V6 : Nat → Int64} {V7 : Nat → Int32} {V8 : Nat → Int32} {V9 : Nat → Int32} {V10 : Nat → Int32} {V11 : Nat → Int32} {V12 : Nat → Int32} {u5_7 u5_8 u5_10 u5_11 u5_12 u5_13 u5_14 : Nat} {z : Int32 × (Nat → Int32) × (Nat → Int32) × Int64 × (Nat → Int32) × (Nat → Int32) × (Nat → Int32) × (Nat → Int32) × (Nat → Int32) × (Nat → Int32) × (Nat → Int32)} (hf : f_X10_takeStep T0 T1 J1_8 T2 V3 V4 T5 V6 V7 V8 V9 V10 V11 V12 = some z) (sz : Nat) : Met l yX10_takeStep (Cond.code yX10_takeStep cX10_takeStep 4 (some .boolean) :: gw) ({ frames := 4, cells := 0, slots := 0, locals := 89 }) (xPc E [.ref a0, .ref a1] [(a0, o10 T0 (.ref a5) (.ref a2) a12), (a1, o8 T1 J1_8 a3 a4), (a2, o0 T2 a7 a8 a9 a10 a11), (a3, ab E 900 V3), (a4, al E 23 V4), (a5, o3 T5 u5_7 u5_8 a6 u5_10 u5_11 u5_12 u5_13 u5_14), (a6, al E 5 V6), (a7, ai E 60 V7), (a8, ai E 60 V8), (a9, ai E 60 V9), (a10, ai E 60 V10), (a11, ai E 60 V11), (a12, ai E 3 V12)] sz) (xQi E z.1 [(a0, o10 T0 (.ref a5) (.ref a2) a12), (a1, o8 T1 J1_8 a3 a4), (a2, o0 T2 a7 a8 a9 a10 a11), (a3, ab E 900 V3), (a4, al E 23 V4), (a5, o3 T5 u5_7 u5_8 a6 u5_10 u5_11 u5_12 u5_13 u5_14), (a6, al E 5 V6), (a7, ai E 60 V7), (a8, ai E 60 V8), (a9, ai E 60 V9), (a10, ai E 60 V10), (a11, ai E 60 V11), (a12, ai E 3 V12)] [(a0, o10 z.2.1 (.ref a5) (.ref a2) a12), (a1, o8 z.2.2.1 z.2.2.2.1 a3 a4), (a2, o0 z.2.2.2.2.1 a7 a8 a9 a10 a11), (a3, ab E 900 V3), (a4, al E 23 V4), (a5, o3 T5 u5_7 u5_8 a6 u5_10 u5_11 u5_12 u5_13 u5_14), (a6, al E 5 V6), (a7, ai E 60 z.2.2.2.2.2.1), (a8, ai E 60 z.2.2.2.2.2.2.1), (a9, ai E 60 z.2.2.2.2.2.2.2.1), (a10, ai E 60 z.2.2.2.2.2.2.2.2.1), (a11, ai E 60 z.2.2.2.2.2.2.2.2.2.1), (a12, ai E 3 z.2.2.2.2.2.2.2.2.2.2)] sz) 0 0 (va_A [(a0, o10 T0 (.ref a5) (.ref a2) a12), (a1, o8 T1 J1_8 a3 a4), (a2, o0 T2 a7 a8 a9 a10 a11), (a3, ab E 900 V3), (a4, al E 23 V4), (a5, o3 T5 u5_7 u5_8 a6 u5_10 u5_11 u5_12 u5_13 u5_14), (a6, al E 5 V6), (a7, ai E 60 V7), (a8, ai E 60 V8), (a9, ai E 60 V9), (a10, ai E 60 V10), (a11, ai E 60 V11), (a12, ai E 3 V12)] sz) := by
  refine xM_i (by decide +kernel) (Nat.le_of_ble_eq_true rfl) ?_
  intro p e s m args below meth c A Q hx hb hml hown htg hK hG hA ret0 H locs ls hP hD hS hl
  have ret : ∀ (z' : Int32 × (Nat → Int32) × (Nat → Int32) × Int64 × (Nat → Int32) × (Nat → Int32) × (Nat → Int32) × (Nat → Int32) × (Nat → Int32) × (Nat → Int32) × (Nat → Int32)) {H : Heap} {locs : List Loc} {pc : Nat} {ls : Array Slot}, some z' = some z → narrow .boolean (.int z'.1) = .int z'.1 → va_P E.1 vwCl [(a0, o10 z'.2.1 (.ref a5) (.ref a2) a12), (a1, o8 z'.2.2.1 z'.2.2.2.1 a3 a4), (a2, o0 z'.2.2.2.2.1 a7 a8 a9 a10 a11), (a3, ab E 900 V3), (a4, al E 23 V4), (a5, o3 T5 u5_7 u5_8 a6 u5_10 u5_11 u5_12 u5_13 u5_14), (a6, al E 5 V6), (a7, ai E 60 z'.2.2.2.2.2.1), (a8, ai E 60 z'.2.2.2.2.2.2.1), (a9, ai E 60 z'.2.2.2.2.2.2.2.1), (a10, ai E 60 z'.2.2.2.2.2.2.2.2.1), (a11, ai E 60 z'.2.2.2.2.2.2.2.2.2.1), (a12, ai E 3 z'.2.2.2.2.2.2.2.2.2.2)] H → va_S A s.heap H locs → decode cX10_takeStep pc = .ok (.ireturn, 1) → W p l e ({ frames := 4, cells := 0, slots := 0, locals := 89 } : Room) s m args below meth c H locs 0 0 Q (F0 m pc ls [.int z'.1]) := by
    intro z' H locs pc ls h
    cases h
    exact ret0
  replace hl : lv_has ls 4 [(0, .ref a0), (1, .ref a1)] := hl
  have b118 : ∀ (s0 : Int32) (T0 : Nat → Int32) (T1 : Nat → Int32) (J1_8 : Int64) (T2 : Nat → Int32) (V7 : Nat → Int32) (V8 : Nat → Int32) (V9 : Nat → Int32) (V10 : Nat → Int32) (V11 : Nat → Int32) (V12 : Nat → Int32) (H : Heap) (locs : List Loc) (ls : Array Slot), f_X10_takeStep_118 V3 V4 T5 V6 s0 T0 T1 J1_8 T2 V7 V8 V9 V10 V11 V12 = some z → va_P E.1 vwCl [(a0, o10 T0 (.ref a5) (.ref a2) a12), (a1, o8 T1 J1_8 a3 a4), (a2, o0 T2 a7 a8 a9 a10 a11), (a3, ab E 900 V3), (a4, al E 23 V4), (a5, o3 T5 u5_7 u5_8 a6 u5_10 u5_11 u5_12 u5_13 u5_14), (a6, al E 5 V6), (a7, ai E 60 V7), (a8, ai E 60 V8), (a9, ai E 60 V9), (a10, ai E 60 V10), (a11, ai E 60 V11), (a12, ai E 3 V12)] H → va_D A [(a0, o10 T0 (.ref a5) (.ref a2) a12), (a1, o8 T1 J1_8 a3 a4), (a2, o0 T2 a7 a8 a9 a10 a11), (a3, ab E 900 V3), (a4, al E 23 V4), (a5, o3 T5 u5_7 u5_8 a6 u5_10 u5_11 u5_12 u5_13 u5_14), (a6, al E 5 V6), (a7, ai E 60 V7), (a8, ai E 60 V8), (a9, ai E 60 V9), (a10, ai E 60 V10), (a11, ai E 60 V11), (a12, ai E 3 V12)] → va_S A s.heap H locs → lv_has ls 4 [(1, .ref a1)] → W p l e ({ frames := 4, cells := 0, slots := 0, locals := 89 } : Room) s m args below meth c H locs 0 0 Q (F0 m 118 ls [.int s0]) := by
    intro s0 T0 T1 J1_8 T2 V7 V8 V9 V10 V11 V12 H locs ls hf hP hD hS hl
    unfold f_X10_takeStep_118 at hf
    refine lv_istore_n (lv' := [(3, .int s0), (1, .ref a1)]) hx hb dX10_takeStep_118 rfl hl (by decide) rfl (fun ls hl => ?_)
    refine lv_iload_n hx hb dX10_takeStep_119 rfl (lv_at hl 0 rfl) ?_
    refine lv_if_eq (tgt := 136) hx hb dX10_takeStep_120 (by decide) (fun c120 => ?_) (fun c120 => ?_)
    · have hf := it_t c120 hf
      refine lv_iconst (v := 0) hx hb dX10_takeStep_136 rfl ?_
      exact ret (0, T0, T1, J1_8, T2, V7, V8, V9, V10, V11, V12) hf nz0 hP hS dX10_takeStep_137
    · have hf := it_f c120 hf
      refine lv_aload_n hx hb dX10_takeStep_123 rfl (lv_at hl 1 rfl) ?_
      refine lv_bipush (v := 59) hx hb dX10_takeStep_124 rfl ?_
      obtain ⟨z126, hz126, hf⟩ := bind_s hf
      refine xV_iu hx hb hml hown htg L10_66 (c_X8_passSign l E a1 a3 a4 hz126 _) ⟨⟨rfl, rfl⟩, Nat.le_of_ble_eq_true rfl, Nat.le_of_ble_eq_true rfl⟩ hK hG hA hP hD hS (is := [1, 3, 4]) (sel := [none, some 0, none, some 1, some 2, none, none, none, none, none, none, none, none]) (ws2 := [(a0, o10 T0 (.ref a5) (.ref a2) a12), (a1, o8 z126.2.1 z126.2.2 a3 a4), (a2, o0 T2 a7 a8 a9 a10 a11), (a3, ab E 900 V3), (a4, al E 23 V4), (a5, o3 T5 u5_7 u5_8 a6 u5_10 u5_11 u5_12 u5_13 u5_14), (a6, al E 5 V6), (a7, ai E 60 V7), (a8, ai E 60 V8), (a9, ai E 60 V9), (a10, ai E 60 V10), (a11, ai E 60 V11), (a12, ai E 3 V12)]) rfl rfl rfl rfl rfl (xrecv hK hP (q0 := 1) (ci := 8) rfl rfl) rfl hl.1 rfl (Nat.le_of_ble_eq_true rfl) dX10_takeStep_126 (fun H locs hP hD hS => ?_)
      refine lv_if_eq (tgt := 136) hx hb dX10_takeStep_129 (by decide) (fun c129 => ?_) (fun c129 => ?_)
      · have hf := it_t c129 hf
        refine lv_iconst (v := 0) hx hb dX10_takeStep_136 rfl ?_
        exact ret (0, T0, z126.2.1, z126.2.2, T2, V7, V8, V9, V10, V11, V12) hf nz0 hP hS dX10_takeStep_137
      · have hf := it_f c129 hf
        refine lv_iconst (v := 1) hx hb dX10_takeStep_132 rfl ?_
        refine lv_goto (tgt := 137) hx hb dX10_takeStep_133 (by decide) ?_
        exact ret (1, T0, z126.2.1, z126.2.2, T2, V7, V8, V9, V10, V11, V12) hf nz1 hP hS dX10_takeStep_137
  have b94 : ∀ (x2 : Int32) (T0 : Nat → Int32) (T1 : Nat → Int32) (J1_8 : Int64) (T2 : Nat → Int32) (V7 : Nat → Int32) (V8 : Nat → Int32) (V9 : Nat → Int32) (V10 : Nat → Int32) (V11 : Nat → Int32) (V12 : Nat → Int32) (H : Heap) (locs : List Loc) (ls : Array Slot), f_X10_takeStep_94 V3 V4 T5 V6 x2 T0 T1 J1_8 T2 V7 V8 V9 V10 V11 V12 = some z → va_P E.1 vwCl [(a0, o10 T0 (.ref a5) (.ref a2) a12), (a1, o8 T1 J1_8 a3 a4), (a2, o0 T2 a7 a8 a9 a10 a11), (a3, ab E 900 V3), (a4, al E 23 V4), (a5, o3 T5 u5_7 u5_8 a6 u5_10 u5_11 u5_12 u5_13 u5_14), (a6, al E 5 V6), (a7, ai E 60 V7), (a8, ai E 60 V8), (a9, ai E 60 V9), (a10, ai E 60 V10), (a11, ai E 60 V11), (a12, ai E 3 V12)] H → va_D A [(a0, o10 T0 (.ref a5) (.ref a2) a12), (a1, o8 T1 J1_8 a3 a4), (a2, o0 T2 a7 a8 a9 a10 a11), (a3, ab E 900 V3), (a4, al E 23 V4), (a5, o3 T5 u5_7 u5_8 a6 u5_10 u5_11 u5_12 u5_13 u5_14), (a6, al E 5 V6), (a7, ai E 60 V7), (a8, ai E 60 V8), (a9, ai E 60 V9), (a10, ai E 60 V10), (a11, ai E 60 V11), (a12, ai E 3 V12)] → va_S A s.heap H locs → lv_has ls 4 [(0, .ref a0), (1, .ref a1), (2, .int x2)] → W p l e ({ frames := 4, cells := 0, slots := 0, locals := 89 } : Room) s m args below meth c H locs 0 0 Q (F0 m 94 ls []) := by
    intro x2 T0 T1 J1_8 T2 V7 V8 V9 V10 V11 V12 H locs ls hf hP hD hS hl
    unfold f_X10_takeStep_94 at hf
    refine lv_aload_n hx hb dX10_takeStep_94 rfl (lv_at hl 1 rfl) ?_
    obtain ⟨z95, hz95, hf⟩ := bind_s hf
    refine xV_vu hx hb hml hown htg L10_63 (c_X8_advance l E a1 a3 a4 hz95 _) ⟨⟨rfl, rfl⟩, Nat.le_of_ble_eq_true rfl, Nat.le_of_ble_eq_true rfl⟩ hK hG hA hP hD hS (is := [1, 3, 4]) (sel := [none, some 0, none, some 1, some 2, none, none, none, none, none, none, none, none]) (ws2 := [(a0, o10 T0 (.ref a5) (.ref a2) a12), (a1, o8 z95.1 z95.2 a3 a4), (a2, o0 T2 a7 a8 a9 a10 a11), (a3, ab E 900 V3), (a4, al E 23 V4), (a5, o3 T5 u5_7 u5_8 a6 u5_10 u5_11 u5_12 u5_13 u5_14), (a6, al E 5 V6), (a7, ai E 60 V7), (a8, ai E 60 V8), (a9, ai E 60 V9), (a10, ai E 60 V10), (a11, ai E 60 V11), (a12, ai E 3 V12)]) rfl rfl rfl rfl rfl (xrecv hK hP (q0 := 1) (ci := 8) rfl rfl) rfl hl.1 rfl (Nat.le_of_ble_eq_true rfl) dX10_takeStep_95 (fun H locs hP hD hS => ?_)
    refine lv_iload_n hx hb dX10_takeStep_98 rfl (lv_at hl 2 rfl) ?_
    refine lv_bipush (v := 16) hx hb dX10_takeStep_99 rfl ?_
    refine lv_icmp_ne (tgt := 112) hx hb dX10_takeStep_101 (by decide) (fun c101 => ?_) (fun c101 => ?_)
    · have hf := it_f c101 hf
      refine lv_aload_n hx hb dX10_takeStep_112 rfl (lv_at hl 0 rfl) ?_
      refine lv_aload_n hx hb dX10_takeStep_113 rfl (lv_at hl 1 rfl) ?_
      refine lv_iload_n hx hb dX10_takeStep_114 rfl (lv_at hl 2 rfl) ?_
      obtain ⟨z115, hz115, hf⟩ := bind_s hf
      refine xV_iu hx hb hml hown htg L10_85 (c_X10_takeRest l E a0 a1 a5 a6 a3 a4 a2 a7 a8 a9 a10 a11 hz115 _) ⟨⟨rfl, rfl⟩, Nat.le_of_ble_eq_true rfl, Nat.le_of_ble_eq_true rfl⟩ hK hG hA hP hD hS (is := [0, 1, 5, 6, 3, 4, 2, 7, 8, 9, 10, 11]) (sel := [some 0, some 1, some 6, some 4, some 5, some 2, some 3, some 7, some 8, some 9, some 10, some 11, none]) (ws2 := [(a0, o10 z115.2.1 (.ref a5) (.ref a2) a12), (a1, o8 z115.2.2.1 z115.2.2.2.1 a3 a4), (a2, o0 z115.2.2.2.2.1 a7 a8 a9 a10 a11), (a3, ab E 900 V3), (a4, al E 23 V4), (a5, o3 T5 u5_7 u5_8 a6 u5_10 u5_11 u5_12 u5_13 u5_14), (a6, al E 5 V6), (a7, ai E 60 z115.2.2.2.2.2.1), (a8, ai E 60 z115.2.2.2.2.2.2.1), (a9, ai E 60 z115.2.2.2.2.2.2.2.1), (a10, ai E 60 z115.2.2.2.2.2.2.2.2.1), (a11, ai E 60 z115.2.2.2.2.2.2.2.2.2), (a12, ai E 3 V12)]) rfl rfl rfl rfl rfl (xrecv hK hP (q0 := 0) (ci := 10) rfl rfl) rfl hl.1 rfl (Nat.le_of_ble_eq_true rfl) dX10_takeStep_115 (fun H locs hP hD hS => ?_)
      exact b118 z115.1 z115.2.1 z115.2.2.1 z115.2.2.2.1 z115.2.2.2.2.1 z115.2.2.2.2.2.1 z115.2.2.2.2.2.2.1 z115.2.2.2.2.2.2.2.1 z115.2.2.2.2.2.2.2.2.1 z115.2.2.2.2.2.2.2.2.2 V12 _ _ _ hf hP hD hS (lv_sub hl [1] rfl)
    · have hf := it_t c101 hf
      refine lv_aload_n hx hb dX10_takeStep_104 rfl (lv_at hl 0 rfl) ?_
      refine lv_aload_n hx hb dX10_takeStep_105 rfl (lv_at hl 1 rfl) ?_
      obtain ⟨z106, hz106, hf⟩ := bind_s hf
      refine xV_iu hx hb hml hown htg L10_82 (c_X10_takeTest l E a0 a1 a3 a4 a5 a6 a2 a7 a8 a9 a10 a11 hz106 _) ⟨⟨rfl, rfl⟩, Nat.le_of_ble_eq_true rfl, Nat.le_of_ble_eq_true rfl⟩ hK hG hA hP hD hS (is := [0, 1, 3, 4, 5, 6, 2, 7, 8, 9, 10, 11]) (sel := [some 0, some 1, some 6, some 2, some 3, some 4, some 5, some 7, some 8, some 9, some 10, some 11, none]) (ws2 := [(a0, o10 z106.2.1 (.ref a5) (.ref a2) a12), (a1, o8 z106.2.2.1 z106.2.2.2.1 a3 a4), (a2, o0 z106.2.2.2.2.1 a7 a8 a9 a10 a11), (a3, ab E 900 V3), (a4, al E 23 V4), (a5, o3 T5 u5_7 u5_8 a6 u5_10 u5_11 u5_12 u5_13 u5_14), (a6, al E 5 V6), (a7, ai E 60 z106.2.2.2.2.2.1), (a8, ai E 60 z106.2.2.2.2.2.2.1), (a9, ai E 60 z106.2.2.2.2.2.2.2.1), (a10, ai E 60 z106.2.2.2.2.2.2.2.2.1), (a11, ai E 60 z106.2.2.2.2.2.2.2.2.2), (a12, ai E 3 V12)]) rfl rfl rfl rfl rfl (xrecv hK hP (q0 := 0) (ci := 10) rfl rfl) rfl hl.1 rfl (Nat.le_of_ble_eq_true rfl) dX10_takeStep_106 (fun H locs hP hD hS => ?_)
      refine lv_goto (tgt := 118) hx hb dX10_takeStep_109 (by decide) ?_
      exact b118 z106.1 z106.2.1 z106.2.2.1 z106.2.2.2.1 z106.2.2.2.2.1 z106.2.2.2.2.2.1 z106.2.2.2.2.2.2.1 z106.2.2.2.2.2.2.2.1 z106.2.2.2.2.2.2.2.2.1 z106.2.2.2.2.2.2.2.2.2 V12 _ _ _ hf hP hD hS (lv_sub hl [1] rfl)
  have b49 : ∀ (x2 : Int32) (T0 : Nat → Int32) (T1 : Nat → Int32) (J1_8 : Int64) (T2 : Nat → Int32) (V7 : Nat → Int32) (V8 : Nat → Int32) (V9 : Nat → Int32) (V10 : Nat → Int32) (V11 : Nat → Int32) (V12 : Nat → Int32) (H : Heap) (locs : List Loc) (ls : Array Slot), f_X10_takeStep_49 V3 V4 T5 V6 x2 T0 T1 J1_8 T2 V7 V8 V9 V10 V11 V12 = some z → va_P E.1 vwCl [(a0, o10 T0 (.ref a5) (.ref a2) a12), (a1, o8 T1 J1_8 a3 a4), (a2, o0 T2 a7 a8 a9 a10 a11), (a3, ab E 900 V3), (a4, al E 23 V4), (a5, o3 T5 u5_7 u5_8 a6 u5_10 u5_11 u5_12 u5_13 u5_14), (a6, al E 5 V6), (a7, ai E 60 V7), (a8, ai E 60 V8), (a9, ai E 60 V9), (a10, ai E 60 V10), (a11, ai E 60 V11), (a12, ai E 3 V12)] H → va_D A [(a0, o10 T0 (.ref a5) (.ref a2) a12), (a1, o8 T1 J1_8 a3 a4), (a2, o0 T2 a7 a8 a9 a10 a11), (a3, ab E 900 V3), (a4, al E 23 V4), (a5, o3 T5 u5_7 u5_8 a6 u5_10 u5_11 u5_12 u5_13 u5_14), (a6, al E 5 V6), (a7, ai E 60 V7), (a8, ai E 60 V8), (a9, ai E 60 V9), (a10, ai E 60 V10), (a11, ai E 60 V11), (a12, ai E 3 V12)] → va_S A s.heap H locs → lv_has ls 4 [(0, .ref a0), (1, .ref a1), (2, .int x2)] → W p l e ({ frames := 4, cells := 0, slots := 0, locals := 89 } : Room) s m args below meth c H locs 0 0 Q (F0 m 49 ls []) := by
    intro x2 T0 T1 J1_8 T2 V7 V8 V9 V10 V11 V12 H locs ls hf hP hD hS hl
    unfold f_X10_takeStep_49 at hf
    refine lv_aload_n hx hb dX10_takeStep_49 rfl (lv_at hl 0 rfl) ?_
    refine G10_28 hx hb htg hown hK hP 0 rfl dX10_takeStep_50 ?_
    refine lv_aload_n hx hb dX10_takeStep_53 rfl (lv_at hl 0 rfl) ?_
    refine G10_11 hx hb htg hown hK hP 0 rfl dX10_takeStep_54 ?_
    refine va_alen (v := 3) hx hb hK hP 12 1 rfl rfl rfl dX10_takeStep_57 ?_
    refine lv_icmp_lt (tgt := 68) hx hb dX10_takeStep_58 (by decide) (fun c58 => ?_) (fun c58 => ?_)
    · have hf := it_t c58 hf
      refine lv_aload_n hx hb dX10_takeStep_68 rfl (lv_at hl 0 rfl) ?_
      refine G10_11 hx hb htg hown hK hP 0 rfl dX10_takeStep_69 ?_
      refine lv_aload_n hx hb dX10_takeStep_72 rfl (lv_at hl 0 rfl) ?_
      refine G10_28 hx hb htg hown hK hP 0 rfl dX10_takeStep_73 ?_
      refine lv_aload_n hx hb dX10_takeStep_76 rfl (lv_at hl 0 rfl) ?_
      refine G10_24 hx hb htg hown hK hP 0 rfl dX10_takeStep_77 ?_
      refine G10_79 hx hb htg hown hK hP 2 rfl dX10_takeStep_80 ?_
      obtain ⟨g83, hf⟩ := ck_s hf
      refine xiast hx hb hK hP hD hS 12 rfl g83 dX10_takeStep_83 (fun H locs hP hD hS => ?_)
      refine lv_aload_n hx hb dX10_takeStep_84 rfl (lv_at hl 0 rfl) ?_
      refine lv_dup hx hb dX10_takeStep_85 rfl ?_
      refine G10_28 hx hb htg hown hK hP 0 rfl dX10_takeStep_86 ?_
      refine lv_iconst (v := 1) hx hb dX10_takeStep_89 rfl ?_
      refine lv_iadd hx hb dX10_takeStep_90 ?_
      refine P10_28 hx hb htg hown hK hP hD hS 0 rfl dX10_takeStep_91 (fun H locs hP hD hS => ?_)
      exact b94 x2 (upd T0 3 ((T0 3) + 1)) T1 J1_8 T2 V7 V8 V9 V10 V11 (upd V12 (Int32.toNatClampNeg (T0 3)) (T2 2)) _ _ _ hf hP hD hS (lv_sub hl [0, 1, 2] rfl)
    · have hf := it_f c58 hf
      refine lv_aload_n hx hb dX10_takeStep_61 rfl (lv_at hl 1 rfl) ?_
      refine lv_bipush (v := 7) hx hb dX10_takeStep_62 rfl ?_
      obtain ⟨z64, hz64, hf⟩ := bind_s hf
      refine xV_iu hx hb hml hown htg L10_53 (c_X8_blame l E a1 hz64 _) ⟨⟨rfl, rfl⟩, Nat.le_of_ble_eq_true rfl, Nat.le_of_ble_eq_true rfl⟩ hK hG hA hP hD hS (is := [1]) (sel := [none, some 0, none, none, none, none, none, none, none, none, none, none, none]) (ws2 := [(a0, o10 T0 (.ref a5) (.ref a2) a12), (a1, o8 z64.2 J1_8 a3 a4), (a2, o0 T2 a7 a8 a9 a10 a11), (a3, ab E 900 V3), (a4, al E 23 V4), (a5, o3 T5 u5_7 u5_8 a6 u5_10 u5_11 u5_12 u5_13 u5_14), (a6, al E 5 V6), (a7, ai E 60 V7), (a8, ai E 60 V8), (a9, ai E 60 V9), (a10, ai E 60 V10), (a11, ai E 60 V11), (a12, ai E 3 V12)]) rfl rfl rfl rfl rfl (xrecv hK hP (q0 := 1) (ci := 8) rfl rfl) rfl hl.1 rfl (Nat.le_of_ble_eq_true rfl) dX10_takeStep_64 (fun H locs hP hD hS => ?_)
      obtain ⟨g67, hf⟩ := ck_s hf
      exact ret (z64.1, T0, z64.2, J1_8, T2, V7, V8, V9, V10, V11, V12) hf (bz_n g67).1 hP hS dX10_takeStep_67
  unfold f_X10_takeStep at hf
  refine lv_aload_n hx hb dX10_takeStep_0 rfl (lv_at hl 1 rfl) ?_
  obtain ⟨z1, hz1, hf⟩ := bind_s hf
  refine xV_ir hx hb hml hown htg L10_69 (c_X8_word l E a1 hz1 _) ⟨⟨rfl, rfl⟩, Nat.le_of_ble_eq_true rfl, Nat.le_of_ble_eq_true rfl⟩ hK hG hA hP hD hS (is := [1]) rfl rfl (xrecv hK hP (q0 := 1) (ci := 8) rfl rfl) rfl hl.1 rfl (Nat.le_of_ble_eq_true rfl) dX10_takeStep_1 (fun H locs hP hD hS => ?_)
  refine lv_istore_n (lv' := [(2, .int z1), (0, .ref a0), (1, .ref a1)]) hx hb dX10_takeStep_4 rfl hl (by decide) rfl (fun ls hl => ?_)
  refine lv_iload_n hx hb dX10_takeStep_5 rfl (lv_at hl 0 rfl) ?_
  obtain ⟨z6, hz6, hf⟩ := bind_s hf
  refine xS_ir hx hb hml hown htg L10_73 (c_X10_beginsStep l E hz6 _) ⟨⟨rfl, rfl⟩, Nat.le_of_ble_eq_true rfl, Nat.le_of_ble_eq_true rfl⟩ hK hG hA hP hD hS (is := []) rfl rfl rfl hl.1 rfl (Nat.le_of_ble_eq_true rfl) dX10_takeStep_6 (fun H locs hP hD hS => ?_)
  refine lv_if_ne (tgt := 18) hx hb dX10_takeStep_9 (by decide) (fun c9 => ?_) (fun c9 => ?_)
  · have hf := it_f c9 hf
    refine lv_aload_n hx hb dX10_takeStep_18 rfl (lv_at hl 1 rfl) ?_
    refine G10_24 hx hb htg hown hK hP 0 rfl dX10_takeStep_19 ?_
    refine G10_76 hx hb htg hown hK hP 2 rfl dX10_takeStep_22 ?_
    refine lv_bipush (v := 30) hx hb dX10_takeStep_25 rfl ?_
    refine lv_icmp_lt (tgt := 37) hx hb dX10_takeStep_27 (by decide) (fun c27 => ?_) (fun c27 => ?_)
    · have hf := it_t c27 hf
      refine lv_iload_n hx hb dX10_takeStep_37 rfl (lv_at hl 0 rfl) ?_
      refine lv_bipush (v := 16) hx hb dX10_takeStep_38 rfl ?_
      refine lv_icmp_eq (tgt := 49) hx hb dX10_takeStep_40 (by decide) (fun c40 => ?_) (fun c40 => ?_)
      · have hf := it_t c40 hf
        exact b49 z1 T0 T1 J1_8 T2 V7 V8 V9 V10 V11 V12 _ _ _ hf hP hD hS (lv_sub hl [1, 2, 0] rfl)
      · have hf := it_f c40 hf
        refine lv_iload_n hx hb dX10_takeStep_43 rfl (lv_at hl 0 rfl) ?_
        refine lv_bipush (v := 20) hx hb dX10_takeStep_44 rfl ?_
        refine lv_icmp_ne (tgt := 94) hx hb dX10_takeStep_46 (by decide) (fun c46 => ?_) (fun c46 => ?_)
        · have hf := it_f c46 hf
          exact b94 z1 T0 T1 J1_8 T2 V7 V8 V9 V10 V11 V12 _ _ _ hf hP hD hS (lv_sub hl [1, 2, 0] rfl)
        · have hf := it_t c46 hf
          exact b49 z1 T0 T1 J1_8 T2 V7 V8 V9 V10 V11 V12 _ _ _ hf hP hD hS (lv_sub hl [1, 2, 0] rfl)
    · have hf := it_f c27 hf
      refine lv_aload_n hx hb dX10_takeStep_30 rfl (lv_at hl 2 rfl) ?_
      refine lv_bipush (v := 6) hx hb dX10_takeStep_31 rfl ?_
      obtain ⟨z33, hz33, hf⟩ := bind_s hf
      refine xV_iu hx hb hml hown htg L10_53 (c_X8_blame l E a1 hz33 _) ⟨⟨rfl, rfl⟩, Nat.le_of_ble_eq_true rfl, Nat.le_of_ble_eq_true rfl⟩ hK hG hA hP hD hS (is := [1]) (sel := [none, some 0, none, none, none, none, none, none, none, none, none, none, none]) (ws2 := [(a0, o10 T0 (.ref a5) (.ref a2) a12), (a1, o8 z33.2 J1_8 a3 a4), (a2, o0 T2 a7 a8 a9 a10 a11), (a3, ab E 900 V3), (a4, al E 23 V4), (a5, o3 T5 u5_7 u5_8 a6 u5_10 u5_11 u5_12 u5_13 u5_14), (a6, al E 5 V6), (a7, ai E 60 V7), (a8, ai E 60 V8), (a9, ai E 60 V9), (a10, ai E 60 V10), (a11, ai E 60 V11), (a12, ai E 3 V12)]) rfl rfl rfl rfl rfl (xrecv hK hP (q0 := 1) (ci := 8) rfl rfl) rfl hl.1 rfl (Nat.le_of_ble_eq_true rfl) dX10_takeStep_33 (fun H locs hP hD hS => ?_)
      obtain ⟨g36, hf⟩ := ck_s hf
      exact ret (z33.1, T0, z33.2, J1_8, T2, V7, V8, V9, V10, V11, V12) hf (bz_n g36).1 hP hS dX10_takeStep_36
  · have hf := it_t c9 hf
    refine lv_aload_n hx hb dX10_takeStep_12 rfl (lv_at hl 2 rfl) ?_
    refine lv_iconst (v := 2) hx hb dX10_takeStep_13 rfl ?_
    obtain ⟨z14, hz14, hf⟩ := bind_s hf
    refine xV_iu hx hb hml hown htg L10_53 (c_X8_blame l E a1 hz14 _) ⟨⟨rfl, rfl⟩, Nat.le_of_ble_eq_true rfl, Nat.le_of_ble_eq_true rfl⟩ hK hG hA hP hD hS (is := [1]) (sel := [none, some 0, none, none, none, none, none, none, none, none, none, none, none]) (ws2 := [(a0, o10 T0 (.ref a5) (.ref a2) a12), (a1, o8 z14.2 J1_8 a3 a4), (a2, o0 T2 a7 a8 a9 a10 a11), (a3, ab E 900 V3), (a4, al E 23 V4), (a5, o3 T5 u5_7 u5_8 a6 u5_10 u5_11 u5_12 u5_13 u5_14), (a6, al E 5 V6), (a7, ai E 60 V7), (a8, ai E 60 V8), (a9, ai E 60 V9), (a10, ai E 60 V10), (a11, ai E 60 V11), (a12, ai E 3 V12)]) rfl rfl rfl rfl rfl (xrecv hK hP (q0 := 1) (ci := 8) rfl rfl) rfl hl.1 rfl (Nat.le_of_ble_eq_true rfl) dX10_takeStep_14 (fun H locs hP hD hS => ?_)
    obtain ⟨g17, hf⟩ := ck_s hf
    exact ret (z14.1, T0, z14.2, J1_8, T2, V7, V8, V9, V10, V11, V12) hf (bz_n g17).1 hP hS dX10_takeStep_17
theorem dX10_take_0 : decode cX10_take 0 = .ok (.aload 4, 2) := by decide +kernel
theorem dX10_take_2 : decode cX10_take 2 = .ok (.invokevirtual 17, 3) := by decide +kernel
theorem dX10_take_5 : decode cX10_take 5 = .ok (.aload_n 0, 1) := by decide +kernel
theorem dX10_take_6 : decode cX10_take 6 = .ok (.aload_n 3, 1) := by decide +kernel
theorem dX10_take_7 : decode cX10_take 7 = .ok (.putfield 20, 3) := by decide +kernel
theorem dX10_take_10 : decode cX10_take 10 = .ok (.aload_n 0, 1) := by decide +kernel
theorem dX10_take_11 : decode cX10_take 11 = .ok (.aload 4, 2) := by decide +kernel
theorem dX10_take_13 : decode cX10_take 13 = .ok (.putfield 24, 3) := by decide +kernel
theorem dX10_take_16 : decode cX10_take 16 = .ok (.aload_n 0, 1) := by decide +kernel
theorem dX10_take_17 : decode cX10_take 17 = .ok (.iconst 0, 1) := by decide +kernel
theorem dX10_take_18 : decode cX10_take 18 = .ok (.putfield 28, 3) := by decide +kernel
theorem dX10_take_21 : decode cX10_take 21 = .ok (.aload_n 1, 1) := by decide +kernel
theorem dX10_take_22 : decode cX10_take 22 = .ok (.iload_n 2, 1) := by decide +kernel
theorem dX10_take_23 : decode cX10_take 23 = .ok (.invokevirtual 32, 3) := by decide +kernel
theorem dX10_take_26 : decode cX10_take 26 = .ok (.iconst 0, 1) := by decide +kernel
theorem dX10_take_27 : decode cX10_take 27 = .ok (.istore 5, 2) := by decide +kernel
theorem dX10_take_29 : decode cX10_take 29 = .ok (.iload 5, 2) := by decide +kernel
theorem dX10_take_31 : decode cX10_take 31 = .ok (.iload_n 2, 1) := by decide +kernel
theorem dX10_take_32 : decode cX10_take 32 = .ok (.if_icmp .ge 47, 3) := by decide +kernel
theorem dX10_take_35 : decode cX10_take 35 = .ok (.aload_n 1, 1) := by decide +kernel
theorem dX10_take_36 : decode cX10_take 36 = .ok (.invokevirtual 38, 3) := by decide +kernel
theorem dX10_take_39 : decode cX10_take 39 = .ok (.ifCond .ne 40, 3) := by decide +kernel
theorem dX10_take_42 : decode cX10_take 42 = .ok (.aload_n 1, 1) := by decide +kernel
theorem dX10_take_43 : decode cX10_take 43 = .ok (.bipush 21, 2) := by decide +kernel
theorem dX10_take_45 : decode cX10_take 45 = .ok (.invokevirtual 42, 3) := by decide +kernel
theorem dX10_take_48 : decode cX10_take 48 = .ok (.ifCond .eq 11, 3) := by decide +kernel
theorem dX10_take_51 : decode cX10_take 51 = .ok (.aload_n 0, 1) := by decide +kernel
theorem dX10_take_52 : decode cX10_take 52 = .ok (.aload_n 1, 1) := by decide +kernel
theorem dX10_take_53 : decode cX10_take 53 = .ok (.invokevirtual 46, 3) := by decide +kernel
theorem dX10_take_56 : decode cX10_take 56 = .ok (.goto 8, 3) := by decide +kernel
theorem dX10_take_59 : decode cX10_take 59 = .ok (.aload_n 0, 1) := by decide +kernel
theorem dX10_take_60 : decode cX10_take 60 = .ok (.aload_n 1, 1) := by decide +kernel
theorem dX10_take_61 : decode cX10_take 61 = .ok (.invokevirtual 50, 3) := by decide +kernel
theorem dX10_take_64 : decode cX10_take 64 = .ok (.istore 6, 2) := by decide +kernel
theorem dX10_take_66 : decode cX10_take 66 = .ok (.iload 6, 2) := by decide +kernel
theorem dX10_take_68 : decode cX10_take 68 = .ok (.ifCond .ne 5, 3) := by decide +kernel
theorem dX10_take_71 : decode cX10_take 71 = .ok (.iconst 0, 1) := by decide +kernel
theorem dX10_take_72 : decode cX10_take 72 = .ok (.ireturn, 1) := by decide +kernel
theorem dX10_take_73 : decode cX10_take 73 = .ok (.iinc 5 1, 3) := by decide +kernel
theorem dX10_take_76 : decode cX10_take 76 = .ok (.goto (-47), 3) := by decide +kernel
theorem dX10_take_79 : decode cX10_take 79 = .ok (.aload_n 0, 1) := by decide +kernel
theorem dX10_take_80 : decode cX10_take 80 = .ok (.getfield 28, 3) := by decide +kernel
theorem dX10_take_83 : decode cX10_take 83 = .ok (.ifCond .le 9, 3) := by decide +kernel
theorem dX10_take_86 : decode cX10_take 86 = .ok (.aload_n 1, 1) := by decide +kernel
theorem dX10_take_87 : decode cX10_take 87 = .ok (.iconst 2, 1) := by decide +kernel
theorem dX10_take_88 : decode cX10_take 88 = .ok (.invokevirtual 53, 3) := by decide +kernel
theorem dX10_take_91 : decode cX10_take 91 = .ok (.ireturn, 1) := by decide +kernel
theorem dX10_take_92 : decode cX10_take 92 = .ok (.aload_n 0, 1) := by decide +kernel
theorem dX10_take_93 : decode cX10_take 93 = .ok (.getfield 24, 3) := by decide +kernel
theorem dX10_take_96 : decode cX10_take 96 = .ok (.iconst 1, 1) := by decide +kernel
theorem dX10_take_97 : decode cX10_take 97 = .ok (.putfield 56, 3) := by decide +kernel
theorem dX10_take_100 : decode cX10_take 100 = .ok (.iconst 1, 1) := by decide +kernel
theorem dX10_take_101 : decode cX10_take 101 = .ok (.ireturn, 1) := by decide +kernel
set_option maxRecDepth 100000 in
theorem c_X10_take (l : Launch) (E : xE) (a0 a1 a2 a3 a4 a5 a6 a7 a8 a9 a10 a11 a12 : Nat) {T0 : Nat → Int32} {u0_0 : Value} {u0_1 : Value} {T1 : Nat → Int32} {J1_8 : Int64} {T2 : Nat → Int32} {T3 : Nat → Int32} {V4 : Nat → Int32} {V5 : Nat → Int64} {V6 : Nat → Int64} {V7 : Nat → Int32} {V8 : Nat → Int32} {V9 : Nat → Int32} {V10 : Nat → Int32} {V11 : Nat → Int32} {V12 : Nat → Int32} {u2_7 u2_8 u2_10 u2_11 u2_12 u2_13 u2_14 : Nat} {x2 : Int32} {z : Int32 × (Nat → Int32) × (Nat → Int32) × Int64 × (Nat → Int32) × (Nat → Int32) × (Nat → Int32) × (Nat → Int32) × (Nat → Int32) × (Nat → Int32) × (Nat → Int32)} (hf : f_X10_take T0 T1 J1_8 T2 T3 V4 V5 V6 V7 V8 V9 V10 V11 V12 x2 = some z) (sz : Nat) : Met l yX10_take (Cond.code yX10_take cX10_take 7 (some .boolean) :: gw) ({ frames := 5, cells := 0, slots := 0, locals := 112 }) (xPc E [.ref a0, .ref a1, .int x2, .ref a2, .ref a3] [(a0, o10 T0 u0_0 u0_1 a12), (a1, o8 T1 J1_8 a4 a5), (a2, o3 T2 u2_7 u2_8 a6 u2_10 u2_11 u2_12 u2_13 u2_14), (a3, o0 T3 a7 a8 a9 a10 a11), (a4, ab E 900 V4), (a5, al E 23 V5), (a6, al E 5 V6), (a7, ai E 60 V7), (a8, ai E 60 V8), (a9, ai E 60 V9), (a10, ai E 60 V10), (a11, ai E 60 V11), (a12, ai E 3 V12)] sz) (xQi E z.1 [(a0, o10 T0 u0_0 u0_1 a12), (a1, o8 T1 J1_8 a4 a5), (a2, o3 T2 u2_7 u2_8 a6 u2_10 u2_11 u2_12 u2_13 u2_14), (a3, o0 T3 a7 a8 a9 a10 a11), (a4, ab E 900 V4), (a5, al E 23 V5), (a6, al E 5 V6), (a7, ai E 60 V7), (a8, ai E 60 V8), (a9, ai E 60 V9), (a10, ai E 60 V10), (a11, ai E 60 V11), (a12, ai E 3 V12)] [(a0, o10 z.2.1 (.ref a2) (.ref a3) a12), (a1, o8 z.2.2.1 z.2.2.2.1 a4 a5), (a2, o3 T2 u2_7 u2_8 a6 u2_10 u2_11 u2_12 u2_13 u2_14), (a3, o0 z.2.2.2.2.1 a7 a8 a9 a10 a11), (a4, ab E 900 V4), (a5, al E 23 V5), (a6, al E 5 V6), (a7, ai E 60 z.2.2.2.2.2.1), (a8, ai E 60 z.2.2.2.2.2.2.1), (a9, ai E 60 z.2.2.2.2.2.2.2.1), (a10, ai E 60 z.2.2.2.2.2.2.2.2.1), (a11, ai E 60 z.2.2.2.2.2.2.2.2.2.1), (a12, ai E 3 z.2.2.2.2.2.2.2.2.2.2)] sz) 0 0 (va_A [(a0, o10 T0 u0_0 u0_1 a12), (a1, o8 T1 J1_8 a4 a5), (a2, o3 T2 u2_7 u2_8 a6 u2_10 u2_11 u2_12 u2_13 u2_14), (a3, o0 T3 a7 a8 a9 a10 a11), (a4, ab E 900 V4), (a5, al E 23 V5), (a6, al E 5 V6), (a7, ai E 60 V7), (a8, ai E 60 V8), (a9, ai E 60 V9), (a10, ai E 60 V10), (a11, ai E 60 V11), (a12, ai E 3 V12)] sz) := by
  refine xM_i (by decide +kernel) (Nat.le_of_ble_eq_true rfl) ?_
  intro p e s m args below meth c A Q hx hb hml hown htg hK hG hA ret0 H locs ls hP hD hS hl
  have ret : ∀ (z' : Int32 × (Nat → Int32) × (Nat → Int32) × Int64 × (Nat → Int32) × (Nat → Int32) × (Nat → Int32) × (Nat → Int32) × (Nat → Int32) × (Nat → Int32) × (Nat → Int32)) {H : Heap} {locs : List Loc} {pc : Nat} {ls : Array Slot}, some z' = some z → narrow .boolean (.int z'.1) = .int z'.1 → va_P E.1 vwCl [(a0, o10 z'.2.1 (.ref a2) (.ref a3) a12), (a1, o8 z'.2.2.1 z'.2.2.2.1 a4 a5), (a2, o3 T2 u2_7 u2_8 a6 u2_10 u2_11 u2_12 u2_13 u2_14), (a3, o0 z'.2.2.2.2.1 a7 a8 a9 a10 a11), (a4, ab E 900 V4), (a5, al E 23 V5), (a6, al E 5 V6), (a7, ai E 60 z'.2.2.2.2.2.1), (a8, ai E 60 z'.2.2.2.2.2.2.1), (a9, ai E 60 z'.2.2.2.2.2.2.2.1), (a10, ai E 60 z'.2.2.2.2.2.2.2.2.1), (a11, ai E 60 z'.2.2.2.2.2.2.2.2.2.1), (a12, ai E 3 z'.2.2.2.2.2.2.2.2.2.2)] H → va_S A s.heap H locs → decode cX10_take pc = .ok (.ireturn, 1) → W p l e ({ frames := 5, cells := 0, slots := 0, locals := 112 } : Room) s m args below meth c H locs 0 0 Q (F0 m pc ls [.int z'.1]) := by
    intro z' H locs pc ls h
    cases h
    exact ret0
  replace hl : lv_has ls 7 [(0, .ref a0), (1, .ref a1), (2, .int x2), (3, .ref a2), (4, .ref a3)] := hl
  have b79 : ∀ (T0 : Nat → Int32) (T1 : Nat → Int32) (J1_8 : Int64) (T3 : Nat → Int32) (V7 : Nat → Int32) (V8 : Nat → Int32) (V9 : Nat → Int32) (V10 : Nat → Int32) (V11 : Nat → Int32) (V12 : Nat → Int32) (H : Heap) (locs : List Loc) (ls : Array Slot), f_X10_take_79 T2 V4 V5 V6 x2 T0 T1 J1_8 T3 V7 V8 V9 V10 V11 V12 = some z → va_P E.1 vwCl [(a0, o10 T0 (.ref a2) (.ref a3) a12), (a1, o8 T1 J1_8 a4 a5), (a2, o3 T2 u2_7 u2_8 a6 u2_10 u2_11 u2_12 u2_13 u2_14), (a3, o0 T3 a7 a8 a9 a10 a11), (a4, ab E 900 V4), (a5, al E 23 V5), (a6, al E 5 V6), (a7, ai E 60 V7), (a8, ai E 60 V8), (a9, ai E 60 V9), (a10, ai E 60 V10), (a11, ai E 60 V11), (a12, ai E 3 V12)] H → va_D A [(a0, o10 T0 (.ref a2) (.ref a3) a12), (a1, o8 T1 J1_8 a4 a5), (a2, o3 T2 u2_7 u2_8 a6 u2_10 u2_11 u2_12 u2_13 u2_14), (a3, o0 T3 a7 a8 a9 a10 a11), (a4, ab E 900 V4), (a5, al E 23 V5), (a6, al E 5 V6), (a7, ai E 60 V7), (a8, ai E 60 V8), (a9, ai E 60 V9), (a10, ai E 60 V10), (a11, ai E 60 V11), (a12, ai E 3 V12)] → va_S A s.heap H locs → lv_has ls 7 [(0, .ref a0), (1, .ref a1)] → W p l e ({ frames := 5, cells := 0, slots := 0, locals := 112 } : Room) s m args below meth c H locs 0 0 Q (F0 m 79 ls []) := by
    intro T0 T1 J1_8 T3 V7 V8 V9 V10 V11 V12 H locs ls hf hP hD hS hl
    unfold f_X10_take_79 at hf
    refine lv_aload_n hx hb dX10_take_79 rfl (lv_at hl 0 rfl) ?_
    refine G10_28 hx hb htg hown hK hP 0 rfl dX10_take_80 ?_
    refine lv_if_le (tgt := 92) hx hb dX10_take_83 (by decide) (fun c83 => ?_) (fun c83 => ?_)
    · have hf := it_t c83 hf
      refine lv_aload_n hx hb dX10_take_92 rfl (lv_at hl 0 rfl) ?_
      refine G10_24 hx hb htg hown hK hP 0 rfl dX10_take_93 ?_
      refine lv_iconst (v := 1) hx hb dX10_take_96 rfl ?_
      refine P10_56 hx hb htg hown hK hP hD hS 3 rfl rfl dX10_take_97 (fun H locs hP hD hS => ?_)
      refine lv_iconst (v := 1) hx hb dX10_take_100 rfl ?_
      exact ret (1, T0, T1, J1_8, upd T3 0 1, V7, V8, V9, V10, V11, V12) hf nz1 hP hS dX10_take_101
    · have hf := it_f c83 hf
      refine lv_aload_n hx hb dX10_take_86 rfl (lv_at hl 1 rfl) ?_
      refine lv_iconst (v := 2) hx hb dX10_take_87 rfl ?_
      obtain ⟨z88, hz88, hf⟩ := bind_s hf
      refine xV_iu hx hb hml hown htg L10_53 (c_X8_blame l E a1 hz88 _) ⟨⟨rfl, rfl⟩, Nat.le_of_ble_eq_true rfl, Nat.le_of_ble_eq_true rfl⟩ hK hG hA hP hD hS (is := [1]) (sel := [none, some 0, none, none, none, none, none, none, none, none, none, none, none]) (ws2 := [(a0, o10 T0 (.ref a2) (.ref a3) a12), (a1, o8 z88.2 J1_8 a4 a5), (a2, o3 T2 u2_7 u2_8 a6 u2_10 u2_11 u2_12 u2_13 u2_14), (a3, o0 T3 a7 a8 a9 a10 a11), (a4, ab E 900 V4), (a5, al E 23 V5), (a6, al E 5 V6), (a7, ai E 60 V7), (a8, ai E 60 V8), (a9, ai E 60 V9), (a10, ai E 60 V10), (a11, ai E 60 V11), (a12, ai E 3 V12)]) rfl rfl rfl rfl rfl (xrecv hK hP (q0 := 1) (ci := 8) rfl rfl) rfl hl.1 rfl (Nat.le_of_ble_eq_true rfl) dX10_take_88 (fun H locs hP hD hS => ?_)
      obtain ⟨g91, hf⟩ := ck_s hf
      exact ret (z88.1, T0, z88.2, J1_8, T3, V7, V8, V9, V10, V11, V12) hf (bz_n g91).1 hP hS dX10_take_91
  have b29 : ∀ (n : Nat) (x5 : Int32) (T0 : Nat → Int32) (T1 : Nat → Int32) (J1_8 : Int64) (T3 : Nat → Int32) (V7 : Nat → Int32) (V8 : Nat → Int32) (V9 : Nat → Int32) (V10 : Nat → Int32) (V11 : Nat → Int32) (V12 : Nat → Int32) (H : Heap) (locs : List Loc) (ls : Array Slot), f_X10_take_29 T2 V4 V5 V6 x2 n x5 T0 T1 J1_8 T3 V7 V8 V9 V10 V11 V12 = some z → va_P E.1 vwCl [(a0, o10 T0 (.ref a2) (.ref a3) a12), (a1, o8 T1 J1_8 a4 a5), (a2, o3 T2 u2_7 u2_8 a6 u2_10 u2_11 u2_12 u2_13 u2_14), (a3, o0 T3 a7 a8 a9 a10 a11), (a4, ab E 900 V4), (a5, al E 23 V5), (a6, al E 5 V6), (a7, ai E 60 V7), (a8, ai E 60 V8), (a9, ai E 60 V9), (a10, ai E 60 V10), (a11, ai E 60 V11), (a12, ai E 3 V12)] H → va_D A [(a0, o10 T0 (.ref a2) (.ref a3) a12), (a1, o8 T1 J1_8 a4 a5), (a2, o3 T2 u2_7 u2_8 a6 u2_10 u2_11 u2_12 u2_13 u2_14), (a3, o0 T3 a7 a8 a9 a10 a11), (a4, ab E 900 V4), (a5, al E 23 V5), (a6, al E 5 V6), (a7, ai E 60 V7), (a8, ai E 60 V8), (a9, ai E 60 V9), (a10, ai E 60 V10), (a11, ai E 60 V11), (a12, ai E 3 V12)] → va_S A s.heap H locs → lv_has ls 7 [(0, .ref a0), (1, .ref a1), (2, .int x2), (5, .int x5)] → W p l e ({ frames := 5, cells := 0, slots := 0, locals := 112 } : Room) s m args below meth c H locs 0 0 Q (F0 m 29 ls []) := by
    intro n
    induction n with
    | zero => intro x5 T0 T1 J1_8 T3 V7 V8 V9 V10 V11 V12 H locs ls hf; exact (nn_s hf).elim
    | succ n ih29 =>
      obtain ⟨k29, ek29⟩ : ∃ k, k = f_X10_take_29 T2 V4 V5 V6 x2 n := ⟨_, rfl⟩
      rw [← ek29] at ih29
      have b64 : ∀ (x5 : Int32) (s0 : Int32) (T0 : Nat → Int32) (T1 : Nat → Int32) (J1_8 : Int64) (T3 : Nat → Int32) (V7 : Nat → Int32) (V8 : Nat → Int32) (V9 : Nat → Int32) (V10 : Nat → Int32) (V11 : Nat → Int32) (V12 : Nat → Int32) (H : Heap) (locs : List Loc) (ls : Array Slot), f_X10_take_64 T2 V4 V5 V6 x2 k29 x5 s0 T0 T1 J1_8 T3 V7 V8 V9 V10 V11 V12 = some z → va_P E.1 vwCl [(a0, o10 T0 (.ref a2) (.ref a3) a12), (a1, o8 T1 J1_8 a4 a5), (a2, o3 T2 u2_7 u2_8 a6 u2_10 u2_11 u2_12 u2_13 u2_14), (a3, o0 T3 a7 a8 a9 a10 a11), (a4, ab E 900 V4), (a5, al E 23 V5), (a6, al E 5 V6), (a7, ai E 60 V7), (a8, ai E 60 V8), (a9, ai E 60 V9), (a10, ai E 60 V10), (a11, ai E 60 V11), (a12, ai E 3 V12)] H → va_D A [(a0, o10 T0 (.ref a2) (.ref a3) a12), (a1, o8 T1 J1_8 a4 a5), (a2, o3 T2 u2_7 u2_8 a6 u2_10 u2_11 u2_12 u2_13 u2_14), (a3, o0 T3 a7 a8 a9 a10 a11), (a4, ab E 900 V4), (a5, al E 23 V5), (a6, al E 5 V6), (a7, ai E 60 V7), (a8, ai E 60 V8), (a9, ai E 60 V9), (a10, ai E 60 V10), (a11, ai E 60 V11), (a12, ai E 3 V12)] → va_S A s.heap H locs → lv_has ls 7 [(0, .ref a0), (1, .ref a1), (2, .int x2), (5, .int x5)] → W p l e ({ frames := 5, cells := 0, slots := 0, locals := 112 } : Room) s m args below meth c H locs 0 0 Q (F0 m 64 ls [.int s0]) := by
        intro x5 s0 T0 T1 J1_8 T3 V7 V8 V9 V10 V11 V12 H locs ls hf hP hD hS hl
        unfold f_X10_take_64 at hf
        refine lv_istore (lv' := [(6, .int s0), (0, .ref a0), (1, .ref a1), (2, .int x2), (5, .int x5)]) hx hb dX10_take_64 hl (by decide) rfl (fun ls hl => ?_)
        refine lv_iload hx hb dX10_take_66 (lv_at hl 0 rfl) ?_
        refine lv_if_ne (tgt := 73) hx hb dX10_take_68 (by decide) (fun c68 => ?_) (fun c68 => ?_)
        · have hf := it_f c68 hf
          refine lv_iinc (v := x5 + 1) (lv' := [(5, .int (x5 + 1)), (6, .int s0), (0, .ref a0), (1, .ref a1), (2, .int x2)]) hx hb dX10_take_73 hl (k := 4) rfl rfl (by decide) rfl (fun ls hl => ?_)
          refine lv_goto (tgt := 29) hx hb dX10_take_76 (by decide) ?_
          exact ih29 (x5 + 1) T0 T1 J1_8 T3 V7 V8 V9 V10 V11 V12 _ _ _ hf hP hD hS (lv_sub hl [2, 3, 4, 0] rfl)
        · have hf := it_t c68 hf
          refine lv_iconst (v := 0) hx hb dX10_take_71 rfl ?_
          exact ret (0, T0, T1, J1_8, T3, V7, V8, V9, V10, V11, V12) hf nz0 hP hS dX10_take_72
      intro x5 T0 T1 J1_8 T3 V7 V8 V9 V10 V11 V12 H locs ls hf hP hD hS hl
      replace hf : g_X10_take_29 T2 V4 V5 V6 x2 k29 x5 T0 T1 J1_8 T3 V7 V8 V9 V10 V11 V12 = some z := by rw [ek29]; exact hf
      unfold g_X10_take_29 at hf
      refine lv_iload hx hb dX10_take_29 (lv_at hl 3 rfl) ?_
      refine lv_iload_n hx hb dX10_take_31 rfl (lv_at hl 2 rfl) ?_
      refine lv_icmp_ge (tgt := 79) hx hb dX10_take_32 (by decide) (fun c32 => ?_) (fun c32 => ?_)
      · have hf := it_t c32 hf
        exact b79 T0 T1 J1_8 T3 V7 V8 V9 V10 V11 V12 _ _ _ hf hP hD hS (lv_sub hl [0, 1] rfl)
      · have hf := it_f c32 hf
        refine lv_aload_n hx hb dX10_take_35 rfl (lv_at hl 1 rfl) ?_
        obtain ⟨z36, hz36, hf⟩ := bind_s hf
        refine xV_ir hx hb hml hown htg L10_38 (c_X8_atEnd l E a1 hz36 _) ⟨⟨rfl, rfl⟩, Nat.le_of_ble_eq_true rfl, Nat.le_of_ble_eq_true rfl⟩ hK hG hA hP hD hS (is := [1]) rfl rfl (xrecv hK hP (q0 := 1) (ci := 8) rfl rfl) rfl hl.1 rfl (Nat.le_of_ble_eq_true rfl) dX10_take_36 (fun H locs hP hD hS => ?_)
        refine lv_if_ne (tgt := 79) hx hb dX10_take_39 (by decide) (fun c39 => ?_) (fun c39 => ?_)
        · have hf := it_f c39 hf
          exact b79 T0 T1 J1_8 T3 V7 V8 V9 V10 V11 V12 _ _ _ hf hP hD hS (lv_sub hl [0, 1] rfl)
        · have hf := it_t c39 hf
          refine lv_aload_n hx hb dX10_take_42 rfl (lv_at hl 1 rfl) ?_
          refine lv_bipush (v := 21) hx hb dX10_take_43 rfl ?_
          obtain ⟨z45, hz45, hf⟩ := bind_s hf
          refine xV_ir hx hb hml hown htg L10_42 (c_X8_isWord l E a1 hz45 _) ⟨⟨rfl, rfl⟩, Nat.le_of_ble_eq_true rfl, Nat.le_of_ble_eq_true rfl⟩ hK hG hA hP hD hS (is := [1]) rfl rfl (xrecv hK hP (q0 := 1) (ci := 8) rfl rfl) rfl hl.1 rfl (Nat.le_of_ble_eq_true rfl) dX10_take_45 (fun H locs hP hD hS => ?_)
          refine lv_if_eq (tgt := 59) hx hb dX10_take_48 (by decide) (fun c48 => ?_) (fun c48 => ?_)
          · have hf := it_t c48 hf
            refine lv_aload_n hx hb dX10_take_59 rfl (lv_at hl 0 rfl) ?_
            refine lv_aload_n hx hb dX10_take_60 rfl (lv_at hl 1 rfl) ?_
            obtain ⟨z61, hz61, hf⟩ := bind_s hf
            refine xV_iu hx hb hml hown htg L10_50 (c_X10_takeStep l E a0 a1 a3 a4 a5 a2 a6 a7 a8 a9 a10 a11 a12 hz61 _) ⟨⟨rfl, rfl⟩, Nat.le_of_ble_eq_true rfl, Nat.le_of_ble_eq_true rfl⟩ hK hG hA hP hD hS (is := [0, 1, 3, 4, 5, 2, 6, 7, 8, 9, 10, 11, 12]) (sel := [some 0, some 1, some 5, some 2, some 3, some 4, some 6, some 7, some 8, some 9, some 10, some 11, some 12]) (ws2 := [(a0, o10 z61.2.1 (.ref a2) (.ref a3) a12), (a1, o8 z61.2.2.1 z61.2.2.2.1 a4 a5), (a2, o3 T2 u2_7 u2_8 a6 u2_10 u2_11 u2_12 u2_13 u2_14), (a3, o0 z61.2.2.2.2.1 a7 a8 a9 a10 a11), (a4, ab E 900 V4), (a5, al E 23 V5), (a6, al E 5 V6), (a7, ai E 60 z61.2.2.2.2.2.1), (a8, ai E 60 z61.2.2.2.2.2.2.1), (a9, ai E 60 z61.2.2.2.2.2.2.2.1), (a10, ai E 60 z61.2.2.2.2.2.2.2.2.1), (a11, ai E 60 z61.2.2.2.2.2.2.2.2.2.1), (a12, ai E 3 z61.2.2.2.2.2.2.2.2.2.2)]) rfl rfl rfl rfl rfl (xrecv hK hP (q0 := 0) (ci := 10) rfl rfl) rfl hl.1 rfl (Nat.le_of_ble_eq_true rfl) dX10_take_61 (fun H locs hP hD hS => ?_)
            exact b64 x5 z61.1 z61.2.1 z61.2.2.1 z61.2.2.2.1 z61.2.2.2.2.1 z61.2.2.2.2.2.1 z61.2.2.2.2.2.2.1 z61.2.2.2.2.2.2.2.1 z61.2.2.2.2.2.2.2.2.1 z61.2.2.2.2.2.2.2.2.2.1 z61.2.2.2.2.2.2.2.2.2.2 _ _ _ hf hP hD hS (lv_sub hl [0, 1, 2, 3] rfl)
          · have hf := it_f c48 hf
            refine lv_aload_n hx hb dX10_take_51 rfl (lv_at hl 0 rfl) ?_
            refine lv_aload_n hx hb dX10_take_52 rfl (lv_at hl 1 rfl) ?_
            obtain ⟨z53, hz53, hf⟩ := bind_s hf
            refine xV_iu hx hb hml hown htg L10_46 (c_X10_takeEnd l E a0 a1 a12 a3 a7 a8 a9 a10 a11 a4 a5 hz53 _) ⟨⟨rfl, rfl⟩, Nat.le_of_ble_eq_true rfl, Nat.le_of_ble_eq_true rfl⟩ hK hG hA hP hD hS (is := [0, 1, 12, 3, 7, 8, 9, 10, 11, 4, 5]) (sel := [some 0, some 1, none, some 3, some 9, some 10, none, some 4, some 5, some 6, some 7, some 8, some 2]) (ws2 := [(a0, o10 z53.2.1 (.ref a2) (.ref a3) a12), (a1, o8 z53.2.2.1 z53.2.2.2.1 a4 a5), (a2, o3 T2 u2_7 u2_8 a6 u2_10 u2_11 u2_12 u2_13 u2_14), (a3, o0 z53.2.2.2.2.1 a7 a8 a9 a10 a11), (a4, ab E 900 V4), (a5, al E 23 V5), (a6, al E 5 V6), (a7, ai E 60 z53.2.2.2.2.2.1), (a8, ai E 60 z53.2.2.2.2.2.2.1), (a9, ai E 60 z53.2.2.2.2.2.2.2.1), (a10, ai E 60 z53.2.2.2.2.2.2.2.2.1), (a11, ai E 60 z53.2.2.2.2.2.2.2.2.2), (a12, ai E 3 V12)]) rfl rfl rfl rfl rfl (xrecv hK hP (q0 := 0) (ci := 10) rfl rfl) rfl hl.1 rfl (Nat.le_of_ble_eq_true rfl) dX10_take_53 (fun H locs hP hD hS => ?_)
            refine lv_goto (tgt := 64) hx hb dX10_take_56 (by decide) ?_
            exact b64 x5 z53.1 z53.2.1 z53.2.2.1 z53.2.2.2.1 z53.2.2.2.2.1 z53.2.2.2.2.2.1 z53.2.2.2.2.2.2.1 z53.2.2.2.2.2.2.2.1 z53.2.2.2.2.2.2.2.2.1 z53.2.2.2.2.2.2.2.2.2 V12 _ _ _ hf hP hD hS (lv_sub hl [0, 1, 2, 3] rfl)
  unfold f_X10_take at hf
  refine lv_aload hx hb dX10_take_0 (lv_at hl 4 rfl) ?_
  obtain ⟨z2, hz2, hf⟩ := bind_s hf
  refine xV_vu hx hb hml hown htg L10_17 (c_X0_clear l E a3 hz2 _) ⟨⟨rfl, rfl⟩, Nat.le_of_ble_eq_true rfl, Nat.le_of_ble_eq_true rfl⟩ hK hG hA hP hD hS (is := [3]) (sel := [none, none, none, some 0, none, none, none, none, none, none, none, none, none]) (ws2 := [(a0, o10 T0 u0_0 u0_1 a12), (a1, o8 T1 J1_8 a4 a5), (a2, o3 T2 u2_7 u2_8 a6 u2_10 u2_11 u2_12 u2_13 u2_14), (a3, o0 z2 a7 a8 a9 a10 a11), (a4, ab E 900 V4), (a5, al E 23 V5), (a6, al E 5 V6), (a7, ai E 60 V7), (a8, ai E 60 V8), (a9, ai E 60 V9), (a10, ai E 60 V10), (a11, ai E 60 V11), (a12, ai E 3 V12)]) rfl rfl rfl rfl rfl (xrecv hK hP (q0 := 3) (ci := 0) rfl rfl) rfl hl.1 rfl (Nat.le_of_ble_eq_true rfl) dX10_take_2 (fun H locs hP hD hS => ?_)
  refine lv_aload_n hx hb dX10_take_5 rfl (lv_at hl 0 rfl) ?_
  refine lv_aload_n hx hb dX10_take_6 rfl (lv_at hl 3 rfl) ?_
  refine P10_20 hx hb htg hown hK hP hD hS 0 rfl dX10_take_7 (fun H locs hP hD hS => ?_)
  refine lv_aload_n hx hb dX10_take_10 rfl (lv_at hl 0 rfl) ?_
  refine lv_aload hx hb dX10_take_11 (lv_at hl 4 rfl) ?_
  refine P10_24 hx hb htg hown hK hP hD hS 0 rfl dX10_take_13 (fun H locs hP hD hS => ?_)
  refine lv_aload_n hx hb dX10_take_16 rfl (lv_at hl 0 rfl) ?_
  refine lv_iconst (v := 0) hx hb dX10_take_17 rfl ?_
  refine P10_28 hx hb htg hown hK hP hD hS 0 rfl dX10_take_18 (fun H locs hP hD hS => ?_)
  replace hP : va_P E.1 vwCl [(a0, o10 (upd T0 3 0) (.ref a2) (.ref a3) a12), (a1, o8 T1 J1_8 a4 a5), (a2, o3 T2 u2_7 u2_8 a6 u2_10 u2_11 u2_12 u2_13 u2_14), (a3, o0 z2 a7 a8 a9 a10 a11), (a4, ab E 900 V4), (a5, al E 23 V5), (a6, al E 5 V6), (a7, ai E 60 V7), (a8, ai E 60 V8), (a9, ai E 60 V9), (a10, ai E 60 V10), (a11, ai E 60 V11), (a12, ai E 3 V12)] H := hP
  replace hD : va_D A [(a0, o10 (upd T0 3 0) (.ref a2) (.ref a3) a12), (a1, o8 T1 J1_8 a4 a5), (a2, o3 T2 u2_7 u2_8 a6 u2_10 u2_11 u2_12 u2_13 u2_14), (a3, o0 z2 a7 a8 a9 a10 a11), (a4, ab E 900 V4), (a5, al E 23 V5), (a6, al E 5 V6), (a7, ai E 60 V7), (a8, ai E 60 V8), (a9, ai E 60 V9), (a10, ai E 60 V10), (a11, ai E 60 V11), (a12, ai E 3 V12)] := hD
  refine lv_aload_n hx hb dX10_take_21 rfl (lv_at hl 1 rfl) ?_
  refine lv_iload_n hx hb dX10_take_22 rfl (lv_at hl 2 rfl) ?_
  obtain ⟨z23, hz23, hf⟩ := bind_s hf
  refine xV_vu hx hb hml hown htg L10_32 (c_X8_begin l E a1 a4 a5 hz23 _) ⟨⟨rfl, rfl⟩, Nat.le_of_ble_eq_true rfl, Nat.le_of_ble_eq_true rfl⟩ hK hG hA hP hD hS (is := [1, 4, 5]) (sel := [none, some 0, none, none, some 1, some 2, none, none, none, none, none, none, none]) (ws2 := [(a0, o10 (upd T0 3 0) (.ref a2) (.ref a3) a12), (a1, o8 z23.1 z23.2 a4 a5), (a2, o3 T2 u2_7 u2_8 a6 u2_10 u2_11 u2_12 u2_13 u2_14), (a3, o0 z2 a7 a8 a9 a10 a11), (a4, ab E 900 V4), (a5, al E 23 V5), (a6, al E 5 V6), (a7, ai E 60 V7), (a8, ai E 60 V8), (a9, ai E 60 V9), (a10, ai E 60 V10), (a11, ai E 60 V11), (a12, ai E 3 V12)]) rfl rfl rfl rfl rfl (xrecv hK hP (q0 := 1) (ci := 8) rfl rfl) rfl hl.1 rfl (Nat.le_of_ble_eq_true rfl) dX10_take_23 (fun H locs hP hD hS => ?_)
  refine lv_iconst (v := 0) hx hb dX10_take_26 rfl ?_
  refine lv_istore (lv' := [(5, .int 0), (0, .ref a0), (1, .ref a1), (2, .int x2), (3, .ref a2), (4, .ref a3)]) hx hb dX10_take_27 hl (by decide) rfl (fun ls hl => ?_)
  exact b29 xF 0 (upd T0 3 0) z23.1 z23.2 z2 V7 V8 V9 V10 V11 V12 _ _ _ hf hP hD hS (lv_sub hl [1, 2, 3, 0] rfl)
