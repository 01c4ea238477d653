theorem dX3_isIn_0 : decode cX3_isIn 0 = .ok (.iload_n 1, 1) := by decide +kernel
theorem dX3_isIn_1 : decode cX3_isIn 1 = .ok (.iload_n 0, 1) := by decide +kernel
theorem dX3_isIn_2 : decode cX3_isIn 2 = .ok (.ishr, 1) := by decide +kernel
theorem dX3_isIn_3 : decode cX3_isIn 3 = .ok (.iconst 1, 1) := by decide +kernel
theorem dX3_isIn_4 : decode cX3_isIn 4 = .ok (.iand, 1) := by decide +kernel
theorem dX3_isIn_5 : decode cX3_isIn 5 = .ok (.iconst 1, 1) := by decide +kernel
theorem dX3_isIn_6 : decode cX3_isIn 6 = .ok (.if_icmp .ne 7, 3) := by decide +kernel
theorem dX3_isIn_9 : decode cX3_isIn 9 = .ok (.iconst 1, 1) := by decide +kernel
theorem dX3_isIn_10 : decode cX3_isIn 10 = .ok (.goto 4, 3) := by decide +kernel
theorem dX3_isIn_13 : decode cX3_isIn 13 = .ok (.iconst 0, 1) := by decide +kernel
theorem dX3_isIn_14 : decode cX3_isIn 14 = .ok (.ireturn, 1) := by decide +kernel
set_option maxRecDepth 100000 in
theorem c_X3_isIn (l : Launch) (E : xE) {x0 : Int32} {x1 : Int32} {z : Int32} (hf : f_X3_isIn x0 x1 = some z) (sz : Nat) : Met l yX3_isIn (Cond.code yX3_isIn cX3_isIn 2 (some .boolean) :: gw) ({ frames := 0, cells := 0, slots := 0, locals := 0 }) (xPc E [.int x0, .int x1] [] sz) (xQi E z [] [] sz) 0 0 (va_A [] sz) := by
  refine xM_i (by decide +kernel) (Nat.le_of_ble_eq_true rfl) ?_
  intro p e s m args below meth c A Q hx hb hml hown htg hK hG hA ret0 H locs ls hP hD hS hl
  have ret : ∀ (z' : Int32) {H : Heap} {locs : List Loc} {pc : Nat} {ls : Array Slot}, some z' = some z → narrow .boolean (.int z') = .int z' → va_P E.1 vwCl [] H → va_S A s.heap H locs → decode cX3_isIn pc = .ok (.ireturn, 1) → W p l e ({ frames := 0, cells := 0, slots := 0, locals := 0 } : Room) s m args below meth c H locs 0 0 Q (F0 m pc ls [.int z']) := by
    intro z' H locs pc ls h
    cases h
    exact ret0
  replace hl : lv_has ls 2 [(0, .int x0), (1, .int x1)] := hl
  unfold f_X3_isIn at hf
  refine lv_iload_n hx hb dX3_isIn_0 rfl (lv_at hl 1 rfl) ?_
  refine lv_iload_n hx hb dX3_isIn_1 rfl (lv_at hl 0 rfl) ?_
  refine lv_ishr hx hb dX3_isIn_2 ?_
  refine lv_iconst (v := 1) hx hb dX3_isIn_3 rfl ?_
  refine lv_iand hx hb dX3_isIn_4 ?_
  refine lv_iconst (v := 1) hx hb dX3_isIn_5 rfl ?_
  refine lv_icmp_ne (tgt := 13) hx hb dX3_isIn_6 (by decide) (fun c6 => ?_) (fun c6 => ?_)
  · have hf := it_f c6 hf
    refine lv_iconst (v := 0) hx hb dX3_isIn_13 rfl ?_
    exact ret 0 hf nz0 hP hS dX3_isIn_14
  · have hf := it_t c6 hf
    refine lv_iconst (v := 1) hx hb dX3_isIn_9 rfl ?_
    refine lv_goto (tgt := 14) hx hb dX3_isIn_10 (by decide) ?_
    exact ret 1 hf nz1 hP hS dX3_isIn_14
theorem dX3_isHeard_0 : decode cX3_isHeard 0 = .ok (.iload_n 1, 1) := by decide +kernel
theorem dX3_isHeard_1 : decode cX3_isHeard 1 = .ok (.aload_n 0, 1) := by decide +kernel
theorem dX3_isHeard_2 : decode cX3_isHeard 2 = .ok (.getfield 57, 3) := by decide +kernel
theorem dX3_isHeard_5 : decode cX3_isHeard 5 = .ok (.invokestatic 84, 3) := by decide +kernel
theorem dX3_isHeard_8 : decode cX3_isHeard 8 = .ok (.ireturn, 1) := by decide +kernel
set_option maxRecDepth 100000 in
theorem c_X3_isHeard (l : Launch) (E : xE) (a0 : Nat) {T0 : Nat → Int32} {u0_7 u0_8 u0_9 u0_10 u0_11 u0_12 u0_13 u0_14 : Nat} {x1 : Int32} {z : Int32} (hf : f_X3_isHeard T0 x1 = some z) (sz : Nat) : Met l yX3_isHeard (Cond.code yX3_isHeard cX3_isHeard 2 (some .boolean) :: gw) ({ frames := 1, cells := 0, slots := 0, locals := 21 }) (xPc E [.ref a0, .int x1] [(a0, o3 T0 u0_7 u0_8 u0_9 u0_10 u0_11 u0_12 u0_13 u0_14)] sz) (xQi E z [(a0, o3 T0 u0_7 u0_8 u0_9 u0_10 u0_11 u0_12 u0_13 u0_14)] [(a0, o3 T0 u0_7 u0_8 u0_9 u0_10 u0_11 u0_12 u0_13 u0_14)] sz) 0 0 (va_A [(a0, o3 T0 u0_7 u0_8 u0_9 u0_10 u0_11 u0_12 u0_13 u0_14)] sz) := by
  refine xM_i (by decide +kernel) (Nat.le_of_ble_eq_true rfl) ?_
  intro p e s m args below meth c A Q hx hb hml hown htg hK hG hA ret0 H locs ls hP hD hS hl
  have ret : ∀ (z' : Int32) {H : Heap} {locs : List Loc} {pc : Nat} {ls : Array Slot}, some z' = some z → narrow .boolean (.int z') = .int z' → va_P E.1 vwCl [(a0, o3 T0 u0_7 u0_8 u0_9 u0_10 u0_11 u0_12 u0_13 u0_14)] H → va_S A s.heap H locs → decode cX3_isHeard pc = .ok (.ireturn, 1) → W p l e ({ frames := 1, cells := 0, slots := 0, locals := 21 } : Room) s m args below meth c H locs 0 0 Q (F0 m pc ls [.int z']) := by
    intro z' H locs pc ls h
    cases h
    exact ret0
  replace hl : lv_has ls 2 [(0, .ref a0), (1, .int x1)] := hl
  unfold f_X3_isHeard at hf
  refine lv_iload_n hx hb dX3_isHeard_0 rfl (lv_at hl 1 rfl) ?_
  refine lv_aload_n hx hb dX3_isHeard_1 rfl (lv_at hl 0 rfl) ?_
  refine G3_57 hx hb htg hown hK hP 0 rfl dX3_isHeard_2 ?_
  obtain ⟨z5, hz5, hf⟩ := bind_s hf
  refine xS_ir hx hb hml hown htg L3_84 (c_X3_isIn l E hz5 _) ⟨⟨rfl, rfl⟩, Nat.le_of_ble_eq_true rfl, Nat.le_of_ble_eq_true rfl⟩ hK hG hA hP hD hS (is := []) rfl rfl rfl hl.1 rfl (Nat.le_of_ble_eq_true rfl) dX3_isHeard_5 (fun H locs hP hD hS => ?_)
  obtain ⟨g8, hf⟩ := ck_s hf
  exact ret z5 hf (bz_n g8).1 hP hS dX3_isHeard_8
theorem dX3_hasTraveller_0 : decode cX3_hasTraveller 0 = .ok (.iload_n 1, 1) := by decide +kernel
theorem dX3_hasTraveller_1 : decode cX3_hasTraveller 1 = .ok (.iconst 0, 1) := by decide +kernel
theorem dX3_hasTraveller_2 : decode cX3_hasTraveller 2 = .ok (.aload_n 0, 1) := by decide +kernel
theorem dX3_hasTraveller_3 : decode cX3_hasTraveller 3 = .ok (.getfield 54, 3) := by decide +kernel
theorem dX3_hasTraveller_6 : decode cX3_hasTraveller 6 = .ok (.iconst 1, 1) := by decide +kernel
theorem dX3_hasTraveller_7 : decode cX3_hasTraveller 7 = .ok (.isub, 1) := by decide +kernel
theorem dX3_hasTraveller_8 : decode cX3_hasTraveller 8 = .ok (.invokestatic 80, 3) := by decide +kernel
theorem dX3_hasTraveller_11 : decode cX3_hasTraveller 11 = .ok (.ireturn, 1) := by decide +kernel
set_option maxRecDepth 100000 in
theorem c_X3_hasTraveller (l : Launch) (E : xE) (a0 : Nat) {T0 : Nat → Int32} {u0_7 u0_8 u0_9 u0_10 u0_11 u0_12 u0_13 u0_14 : Nat} {x1 : Int32} {z : Int32} (hf : f_X3_hasTraveller T0 x1 = some z) (sz : Nat) : Met l yX3_hasTraveller (Cond.code yX3_hasTraveller cX3_hasTraveller 2 (some .boolean) :: gw) ({ frames := 1, cells := 0, slots := 0, locals := 22 }) (xPc E [.ref a0, .int x1] [(a0, o3 T0 u0_7 u0_8 u0_9 u0_10 u0_11 u0_12 u0_13 u0_14)] sz) (xQi E z [(a0, o3 T0 u0_7 u0_8 u0_9 u0_10 u0_11 u0_12 u0_13 u0_14)] [(a0, o3 T0 u0_7 u0_8 u0_9 u0_10 u0_11 u0_12 u0_13 u0_14)] sz) 0 0 (va_A [(a0, o3 T0 u0_7 u0_8 u0_9 u0_10 u0_11 u0_12 u0_13 u0_14)] sz) := by
  refine xM_i (by decide +kernel) (Nat.le_of_ble_eq_true rfl) ?_
  intro p e s m args below meth c A Q hx hb hml hown htg hK hG hA ret0 H locs ls hP hD hS hl
  have ret : ∀ (z' : Int32) {H : Heap} {locs : List Loc} {pc : Nat} {ls : Array Slot}, some z' = some z → narrow .boolean (.int z') = .int z' → va_P E.1 vwCl [(a0, o3 T0 u0_7 u0_8 u0_9 u0_10 u0_11 u0_12 u0_13 u0_14)] H → va_S A s.heap H locs → decode cX3_hasTraveller pc = .ok (.ireturn, 1) → W p l e ({ frames := 1, cells := 0, slots := 0, locals := 22 } : Room) s m args below meth c H locs 0 0 Q (F0 m pc ls [.int z']) := by
    intro z' H locs pc ls h
    cases h
    exact ret0
  replace hl : lv_has ls 2 [(0, .ref a0), (1, .int x1)] := hl
  unfold f_X3_hasTraveller at hf
  refine lv_iload_n hx hb dX3_hasTraveller_0 rfl (lv_at hl 1 rfl) ?_
  refine lv_iconst (v := 0) hx hb dX3_hasTraveller_1 rfl ?_
  refine lv_aload_n hx hb dX3_hasTraveller_2 rfl (lv_at hl 0 rfl) ?_
  refine G3_54 hx hb htg hown hK hP 0 rfl dX3_hasTraveller_3 ?_
  refine lv_iconst (v := 1) hx hb dX3_hasTraveller_6 rfl ?_
  refine lv_isub hx hb dX3_hasTraveller_7 ?_
  obtain ⟨z8, hz8, hf⟩ := bind_s hf
  refine xN_ir hx hb hml hown htg L3_80 19 rfl (c_X11_within l E hz8 _) ⟨⟨rfl, rfl⟩, Nat.le_of_ble_eq_true rfl, Nat.le_of_ble_eq_true rfl⟩ hK hG hA hP hD hS (is := []) rfl rfl rfl hl.1 rfl (Nat.le_of_ble_eq_true rfl) dX3_hasTraveller_8 (fun H locs hP hD hS => ?_)
  obtain ⟨g11, hf⟩ := ck_s hf
  exact ret z8 hf (bz_n g11).1 hP hS dX3_hasTraveller_11
theorem dX3_cellCount_0 : decode cX3_cellCount 0 = .ok (.aload_n 0, 1) := by decide +kernel
theorem dX3_cellCount_1 : decode cX3_cellCount 1 = .ok (.getfield 45, 3) := by decide +kernel
theorem dX3_cellCount_4 : decode cX3_cellCount 4 = .ok (.aload_n 0, 1) := by decide +kernel
theorem dX3_cellCount_5 : decode cX3_cellCount 5 = .ok (.getfield 48, 3) := by decide +kernel
theorem dX3_cellCount_8 : decode cX3_cellCount 8 = .ok (.imul, 1) := by decide +kernel
theorem dX3_cellCount_9 : decode cX3_cellCount 9 = .ok (.ireturn, 1) := by decide +kernel
set_option maxRecDepth 100000 in
theorem c_X3_cellCount (l : Launch) (E : xE) (a0 : Nat) {T0 : Nat → Int32} {u0_7 u0_8 u0_9 u0_10 u0_11 u0_12 u0_13 u0_14 : Nat} {z : Int32} (hf : f_X3_cellCount T0 = some z) (sz : Nat) : Met l yX3_cellCount (Cond.code yX3_cellCount cX3_cellCount 1 (some .int) :: gw) ({ frames := 0, cells := 0, slots := 0, locals := 0 }) (xPc E [.ref a0] [(a0, o3 T0 u0_7 u0_8 u0_9 u0_10 u0_11 u0_12 u0_13 u0_14)] sz) (xQi E z [(a0, o3 T0 u0_7 u0_8 u0_9 u0_10 u0_11 u0_12 u0_13 u0_14)] [(a0, o3 T0 u0_7 u0_8 u0_9 u0_10 u0_11 u0_12 u0_13 u0_14)] sz) 0 0 (va_A [(a0, o3 T0 u0_7 u0_8 u0_9 u0_10 u0_11 u0_12 u0_13 u0_14)] sz) := by
  refine xM_i (by decide +kernel) (Nat.le_of_ble_eq_true rfl) ?_
  intro p e s m args below meth c A Q hx hb hml hown htg hK hG hA ret0 H locs ls hP hD hS hl
  have ret : ∀ (z' : Int32) {H : Heap} {locs : List Loc} {pc : Nat} {ls : Array Slot}, some z' = some z → narrow .int (.int z') = .int z' → va_P E.1 vwCl [(a0, o3 T0 u0_7 u0_8 u0_9 u0_10 u0_11 u0_12 u0_13 u0_14)] H → va_S A s.heap H locs → decode cX3_cellCount pc = .ok (.ireturn, 1) → W p l e ({ frames := 0, cells := 0, slots := 0, locals := 0 } : Room) s m args below meth c H locs 0 0 Q (F0 m pc ls [.int z']) := by
    intro z' H locs pc ls h
    cases h
    exact ret0
  replace hl : lv_has ls 1 [(0, .ref a0)] := hl
  unfold f_X3_cellCount at hf
  refine lv_aload_n hx hb dX3_cellCount_0 rfl (lv_at hl 0 rfl) ?_
  refine G3_45 hx hb htg hown hK hP 0 rfl dX3_cellCount_1 ?_
  refine lv_aload_n hx hb dX3_cellCount_4 rfl (lv_at hl 0 rfl) ?_
  refine G3_48 hx hb htg hown hK hP 0 rfl dX3_cellCount_5 ?_
  refine lv_imul hx hb dX3_cellCount_8 ?_
  exact ret ((T0 0) * (T0 1)) hf nzi hP hS dX3_cellCount_9
theorem dX3_sets_0 : decode cX3_sets 0 = .ok (.iconst 1, 1) := by decide +kernel
theorem dX3_sets_1 : decode cX3_sets 1 = .ok (.aload_n 0, 1) := by decide +kernel
theorem dX3_sets_2 : decode cX3_sets 2 = .ok (.getfield 54, 3) := by decide +kernel
theorem dX3_sets_5 : decode cX3_sets 5 = .ok (.ishl, 1) := by decide +kernel
theorem dX3_sets_6 : decode cX3_sets 6 = .ok (.ireturn, 1) := by decide +kernel
set_option maxRecDepth 100000 in
theorem c_X3_sets (l : Launch) (E : xE) (a0 : Nat) {T0 : Nat → Int32} {u0_7 u0_8 u0_9 u0_10 u0_11 u0_12 u0_13 u0_14 : Nat} {z : Int32} (hf : f_X3_sets T0 = some z) (sz : Nat) : Met l yX3_sets (Cond.code yX3_sets cX3_sets 1 (some .int) :: gw) ({ frames := 0, cells := 0, slots := 0, locals := 0 }) (xPc E [.ref a0] [(a0, o3 T0 u0_7 u0_8 u0_9 u0_10 u0_11 u0_12 u0_13 u0_14)] sz) (xQi E z [(a0, o3 T0 u0_7 u0_8 u0_9 u0_10 u0_11 u0_12 u0_13 u0_14)] [(a0, o3 T0 u0_7 u0_8 u0_9 u0_10 u0_11 u0_12 u0_13 u0_14)] sz) 0 0 (va_A [(a0, o3 T0 u0_7 u0_8 u0_9 u0_10 u0_11 u0_12 u0_13 u0_14)] sz) := by
  refine xM_i (by decide +kernel) (Nat.le_of_ble_eq_true rfl) ?_
  intro p e s m args below meth c A Q hx hb hml hown htg hK hG hA ret0 H locs ls hP hD hS hl
  have ret : ∀ (z' : Int32) {H : Heap} {locs : List Loc} {pc : Nat} {ls : Array Slot}, some z' = some z → narrow .int (.int z') = .int z' → va_P E.1 vwCl [(a0, o3 T0 u0_7 u0_8 u0_9 u0_10 u0_11 u0_12 u0_13 u0_14)] H → va_S A s.heap H locs → decode cX3_sets pc = .ok (.ireturn, 1) → W p l e ({ frames := 0, cells := 0, slots := 0, locals := 0 } : Room) s m args below meth c H locs 0 0 Q (F0 m pc ls [.int z']) := by
    intro z' H locs pc ls h
    cases h
    exact ret0
  replace hl : lv_has ls 1 [(0, .ref a0)] := hl
  unfold f_X3_sets at hf
  refine lv_iconst (v := 1) hx hb dX3_sets_0 rfl ?_
  refine lv_aload_n hx hb dX3_sets_1 rfl (lv_at hl 0 rfl) ?_
  refine G3_54 hx hb htg hown hK hP 0 rfl dX3_sets_2 ?_
  refine lv_ishl hx hb dX3_sets_5 ?_
  exact ret (1 <<< ((T0 4) &&& 31)) hf nzi hP hS dX3_sets_6
theorem dX3_clear_0 : decode cX3_clear 0 = .ok (.aload_n 0, 1) := by decide +kernel
theorem dX3_clear_1 : decode cX3_clear 1 = .ok (.iconst 0, 1) := by decide +kernel
theorem dX3_clear_2 : decode cX3_clear 2 = .ok (.putfield 45, 3) := by decide +kernel
theorem dX3_clear_5 : decode cX3_clear 5 = .ok (.aload_n 0, 1) := by decide +kernel
theorem dX3_clear_6 : decode cX3_clear 6 = .ok (.iconst 0, 1) := by decide +kernel
theorem dX3_clear_7 : decode cX3_clear 7 = .ok (.putfield 48, 3) := by decide +kernel
theorem dX3_clear_10 : decode cX3_clear 10 = .ok (.aload_n 0, 1) := by decide +kernel
theorem dX3_clear_11 : decode cX3_clear 11 = .ok (.iconst 4, 1) := by decide +kernel
theorem dX3_clear_12 : decode cX3_clear 12 = .ok (.putfield 11, 3) := by decide +kernel
theorem dX3_clear_15 : decode cX3_clear 15 = .ok (.aload_n 0, 1) := by decide +kernel
theorem dX3_clear_16 : decode cX3_clear 16 = .ok (.iconst 0, 1) := by decide +kernel
theorem dX3_clear_17 : decode cX3_clear 17 = .ok (.putfield 51, 3) := by decide +kernel
theorem dX3_clear_20 : decode cX3_clear 20 = .ok (.aload_n 0, 1) := by decide +kernel
theorem dX3_clear_21 : decode cX3_clear 21 = .ok (.iconst 0, 1) := by decide +kernel
theorem dX3_clear_22 : decode cX3_clear 22 = .ok (.putfield 54, 3) := by decide +kernel
theorem dX3_clear_25 : decode cX3_clear 25 = .ok (.aload_n 0, 1) := by decide +kernel
theorem dX3_clear_26 : decode cX3_clear 26 = .ok (.iconst 0, 1) := by decide +kernel
theorem dX3_clear_27 : decode cX3_clear 27 = .ok (.putfield 57, 3) := by decide +kernel
theorem dX3_clear_30 : decode cX3_clear 30 = .ok (.aload_n 0, 1) := by decide +kernel
theorem dX3_clear_31 : decode cX3_clear 31 = .ok (.iconst 0, 1) := by decide +kernel
theorem dX3_clear_32 : decode cX3_clear 32 = .ok (.putfield 60, 3) := by decide +kernel
theorem dX3_clear_35 : decode cX3_clear 35 = .ok (.aload_n 0, 1) := by decide +kernel
theorem dX3_clear_36 : decode cX3_clear 36 = .ok (.getfield 41, 3) := by decide +kernel
theorem dX3_clear_39 : decode cX3_clear 39 = .ok (.invokevirtual 63, 3) := by decide +kernel
theorem dX3_clear_42 : decode cX3_clear 42 = .ok (.return_, 1) := by decide +kernel
set_option maxRecDepth 100000 in
theorem c_X3_clear (l : Launch) (E : xE) (a0 a1 : Nat) {T0 : Nat → Int32} {T1 : Nat → Int32} {u0_7 u0_8 u0_9 u0_10 u0_11 u0_12 u0_13 u1_3 u1_4 u1_5 u1_6 u1_7 : Nat} {z : (Nat → Int32) × (Nat → Int32)} (hf : f_X3_clear T0 T1 = some z) (sz : Nat) : Met l yX3_clear (Cond.code yX3_clear cX3_clear 1 none :: gw) ({ frames := 1, cells := 0, slots := 0, locals := 20 }) (xPc E [.ref a0] [(a0, o3 T0 u0_7 u0_8 u0_9 u0_10 u0_11 u0_12 u0_13 a1), (a1, o0 T1 u1_3 u1_4 u1_5 u1_6 u1_7)] sz) (xQv E [(a0, o3 T0 u0_7 u0_8 u0_9 u0_10 u0_11 u0_12 u0_13 a1), (a1, o0 T1 u1_3 u1_4 u1_5 u1_6 u1_7)] [(a0, o3 z.1 u0_7 u0_8 u0_9 u0_10 u0_11 u0_12 u0_13 a1), (a1, o0 z.2 u1_3 u1_4 u1_5 u1_6 u1_7)] sz) 0 0 (va_A [(a0, o3 T0 u0_7 u0_8 u0_9 u0_10 u0_11 u0_12 u0_13 a1), (a1, o0 T1 u1_3 u1_4 u1_5 u1_6 u1_7)] sz) := by
  refine xM_v (by decide +kernel) (Nat.le_of_ble_eq_true rfl) ?_
  intro p e s m args below meth c A Q hx hb hml hown htg hK hG hA ret0 H locs ls hP hD hS hl
  have ret : ∀ (z' : (Nat → Int32) × (Nat → Int32)) {H : Heap} {locs : List Loc} {pc : Nat} {ls : Array Slot}, some z' = some z → va_P E.1 vwCl [(a0, o3 z'.1 u0_7 u0_8 u0_9 u0_10 u0_11 u0_12 u0_13 a1), (a1, o0 z'.2 u1_3 u1_4 u1_5 u1_6 u1_7)] H → va_S A s.heap H locs → decode cX3_clear pc = .ok (.return_, 1) → W p l e ({ frames := 1, cells := 0, slots := 0, locals := 20 } : Room) s m args below meth c H locs 0 0 Q (F0 m pc ls []) := by
    intro z' H locs pc ls h
    cases h
    exact ret0
  replace hl : lv_has ls 1 [(0, .ref a0)] := hl
  unfold f_X3_clear at hf
  refine lv_aload_n hx hb dX3_clear_0 rfl (lv_at hl 0 rfl) ?_
  refine lv_iconst (v := 0) hx hb dX3_clear_1 rfl ?_
  refine P3_45 hx hb htg hown hK hP hD hS 0 rfl dX3_clear_2 (fun H locs hP hD hS => ?_)
  refine lv_aload_n hx hb dX3_clear_5 rfl (lv_at hl 0 rfl) ?_
  refine lv_iconst (v := 0) hx hb dX3_clear_6 rfl ?_
  refine P3_48 hx hb htg hown hK hP hD hS 0 rfl dX3_clear_7 (fun H locs hP hD hS => ?_)
  refine lv_aload_n hx hb dX3_clear_10 rfl (lv_at hl 0 rfl) ?_
  refine lv_iconst (v := 4) hx hb dX3_clear_11 rfl ?_
  refine P3_11 hx hb htg hown hK hP hD hS 0 rfl dX3_clear_12 (fun H locs hP hD hS => ?_)
  replace hP : va_P E.1 vwCl [(a0, o3 (upd (upd (upd T0 0 0) 1 0) 2 4) u0_7 u0_8 u0_9 u0_10 u0_11 u0_12 u0_13 a1), (a1, o0 T1 u1_3 u1_4 u1_5 u1_6 u1_7)] H := hP
  replace hD : va_D A [(a0, o3 (upd (upd (upd T0 0 0) 1 0) 2 4) u0_7 u0_8 u0_9 u0_10 u0_11 u0_12 u0_13 a1), (a1, o0 T1 u1_3 u1_4 u1_5 u1_6 u1_7)] := hD
  refine lv_aload_n hx hb dX3_clear_15 rfl (lv_at hl 0 rfl) ?_
  refine lv_iconst (v := 0) hx hb dX3_clear_16 rfl ?_
  refine P3_51 hx hb htg hown hK hP hD hS 0 rfl dX3_clear_17 (fun H locs hP hD hS => ?_)
  refine lv_aload_n hx hb dX3_clear_20 rfl (lv_at hl 0 rfl) ?_
  refine lv_iconst (v := 0) hx hb dX3_clear_21 rfl ?_
  refine P3_54 hx hb htg hown hK hP hD hS 0 rfl dX3_clear_22 (fun H locs hP hD hS => ?_)
  refine lv_aload_n hx hb dX3_clear_25 rfl (lv_at hl 0 rfl) ?_
  refine lv_iconst (v := 0) hx hb dX3_clear_26 rfl ?_
  refine P3_57 hx hb htg hown hK hP hD hS 0 rfl dX3_clear_27 (fun H locs hP hD hS => ?_)
  replace hP : va_P E.1 vwCl [(a0, o3 (upd (upd (upd (upd (upd (upd T0 0 0) 1 0) 2 4) 3 0) 4 0) 5 0) u0_7 u0_8 u0_9 u0_10 u0_11 u0_12 u0_13 a1), (a1, o0 T1 u1_3 u1_4 u1_5 u1_6 u1_7)] H := hP
  replace hD : va_D A [(a0, o3 (upd (upd (upd (upd (upd (upd T0 0 0) 1 0) 2 4) 3 0) 4 0) 5 0) u0_7 u0_8 u0_9 u0_10 u0_11 u0_12 u0_13 a1), (a1, o0 T1 u1_3 u1_4 u1_5 u1_6 u1_7)] := hD
  refine lv_aload_n hx hb dX3_clear_30 rfl (lv_at hl 0 rfl) ?_
  refine lv_iconst (v := 0) hx hb dX3_clear_31 rfl ?_
  refine P3_60 hx hb htg hown hK hP hD hS 0 rfl dX3_clear_32 (fun H locs hP hD hS => ?_)
  refine lv_aload_n hx hb dX3_clear_35 rfl (lv_at hl 0 rfl) ?_
  refine G3_41 hx hb htg hown hK hP 0 rfl dX3_clear_36 ?_
  obtain ⟨z39, hz39, hf⟩ := bind_s hf
  refine xV_vu hx hb hml hown htg L3_63 (c_X0_clear l E a1 hz39 _) ⟨⟨rfl, rfl⟩, Nat.le_of_ble_eq_true rfl, Nat.le_of_ble_eq_true rfl⟩ hK hG hA hP hD hS (is := [1]) (sel := [none, some 0]) (ws2 := [(a0, o3 (upd (upd (upd (upd (upd (upd (upd T0 0 0) 1 0) 2 4) 3 0) 4 0) 5 0) 6 0) u0_7 u0_8 u0_9 u0_10 u0_11 u0_12 u0_13 a1), (a1, o0 z39 u1_3 u1_4 u1_5 u1_6 u1_7)]) rfl rfl rfl rfl rfl (xrecv hK hP (q0 := 1) (ci := 0) rfl rfl) rfl hl.1 rfl (Nat.le_of_ble_eq_true rfl) dX3_clear_39 (fun H locs hP hD hS => ?_)
  exact ret (upd (upd (upd (upd (upd (upd (upd T0 0 0) 1 0) 2 4) 3 0) 4 0) 5 0) 6 0, z39) hf hP hS dX3_clear_42
theorem dX3_copyFrom_0 : decode cX3_copyFrom 0 = .ok (.aload_n 0, 1) := by decide +kernel
theorem dX3_copyFrom_1 : decode cX3_copyFrom 1 = .ok (.aload_n 1, 1) := by decide +kernel
theorem dX3_copyFrom_2 : decode cX3_copyFrom 2 = .ok (.getfield 45, 3) := by decide +kernel
theorem dX3_copyFrom_5 : decode cX3_copyFrom 5 = .ok (.putfield 45, 3) := by decide +kernel
theorem dX3_copyFrom_8 : decode cX3_copyFrom 8 = .ok (.aload_n 0, 1) := by decide +kernel
theorem dX3_copyFrom_9 : decode cX3_copyFrom 9 = .ok (.aload_n 1, 1) := by decide +kernel
theorem dX3_copyFrom_10 : decode cX3_copyFrom 10 = .ok (.getfield 48, 3) := by decide +kernel
theorem dX3_copyFrom_13 : decode cX3_copyFrom 13 = .ok (.putfield 48, 3) := by decide +kernel
theorem dX3_copyFrom_16 : decode cX3_copyFrom 16 = .ok (.aload_n 0, 1) := by decide +kernel
theorem dX3_copyFrom_17 : decode cX3_copyFrom 17 = .ok (.aload_n 1, 1) := by decide +kernel
theorem dX3_copyFrom_18 : decode cX3_copyFrom 18 = .ok (.getfield 11, 3) := by decide +kernel
theorem dX3_copyFrom_21 : decode cX3_copyFrom 21 = .ok (.putfield 11, 3) := by decide +kernel
theorem dX3_copyFrom_24 : decode cX3_copyFrom 24 = .ok (.aload_n 0, 1) := by decide +kernel
theorem dX3_copyFrom_25 : decode cX3_copyFrom 25 = .ok (.aload_n 1, 1) := by decide +kernel
theorem dX3_copyFrom_26 : decode cX3_copyFrom 26 = .ok (.getfield 51, 3) := by decide +kernel
theorem dX3_copyFrom_29 : decode cX3_copyFrom 29 = .ok (.putfield 51, 3) := by decide +kernel
theorem dX3_copyFrom_32 : decode cX3_copyFrom 32 = .ok (.aload_n 0, 1) := by decide +kernel
theorem dX3_copyFrom_33 : decode cX3_copyFrom 33 = .ok (.aload_n 1, 1) := by decide +kernel
theorem dX3_copyFrom_34 : decode cX3_copyFrom 34 = .ok (.getfield 54, 3) := by decide +kernel
theorem dX3_copyFrom_37 : decode cX3_copyFrom 37 = .ok (.putfield 54, 3) := by decide +kernel
theorem dX3_copyFrom_40 : decode cX3_copyFrom 40 = .ok (.aload_n 0, 1) := by decide +kernel
theorem dX3_copyFrom_41 : decode cX3_copyFrom 41 = .ok (.aload_n 1, 1) := by decide +kernel
theorem dX3_copyFrom_42 : decode cX3_copyFrom 42 = .ok (.getfield 57, 3) := by decide +kernel
theorem dX3_copyFrom_45 : decode cX3_copyFrom 45 = .ok (.putfield 57, 3) := by decide +kernel
theorem dX3_copyFrom_48 : decode cX3_copyFrom 48 = .ok (.aload_n 0, 1) := by decide +kernel
theorem dX3_copyFrom_49 : decode cX3_copyFrom 49 = .ok (.aload_n 1, 1) := by decide +kernel
theorem dX3_copyFrom_50 : decode cX3_copyFrom 50 = .ok (.getfield 60, 3) := by decide +kernel
theorem dX3_copyFrom_53 : decode cX3_copyFrom 53 = .ok (.putfield 60, 3) := by decide +kernel
theorem dX3_copyFrom_56 : decode cX3_copyFrom 56 = .ok (.aload_n 1, 1) := by decide +kernel
theorem dX3_copyFrom_57 : decode cX3_copyFrom 57 = .ok (.getfield 15, 3) := by decide +kernel
theorem dX3_copyFrom_60 : decode cX3_copyFrom 60 = .ok (.iconst 0, 1) := by decide +kernel
theorem dX3_copyFrom_61 : decode cX3_copyFrom 61 = .ok (.aload_n 0, 1) := by decide +kernel
theorem dX3_copyFrom_62 : decode cX3_copyFrom 62 = .ok (.getfield 15, 3) := by decide +kernel
theorem dX3_copyFrom_65 : decode cX3_copyFrom 65 = .ok (.iconst 0, 1) := by decide +kernel
theorem dX3_copyFrom_66 : decode cX3_copyFrom 66 = .ok (.bipush 36, 2) := by decide +kernel
theorem dX3_copyFrom_68 : decode cX3_copyFrom 68 = .ok (.invokestatic 66, 3) := by decide +kernel
theorem dX3_copyFrom_71 : decode cX3_copyFrom 71 = .ok (.aload_n 1, 1) := by decide +kernel
theorem dX3_copyFrom_72 : decode cX3_copyFrom 72 = .ok (.getfield 19, 3) := by decide +kernel
theorem dX3_copyFrom_75 : decode cX3_copyFrom 75 = .ok (.iconst 0, 1) := by decide +kernel
theorem dX3_copyFrom_76 : decode cX3_copyFrom 76 = .ok (.aload_n 0, 1) := by decide +kernel
theorem dX3_copyFrom_77 : decode cX3_copyFrom 77 = .ok (.getfield 19, 3) := by decide +kernel
theorem dX3_copyFrom_80 : decode cX3_copyFrom 80 = .ok (.iconst 0, 1) := by decide +kernel
theorem dX3_copyFrom_81 : decode cX3_copyFrom 81 = .ok (.iconst 5, 1) := by decide +kernel
theorem dX3_copyFrom_82 : decode cX3_copyFrom 82 = .ok (.invokestatic 66, 3) := by decide +kernel
theorem dX3_copyFrom_85 : decode cX3_copyFrom 85 = .ok (.aload_n 1, 1) := by decide +kernel
theorem dX3_copyFrom_86 : decode cX3_copyFrom 86 = .ok (.getfield 22, 3) := by decide +kernel
theorem dX3_copyFrom_89 : decode cX3_copyFrom 89 = .ok (.iconst 0, 1) := by decide +kernel
theorem dX3_copyFrom_90 : decode cX3_copyFrom 90 = .ok (.aload_n 0, 1) := by decide +kernel
theorem dX3_copyFrom_91 : decode cX3_copyFrom 91 = .ok (.getfield 22, 3) := by decide +kernel
theorem dX3_copyFrom_94 : decode cX3_copyFrom 94 = .ok (.iconst 0, 1) := by decide +kernel
theorem dX3_copyFrom_95 : decode cX3_copyFrom 95 = .ok (.iconst 5, 1) := by decide +kernel
theorem dX3_copyFrom_96 : decode cX3_copyFrom 96 = .ok (.invokestatic 66, 3) := by decide +kernel
theorem dX3_copyFrom_99 : decode cX3_copyFrom 99 = .ok (.aload_n 1, 1) := by decide +kernel
theorem dX3_copyFrom_100 : decode cX3_copyFrom 100 = .ok (.getfield 26, 3) := by decide +kernel
theorem dX3_copyFrom_103 : decode cX3_copyFrom 103 = .ok (.iconst 0, 1) := by decide +kernel
theorem dX3_copyFrom_104 : decode cX3_copyFrom 104 = .ok (.aload_n 0, 1) := by decide +kernel
theorem dX3_copyFrom_105 : decode cX3_copyFrom 105 = .ok (.getfield 26, 3) := by decide +kernel
theorem dX3_copyFrom_108 : decode cX3_copyFrom 108 = .ok (.iconst 0, 1) := by decide +kernel
theorem dX3_copyFrom_109 : decode cX3_copyFrom 109 = .ok (.bipush 12, 2) := by decide +kernel
theorem dX3_copyFrom_111 : decode cX3_copyFrom 111 = .ok (.invokestatic 66, 3) := by decide +kernel
theorem dX3_copyFrom_114 : decode cX3_copyFrom 114 = .ok (.aload_n 1, 1) := by decide +kernel
theorem dX3_copyFrom_115 : decode cX3_copyFrom 115 = .ok (.getfield 29, 3) := by decide +kernel
theorem dX3_copyFrom_118 : decode cX3_copyFrom 118 = .ok (.iconst 0, 1) := by decide +kernel
theorem dX3_copyFrom_119 : decode cX3_copyFrom 119 = .ok (.aload_n 0, 1) := by decide +kernel
theorem dX3_copyFrom_120 : decode cX3_copyFrom 120 = .ok (.getfield 29, 3) := by decide +kernel
theorem dX3_copyFrom_123 : decode cX3_copyFrom 123 = .ok (.iconst 0, 1) := by decide +kernel
theorem dX3_copyFrom_124 : decode cX3_copyFrom 124 = .ok (.bipush 12, 2) := by decide +kernel
theorem dX3_copyFrom_126 : decode cX3_copyFrom 126 = .ok (.invokestatic 66, 3) := by decide +kernel
theorem dX3_copyFrom_129 : decode cX3_copyFrom 129 = .ok (.aload_n 1, 1) := by decide +kernel
theorem dX3_copyFrom_130 : decode cX3_copyFrom 130 = .ok (.getfield 32, 3) := by decide +kernel
theorem dX3_copyFrom_133 : decode cX3_copyFrom 133 = .ok (.iconst 0, 1) := by decide +kernel
theorem dX3_copyFrom_134 : decode cX3_copyFrom 134 = .ok (.aload_n 0, 1) := by decide +kernel
theorem dX3_copyFrom_135 : decode cX3_copyFrom 135 = .ok (.getfield 32, 3) := by decide +kernel
theorem dX3_copyFrom_138 : decode cX3_copyFrom 138 = .ok (.iconst 0, 1) := by decide +kernel
theorem dX3_copyFrom_139 : decode cX3_copyFrom 139 = .ok (.bipush 12, 2) := by decide +kernel
theorem dX3_copyFrom_141 : decode cX3_copyFrom 141 = .ok (.invokestatic 66, 3) := by decide +kernel
theorem dX3_copyFrom_144 : decode cX3_copyFrom 144 = .ok (.aload_n 1, 1) := by decide +kernel
theorem dX3_copyFrom_145 : decode cX3_copyFrom 145 = .ok (.getfield 35, 3) := by decide +kernel
theorem dX3_copyFrom_148 : decode cX3_copyFrom 148 = .ok (.iconst 0, 1) := by decide +kernel
theorem dX3_copyFrom_149 : decode cX3_copyFrom 149 = .ok (.aload_n 0, 1) := by decide +kernel
theorem dX3_copyFrom_150 : decode cX3_copyFrom 150 = .ok (.getfield 35, 3) := by decide +kernel
theorem dX3_copyFrom_153 : decode cX3_copyFrom 153 = .ok (.iconst 0, 1) := by decide +kernel
theorem dX3_copyFrom_154 : decode cX3_copyFrom 154 = .ok (.bipush 12, 2) := by decide +kernel
theorem dX3_copyFrom_156 : decode cX3_copyFrom 156 = .ok (.invokestatic 66, 3) := by decide +kernel
theorem dX3_copyFrom_159 : decode cX3_copyFrom 159 = .ok (.aload_n 0, 1) := by decide +kernel
theorem dX3_copyFrom_160 : decode cX3_copyFrom 160 = .ok (.getfield 41, 3) := by decide +kernel
theorem dX3_copyFrom_163 : decode cX3_copyFrom 163 = .ok (.aload_n 1, 1) := by decide +kernel
theorem dX3_copyFrom_164 : decode cX3_copyFrom 164 = .ok (.getfield 41, 3) := by decide +kernel
theorem dX3_copyFrom_167 : decode cX3_copyFrom 167 = .ok (.invokevirtual 72, 3) := by decide +kernel
theorem dX3_copyFrom_170 : decode cX3_copyFrom 170 = .ok (.return_, 1) := by decide +kernel
set_option maxRecDepth 100000 in
theorem c_X3_copyFrom (l : Launch) (E : xE) (a0 a1 a2 a3 a4 a5 a6 a7 a8 a9 a10 a11 a12 a13 a14 a15 a16 a17 a18 a19 a20 a21 a22 a23 a24 a25 a26 a27 : Nat) {T0 : Nat → Int32} {T1 : Nat → Int32} {V2 : Nat → Int32} {V3 : Nat → Int32} {V4 : Nat → Int32} {V5 : Nat → Int32} {V6 : Nat → Int64} {V7 : Nat → Int64} {V8 : Nat → Int32} {V9 : Nat → Int32} {V10 : Nat → Int32} {V11 : Nat → Int32} {V12 : Nat → Int32} {V13 : Nat → Int32} {V14 : Nat → Int32} {V15 : Nat → Int32} {T16 : Nat → Int32} {T17 : Nat → Int32} {V18 : Nat → Int32} {V19 : Nat → Int32} {V20 : Nat → Int32} {V21 : Nat → Int32} {V22 : Nat → Int32} {V23 : Nat → Int32} {V24 : Nat → Int32} {V25 : Nat → Int32} {V26 : Nat → Int32} {V27 : Nat → Int32} {z : (Nat → Int32) × (Nat → Int32) × (Nat → Int32) × (Nat → Int64) × (Nat → Int32) × (Nat → Int32) × (Nat → Int32) × (Nat → Int32) × (Nat → Int32) × (Nat → Int32) × (Nat → Int32) × (Nat → Int32) × (Nat → Int32) × (Nat → Int32)} (hf : f_X3_copyFrom T0 T1 V2 V3 V4 V5 V6 V7 V8 V9 V10 V11 V12 V13 V14 V15 T16 T17 V18 V19 V20 V21 V22 V23 V24 V25 V26 V27 = some z) (sz : Nat) : Met l yX3_copyFrom (Cond.code yX3_copyFrom cX3_copyFrom 2 none :: gw) ({ frames := 2, cells := 0, slots := 0, locals := 101 }) (xPc E [.ref a0, .ref a1] [(a0, o3 T0 a3 a5 a7 a9 a11 a13 a15 a16), (a1, o3 T1 a2 a4 a6 a8 a10 a12 a14 a17), (a2, ai E 36 V2), (a3, ai E 36 V3), (a4, ai E 5 V4), (a5, ai E 5 V5), (a6, al E 5 V6), (a7, al E 5 V7), (a8, ai E 12 V8), (a9, ai E 12 V9), (a10, ai E 12 V10), (a11, ai E 12 V11), (a12, ai E 12 V12), (a13, ai E 12 V13), (a14, ai E 12 V14), (a15, ai E 12 V15), (a16, o0 T16 a19 a21 a23 a25 a27), (a17, o0 T17 a18 a20 a22 a24 a26), (a18, ai E 60 V18), (a19, ai E 60 V19), (a20, ai E 60 V20), (a21, ai E 60 V21), (a22, ai E 60 V22), (a23, ai E 60 V23), (a24, ai E 60 V24), (a25, ai E 60 V25), (a26, ai E 60 V26), (a27, ai E 60 V27)] sz) (xQv E [(a0, o3 T0 a3 a5 a7 a9 a11 a13 a15 a16), (a1, o3 T1 a2 a4 a6 a8 a10 a12 a14 a17), (a2, ai E 36 V2), (a3, ai E 36 V3), (a4, ai E 5 V4), (a5, ai E 5 V5), (a6, al E 5 V6), (a7, al E 5 V7), (a8, ai E 12 V8), (a9, ai E 12 V9), (a10, ai E 12 V10), (a11, ai E 12 V11), (a12, ai E 12 V12), (a13, ai E 12 V13), (a14, ai E 12 V14), (a15, ai E 12 V15), (a16, o0 T16 a19 a21 a23 a25 a27), (a17, o0 T17 a18 a20 a22 a24 a26), (a18, ai E 60 V18), (a19, ai E 60 V19), (a20, ai E 60 V20), (a21, ai E 60 V21), (a22, ai E 60 V22), (a23, ai E 60 V23), (a24, ai E 60 V24), (a25, ai E 60 V25), (a26, ai E 60 V26), (a27, ai E 60 V27)] [(a0, o3 z.1 a3 a5 a7 a9 a11 a13 a15 a16), (a1, o3 T1 a2 a4 a6 a8 a10 a12 a14 a17), (a2, ai E 36 V2), (a3, ai E 36 z.2.1), (a4, ai E 5 V4), (a5, ai E 5 z.2.2.1), (a6, al E 5 V6), (a7, al E 5 z.2.2.2.1), (a8, ai E 12 V8), (a9, ai E 12 z.2.2.2.2.1), (a10, ai E 12 V10), (a11, ai E 12 z.2.2.2.2.2.1), (a12, ai E 12 V12), (a13, ai E 12 z.2.2.2.2.2.2.1), (a14, ai E 12 V14), (a15, ai E 12 z.2.2.2.2.2.2.2.1), (a16, o0 z.2.2.2.2.2.2.2.2.1 a19 a21 a23 a25 a27), (a17, o0 T17 a18 a20 a22 a24 a26), (a18, ai E 60 V18), (a19, ai E 60 z.2.2.2.2.2.2.2.2.2.1), (a20, ai E 60 V20), (a21, ai E 60 z.2.2.2.2.2.2.2.2.2.2.1), (a22, ai E 60 V22), (a23, ai E 60 z.2.2.2.2.2.2.2.2.2.2.2.1), (a24, ai E 60 V24), (a25, ai E 60 z.2.2.2.2.2.2.2.2.2.2.2.2.1), (a26, ai E 60 V26), (a27, ai E 60 z.2.2.2.2.2.2.2.2.2.2.2.2.2)] sz) 0 0 (va_A [(a0, o3 T0 a3 a5 a7 a9 a11 a13 a15 a16), (a1, o3 T1 a2 a4 a6 a8 a10 a12 a14 a17), (a2, ai E 36 V2), (a3, ai E 36 V3), (a4, ai E 5 V4), (a5, ai E 5 V5), (a6, al E 5 V6), (a7, al E 5 V7), (a8, ai E 12 V8), (a9, ai E 12 V9), (a10, ai E 12 V10), (a11, ai E 12 V11), (a12, ai E 12 V12), (a13, ai E 12 V13), (a14, ai E 12 V14), (a15, ai E 12 V15), (a16, o0 T16 a19 a21 a23 a25 a27), (a17, o0 T17 a18 a20 a22 a24 a26), (a18, ai E 60 V18), (a19, ai E 60 V19), (a20, ai E 60 V20), (a21, ai E 60 V21), (a22, ai E 60 V22), (a23, ai E 60 V23), (a24, ai E 60 V24), (a25, ai E 60 V25), (a26, ai E 60 V26), (a27, ai E 60 V27)] sz) := by
  refine xM_v (by decide +kernel) (Nat.le_of_ble_eq_true rfl) ?_
  intro p e s m args below meth c A Q hx hb hml hown htg hK hG hA ret0 H locs ls hP hD hS hl
  have ret : ∀ (z' : (Nat → Int32) × (Nat → Int32) × (Nat → Int32) × (Nat → Int64) × (Nat → Int32) × (Nat → Int32) × (Nat → Int32) × (Nat → Int32) × (Nat → Int32) × (Nat → Int32) × (Nat → Int32) × (Nat → Int32) × (Nat → Int32) × (Nat → Int32)) {H : Heap} {locs : List Loc} {pc : Nat} {ls : Array Slot}, some z' = some z → va_P E.1 vwCl [(a0, o3 z'.1 a3 a5 a7 a9 a11 a13 a15 a16), (a1, o3 T1 a2 a4 a6 a8 a10 a12 a14 a17), (a2, ai E 36 V2), (a3, ai E 36 z'.2.1), (a4, ai E 5 V4), (a5, ai E 5 z'.2.2.1), (a6, al E 5 V6), (a7, al E 5 z'.2.2.2.1), (a8, ai E 12 V8), (a9, ai E 12 z'.2.2.2.2.1), (a10, ai E 12 V10), (a11, ai E 12 z'.2.2.2.2.2.1), (a12, ai E 12 V12), (a13, ai E 12 z'.2.2.2.2.2.2.1), (a14, ai E 12 V14), (a15, ai E 12 z'.2.2.2.2.2.2.2.1), (a16, o0 z'.2.2.2.2.2.2.2.2.1 a19 a21 a23 a25 a27), (a17, o0 T17 a18 a20 a22 a24 a26), (a18, ai E 60 V18), (a19, ai E 60 z'.2.2.2.2.2.2.2.2.2.1), (a20, ai E 60 V20), (a21, ai E 60 z'.2.2.2.2.2.2.2.2.2.2.1), (a22, ai E 60 V22), (a23, ai E 60 z'.2.2.2.2.2.2.2.2.2.2.2.1), (a24, ai E 60 V24), (a25, ai E 60 z'.2.2.2.2.2.2.2.2.2.2.2.2.1), (a26, ai E 60 V26), (a27, ai E 60 z'.2.2.2.2.2.2.2.2.2.2.2.2.2)] H → va_S A s.heap H locs → decode cX3_copyFrom pc = .ok (.return_, 1) → W p l e ({ frames := 2, cells := 0, slots := 0, locals := 101 } : Room) s m args below meth c H locs 0 0 Q (F0 m pc ls []) := by
    intro z' H locs pc ls h
    cases h
    exact ret0
  replace hl : lv_has ls 2 [(0, .ref a0), (1, .ref a1)] := hl
  unfold f_X3_copyFrom at hf
  refine lv_aload_n hx hb dX3_copyFrom_0 rfl (lv_at hl 0 rfl) ?_
  refine lv_aload_n hx hb dX3_copyFrom_1 rfl (lv_at hl 1 rfl) ?_
  refine G3_45 hx hb htg hown hK hP 1 rfl dX3_copyFrom_2 ?_
  refine P3_45 hx hb htg hown hK hP hD hS 0 rfl dX3_copyFrom_5 (fun H locs hP hD hS => ?_)
  refine lv_aload_n hx hb dX3_copyFrom_8 rfl (lv_at hl 0 rfl) ?_
  refine lv_aload_n hx hb dX3_copyFrom_9 rfl (lv_at hl 1 rfl) ?_
  refine G3_48 hx hb htg hown hK hP 1 rfl dX3_copyFrom_10 ?_
  refine P3_48 hx hb htg hown hK hP hD hS 0 rfl dX3_copyFrom_13 (fun H locs hP hD hS => ?_)
  refine lv_aload_n hx hb dX3_copyFrom_16 rfl (lv_at hl 0 rfl) ?_
  refine lv_aload_n hx hb dX3_copyFrom_17 rfl (lv_at hl 1 rfl) ?_
  refine G3_11 hx hb htg hown hK hP 1 rfl dX3_copyFrom_18 ?_
  refine P3_11 hx hb htg hown hK hP hD hS 0 rfl dX3_copyFrom_21 (fun H locs hP hD hS => ?_)
  replace hP : va_P E.1 vwCl [(a0, o3 (upd (upd (upd T0 0 (T1 0)) 1 (T1 1)) 2 (T1 2)) a3 a5 a7 a9 a11 a13 a15 a16), (a1, o3 T1 a2 a4 a6 a8 a10 a12 a14 a17), (a2, ai E 36 V2), (a3, ai E 36 V3), (a4, ai E 5 V4), (a5, ai E 5 V5), (a6, al E 5 V6), (a7, al E 5 V7), (a8, ai E 12 V8), (a9, ai E 12 V9), (a10, ai E 12 V10), (a11, ai E 12 V11), (a12, ai E 12 V12), (a13, ai E 12 V13), (a14, ai E 12 V14), (a15, ai E 12 V15), (a16, o0 T16 a19 a21 a23 a25 a27), (a17, o0 T17 a18 a20 a22 a24 a26), (a18, ai E 60 V18), (a19, ai E 60 V19), (a20, ai E 60 V20), (a21, ai E 60 V21), (a22, ai E 60 V22), (a23, ai E 60 V23), (a24, ai E 60 V24), (a25, ai E 60 V25), (a26, ai E 60 V26), (a27, ai E 60 V27)] H := hP
  replace hD : va_D A [(a0, o3 (upd (upd (upd T0 0 (T1 0)) 1 (T1 1)) 2 (T1 2)) a3 a5 a7 a9 a11 a13 a15 a16), (a1, o3 T1 a2 a4 a6 a8 a10 a12 a14 a17), (a2, ai E 36 V2), (a3, ai E 36 V3), (a4, ai E 5 V4), (a5, ai E 5 V5), (a6, al E 5 V6), (a7, al E 5 V7), (a8, ai E 12 V8), (a9, ai E 12 V9), (a10, ai E 12 V10), (a11, ai E 12 V11), (a12, ai E 12 V12), (a13, ai E 12 V13), (a14, ai E 12 V14), (a15, ai E 12 V15), (a16, o0 T16 a19 a21 a23 a25 a27), (a17, o0 T17 a18 a20 a22 a24 a26), (a18, ai E 60 V18), (a19, ai E 60 V19), (a20, ai E 60 V20), (a21, ai E 60 V21), (a22, ai E 60 V22), (a23, ai E 60 V23), (a24, ai E 60 V24), (a25, ai E 60 V25), (a26, ai E 60 V26), (a27, ai E 60 V27)] := hD
  refine lv_aload_n hx hb dX3_copyFrom_24 rfl (lv_at hl 0 rfl) ?_
  refine lv_aload_n hx hb dX3_copyFrom_25 rfl (lv_at hl 1 rfl) ?_
  refine G3_51 hx hb htg hown hK hP 1 rfl dX3_copyFrom_26 ?_
  refine P3_51 hx hb htg hown hK hP hD hS 0 rfl dX3_copyFrom_29 (fun H locs hP hD hS => ?_)
  refine lv_aload_n hx hb dX3_copyFrom_32 rfl (lv_at hl 0 rfl) ?_
  refine lv_aload_n hx hb dX3_copyFrom_33 rfl (lv_at hl 1 rfl) ?_
  refine G3_54 hx hb htg hown hK hP 1 rfl dX3_copyFrom_34 ?_
  refine P3_54 hx hb htg hown hK hP hD hS 0 rfl dX3_copyFrom_37 (fun H locs hP hD hS => ?_)
  refine lv_aload_n hx hb dX3_copyFrom_40 rfl (lv_at hl 0 rfl) ?_
  refine lv_aload_n hx hb dX3_copyFrom_41 rfl (lv_at hl 1 rfl) ?_
  refine G3_57 hx hb htg hown hK hP 1 rfl dX3_copyFrom_42 ?_
  refine P3_57 hx hb htg hown hK hP hD hS 0 rfl dX3_copyFrom_45 (fun H locs hP hD hS => ?_)
  replace hP : va_P E.1 vwCl [(a0, o3 (upd (upd (upd (upd (upd (upd T0 0 (T1 0)) 1 (T1 1)) 2 (T1 2)) 3 (T1 3)) 4 (T1 4)) 5 (T1 5)) a3 a5 a7 a9 a11 a13 a15 a16), (a1, o3 T1 a2 a4 a6 a8 a10 a12 a14 a17), (a2, ai E 36 V2), (a3, ai E 36 V3), (a4, ai E 5 V4), (a5, ai E 5 V5), (a6, al E 5 V6), (a7, al E 5 V7), (a8, ai E 12 V8), (a9, ai E 12 V9), (a10, ai E 12 V10), (a11, ai E 12 V11), (a12, ai E 12 V12), (a13, ai E 12 V13), (a14, ai E 12 V14), (a15, ai E 12 V15), (a16, o0 T16 a19 a21 a23 a25 a27), (a17, o0 T17 a18 a20 a22 a24 a26), (a18, ai E 60 V18), (a19, ai E 60 V19), (a20, ai E 60 V20), (a21, ai E 60 V21), (a22, ai E 60 V22), (a23, ai E 60 V23), (a24, ai E 60 V24), (a25, ai E 60 V25), (a26, ai E 60 V26), (a27, ai E 60 V27)] H := hP
  replace hD : va_D A [(a0, o3 (upd (upd (upd (upd (upd (upd T0 0 (T1 0)) 1 (T1 1)) 2 (T1 2)) 3 (T1 3)) 4 (T1 4)) 5 (T1 5)) a3 a5 a7 a9 a11 a13 a15 a16), (a1, o3 T1 a2 a4 a6 a8 a10 a12 a14 a17), (a2, ai E 36 V2), (a3, ai E 36 V3), (a4, ai E 5 V4), (a5, ai E 5 V5), (a6, al E 5 V6), (a7, al E 5 V7), (a8, ai E 12 V8), (a9, ai E 12 V9), (a10, ai E 12 V10), (a11, ai E 12 V11), (a12, ai E 12 V12), (a13, ai E 12 V13), (a14, ai E 12 V14), (a15, ai E 12 V15), (a16, o0 T16 a19 a21 a23 a25 a27), (a17, o0 T17 a18 a20 a22 a24 a26), (a18, ai E 60 V18), (a19, ai E 60 V19), (a20, ai E 60 V20), (a21, ai E 60 V21), (a22, ai E 60 V22), (a23, ai E 60 V23), (a24, ai E 60 V24), (a25, ai E 60 V25), (a26, ai E 60 V26), (a27, ai E 60 V27)] := hD
  refine lv_aload_n hx hb dX3_copyFrom_48 rfl (lv_at hl 0 rfl) ?_
  refine lv_aload_n hx hb dX3_copyFrom_49 rfl (lv_at hl 1 rfl) ?_
  refine G3_60 hx hb htg hown hK hP 1 rfl dX3_copyFrom_50 ?_
  refine P3_60 hx hb htg hown hK hP hD hS 0 rfl dX3_copyFrom_53 (fun H locs hP hD hS => ?_)
  refine lv_aload_n hx hb dX3_copyFrom_56 rfl (lv_at hl 1 rfl) ?_
  refine G3_15 hx hb htg hown hK hP 1 rfl dX3_copyFrom_57 ?_
  refine lv_iconst (v := 0) hx hb dX3_copyFrom_60 rfl ?_
  refine lv_aload_n hx hb dX3_copyFrom_61 rfl (lv_at hl 0 rfl) ?_
  refine G3_15 hx hb htg hown hK hP 0 rfl dX3_copyFrom_62 ?_
  refine lv_iconst (v := 0) hx hb dX3_copyFrom_65 rfl ?_
  refine lv_bipush (v := 36) hx hb dX3_copyFrom_66 rfl ?_
  obtain ⟨g68, hf⟩ := ck_s hf
  refine xcopyi hx hb hml hl.1 hown mlC3_66 htg hK hP hD hS 2 3 rfl rfl g68 (Nat.le_of_ble_eq_true rfl) (Nat.le_of_ble_eq_true rfl) dX3_copyFrom_68 (fun H locs hP hD hS => ?_)
  replace hP : va_P E.1 vwCl [(a0, o3 (upd (upd (upd (upd (upd (upd (upd T0 0 (T1 0)) 1 (T1 1)) 2 (T1 2)) 3 (T1 3)) 4 (T1 4)) 5 (T1 5)) 6 (T1 6)) a3 a5 a7 a9 a11 a13 a15 a16), (a1, o3 T1 a2 a4 a6 a8 a10 a12 a14 a17), (a2, ai E 36 V2), (a3, ai E 36 (va_cpy V2 V3 (Int32.toNatClampNeg 0) (Int32.toNatClampNeg 0) (Int32.toNatClampNeg 36))), (a4, ai E 5 V4), (a5, ai E 5 V5), (a6, al E 5 V6), (a7, al E 5 V7), (a8, ai E 12 V8), (a9, ai E 12 V9), (a10, ai E 12 V10), (a11, ai E 12 V11), (a12, ai E 12 V12), (a13, ai E 12 V13), (a14, ai E 12 V14), (a15, ai E 12 V15), (a16, o0 T16 a19 a21 a23 a25 a27), (a17, o0 T17 a18 a20 a22 a24 a26), (a18, ai E 60 V18), (a19, ai E 60 V19), (a20, ai E 60 V20), (a21, ai E 60 V21), (a22, ai E 60 V22), (a23, ai E 60 V23), (a24, ai E 60 V24), (a25, ai E 60 V25), (a26, ai E 60 V26), (a27, ai E 60 V27)] H := hP
  replace hD : va_D A [(a0, o3 (upd (upd (upd (upd (upd (upd (upd T0 0 (T1 0)) 1 (T1 1)) 2 (T1 2)) 3 (T1 3)) 4 (T1 4)) 5 (T1 5)) 6 (T1 6)) a3 a5 a7 a9 a11 a13 a15 a16), (a1, o3 T1 a2 a4 a6 a8 a10 a12 a14 a17), (a2, ai E 36 V2), (a3, ai E 36 (va_cpy V2 V3 (Int32.toNatClampNeg 0) (Int32.toNatClampNeg 0) (Int32.toNatClampNeg 36))), (a4, ai E 5 V4), (a5, ai E 5 V5), (a6, al E 5 V6), (a7, al E 5 V7), (a8, ai E 12 V8), (a9, ai E 12 V9), (a10, ai E 12 V10), (a11, ai E 12 V11), (a12, ai E 12 V12), (a13, ai E 12 V13), (a14, ai E 12 V14), (a15, ai E 12 V15), (a16, o0 T16 a19 a21 a23 a25 a27), (a17, o0 T17 a18 a20 a22 a24 a26), (a18, ai E 60 V18), (a19, ai E 60 V19), (a20, ai E 60 V20), (a21, ai E 60 V21), (a22, ai E 60 V22), (a23, ai E 60 V23), (a24, ai E 60 V24), (a25, ai E 60 V25), (a26, ai E 60 V26), (a27, ai E 60 V27)] := hD
  refine lv_aload_n hx hb dX3_copyFrom_71 rfl (lv_at hl 1 rfl) ?_
  refine G3_19 hx hb htg hown hK hP 1 rfl dX3_copyFrom_72 ?_
  refine lv_iconst (v := 0) hx hb dX3_copyFrom_75 rfl ?_
  refine lv_aload_n hx hb dX3_copyFrom_76 rfl (lv_at hl 0 rfl) ?_
  refine G3_19 hx hb htg hown hK hP 0 rfl dX3_copyFrom_77 ?_
  refine lv_iconst (v := 0) hx hb dX3_copyFrom_80 rfl ?_
  refine lv_iconst (v := 5) hx hb dX3_copyFrom_81 rfl ?_
  obtain ⟨g82, hf⟩ := ck_s hf
  refine xcopyi hx hb hml hl.1 hown mlC3_66 htg hK hP hD hS 4 5 rfl rfl g82 (Nat.le_of_ble_eq_true rfl) (Nat.le_of_ble_eq_true rfl) dX3_copyFrom_82 (fun H locs hP hD hS => ?_)
  replace hP : va_P E.1 vwCl [(a0, o3 (upd (upd (upd (upd (upd (upd (upd T0 0 (T1 0)) 1 (T1 1)) 2 (T1 2)) 3 (T1 3)) 4 (T1 4)) 5 (T1 5)) 6 (T1 6)) a3 a5 a7 a9 a11 a13 a15 a16), (a1, o3 T1 a2 a4 a6 a8 a10 a12 a14 a17), (a2, ai E 36 V2), (a3, ai E 36 (va_cpy V2 V3 (Int32.toNatClampNeg 0) (Int32.toNatClampNeg 0) (Int32.toNatClampNeg 36))), (a4, ai E 5 V4), (a5, ai E 5 (va_cpy V4 V5 (Int32.toNatClampNeg 0) (Int32.toNatClampNeg 0) (Int32.toNatClampNeg 5))), (a6, al E 5 V6), (a7, al E 5 V7), (a8, ai E 12 V8), (a9, ai E 12 V9), (a10, ai E 12 V10), (a11, ai E 12 V11), (a12, ai E 12 V12), (a13, ai E 12 V13), (a14, ai E 12 V14), (a15, ai E 12 V15), (a16, o0 T16 a19 a21 a23 a25 a27), (a17, o0 T17 a18 a20 a22 a24 a26), (a18, ai E 60 V18), (a19, ai E 60 V19), (a20, ai E 60 V20), (a21, ai E 60 V21), (a22, ai E 60 V22), (a23, ai E 60 V23), (a24, ai E 60 V24), (a25, ai E 60 V25), (a26, ai E 60 V26), (a27, ai E 60 V27)] H := hP
  replace hD : va_D A [(a0, o3 (upd (upd (upd (upd (upd (upd (upd T0 0 (T1 0)) 1 (T1 1)) 2 (T1 2)) 3 (T1 3)) 4 (T1 4)) 5 (T1 5)) 6 (T1 6)) a3 a5 a7 a9 a11 a13 a15 a16), (a1, o3 T1 a2 a4 a6 a8 a10 a12 a14 a17), (a2, ai E 36 V2), (a3, ai E 36 (va_cpy V2 V3 (Int32.toNatClampNeg 0) (Int32.toNatClampNeg 0) (Int32.toNatClampNeg 36))), (a4, ai E 5 V4), (a5, ai E 5 (va_cpy V4 V5 (Int32.toNatClampNeg 0) (Int32.toNatClampNeg 0) (Int32.toNatClampNeg 5))), (a6, al E 5 V6), (a7, al E 5 V7), (a8, ai E 12 V8), (a9, ai E 12 V9), (a10, ai E 12 V10), (a11, ai E 12 V11), (a12, ai E 12 V12), (a13, ai E 12 V13), (a14, ai E 12 V14), (a15, ai E 12 V15), (a16, o0 T16 a19 a21 a23 a25 a27), (a17, o0 T17 a18 a20 a22 a24 a26), (a18, ai E 60 V18), (a19, ai E 60 V19), (a20, ai E 60 V20), (a21, ai E 60 V21), (a22, ai E 60 V22), (a23, ai E 60 V23), (a24, ai E 60 V24), (a25, ai E 60 V25), (a26, ai E 60 V26), (a27, ai E 60 V27)] := hD
  refine lv_aload_n hx hb dX3_copyFrom_85 rfl (lv_at hl 1 rfl) ?_
  refine G3_22 hx hb htg hown hK hP 1 rfl dX3_copyFrom_86 ?_
  refine lv_iconst (v := 0) hx hb dX3_copyFrom_89 rfl ?_
  refine lv_aload_n hx hb dX3_copyFrom_90 rfl (lv_at hl 0 rfl) ?_
  refine G3_22 hx hb htg hown hK hP 0 rfl dX3_copyFrom_91 ?_
  refine lv_iconst (v := 0) hx hb dX3_copyFrom_94 rfl ?_
  refine lv_iconst (v := 5) hx hb dX3_copyFrom_95 rfl ?_
  obtain ⟨g96, hf⟩ := ck_s hf
  refine xcopyl hx hb hml hl.1 hown mlC3_66 htg hK hP hD hS 6 7 rfl rfl g96 (Nat.le_of_ble_eq_true rfl) (Nat.le_of_ble_eq_true rfl) dX3_copyFrom_96 (fun H locs hP hD hS => ?_)
  replace hP : va_P E.1 vwCl [(a0, o3 (upd (upd (upd (upd (upd (upd (upd T0 0 (T1 0)) 1 (T1 1)) 2 (T1 2)) 3 (T1 3)) 4 (T1 4)) 5 (T1 5)) 6 (T1 6)) a3 a5 a7 a9 a11 a13 a15 a16), (a1, o3 T1 a2 a4 a6 a8 a10 a12 a14 a17), (a2, ai E 36 V2), (a3, ai E 36 (va_cpy V2 V3 (Int32.toNatClampNeg 0) (Int32.toNatClampNeg 0) (Int32.toNatClampNeg 36))), (a4, ai E 5 V4), (a5, ai E 5 (va_cpy V4 V5 (Int32.toNatClampNeg 0) (Int32.toNatClampNeg 0) (Int32.toNatClampNeg 5))), (a6, al E 5 V6), (a7, al E 5 (va_cpy V6 V7 (Int32.toNatClampNeg 0) (Int32.toNatClampNeg 0) (Int32.toNatClampNeg 5))), (a8, ai E 12 V8), (a9, ai E 12 V9), (a10, ai E 12 V10), (a11, ai E 12 V11), (a12, ai E 12 V12), (a13, ai E 12 V13), (a14, ai E 12 V14), (a15, ai E 12 V15), (a16, o0 T16 a19 a21 a23 a25 a27), (a17, o0 T17 a18 a20 a22 a24 a26), (a18, ai E 60 V18), (a19, ai E 60 V19), (a20, ai E 60 V20), (a21, ai E 60 V21), (a22, ai E 60 V22), (a23, ai E 60 V23), (a24, ai E 60 V24), (a25, ai E 60 V25), (a26, ai E 60 V26), (a27, ai E 60 V27)] H := hP
  replace hD : va_D A [(a0, o3 (upd (upd (upd (upd (upd (upd (upd T0 0 (T1 0)) 1 (T1 1)) 2 (T1 2)) 3 (T1 3)) 4 (T1 4)) 5 (T1 5)) 6 (T1 6)) a3 a5 a7 a9 a11 a13 a15 a16), (a1, o3 T1 a2 a4 a6 a8 a10 a12 a14 a17), (a2, ai E 36 V2), (a3, ai E 36 (va_cpy V2 V3 (Int32.toNatClampNeg 0) (Int32.toNatClampNeg 0) (Int32.toNatClampNeg 36))), (a4, ai E 5 V4), (a5, ai E 5 (va_cpy V4 V5 (Int32.toNatClampNeg 0) (Int32.toNatClampNeg 0) (Int32.toNatClampNeg 5))), (a6, al E 5 V6), (a7, al E 5 (va_cpy V6 V7 (Int32.toNatClampNeg 0) (Int32.toNatClampNeg 0) (Int32.toNatClampNeg 5))), (a8, ai E 12 V8), (a9, ai E 12 V9), (a10, ai E 12 V10), (a11, ai E 12 V11), (a12, ai E 12 V12), (a13, ai E 12 V13), (a14, ai E 12 V14), (a15, ai E 12 V15), (a16, o0 T16 a19 a21 a23 a25 a27), (a17, o0 T17 a18 a20 a22 a24 a26), (a18, ai E 60 V18), (a19, ai E 60 V19), (a20, ai E 60 V20), (a21, ai E 60 V21), (a22, ai E 60 V22), (a23, ai E 60 V23), (a24, ai E 60 V24), (a25, ai E 60 V25), (a26, ai E 60 V26), (a27, ai E 60 V27)] := hD
  refine lv_aload_n hx hb dX3_copyFrom_99 rfl (lv_at hl 1 rfl) ?_
  refine G3_26 hx hb htg hown hK hP 1 rfl dX3_copyFrom_100 ?_
  refine lv_iconst (v := 0) hx hb dX3_copyFrom_103 rfl ?_
  refine lv_aload_n hx hb dX3_copyFrom_104 rfl (lv_at hl 0 rfl) ?_
  refine G3_26 hx hb htg hown hK hP 0 rfl dX3_copyFrom_105 ?_
  refine lv_iconst (v := 0) hx hb dX3_copyFrom_108 rfl ?_
  refine lv_bipush (v := 12) hx hb dX3_copyFrom_109 rfl ?_
  obtain ⟨g111, hf⟩ := ck_s hf
  refine xcopyi hx hb hml hl.1 hown mlC3_66 htg hK hP hD hS 8 9 rfl rfl g111 (Nat.le_of_ble_eq_true rfl) (Nat.le_of_ble_eq_true rfl) dX3_copyFrom_111 (fun H locs hP hD hS => ?_)
  replace hP : va_P E.1 vwCl [(a0, o3 (upd (upd (upd (upd (upd (upd (upd T0 0 (T1 0)) 1 (T1 1)) 2 (T1 2)) 3 (T1 3)) 4 (T1 4)) 5 (T1 5)) 6 (T1 6)) a3 a5 a7 a9 a11 a13 a15 a16), (a1, o3 T1 a2 a4 a6 a8 a10 a12 a14 a17), (a2, ai E 36 V2), (a3, ai E 36 (va_cpy V2 V3 (Int32.toNatClampNeg 0) (Int32.toNatClampNeg 0) (Int32.toNatClampNeg 36))), (a4, ai E 5 V4), (a5, ai E 5 (va_cpy V4 V5 (Int32.toNatClampNeg 0) (Int32.toNatClampNeg 0) (Int32.toNatClampNeg 5))), (a6, al E 5 V6), (a7, al E 5 (va_cpy V6 V7 (Int32.toNatClampNeg 0) (Int32.toNatClampNeg 0) (Int32.toNatClampNeg 5))), (a8, ai E 12 V8), (a9, ai E 12 (va_cpy V8 V9 (Int32.toNatClampNeg 0) (Int32.toNatClampNeg 0) (Int32.toNatClampNeg 12))), (a10, ai E 12 V10), (a11, ai E 12 V11), (a12, ai E 12 V12), (a13, ai E 12 V13), (a14, ai E 12 V14), (a15, ai E 12 V15), (a16, o0 T16 a19 a21 a23 a25 a27), (a17, o0 T17 a18 a20 a22 a24 a26), (a18, ai E 60 V18), (a19, ai E 60 V19), (a20, ai E 60 V20), (a21, ai E 60 V21), (a22, ai E 60 V22), (a23, ai E 60 V23), (a24, ai E 60 V24), (a25, ai E 60 V25), (a26, ai E 60 V26), (a27, ai E 60 V27)] H := hP
  replace hD : va_D A [(a0, o3 (upd (upd (upd (upd (upd (upd (upd T0 0 (T1 0)) 1 (T1 1)) 2 (T1 2)) 3 (T1 3)) 4 (T1 4)) 5 (T1 5)) 6 (T1 6)) a3 a5 a7 a9 a11 a13 a15 a16), (a1, o3 T1 a2 a4 a6 a8 a10 a12 a14 a17), (a2, ai E 36 V2), (a3, ai E 36 (va_cpy V2 V3 (Int32.toNatClampNeg 0) (Int32.toNatClampNeg 0) (Int32.toNatClampNeg 36))), (a4, ai E 5 V4), (a5, ai E 5 (va_cpy V4 V5 (Int32.toNatClampNeg 0) (Int32.toNatClampNeg 0) (Int32.toNatClampNeg 5))), (a6, al E 5 V6), (a7, al E 5 (va_cpy V6 V7 (Int32.toNatClampNeg 0) (Int32.toNatClampNeg 0) (Int32.toNatClampNeg 5))), (a8, ai E 12 V8), (a9, ai E 12 (va_cpy V8 V9 (Int32.toNatClampNeg 0) (Int32.toNatClampNeg 0) (Int32.toNatClampNeg 12))), (a10, ai E 12 V10), (a11, ai E 12 V11), (a12, ai E 12 V12), (a13, ai E 12 V13), (a14, ai E 12 V14), (a15, ai E 12 V15), (a16, o0 T16 a19 a21 a23 a25 a27), (a17, o0 T17 a18 a20 a22 a24 a26), (a18, ai E 60 V18), (a19, ai E 60 V19), (a20, ai E 60 V20), (a21, ai E 60 V21), (a22, ai E 60 V22), (a23, ai E 60 V23), (a24, ai E 60 V24), (a25, ai E 60 V25), (a26, ai E 60 V26), (a27, ai E 60 V27)] := hD
  refine lv_aload_n hx hb dX3_copyFrom_114 rfl (lv_at hl 1 rfl) ?_
  refine G3_29 hx hb htg hown hK hP 1 rfl dX3_copyFrom_115 ?_
  refine lv_iconst (v := 0) hx hb dX3_copyFrom_118 rfl ?_
  refine lv_aload_n hx hb dX3_copyFrom_119 rfl (lv_at hl 0 rfl) ?_
  refine G3_29 hx hb htg hown hK hP 0 rfl dX3_copyFrom_120 ?_
  refine lv_iconst (v := 0) hx hb dX3_copyFrom_123 rfl ?_
  refine lv_bipush (v := 12) hx hb dX3_copyFrom_124 rfl ?_
  obtain ⟨g126, hf⟩ := ck_s hf
  refine xcopyi hx hb hml hl.1 hown mlC3_66 htg hK hP hD hS 10 11 rfl rfl g126 (Nat.le_of_ble_eq_true rfl) (Nat.le_of_ble_eq_true rfl) dX3_copyFrom_126 (fun H locs hP hD hS => ?_)
  replace hP : va_P E.1 vwCl [(a0, o3 (upd (upd (upd (upd (upd (upd (upd T0 0 (T1 0)) 1 (T1 1)) 2 (T1 2)) 3 (T1 3)) 4 (T1 4)) 5 (T1 5)) 6 (T1 6)) a3 a5 a7 a9 a11 a13 a15 a16), (a1, o3 T1 a2 a4 a6 a8 a10 a12 a14 a17), (a2, ai E 36 V2), (a3, ai E 36 (va_cpy V2 V3 (Int32.toNatClampNeg 0) (Int32.toNatClampNeg 0) (Int32.toNatClampNeg 36))), (a4, ai E 5 V4), (a5, ai E 5 (va_cpy V4 V5 (Int32.toNatClampNeg 0) (Int32.toNatClampNeg 0) (Int32.toNatClampNeg 5))), (a6, al E 5 V6), (a7, al E 5 (va_cpy V6 V7 (Int32.toNatClampNeg 0) (Int32.toNatClampNeg 0) (Int32.toNatClampNeg 5))), (a8, ai E 12 V8), (a9, ai E 12 (va_cpy V8 V9 (Int32.toNatClampNeg 0) (Int32.toNatClampNeg 0) (Int32.toNatClampNeg 12))), (a10, ai E 12 V10), (a11, ai E 12 (va_cpy V10 V11 (Int32.toNatClampNeg 0) (Int32.toNatClampNeg 0) (Int32.toNatClampNeg 12))), (a12, ai E 12 V12), (a13, ai E 12 V13), (a14, ai E 12 V14), (a15, ai E 12 V15), (a16, o0 T16 a19 a21 a23 a25 a27), (a17, o0 T17 a18 a20 a22 a24 a26), (a18, ai E 60 V18), (a19, ai E 60 V19), (a20, ai E 60 V20), (a21, ai E 60 V21), (a22, ai E 60 V22), (a23, ai E 60 V23), (a24, ai E 60 V24), (a25, ai E 60 V25), (a26, ai E 60 V26), (a27, ai E 60 V27)] H := hP
  replace hD : va_D A [(a0, o3 (upd (upd (upd (upd (upd (upd (upd T0 0 (T1 0)) 1 (T1 1)) 2 (T1 2)) 3 (T1 3)) 4 (T1 4)) 5 (T1 5)) 6 (T1 6)) a3 a5 a7 a9 a11 a13 a15 a16), (a1, o3 T1 a2 a4 a6 a8 a10 a12 a14 a17), (a2, ai E 36 V2), (a3, ai E 36 (va_cpy V2 V3 (Int32.toNatClampNeg 0) (Int32.toNatClampNeg 0) (Int32.toNatClampNeg 36))), (a4, ai E 5 V4), (a5, ai E 5 (va_cpy V4 V5 (Int32.toNatClampNeg 0) (Int32.toNatClampNeg 0) (Int32.toNatClampNeg 5))), (a6, al E 5 V6), (a7, al E 5 (va_cpy V6 V7 (Int32.toNatClampNeg 0) (Int32.toNatClampNeg 0) (Int32.toNatClampNeg 5))), (a8, ai E 12 V8), (a9, ai E 12 (va_cpy V8 V9 (Int32.toNatClampNeg 0) (Int32.toNatClampNeg 0) (Int32.toNatClampNeg 12))), (a10, ai E 12 V10), (a11, ai E 12 (va_cpy V10 V11 (Int32.toNatClampNeg 0) (Int32.toNatClampNeg 0) (Int32.toNatClampNeg 12))), (a12, ai E 12 V12), (a13, ai E 12 V13), (a14, ai E 12 V14), (a15, ai E 12 V15), (a16, o0 T16 a19 a21 a23 a25 a27), (a17, o0 T17 a18 a20 a22 a24 a26), (a18, ai E 60 V18), (a19, ai E 60 V19), (a20, ai E 60 V20), (a21, ai E 60 V21), (a22, ai E 60 V22), (a23, ai E 60 V23), (a24, ai E 60 V24), (a25, ai E 60 V25), (a26, ai E 60 V26), (a27, ai E 60 V27)] := hD
  refine lv_aload_n hx hb dX3_copyFrom_129 rfl (lv_at hl 1 rfl) ?_
  refine G3_32 hx hb htg hown hK hP 1 rfl dX3_copyFrom_130 ?_
  refine lv_iconst (v := 0) hx hb dX3_copyFrom_133 rfl ?_
  refine lv_aload_n hx hb dX3_copyFrom_134 rfl (lv_at hl 0 rfl) ?_
  refine G3_32 hx hb htg hown hK hP 0 rfl dX3_copyFrom_135 ?_
  refine lv_iconst (v := 0) hx hb dX3_copyFrom_138 rfl ?_
  refine lv_bipush (v := 12) hx hb dX3_copyFrom_139 rfl ?_
  obtain ⟨g141, hf⟩ := ck_s hf
  refine xcopyi hx hb hml hl.1 hown mlC3_66 htg hK hP hD hS 12 13 rfl rfl g141 (Nat.le_of_ble_eq_true rfl) (Nat.le_of_ble_eq_true rfl) dX3_copyFrom_141 (fun H locs hP hD hS => ?_)
  replace hP : va_P E.1 vwCl [(a0, o3 (upd (upd (upd (upd (upd (upd (upd T0 0 (T1 0)) 1 (T1 1)) 2 (T1 2)) 3 (T1 3)) 4 (T1 4)) 5 (T1 5)) 6 (T1 6)) a3 a5 a7 a9 a11 a13 a15 a16), (a1, o3 T1 a2 a4 a6 a8 a10 a12 a14 a17), (a2, ai E 36 V2), (a3, ai E 36 (va_cpy V2 V3 (Int32.toNatClampNeg 0) (Int32.toNatClampNeg 0) (Int32.toNatClampNeg 36))), (a4, ai E 5 V4), (a5, ai E 5 (va_cpy V4 V5 (Int32.toNatClampNeg 0) (Int32.toNatClampNeg 0) (Int32.toNatClampNeg 5))), (a6, al E 5 V6), (a7, al E 5 (va_cpy V6 V7 (Int32.toNatClampNeg 0) (Int32.toNatClampNeg 0) (Int32.toNatClampNeg 5))), (a8, ai E 12 V8), (a9, ai E 12 (va_cpy V8 V9 (Int32.toNatClampNeg 0) (Int32.toNatClampNeg 0) (Int32.toNatClampNeg 12))), (a10, ai E 12 V10), (a11, ai E 12 (va_cpy V10 V11 (Int32.toNatClampNeg 0) (Int32.toNatClampNeg 0) (Int32.toNatClampNeg 12))), (a12, ai E 12 V12), (a13, ai E 12 (va_cpy V12 V13 (Int32.toNatClampNeg 0) (Int32.toNatClampNeg 0) (Int32.toNatClampNeg 12))), (a14, ai E 12 V14), (a15, ai E 12 V15), (a16, o0 T16 a19 a21 a23 a25 a27), (a17, o0 T17 a18 a20 a22 a24 a26), (a18, ai E 60 V18), (a19, ai E 60 V19), (a20, ai E 60 V20), (a21, ai E 60 V21), (a22, ai E 60 V22), (a23, ai E 60 V23), (a24, ai E 60 V24), (a25, ai E 60 V25), (a26, ai E 60 V26), (a27, ai E 60 V27)] H := hP
  replace hD : va_D A [(a0, o3 (upd (upd (upd (upd (upd (upd (upd T0 0 (T1 0)) 1 (T1 1)) 2 (T1 2)) 3 (T1 3)) 4 (T1 4)) 5 (T1 5)) 6 (T1 6)) a3 a5 a7 a9 a11 a13 a15 a16), (a1, o3 T1 a2 a4 a6 a8 a10 a12 a14 a17), (a2, ai E 36 V2), (a3, ai E 36 (va_cpy V2 V3 (Int32.toNatClampNeg 0) (Int32.toNatClampNeg 0) (Int32.toNatClampNeg 36))), (a4, ai E 5 V4), (a5, ai E 5 (va_cpy V4 V5 (Int32.toNatClampNeg 0) (Int32.toNatClampNeg 0) (Int32.toNatClampNeg 5))), (a6, al E 5 V6), (a7, al E 5 (va_cpy V6 V7 (Int32.toNatClampNeg 0) (Int32.toNatClampNeg 0) (Int32.toNatClampNeg 5))), (a8, ai E 12 V8), (a9, ai E 12 (va_cpy V8 V9 (Int32.toNatClampNeg 0) (Int32.toNatClampNeg 0) (Int32.toNatClampNeg 12))), (a10, ai E 12 V10), (a11, ai E 12 (va_cpy V10 V11 (Int32.toNatClampNeg 0) (Int32.toNatClampNeg 0) (Int32.toNatClampNeg 12))), (a12, ai E 12 V12), (a13, ai E 12 (va_cpy V12 V13 (Int32.toNatClampNeg 0) (Int32.toNatClampNeg 0) (Int32.toNatClampNeg 12))), (a14, ai E 12 V14), (a15, ai E 12 V15), (a16, o0 T16 a19 a21 a23 a25 a27), (a17, o0 T17 a18 a20 a22 a24 a26), (a18, ai E 60 V18), (a19, ai E 60 V19), (a20, ai E 60 V20), (a21, ai E 60 V21), (a22, ai E 60 V22), (a23, ai E 60 V23), (a24, ai E 60 V24), (a25, ai E 60 V25), (a26, ai E 60 V26), (a27, ai E 60 V27)] := hD
  refine lv_aload_n hx hb dX3_copyFrom_144 rfl (lv_at hl 1 rfl) ?_
  refine G3_35 hx hb htg hown hK hP 1 rfl dX3_copyFrom_145 ?_
  refine lv_iconst (v := 0) hx hb dX3_copyFrom_148 rfl ?_
  refine lv_aload_n hx hb dX3_copyFrom_149 rfl (lv_at hl 0 rfl) ?_
  refine G3_35 hx hb htg hown hK hP 0 rfl dX3_copyFrom_150 ?_
  refine lv_iconst (v := 0) hx hb dX3_copyFrom_153 rfl ?_
  refine lv_bipush (v := 12) hx hb dX3_copyFrom_154 rfl ?_
  obtain ⟨g156, hf⟩ := ck_s hf
  refine xcopyi hx hb hml hl.1 hown mlC3_66 htg hK hP hD hS 14 15 rfl rfl g156 (Nat.le_of_ble_eq_true rfl) (Nat.le_of_ble_eq_true rfl) dX3_copyFrom_156 (fun H locs hP hD hS => ?_)
  replace hP : va_P E.1 vwCl [(a0, o3 (upd (upd (upd (upd (upd (upd (upd T0 0 (T1 0)) 1 (T1 1)) 2 (T1 2)) 3 (T1 3)) 4 (T1 4)) 5 (T1 5)) 6 (T1 6)) a3 a5 a7 a9 a11 a13 a15 a16), (a1, o3 T1 a2 a4 a6 a8 a10 a12 a14 a17), (a2, ai E 36 V2), (a3, ai E 36 (va_cpy V2 V3 (Int32.toNatClampNeg 0) (Int32.toNatClampNeg 0) (Int32.toNatClampNeg 36))), (a4, ai E 5 V4), (a5, ai E 5 (va_cpy V4 V5 (Int32.toNatClampNeg 0) (Int32.toNatClampNeg 0) (Int32.toNatClampNeg 5))), (a6, al E 5 V6), (a7, al E 5 (va_cpy V6 V7 (Int32.toNatClampNeg 0) (Int32.toNatClampNeg 0) (Int32.toNatClampNeg 5))), (a8, ai E 12 V8), (a9, ai E 12 (va_cpy V8 V9 (Int32.toNatClampNeg 0) (Int32.toNatClampNeg 0) (Int32.toNatClampNeg 12))), (a10, ai E 12 V10), (a11, ai E 12 (va_cpy V10 V11 (Int32.toNatClampNeg 0) (Int32.toNatClampNeg 0) (Int32.toNatClampNeg 12))), (a12, ai E 12 V12), (a13, ai E 12 (va_cpy V12 V13 (Int32.toNatClampNeg 0) (Int32.toNatClampNeg 0) (Int32.toNatClampNeg 12))), (a14, ai E 12 V14), (a15, ai E 12 (va_cpy V14 V15 (Int32.toNatClampNeg 0) (Int32.toNatClampNeg 0) (Int32.toNatClampNeg 12))), (a16, o0 T16 a19 a21 a23 a25 a27), (a17, o0 T17 a18 a20 a22 a24 a26), (a18, ai E 60 V18), (a19, ai E 60 V19), (a20, ai E 60 V20), (a21, ai E 60 V21), (a22, ai E 60 V22), (a23, ai E 60 V23), (a24, ai E 60 V24), (a25, ai E 60 V25), (a26, ai E 60 V26), (a27, ai E 60 V27)] H := hP
  replace hD : va_D A [(a0, o3 (upd (upd (upd (upd (upd (upd (upd T0 0 (T1 0)) 1 (T1 1)) 2 (T1 2)) 3 (T1 3)) 4 (T1 4)) 5 (T1 5)) 6 (T1 6)) a3 a5 a7 a9 a11 a13 a15 a16), (a1, o3 T1 a2 a4 a6 a8 a10 a12 a14 a17), (a2, ai E 36 V2), (a3, ai E 36 (va_cpy V2 V3 (Int32.toNatClampNeg 0) (Int32.toNatClampNeg 0) (Int32.toNatClampNeg 36))), (a4, ai E 5 V4), (a5, ai E 5 (va_cpy V4 V5 (Int32.toNatClampNeg 0) (Int32.toNatClampNeg 0) (Int32.toNatClampNeg 5))), (a6, al E 5 V6), (a7, al E 5 (va_cpy V6 V7 (Int32.toNatClampNeg 0) (Int32.toNatClampNeg 0) (Int32.toNatClampNeg 5))), (a8, ai E 12 V8), (a9, ai E 12 (va_cpy V8 V9 (Int32.toNatClampNeg 0) (Int32.toNatClampNeg 0) (Int32.toNatClampNeg 12))), (a10, ai E 12 V10), (a11, ai E 12 (va_cpy V10 V11 (Int32.toNatClampNeg 0) (Int32.toNatClampNeg 0) (Int32.toNatClampNeg 12))), (a12, ai E 12 V12), (a13, ai E 12 (va_cpy V12 V13 (Int32.toNatClampNeg 0) (Int32.toNatClampNeg 0) (Int32.toNatClampNeg 12))), (a14, ai E 12 V14), (a15, ai E 12 (va_cpy V14 V15 (Int32.toNatClampNeg 0) (Int32.toNatClampNeg 0) (Int32.toNatClampNeg 12))), (a16, o0 T16 a19 a21 a23 a25 a27), (a17, o0 T17 a18 a20 a22 a24 a26), (a18, ai E 60 V18), (a19, ai E 60 V19), (a20, ai E 60 V20), (a21, ai E 60 V21), (a22, ai E 60 V22), (a23, ai E 60 V23), (a24, ai E 60 V24), (a25, ai E 60 V25), (a26, ai E 60 V26), (a27, ai E 60 V27)] := hD
  refine lv_aload_n hx hb dX3_copyFrom_159 rfl (lv_at hl 0 rfl) ?_
  refine G3_41 hx hb htg hown hK hP 0 rfl dX3_copyFrom_160 ?_
  refine lv_aload_n hx hb dX3_copyFrom_163 rfl (lv_at hl 1 rfl) ?_
  refine G3_41 hx hb htg hown hK hP 1 rfl dX3_copyFrom_164 ?_
  obtain ⟨z167, hz167, hf⟩ := bind_s hf
  refine xV_vu hx hb hml hown htg L3_72 (c_X0_copyFrom l E a16 a17 a18 a19 a20 a21 a22 a23 a24 a25 a26 a27 hz167 _) ⟨⟨rfl, rfl⟩, Nat.le_of_ble_eq_true rfl, Nat.le_of_ble_eq_true rfl⟩ hK hG hA hP hD hS (is := [16, 17, 18, 19, 20, 21, 22, 23, 24, 25, 26, 27]) (sel := [none, none, none, none, none, none, none, none, none, none, none, none, none, none, none, none, some 0, some 1, some 2, some 3, some 4, some 5, some 6, some 7, some 8, some 9, some 10, some 11]) (ws2 := [(a0, o3 (upd (upd (upd (upd (upd (upd (upd T0 0 (T1 0)) 1 (T1 1)) 2 (T1 2)) 3 (T1 3)) 4 (T1 4)) 5 (T1 5)) 6 (T1 6)) a3 a5 a7 a9 a11 a13 a15 a16), (a1, o3 T1 a2 a4 a6 a8 a10 a12 a14 a17), (a2, ai E 36 V2), (a3, ai E 36 (va_cpy V2 V3 (Int32.toNatClampNeg 0) (Int32.toNatClampNeg 0) (Int32.toNatClampNeg 36))), (a4, ai E 5 V4), (a5, ai E 5 (va_cpy V4 V5 (Int32.toNatClampNeg 0) (Int32.toNatClampNeg 0) (Int32.toNatClampNeg 5))), (a6, al E 5 V6), (a7, al E 5 (va_cpy V6 V7 (Int32.toNatClampNeg 0) (Int32.toNatClampNeg 0) (Int32.toNatClampNeg 5))), (a8, ai E 12 V8), (a9, ai E 12 (va_cpy V8 V9 (Int32.toNatClampNeg 0) (Int32.toNatClampNeg 0) (Int32.toNatClampNeg 12))), (a10, ai E 12 V10), (a11, ai E 12 (va_cpy V10 V11 (Int32.toNatClampNeg 0) (Int32.toNatClampNeg 0) (Int32.toNatClampNeg 12))), (a12, ai E 12 V12), (a13, ai E 12 (va_cpy V12 V13 (Int32.toNatClampNeg 0) (Int32.toNatClampNeg 0) (Int32.toNatClampNeg 12))), (a14, ai E 12 V14), (a15, ai E 12 (va_cpy V14 V15 (Int32.toNatClampNeg 0) (Int32.toNatClampNeg 0) (Int32.toNatClampNeg 12))), (a16, o0 z167.1 a19 a21 a23 a25 a27), (a17, o0 T17 a18 a20 a22 a24 a26), (a18, ai E 60 V18), (a19, ai E 60 z167.2.1), (a20, ai E 60 V20), (a21, ai E 60 z167.2.2.1), (a22, ai E 60 V22), (a23, ai E 60 z167.2.2.2.1), (a24, ai E 60 V24), (a25, ai E 60 z167.2.2.2.2.1), (a26, ai E 60 V26), (a27, ai E 60 z167.2.2.2.2.2)]) rfl rfl rfl rfl rfl (xrecv hK hP (q0 := 16) (ci := 0) rfl rfl) rfl hl.1 rfl (Nat.le_of_ble_eq_true rfl) dX3_copyFrom_167 (fun H locs hP hD hS => ?_)
  exact ret (upd (upd (upd (upd (upd (upd (upd T0 0 (T1 0)) 1 (T1 1)) 2 (T1 2)) 3 (T1 3)) 4 (T1 4)) 5 (T1 5)) 6 (T1 6), va_cpy V2 V3 (Int32.toNatClampNeg 0) (Int32.toNatClampNeg 0) (Int32.toNatClampNeg 36), va_cpy V4 V5 (Int32.toNatClampNeg 0) (Int32.toNatClampNeg 0) (Int32.toNatClampNeg 5), va_cpy V6 V7 (Int32.toNatClampNeg 0) (Int32.toNatClampNeg 0) (Int32.toNatClampNeg 5), va_cpy V8 V9 (Int32.toNatClampNeg 0) (Int32.toNatClampNeg 0) (Int32.toNatClampNeg 12), va_cpy V10 V11 (Int32.toNatClampNeg 0) (Int32.toNatClampNeg 0) (Int32.toNatClampNeg 12), va_cpy V12 V13 (Int32.toNatClampNeg 0) (Int32.toNatClampNeg 0) (Int32.toNatClampNeg 12), va_cpy V14 V15 (Int32.toNatClampNeg 0) (Int32.toNatClampNeg 0) (Int32.toNatClampNeg 12), z167.1, z167.2.1, z167.2.2.1, z167.2.2.2.1, z167.2.2.2.2.1, z167.2.2.2.2.2) hf hP hS dX3_copyFrom_170
theorem dX3_hasCell_0 : decode cX3_hasCell 0 = .ok (.iload_n 1, 1) := by decide +kernel
theorem dX3_hasCell_1 : decode cX3_hasCell 1 = .ok (.iconst 0, 1) := by decide +kernel
theorem dX3_hasCell_2 : decode cX3_hasCell 2 = .ok (.aload_n 0, 1) := by decide +kernel
theorem dX3_hasCell_3 : decode cX3_hasCell 3 = .ok (.invokevirtual 76, 3) := by decide +kernel
theorem dX3_hasCell_6 : decode cX3_hasCell 6 = .ok (.iconst 1, 1) := by decide +kernel
theorem dX3_hasCell_7 : decode cX3_hasCell 7 = .ok (.isub, 1) := by decide +kernel
theorem dX3_hasCell_8 : decode cX3_hasCell 8 = .ok (.invokestatic 80, 3) := by decide +kernel
theorem dX3_hasCell_11 : decode cX3_hasCell 11 = .ok (.ireturn, 1) := by decide +kernel
set_option maxRecDepth 100000 in
theorem c_X3_hasCell (l : Launch) (E : xE) (a0 : Nat) {T0 : Nat → Int32} {u0_7 u0_8 u0_9 u0_10 u0_11 u0_12 u0_13 u0_14 : Nat} {x1 : Int32} {z : Int32} (hf : f_X3_hasCell T0 x1 = some z) (sz : Nat) : Met l yX3_hasCell (Cond.code yX3_hasCell cX3_hasCell 2 (some .boolean) :: gw) ({ frames := 1, cells := 0, slots := 0, locals := 22 }) (xPc E [.ref a0, .int x1] [(a0, o3 T0 u0_7 u0_8 u0_9 u0_10 u0_11 u0_12 u0_13 u0_14)] sz) (xQi E z [(a0, o3 T0 u0_7 u0_8 u0_9 u0_10 u0_11 u0_12 u0_13 u0_14)] [(a0, o3 T0 u0_7 u0_8 u0_9 u0_10 u0_11 u0_12 u0_13 u0_14)] sz) 0 0 (va_A [(a0, o3 T0 u0_7 u0_8 u0_9 u0_10 u0_11 u0_12 u0_13 u0_14)] sz) := by
  refine xM_i (by decide +kernel) (Nat.le_of_ble_eq_true rfl) ?_
  intro p e s m args below meth c A Q hx hb hml hown htg hK hG hA ret0 H locs ls hP hD hS hl
  have ret : ∀ (z' : Int32) {H : Heap} {locs : List Loc} {pc : Nat} {ls : Array Slot}, some z' = some z → narrow .boolean (.int z') = .int z' → va_P E.1 vwCl [(a0, o3 T0 u0_7 u0_8 u0_9 u0_10 u0_11 u0_12 u0_13 u0_14)] H → va_S A s.heap H locs → decode cX3_hasCell pc = .ok (.ireturn, 1) → W p l e ({ frames := 1, cells := 0, slots := 0, locals := 22 } : Room) s m args below meth c H locs 0 0 Q (F0 m pc ls [.int z']) := by
    intro z' H locs pc ls h
    cases h
    exact ret0
  replace hl : lv_has ls 2 [(0, .ref a0), (1, .int x1)] := hl
  unfold f_X3_hasCell at hf
  refine lv_iload_n hx hb dX3_hasCell_0 rfl (lv_at hl 1 rfl) ?_
  refine lv_iconst (v := 0) hx hb dX3_hasCell_1 rfl ?_
  refine lv_aload_n hx hb dX3_hasCell_2 rfl (lv_at hl 0 rfl) ?_
  obtain ⟨z3, hz3, hf⟩ := bind_s hf
  refine xV_ir hx hb hml hown htg L3_76 (c_X3_cellCount l E a0 hz3 _) ⟨⟨rfl, rfl⟩, Nat.le_of_ble_eq_true rfl, Nat.le_of_ble_eq_true rfl⟩ hK hG hA hP hD hS (is := [0]) rfl rfl (xrecv hK hP (q0 := 0) (ci := 3) rfl rfl) rfl hl.1 rfl (Nat.le_of_ble_eq_true rfl) dX3_hasCell_3 (fun H locs hP hD hS => ?_)
  refine lv_iconst (v := 1) hx hb dX3_hasCell_6 rfl ?_
  refine lv_isub hx hb dX3_hasCell_7 ?_
  obtain ⟨z8, hz8, hf⟩ := bind_s hf
  refine xN_ir hx hb hml hown htg L3_80 19 rfl (c_X11_within l E hz8 _) ⟨⟨rfl, rfl⟩, Nat.le_of_ble_eq_true rfl, Nat.le_of_ble_eq_true rfl⟩ hK hG hA hP hD hS (is := []) rfl rfl rfl hl.1 rfl (Nat.le_of_ble_eq_true rfl) dX3_hasCell_8 (fun H locs hP hD hS => ?_)
  obtain ⟨g11, hf⟩ := ck_s hf
  exact ret z8 hf (bz_n g11).1 hP hS dX3_hasCell_11
theorem dX3_kindAt_0 : decode cX3_kindAt 0 = .ok (.iload_n 1, 1) := by decide +kernel
theorem dX3_kindAt_1 : decode cX3_kindAt 1 = .ok (.iconst 0, 1) := by decide +kernel
theorem dX3_kindAt_2 : decode cX3_kindAt 2 = .ok (.aload_n 0, 1) := by decide +kernel
theorem dX3_kindAt_3 : decode cX3_kindAt 3 = .ok (.getfield 15, 3) := by decide +kernel
theorem dX3_kindAt_6 : decode cX3_kindAt 6 = .ok (.arraylength, 1) := by decide +kernel
theorem dX3_kindAt_7 : decode cX3_kindAt 7 = .ok (.iconst 1, 1) := by decide +kernel
theorem dX3_kindAt_8 : decode cX3_kindAt 8 = .ok (.isub, 1) := by decide +kernel
theorem dX3_kindAt_9 : decode cX3_kindAt 9 = .ok (.invokestatic 80, 3) := by decide +kernel
theorem dX3_kindAt_12 : decode cX3_kindAt 12 = .ok (.ifCond .eq 12, 3) := by decide +kernel
theorem dX3_kindAt_15 : decode cX3_kindAt 15 = .ok (.aload_n 0, 1) := by decide +kernel
theorem dX3_kindAt_16 : decode cX3_kindAt 16 = .ok (.getfield 15, 3) := by decide +kernel
theorem dX3_kindAt_19 : decode cX3_kindAt 19 = .ok (.iload_n 1, 1) := by decide +kernel
theorem dX3_kindAt_20 : decode cX3_kindAt 20 = .ok (.iaload, 1) := by decide +kernel
theorem dX3_kindAt_21 : decode cX3_kindAt 21 = .ok (.goto 4, 3) := by decide +kernel
theorem dX3_kindAt_24 : decode cX3_kindAt 24 = .ok (.iconst 0, 1) := by decide +kernel
theorem dX3_kindAt_25 : decode cX3_kindAt 25 = .ok (.ireturn, 1) := by decide +kernel
set_option maxRecDepth 100000 in
theorem c_X3_kindAt (l : Launch) (E : xE) (a0 a1 : Nat) {T0 : Nat → Int32} {V1 : Nat → Int32} {u0_8 u0_9 u0_10 u0_11 u0_12 u0_13 u0_14 : Nat} {x1 : Int32} {z : Int32} (hf : f_X3_kindAt V1 x1 = some z) (sz : Nat) : Met l yX3_kindAt (Cond.code yX3_kindAt cX3_kindAt 2 (some .int) :: gw) ({ frames := 1, cells := 0, slots := 0, locals := 22 }) (xPc E [.ref a0, .int x1] [(a0, o3 T0 a1 u0_8 u0_9 u0_10 u0_11 u0_12 u0_13 u0_14), (a1, ai E 36 V1)] sz) (xQi E z [(a0, o3 T0 a1 u0_8 u0_9 u0_10 u0_11 u0_12 u0_13 u0_14), (a1, ai E 36 V1)] [(a0, o3 T0 a1 u0_8 u0_9 u0_10 u0_11 u0_12 u0_13 u0_14), (a1, ai E 36 V1)] sz) 0 0 (va_A [(a0, o3 T0 a1 u0_8 u0_9 u0_10 u0_11 u0_12 u0_13 u0_14), (a1, ai E 36 V1)] sz) := by
  refine xM_i (by decide +kernel) (Nat.le_of_ble_eq_true rfl) ?_
  intro p e s m args below meth c A Q hx hb hml hown htg hK hG hA ret0 H locs ls hP hD hS hl
  have ret : ∀ (z' : Int32) {H : Heap} {locs : List Loc} {pc : Nat} {ls : Array Slot}, some z' = some z → narrow .int (.int z') = .int z' → va_P E.1 vwCl [(a0, o3 T0 a1 u0_8 u0_9 u0_10 u0_11 u0_12 u0_13 u0_14), (a1, ai E 36 V1)] H → va_S A s.heap H locs → decode cX3_kindAt pc = .ok (.ireturn, 1) → W p l e ({ frames := 1, cells := 0, slots := 0, locals := 22 } : Room) s m args below meth c H locs 0 0 Q (F0 m pc ls [.int z']) := by
    intro z' H locs pc ls h
    cases h
    exact ret0
  replace hl : lv_has ls 2 [(0, .ref a0), (1, .int x1)] := hl
  unfold f_X3_kindAt at hf
  refine lv_iload_n hx hb dX3_kindAt_0 rfl (lv_at hl 1 rfl) ?_
  refine lv_iconst (v := 0) hx hb dX3_kindAt_1 rfl ?_
  refine lv_aload_n hx hb dX3_kindAt_2 rfl (lv_at hl 0 rfl) ?_
  refine G3_15 hx hb htg hown hK hP 0 rfl dX3_kindAt_3 ?_
  refine va_alen (v := 36) hx hb hK hP 1 1 rfl rfl rfl dX3_kindAt_6 ?_
  refine lv_iconst (v := 1) hx hb dX3_kindAt_7 rfl ?_
  refine lv_isub hx hb dX3_kindAt_8 ?_
  obtain ⟨z9, hz9, hf⟩ := bind_s hf
  refine xN_ir hx hb hml hown htg L3_80 19 rfl (c_X11_within l E hz9 _) ⟨⟨rfl, rfl⟩, Nat.le_of_ble_eq_true rfl, Nat.le_of_ble_eq_true rfl⟩ hK hG hA hP hD hS (is := []) rfl rfl rfl hl.1 rfl (Nat.le_of_ble_eq_true rfl) dX3_kindAt_9 (fun H locs hP hD hS => ?_)
  refine lv_if_eq (tgt := 24) hx hb dX3_kindAt_12 (by decide) (fun c12 => ?_) (fun c12 => ?_)
  · have hf := it_t c12 hf
    refine lv_iconst (v := 0) hx hb dX3_kindAt_24 rfl ?_
    exact ret 0 hf nzi hP hS dX3_kindAt_25
  · have hf := it_f c12 hf
    refine lv_aload_n hx hb dX3_kindAt_15 rfl (lv_at hl 0 rfl) ?_
    refine G3_15 hx hb htg hown hK hP 0 rfl dX3_kindAt_16 ?_
    refine lv_iload_n hx hb dX3_kindAt_19 rfl (lv_at hl 1 rfl) ?_
    obtain ⟨g20, hf⟩ := ck_s hf
    refine xiald hx hb hK hP 1 rfl g20 dX3_kindAt_20 ?_
    refine lv_goto (tgt := 25) hx hb dX3_kindAt_21 (by decide) ?_
    exact ret (V1 (Int32.toNatClampNeg x1)) hf nzi hP hS dX3_kindAt_25
theorem dX3_setHeard_0 : decode cX3_setHeard 0 = .ok (.aload_n 0, 1) := by decide +kernel
theorem dX3_setHeard_1 : decode cX3_setHeard 1 = .ok (.iload_n 1, 1) := by decide +kernel
theorem dX3_setHeard_2 : decode cX3_setHeard 2 = .ok (.invokevirtual 88, 3) := by decide +kernel
theorem dX3_setHeard_5 : decode cX3_setHeard 5 = .ok (.ifCond .eq 12, 3) := by decide +kernel
theorem dX3_setHeard_8 : decode cX3_setHeard 8 = .ok (.aload_n 0, 1) := by decide +kernel
theorem dX3_setHeard_9 : decode cX3_setHeard 9 = .ok (.iload_n 1, 1) := by decide +kernel
theorem dX3_setHeard_10 : decode cX3_setHeard 10 = .ok (.invokevirtual 92, 3) := by decide +kernel
theorem dX3_setHeard_13 : decode cX3_setHeard 13 = .ok (.iload_n 2, 1) := by decide +kernel
theorem dX3_setHeard_14 : decode cX3_setHeard 14 = .ok (.if_icmp .ne 5, 3) := by decide +kernel
theorem dX3_setHeard_17 : decode cX3_setHeard 17 = .ok (.iconst 0, 1) := by decide +kernel
theorem dX3_setHeard_18 : decode cX3_setHeard 18 = .ok (.ireturn, 1) := by decide +kernel
theorem dX3_setHeard_19 : decode cX3_setHeard 19 = .ok (.aload_n 0, 1) := by decide +kernel
theorem dX3_setHeard_20 : decode cX3_setHeard 20 = .ok (.dup, 1) := by decide +kernel
theorem dX3_setHeard_21 : decode cX3_setHeard 21 = .ok (.getfield 57, 3) := by decide +kernel
theorem dX3_setHeard_24 : decode cX3_setHeard 24 = .ok (.iconst 1, 1) := by decide +kernel
theorem dX3_setHeard_25 : decode cX3_setHeard 25 = .ok (.iload_n 1, 1) := by decide +kernel
theorem dX3_setHeard_26 : decode cX3_setHeard 26 = .ok (.ishl, 1) := by decide +kernel
theorem dX3_setHeard_27 : decode cX3_setHeard 27 = .ok (.ixor, 1) := by decide +kernel
theorem dX3_setHeard_28 : decode cX3_setHeard 28 = .ok (.putfield 57, 3) := by decide +kernel
theorem dX3_setHeard_31 : decode cX3_setHeard 31 = .ok (.iconst 1, 1) := by decide +kernel
theorem dX3_setHeard_32 : decode cX3_setHeard 32 = .ok (.ireturn, 1) := by decide +kernel
set_option maxRecDepth 100000 in
theorem c_X3_setHeard (l : Launch) (E : xE) (a0 : Nat) {T0 : Nat → Int32} {u0_7 u0_8 u0_9 u0_10 u0_11 u0_12 u0_13 u0_14 : Nat} {x1 : Int32} {x2 : Int32} {z : Int32 × (Nat → Int32)} (hf : f_X3_setHeard T0 x1 x2 = some z) (sz : Nat) : Met l yX3_setHeard (Cond.code yX3_setHeard cX3_setHeard 3 (some .boolean) :: gw) ({ frames := 2, cells := 0, slots := 0, locals := 43 }) (xPc E [.ref a0, .int x1, .int x2] [(a0, o3 T0 u0_7 u0_8 u0_9 u0_10 u0_11 u0_12 u0_13 u0_14)] sz) (xQi E z.1 [(a0, o3 T0 u0_7 u0_8 u0_9 u0_10 u0_11 u0_12 u0_13 u0_14)] [(a0, o3 z.2 u0_7 u0_8 u0_9 u0_10 u0_11 u0_12 u0_13 u0_14)] sz) 0 0 (va_A [(a0, o3 T0 u0_7 u0_8 u0_9 u0_10 u0_11 u0_12 u0_13 u0_14)] sz) := by
  refine xM_i (by decide +kernel) (Nat.le_of_ble_eq_true rfl) ?_
  intro p e s m args below meth c A Q hx hb hml hown htg hK hG hA ret0 H locs ls hP hD hS hl
  have ret : ∀ (z' : Int32 × (Nat → Int32)) {H : Heap} {locs : List Loc} {pc : Nat} {ls : Array Slot}, some z' = some z → narrow .boolean (.int z'.1) = .int z'.1 → va_P E.1 vwCl [(a0, o3 z'.2 u0_7 u0_8 u0_9 u0_10 u0_11 u0_12 u0_13 u0_14)] H → va_S A s.heap H locs → decode cX3_setHeard pc = .ok (.ireturn, 1) → W p l e ({ frames := 2, cells := 0, slots := 0, locals := 43 } : Room) s m args below meth c H locs 0 0 Q (F0 m pc ls [.int z'.1]) := by
    intro z' H locs pc ls h
    cases h
    exact ret0
  replace hl : lv_has ls 3 [(0, .ref a0), (1, .int x1), (2, .int x2)] := hl
  unfold f_X3_setHeard at hf
  refine lv_aload_n hx hb dX3_setHeard_0 rfl (lv_at hl 0 rfl) ?_
  refine lv_iload_n hx hb dX3_setHeard_1 rfl (lv_at hl 1 rfl) ?_
  obtain ⟨z2, hz2, hf⟩ := bind_s hf
  refine xV_ir hx hb hml hown htg L3_88 (c_X3_hasTraveller l E a0 hz2 _) ⟨⟨rfl, rfl⟩, Nat.le_of_ble_eq_true rfl, Nat.le_of_ble_eq_true rfl⟩ hK hG hA hP hD hS (is := [0]) rfl rfl (xrecv hK hP (q0 := 0) (ci := 3) rfl rfl) rfl hl.1 rfl (Nat.le_of_ble_eq_true rfl) dX3_setHeard_2 (fun H locs hP hD hS => ?_)
  refine lv_if_eq (tgt := 17) hx hb dX3_setHeard_5 (by decide) (fun c5 => ?_) (fun c5 => ?_)
  · have hf := it_t c5 hf
    refine lv_iconst (v := 0) hx hb dX3_setHeard_17 rfl ?_
    exact ret (0, T0) hf nz0 hP hS dX3_setHeard_18
  · have hf := it_f c5 hf
    refine lv_aload_n hx hb dX3_setHeard_8 rfl (lv_at hl 0 rfl) ?_
    refine lv_iload_n hx hb dX3_setHeard_9 rfl (lv_at hl 1 rfl) ?_
    obtain ⟨z10, hz10, hf⟩ := bind_s hf
    refine xV_ir hx hb hml hown htg L3_92 (c_X3_isHeard l E a0 hz10 _) ⟨⟨rfl, rfl⟩, Nat.le_of_ble_eq_true rfl, Nat.le_of_ble_eq_true rfl⟩ hK hG hA hP hD hS (is := [0]) rfl rfl (xrecv hK hP (q0 := 0) (ci := 3) rfl rfl) rfl hl.1 rfl (Nat.le_of_ble_eq_true rfl) dX3_setHeard_10 (fun H locs hP hD hS => ?_)
    refine lv_iload_n hx hb dX3_setHeard_13 rfl (lv_at hl 2 rfl) ?_
    refine lv_icmp_ne (tgt := 19) hx hb dX3_setHeard_14 (by decide) (fun c14 => ?_) (fun c14 => ?_)
    · have hf := it_f c14 hf
      refine lv_aload_n hx hb dX3_setHeard_19 rfl (lv_at hl 0 rfl) ?_
      refine lv_dup hx hb dX3_setHeard_20 rfl ?_
      refine G3_57 hx hb htg hown hK hP 0 rfl dX3_setHeard_21 ?_
      refine lv_iconst (v := 1) hx hb dX3_setHeard_24 rfl ?_
      refine lv_iload_n hx hb dX3_setHeard_25 rfl (lv_at hl 1 rfl) ?_
      refine lv_ishl hx hb dX3_setHeard_26 ?_
      refine lv_ixor hx hb dX3_setHeard_27 ?_
      refine P3_57 hx hb htg hown hK hP hD hS 0 rfl dX3_setHeard_28 (fun H locs hP hD hS => ?_)
      refine lv_iconst (v := 1) hx hb dX3_setHeard_31 rfl ?_
      exact ret (1, upd T0 5 ((T0 5) ^^^ (1 <<< (x1 &&& 31)))) hf nz1 hP hS dX3_setHeard_32
    · have hf := it_t c14 hf
      refine lv_iconst (v := 0) hx hb dX3_setHeard_17 rfl ?_
      exact ret (0, T0) hf nz0 hP hS dX3_setHeard_18
theorem dX3_addTraveller_0 : decode cX3_addTraveller 0 = .ok (.aload_n 0, 1) := by decide +kernel
theorem dX3_addTraveller_1 : decode cX3_addTraveller 1 = .ok (.getfield 54, 3) := by decide +kernel
theorem dX3_addTraveller_4 : decode cX3_addTraveller 4 = .ok (.iconst 5, 1) := by decide +kernel
theorem dX3_addTraveller_5 : decode cX3_addTraveller 5 = .ok (.if_icmp .lt 5, 3) := by decide +kernel
theorem dX3_addTraveller_8 : decode cX3_addTraveller 8 = .ok (.iconst 0, 1) := by decide +kernel
theorem dX3_addTraveller_9 : decode cX3_addTraveller 9 = .ok (.ireturn, 1) := by decide +kernel
theorem dX3_addTraveller_10 : decode cX3_addTraveller 10 = .ok (.aload_n 0, 1) := by decide +kernel
theorem dX3_addTraveller_11 : decode cX3_addTraveller 11 = .ok (.getfield 22, 3) := by decide +kernel
theorem dX3_addTraveller_14 : decode cX3_addTraveller 14 = .ok (.aload_n 0, 1) := by decide +kernel
theorem dX3_addTraveller_15 : decode cX3_addTraveller 15 = .ok (.getfield 54, 3) := by decide +kernel
theorem dX3_addTraveller_18 : decode cX3_addTraveller 18 = .ok (.lload_n 1, 1) := by decide +kernel
theorem dX3_addTraveller_19 : decode cX3_addTraveller 19 = .ok (.lastore, 1) := by decide +kernel
theorem dX3_addTraveller_20 : decode cX3_addTraveller 20 = .ok (.aload_n 0, 1) := by decide +kernel
theorem dX3_addTraveller_21 : decode cX3_addTraveller 21 = .ok (.getfield 19, 3) := by decide +kernel
theorem dX3_addTraveller_24 : decode cX3_addTraveller 24 = .ok (.aload_n 0, 1) := by decide +kernel
theorem dX3_addTraveller_25 : decode cX3_addTraveller 25 = .ok (.getfield 54, 3) := by decide +kernel
theorem dX3_addTraveller_28 : decode cX3_addTraveller 28 = .ok (.iload_n 3, 1) := by decide +kernel
theorem dX3_addTraveller_29 : decode cX3_addTraveller 29 = .ok (.iastore, 1) := by decide +kernel
theorem dX3_addTraveller_30 : decode cX3_addTraveller 30 = .ok (.iload 4, 2) := by decide +kernel
theorem dX3_addTraveller_32 : decode cX3_addTraveller 32 = .ok (.ifCond .eq 18, 3) := by decide +kernel
theorem dX3_addTraveller_35 : decode cX3_addTraveller 35 = .ok (.aload_n 0, 1) := by decide +kernel
theorem dX3_addTraveller_36 : decode cX3_addTraveller 36 = .ok (.dup, 1) := by decide +kernel
theorem dX3_addTraveller_37 : decode cX3_addTraveller 37 = .ok (.getfield 57, 3) := by decide +kernel
theorem dX3_addTraveller_40 : decode cX3_addTraveller 40 = .ok (.iconst 1, 1) := by decide +kernel
theorem dX3_addTraveller_41 : decode cX3_addTraveller 41 = .ok (.aload_n 0, 1) := by decide +kernel
theorem dX3_addTraveller_42 : decode cX3_addTraveller 42 = .ok (.getfield 54, 3) := by decide +kernel
theorem dX3_addTraveller_45 : decode cX3_addTraveller 45 = .ok (.ishl, 1) := by decide +kernel
theorem dX3_addTraveller_46 : decode cX3_addTraveller 46 = .ok (.ior, 1) := by decide +kernel
theorem dX3_addTraveller_47 : decode cX3_addTraveller 47 = .ok (.putfield 57, 3) := by decide +kernel
theorem dX3_addTraveller_50 : decode cX3_addTraveller 50 = .ok (.aload_n 0, 1) := by decide +kernel
theorem dX3_addTraveller_51 : decode cX3_addTraveller 51 = .ok (.dup, 1) := by decide +kernel
theorem dX3_addTraveller_52 : decode cX3_addTraveller 52 = .ok (.getfield 54, 3) := by decide +kernel
theorem dX3_addTraveller_55 : decode cX3_addTraveller 55 = .ok (.iconst 1, 1) := by decide +kernel
theorem dX3_addTraveller_56 : decode cX3_addTraveller 56 = .ok (.iadd, 1) := by decide +kernel
theorem dX3_addTraveller_57 : decode cX3_addTraveller 57 = .ok (.putfield 54, 3) := by decide +kernel
theorem dX3_addTraveller_60 : decode cX3_addTraveller 60 = .ok (.iconst 1, 1) := by decide +kernel
theorem dX3_addTraveller_61 : decode cX3_addTraveller 61 = .ok (.ireturn, 1) := by decide +kernel
set_option maxRecDepth 100000 in
theorem c_X3_addTraveller (l : Launch) (E : xE) (a0 a1 a2 : Nat) {T0 : Nat → Int32} {V1 : Nat → Int64} {V2 : Nat → Int32} {u0_7 u0_10 u0_11 u0_12 u0_13 u0_14 : Nat} {x1 : Int64} {x3 : Int32} {x4 : Int32} {z : Int32 × (Nat → Int32) × (Nat → Int64) × (Nat → Int32)} (hf : f_X3_addTraveller T0 V1 V2 x1 x3 x4 = some z) (sz : Nat) : Met l yX3_addTraveller (Cond.code yX3_addTraveller cX3_addTraveller 5 (some .boolean) :: gw) ({ frames := 0, cells := 0, slots := 0, locals := 0 }) (xPc E [.ref a0, .long x1, .int x3, .int x4] [(a0, o3 T0 u0_7 a2 a1 u0_10 u0_11 u0_12 u0_13 u0_14), (a1, al E 5 V1), (a2, ai E 5 V2)] sz) (xQi E z.1 [(a0, o3 T0 u0_7 a2 a1 u0_10 u0_11 u0_12 u0_13 u0_14), (a1, al E 5 V1), (a2, ai E 5 V2)] [(a0, o3 z.2.1 u0_7 a2 a1 u0_10 u0_11 u0_12 u0_13 u0_14), (a1, al E 5 z.2.2.1), (a2, ai E 5 z.2.2.2)] sz) 0 0 (va_A [(a0, o3 T0 u0_7 a2 a1 u0_10 u0_11 u0_12 u0_13 u0_14), (a1, al E 5 V1), (a2, ai E 5 V2)] sz) := by
  refine xM_i (by decide +kernel) (Nat.le_of_ble_eq_true rfl) ?_
  intro p e s m args below meth c A Q hx hb hml hown htg hK hG hA ret0 H locs ls hP hD hS hl
  have ret : ∀ (z' : Int32 × (Nat → Int32) × (Nat → Int64) × (Nat → Int32)) {H : Heap} {locs : List Loc} {pc : Nat} {ls : Array Slot}, some z' = some z → narrow .boolean (.int z'.1) = .int z'.1 → va_P E.1 vwCl [(a0, o3 z'.2.1 u0_7 a2 a1 u0_10 u0_11 u0_12 u0_13 u0_14), (a1, al E 5 z'.2.2.1), (a2, ai E 5 z'.2.2.2)] H → va_S A s.heap H locs → decode cX3_addTraveller pc = .ok (.ireturn, 1) → W p l e ({ frames := 0, cells := 0, slots := 0, locals := 0 } : Room) s m args below meth c H locs 0 0 Q (F0 m pc ls [.int z'.1]) := by
    intro z' H locs pc ls h
    cases h
    exact ret0
  replace hl : lv_has ls 5 [(0, .ref a0), (1, .long x1), (3, .int x3), (4, .int x4)] := hl
  have b50 : ∀ (T0 : Nat → Int32) (V1 : Nat → Int64) (V2 : Nat → Int32) (H : Heap) (locs : List Loc) (ls : Array Slot), f_X3_addTraveller_50 x1 x3 x4 T0 V1 V2 = some z → va_P E.1 vwCl [(a0, o3 T0 u0_7 a2 a1 u0_10 u0_11 u0_12 u0_13 u0_14), (a1, al E 5 V1), (a2, ai E 5 V2)] H → va_D A [(a0, o3 T0 u0_7 a2 a1 u0_10 u0_11 u0_12 u0_13 u0_14), (a1, al E 5 V1), (a2, ai E 5 V2)] → va_S A s.heap H locs → lv_has ls 5 [(0, .ref a0)] → W p l e ({ frames := 0, cells := 0, slots := 0, locals := 0 } : Room) s m args below meth c H locs 0 0 Q (F0 m 50 ls []) := by
    intro T0 V1 V2 H locs ls hf hP hD hS hl
    unfold f_X3_addTraveller_50 at hf
    refine lv_aload_n hx hb dX3_addTraveller_50 rfl (lv_at hl 0 rfl) ?_
    refine lv_dup hx hb dX3_addTraveller_51 rfl ?_
    refine G3_54 hx hb htg hown hK hP 0 rfl dX3_addTraveller_52 ?_
    refine lv_iconst (v := 1) hx hb dX3_addTraveller_55 rfl ?_
    refine lv_iadd hx hb dX3_addTraveller_56 ?_
    refine P3_54 hx hb htg hown hK hP hD hS 0 rfl dX3_addTraveller_57 (fun H locs hP hD hS => ?_)
    refine lv_iconst (v := 1) hx hb dX3_addTraveller_60 rfl ?_
    exact ret (1, upd T0 4 ((T0 4) + 1), V1, V2) hf nz1 hP hS dX3_addTraveller_61
  unfold f_X3_addTraveller at hf
  refine lv_aload_n hx hb dX3_addTraveller_0 rfl (lv_at hl 0 rfl) ?_
  refine G3_54 hx hb htg hown hK hP 0 rfl dX3_addTraveller_1 ?_
  refine lv_iconst (v := 5) hx hb dX3_addTraveller_4 rfl ?_
  refine lv_icmp_lt (tgt := 10) hx hb dX3_addTraveller_5 (by decide) (fun c5 => ?_) (fun c5 => ?_)
  · have hf := it_t c5 hf
    refine lv_aload_n hx hb dX3_addTraveller_10 rfl (lv_at hl 0 rfl) ?_
    refine G3_22 hx hb htg hown hK hP 0 rfl dX3_addTraveller_11 ?_
    refine lv_aload_n hx hb dX3_addTraveller_14 rfl (lv_at hl 0 rfl) ?_
    refine G3_54 hx hb htg hown hK hP 0 rfl dX3_addTraveller_15 ?_
    refine lv_lload_n hx hb dX3_addTraveller_18 rfl (lv_at hl 1 rfl) ?_
    obtain ⟨g19, hf⟩ := ck_s hf
    refine xlast hx hb hK hP hD hS 1 rfl g19 dX3_addTraveller_19 (fun H locs hP hD hS => ?_)
    refine lv_aload_n hx hb dX3_addTraveller_20 rfl (lv_at hl 0 rfl) ?_
    refine G3_19 hx hb htg hown hK hP 0 rfl dX3_addTraveller_21 ?_
    refine lv_aload_n hx hb dX3_addTraveller_24 rfl (lv_at hl 0 rfl) ?_
    refine G3_54 hx hb htg hown hK hP 0 rfl dX3_addTraveller_25 ?_
    refine lv_iload_n hx hb dX3_addTraveller_28 rfl (lv_at hl 2 rfl) ?_
    obtain ⟨g29, hf⟩ := ck_s hf
    refine xiast hx hb hK hP hD hS 2 rfl g29 dX3_addTraveller_29 (fun H locs hP hD hS => ?_)
    refine lv_iload hx hb dX3_addTraveller_30 (lv_at hl 3 rfl) ?_
    refine lv_if_eq (tgt := 50) hx hb dX3_addTraveller_32 (by decide) (fun c32 => ?_) (fun c32 => ?_)
    · have hf := it_t c32 hf
      exact b50 T0 (vp_updL V1 (Int32.toNatClampNeg (T0 4)) x1) (upd V2 (Int32.toNatClampNeg (T0 4)) x3) _ _ _ hf hP hD hS (lv_sub hl [0] rfl)
    · have hf := it_f c32 hf
      refine lv_aload_n hx hb dX3_addTraveller_35 rfl (lv_at hl 0 rfl) ?_
      refine lv_dup hx hb dX3_addTraveller_36 rfl ?_
      refine G3_57 hx hb htg hown hK hP 0 rfl dX3_addTraveller_37 ?_
      refine lv_iconst (v := 1) hx hb dX3_addTraveller_40 rfl ?_
      refine lv_aload_n hx hb dX3_addTraveller_41 rfl (lv_at hl 0 rfl) ?_
      refine G3_54 hx hb htg hown hK hP 0 rfl dX3_addTraveller_42 ?_
      refine lv_ishl hx hb dX3_addTraveller_45 ?_
      refine lv_ior hx hb dX3_addTraveller_46 ?_
      refine P3_57 hx hb htg hown hK hP hD hS 0 rfl dX3_addTraveller_47 (fun H locs hP hD hS => ?_)
      exact b50 (upd T0 5 ((T0 5) ||| (1 <<< ((T0 4) &&& 31)))) (vp_updL V1 (Int32.toNatClampNeg (T0 4)) x1) (upd V2 (Int32.toNatClampNeg (T0 4)) x3) _ _ _ hf hP hD hS (lv_sub hl [0] rfl)
  · have hf := it_f c5 hf
    refine lv_iconst (v := 0) hx hb dX3_addTraveller_8 rfl ?_
    exact ret (0, T0, V1, V2) hf nz0 hP hS dX3_addTraveller_9
theorem dX3_travellerNamed_0 : decode cX3_travellerNamed 0 = .ok (.iconst 0, 1) := by decide +kernel
theorem dX3_travellerNamed_1 : decode cX3_travellerNamed 1 = .ok (.istore_n 3, 1) := by decide +kernel
theorem dX3_travellerNamed_2 : decode cX3_travellerNamed 2 = .ok (.iload_n 3, 1) := by decide +kernel
theorem dX3_travellerNamed_3 : decode cX3_travellerNamed 3 = .ok (.aload_n 0, 1) := by decide +kernel
theorem dX3_travellerNamed_4 : decode cX3_travellerNamed 4 = .ok (.getfield 54, 3) := by decide +kernel
theorem dX3_travellerNamed_7 : decode cX3_travellerNamed 7 = .ok (.if_icmp .ge 28, 3) := by decide +kernel
theorem dX3_travellerNamed_10 : decode cX3_travellerNamed 10 = .ok (.aload_n 0, 1) := by decide +kernel
theorem dX3_travellerNamed_11 : decode cX3_travellerNamed 11 = .ok (.getfield 22, 3) := by decide +kernel
theorem dX3_travellerNamed_14 : decode cX3_travellerNamed 14 = .ok (.iload_n 3, 1) := by decide +kernel
theorem dX3_travellerNamed_15 : decode cX3_travellerNamed 15 = .ok (.laload, 1) := by decide +kernel
theorem dX3_travellerNamed_16 : decode cX3_travellerNamed 16 = .ok (.lload_n 1, 1) := by decide +kernel
theorem dX3_travellerNamed_17 : decode cX3_travellerNamed 17 = .ok (.lcmp, 1) := by decide +kernel
theorem dX3_travellerNamed_18 : decode cX3_travellerNamed 18 = .ok (.ifCond .ne 11, 3) := by decide +kernel
theorem dX3_travellerNamed_21 : decode cX3_travellerNamed 21 = .ok (.lload_n 1, 1) := by decide +kernel
theorem dX3_travellerNamed_22 : decode cX3_travellerNamed 22 = .ok (.lconst 0, 1) := by decide +kernel
theorem dX3_travellerNamed_23 : decode cX3_travellerNamed 23 = .ok (.lcmp, 1) := by decide +kernel
theorem dX3_travellerNamed_24 : decode cX3_travellerNamed 24 = .ok (.ifCond .eq 5, 3) := by decide +kernel
theorem dX3_travellerNamed_27 : decode cX3_travellerNamed 27 = .ok (.iload_n 3, 1) := by decide +kernel
theorem dX3_travellerNamed_28 : decode cX3_travellerNamed 28 = .ok (.ireturn, 1) := by decide +kernel
theorem dX3_travellerNamed_29 : decode cX3_travellerNamed 29 = .ok (.iinc 3 1, 3) := by decide +kernel
theorem dX3_travellerNamed_32 : decode cX3_travellerNamed 32 = .ok (.goto (-30), 3) := by decide +kernel
theorem dX3_travellerNamed_35 : decode cX3_travellerNamed 35 = .ok (.iconst (-1), 1) := by decide +kernel
theorem dX3_travellerNamed_36 : decode cX3_travellerNamed 36 = .ok (.ireturn, 1) := by decide +kernel
set_option maxRecDepth 100000 in
theorem c_X3_travellerNamed (l : Launch) (E : xE) (a0 a1 : Nat) {T0 : Nat → Int32} {V1 : Nat → Int64} {u0_7 u0_8 u0_10 u0_11 u0_12 u0_13 u0_14 : Nat} {x1 : Int64} {z : Int32} (hf : f_X3_travellerNamed T0 V1 x1 = some z) (sz : Nat) : Met l yX3_travellerNamed (Cond.code yX3_travellerNamed cX3_travellerNamed 4 (some .int) :: gw) ({ frames := 0, cells := 0, slots := 0, locals := 0 }) (xPc E [.ref a0, .long x1] [(a0, o3 T0 u0_7 u0_8 a1 u0_10 u0_11 u0_12 u0_13 u0_14), (a1, al E 5 V1)] sz) (xQi E z [(a0, o3 T0 u0_7 u0_8 a1 u0_10 u0_11 u0_12 u0_13 u0_14), (a1, al E 5 V1)] [(a0, o3 T0 u0_7 u0_8 a1 u0_10 u0_11 u0_12 u0_13 u0_14), (a1, al E 5 V1)] sz) 0 0 (va_A [(a0, o3 T0 u0_7 u0_8 a1 u0_10 u0_11 u0_12 u0_13 u0_14), (a1, al E 5 V1)] sz) := by
  refine xM_i (by decide +kernel) (Nat.le_of_ble_eq_true rfl) ?_
  intro p e s m args below meth c A Q hx hb hml hown htg hK hG hA ret0 H locs ls hP hD hS hl
  have ret : ∀ (z' : Int32) {H : Heap} {locs : List Loc} {pc : Nat} {ls : Array Slot}, some z' = some z → narrow .int (.int z') = .int z' → va_P E.1 vwCl [(a0, o3 T0 u0_7 u0_8 a1 u0_10 u0_11 u0_12 u0_13 u0_14), (a1, al E 5 V1)] H → va_S A s.heap H locs → decode cX3_travellerNamed pc = .ok (.ireturn, 1) → W p l e ({ frames := 0, cells := 0, slots := 0, locals := 0 } : Room) s m args below meth c H locs 0 0 Q (F0 m pc ls [.int z']) := by
    intro z' H locs pc ls h
    cases h
    exact ret0
  replace hl : lv_has ls 4 [(0, .ref a0), (1, .long x1)] := hl
  have b2 : ∀ (n : Nat) (x3 : Int32) (H : Heap) (locs : List Loc) (ls : Array Slot), f_X3_travellerNamed_2 T0 V1 x1 n x3 = some z → va_P E.1 vwCl [(a0, o3 T0 u0_7 u0_8 a1 u0_10 u0_11 u0_12 u0_13 u0_14), (a1, al E 5 V1)] H → va_D A [(a0, o3 T0 u0_7 u0_8 a1 u0_10 u0_11 u0_12 u0_13 u0_14), (a1, al E 5 V1)] → va_S A s.heap H locs → lv_has ls 4 [(0, .ref a0), (1, .long x1), (3, .int x3)] → W p l e ({ frames := 0, cells := 0, slots := 0, locals := 0 } : Room) s m args below meth c H locs 0 0 Q (F0 m 2 ls []) := by
    intro n
    induction n with
    | zero => intro x3 H locs ls hf; exact (nn_s hf).elim
    | succ n ih2 =>
      obtain ⟨k2, ek2⟩ : ∃ k, k = f_X3_travellerNamed_2 T0 V1 x1 n := ⟨_, rfl⟩
      rw [← ek2] at ih2
      intro x3 H locs ls hf hP hD hS hl
      replace hf : g_X3_travellerNamed_2 T0 V1 x1 k2 x3 = some z := by rw [ek2]; exact hf
      unfold g_X3_travellerNamed_2 at hf
      refine lv_iload_n hx hb dX3_travellerNamed_2 rfl (lv_at hl 2 rfl) ?_
      refine lv_aload_n hx hb dX3_travellerNamed_3 rfl (lv_at hl 0 rfl) ?_
      refine G3_54 hx hb htg hown hK hP 0 rfl dX3_travellerNamed_4 ?_
      refine lv_icmp_ge (tgt := 35) hx hb dX3_travellerNamed_7 (by decide) (fun c7 => ?_) (fun c7 => ?_)
      · have hf := it_t c7 hf
        refine lv_iconst (v := (-1)) hx hb dX3_travellerNamed_35 rfl ?_
        exact ret (-1) hf nzi hP hS dX3_travellerNamed_36
      · have hf := it_f c7 hf
        refine lv_aload_n hx hb dX3_travellerNamed_10 rfl (lv_at hl 0 rfl) ?_
        refine G3_22 hx hb htg hown hK hP 0 rfl dX3_travellerNamed_11 ?_
        refine lv_iload_n hx hb dX3_travellerNamed_14 rfl (lv_at hl 2 rfl) ?_
        obtain ⟨g15, hf⟩ := ck_s hf
        refine xlald hx hb hK hP 1 rfl g15 dX3_travellerNamed_15 ?_
        refine lv_lload_n hx hb dX3_travellerNamed_16 rfl (lv_at hl 1 rfl) ?_
        refine W.lcmp hx hb dX3_travellerNamed_17 ?_
        refine lv_if_ne (tgt := 29) hx hb dX3_travellerNamed_18 (by decide) (fun c18 => ?_) (fun c18 => ?_)
        · have hf := it_f c18 hf
          refine lv_iinc (v := x3 + 1) (lv' := [(3, .int (x3 + 1)), (0, .ref a0), (1, .long x1)]) hx hb dX3_travellerNamed_29 hl (k := 2) rfl rfl (by decide) rfl (fun ls hl => ?_)
          refine lv_goto (tgt := 2) hx hb dX3_travellerNamed_32 (by decide) ?_
          exact ih2 (x3 + 1) _ _ _ hf hP hD hS (lv_sub hl [1, 2, 0] rfl)
        · have hf := it_t c18 hf
          refine lv_lload_n hx hb dX3_travellerNamed_21 rfl (lv_at hl 1 rfl) ?_
          refine lv_lconst (v := 0) hx hb dX3_travellerNamed_22 rfl ?_
          refine W.lcmp hx hb dX3_travellerNamed_23 ?_
          refine lv_if_eq (tgt := 29) hx hb dX3_travellerNamed_24 (by decide) (fun c24 => ?_) (fun c24 => ?_)
          · have hf := it_t c24 hf
            refine lv_iinc (v := x3 + 1) (lv' := [(3, .int (x3 + 1)), (0, .ref a0), (1, .long x1)]) hx hb dX3_travellerNamed_29 hl (k := 2) rfl rfl (by decide) rfl (fun ls hl => ?_)
            refine lv_goto (tgt := 2) hx hb dX3_travellerNamed_32 (by decide) ?_
            exact ih2 (x3 + 1) _ _ _ hf hP hD hS (lv_sub hl [1, 2, 0] rfl)
          · have hf := it_f c24 hf
            refine lv_iload_n hx hb dX3_travellerNamed_27 rfl (lv_at hl 2 rfl) ?_
            exact ret x3 hf nzi hP hS dX3_travellerNamed_28
  unfold f_X3_travellerNamed at hf
  refine lv_iconst (v := 0) hx hb dX3_travellerNamed_0 rfl ?_
  refine lv_istore_n (lv' := [(3, .int 0), (0, .ref a0), (1, .long x1)]) hx hb dX3_travellerNamed_1 rfl hl (by decide) rfl (fun ls hl => ?_)
  exact b2 xF 0 _ _ _ hf hP hD hS (lv_sub hl [1, 2, 0] rfl)
theorem dX3_tellingsOf_0 : decode cX3_tellingsOf 0 = .ok (.iconst 0, 1) := by decide +kernel
theorem dX3_tellingsOf_1 : decode cX3_tellingsOf 1 = .ok (.istore_n 2, 1) := by decide +kernel
theorem dX3_tellingsOf_2 : decode cX3_tellingsOf 2 = .ok (.iconst 0, 1) := by decide +kernel
theorem dX3_tellingsOf_3 : decode cX3_tellingsOf 3 = .ok (.istore_n 3, 1) := by decide +kernel
theorem dX3_tellingsOf_4 : decode cX3_tellingsOf 4 = .ok (.iload_n 3, 1) := by decide +kernel
theorem dX3_tellingsOf_5 : decode cX3_tellingsOf 5 = .ok (.aload_n 0, 1) := by decide +kernel
theorem dX3_tellingsOf_6 : decode cX3_tellingsOf 6 = .ok (.getfield 60, 3) := by decide +kernel
theorem dX3_tellingsOf_9 : decode cX3_tellingsOf 9 = .ok (.if_icmp .ge 27, 3) := by decide +kernel
theorem dX3_tellingsOf_12 : decode cX3_tellingsOf 12 = .ok (.iload_n 2, 1) := by decide +kernel
theorem dX3_tellingsOf_13 : decode cX3_tellingsOf 13 = .ok (.aload_n 0, 1) := by decide +kernel
theorem dX3_tellingsOf_14 : decode cX3_tellingsOf 14 = .ok (.getfield 29, 3) := by decide +kernel
theorem dX3_tellingsOf_17 : decode cX3_tellingsOf 17 = .ok (.iload_n 3, 1) := by decide +kernel
theorem dX3_tellingsOf_18 : decode cX3_tellingsOf 18 = .ok (.iaload, 1) := by decide +kernel
theorem dX3_tellingsOf_19 : decode cX3_tellingsOf 19 = .ok (.iload_n 1, 1) := by decide +kernel
theorem dX3_tellingsOf_20 : decode cX3_tellingsOf 20 = .ok (.if_icmp .ne 7, 3) := by decide +kernel
theorem dX3_tellingsOf_23 : decode cX3_tellingsOf 23 = .ok (.iconst 1, 1) := by decide +kernel
theorem dX3_tellingsOf_24 : decode cX3_tellingsOf 24 = .ok (.goto 4, 3) := by decide +kernel
theorem dX3_tellingsOf_27 : decode cX3_tellingsOf 27 = .ok (.iconst 0, 1) := by decide +kernel
theorem dX3_tellingsOf_28 : decode cX3_tellingsOf 28 = .ok (.iadd, 1) := by decide +kernel
theorem dX3_tellingsOf_29 : decode cX3_tellingsOf 29 = .ok (.istore_n 2, 1) := by decide +kernel
theorem dX3_tellingsOf_30 : decode cX3_tellingsOf 30 = .ok (.iinc 3 1, 3) := by decide +kernel
theorem dX3_tellingsOf_33 : decode cX3_tellingsOf 33 = .ok (.goto (-29), 3) := by decide +kernel
theorem dX3_tellingsOf_36 : decode cX3_tellingsOf 36 = .ok (.iload_n 2, 1) := by decide +kernel
theorem dX3_tellingsOf_37 : decode cX3_tellingsOf 37 = .ok (.ireturn, 1) := by decide +kernel
set_option maxRecDepth 100000 in
theorem c_X3_tellingsOf (l : Launch) (E : xE) (a0 a1 : Nat) {T0 : Nat → Int32} {V1 : Nat → Int32} {u0_7 u0_8 u0_9 u0_10 u0_12 u0_13 u0_14 : Nat} {x1 : Int32} {z : Int32} (hf : f_X3_tellingsOf T0 V1 x1 = some z) (sz : Nat) : Met l yX3_tellingsOf (Cond.code yX3_tellingsOf cX3_tellingsOf 4 (some .int) :: gw) ({ frames := 0, cells := 0, slots := 0, locals := 0 }) (xPc E [.ref a0, .int x1] [(a0, o3 T0 u0_7 u0_8 u0_9 u0_10 a1 u0_12 u0_13 u0_14), (a1, ai E 12 V1)] sz) (xQi E z [(a0, o3 T0 u0_7 u0_8 u0_9 u0_10 a1 u0_12 u0_13 u0_14), (a1, ai E 12 V1)] [(a0, o3 T0 u0_7 u0_8 u0_9 u0_10 a1 u0_12 u0_13 u0_14), (a1, ai E 12 V1)] sz) 0 0 (va_A [(a0, o3 T0 u0_7 u0_8 u0_9 u0_10 a1 u0_12 u0_13 u0_14), (a1, ai E 12 V1)] sz) := by
  refine xM_i (by decide +kernel) (Nat.le_of_ble_eq_true rfl) ?_
  intro p e s m args below meth c A Q hx hb hml hown htg hK hG hA ret0 H locs ls hP hD hS hl
  have ret : ∀ (z' : Int32) {H : Heap} {locs : List Loc} {pc : Nat} {ls : Array Slot}, some z' = some z → narrow .int (.int z') = .int z' → va_P E.1 vwCl [(a0, o3 T0 u0_7 u0_8 u0_9 u0_10 a1 u0_12 u0_13 u0_14), (a1, ai E 12 V1)] H → va_S A s.heap H locs → decode cX3_tellingsOf pc = .ok (.ireturn, 1) → W p l e ({ frames := 0, cells := 0, slots := 0, locals := 0 } : Room) s m args below meth c H locs 0 0 Q (F0 m pc ls [.int z']) := by
    intro z' H locs pc ls h
    cases h
    exact ret0
  replace hl : lv_has ls 4 [(0, .ref a0), (1, .int x1)] := hl
  have b4 : ∀ (n : Nat) (x2 : Int32) (x3 : Int32) (H : Heap) (locs : List Loc) (ls : Array Slot), f_X3_tellingsOf_4 T0 V1 x1 n x2 x3 = some z → va_P E.1 vwCl [(a0, o3 T0 u0_7 u0_8 u0_9 u0_10 a1 u0_12 u0_13 u0_14), (a1, ai E 12 V1)] H → va_D A [(a0, o3 T0 u0_7 u0_8 u0_9 u0_10 a1 u0_12 u0_13 u0_14), (a1, ai E 12 V1)] → va_S A s.heap H locs → lv_has ls 4 [(0, .ref a0), (1, .int x1), (2, .int x2), (3, .int x3)] → W p l e ({ frames := 0, cells := 0, slots := 0, locals := 0 } : Room) s m args below meth c H locs 0 0 Q (F0 m 4 ls []) := by
    intro n
    induction n with
    | zero => intro x2 x3 H locs ls hf; exact (nn_s hf).elim
    | succ n ih4 =>
      obtain ⟨k4, ek4⟩ : ∃ k, k = f_X3_tellingsOf_4 T0 V1 x1 n := ⟨_, rfl⟩
      rw [← ek4] at ih4
      have b28 : ∀ (x3 : Int32) (s0 : Int32) (s1 : Int32) (H : Heap) (locs : List Loc) (ls : Array Slot), f_X3_tellingsOf_28 T0 V1 x1 k4 x3 s0 s1 = some z → va_P E.1 vwCl [(a0, o3 T0 u0_7 u0_8 u0_9 u0_10 a1 u0_12 u0_13 u0_14), (a1, ai E 12 V1)] H → va_D A [(a0, o3 T0 u0_7 u0_8 u0_9 u0_10 a1 u0_12 u0_13 u0_14), (a1, ai E 12 V1)] → va_S A s.heap H locs → lv_has ls 4 [(0, .ref a0), (1, .int x1), (3, .int x3)] → W p l e ({ frames := 0, cells := 0, slots := 0, locals := 0 } : Room) s m args below meth c H locs 0 0 Q (F0 m 28 ls [.int s1, .int s0]) := by
        intro x3 s0 s1 H locs ls hf hP hD hS hl
        unfold f_X3_tellingsOf_28 at hf
        refine lv_iadd hx hb dX3_tellingsOf_28 ?_
        refine lv_istore_n (lv' := [(2, .int (s0 + s1)), (0, .ref a0), (1, .int x1), (3, .int x3)]) hx hb dX3_tellingsOf_29 rfl hl (by decide) rfl (fun ls hl => ?_)
        refine lv_iinc (v := x3 + 1) (lv' := [(3, .int (x3 + 1)), (2, .int (s0 + s1)), (0, .ref a0), (1, .int x1)]) hx hb dX3_tellingsOf_30 hl (k := 3) rfl rfl (by decide) rfl (fun ls hl => ?_)
        refine lv_goto (tgt := 4) hx hb dX3_tellingsOf_33 (by decide) ?_
        exact ih4 (s0 + s1) (x3 + 1) _ _ _ hf hP hD hS (lv_sub hl [2, 3, 1, 0] rfl)
      intro x2 x3 H locs ls hf hP hD hS hl
      replace hf : g_X3_tellingsOf_4 T0 V1 x1 k4 x2 x3 = some z := by rw [ek4]; exact hf
      unfold g_X3_tellingsOf_4 at hf
      refine lv_iload_n hx hb dX3_tellingsOf_4 rfl (lv_at hl 3 rfl) ?_
      refine lv_aload_n hx hb dX3_tellingsOf_5 rfl (lv_at hl 0 rfl) ?_
      refine G3_60 hx hb htg hown hK hP 0 rfl dX3_tellingsOf_6 ?_
      refine lv_icmp_ge (tgt := 36) hx hb dX3_tellingsOf_9 (by decide) (fun c9 => ?_) (fun c9 => ?_)
      · have hf := it_t c9 hf
        refine lv_iload_n hx hb dX3_tellingsOf_36 rfl (lv_at hl 2 rfl) ?_
        exact ret x2 hf nzi hP hS dX3_tellingsOf_37
      · have hf := it_f c9 hf
        refine lv_iload_n hx hb dX3_tellingsOf_12 rfl (lv_at hl 2 rfl) ?_
        refine lv_aload_n hx hb dX3_tellingsOf_13 rfl (lv_at hl 0 rfl) ?_
        refine G3_29 hx hb htg hown hK hP 0 rfl dX3_tellingsOf_14 ?_
        refine lv_iload_n hx hb dX3_tellingsOf_17 rfl (lv_at hl 3 rfl) ?_
        obtain ⟨g18, hf⟩ := ck_s hf
        refine xiald hx hb hK hP 1 rfl g18 dX3_tellingsOf_18 ?_
        refine lv_iload_n hx hb dX3_tellingsOf_19 rfl (lv_at hl 1 rfl) ?_
        refine lv_icmp_ne (tgt := 27) hx hb dX3_tellingsOf_20 (by decide) (fun c20 => ?_) (fun c20 => ?_)
        · have hf := it_f c20 hf
          refine lv_iconst (v := 0) hx hb dX3_tellingsOf_27 rfl ?_
          exact b28 x3 x2 0 _ _ _ hf hP hD hS (lv_sub hl [0, 1, 3] rfl)
        · have hf := it_t c20 hf
          refine lv_iconst (v := 1) hx hb dX3_tellingsOf_23 rfl ?_
          refine lv_goto (tgt := 28) hx hb dX3_tellingsOf_24 (by decide) ?_
          exact b28 x3 x2 1 _ _ _ hf hP hD hS (lv_sub hl [0, 1, 3] rfl)
  unfold f_X3_tellingsOf at hf
  refine lv_iconst (v := 0) hx hb dX3_tellingsOf_0 rfl ?_
  refine lv_istore_n (lv' := [(2, .int 0), (0, .ref a0), (1, .int x1)]) hx hb dX3_tellingsOf_1 rfl hl (by decide) rfl (fun ls hl => ?_)
  refine lv_iconst (v := 0) hx hb dX3_tellingsOf_2 rfl ?_
  refine lv_istore_n (lv' := [(3, .int 0), (2, .int 0), (0, .ref a0), (1, .int x1)]) hx hb dX3_tellingsOf_3 rfl hl (by decide) rfl (fun ls hl => ?_)
  exact b4 xF 0 0 _ _ _ hf hP hD hS (lv_sub hl [2, 3, 1, 0] rfl)
theorem dX3_addTelling_0 : decode cX3_addTelling 0 = .ok (.aload_n 0, 1) := by decide +kernel
theorem dX3_addTelling_1 : decode cX3_addTelling 1 = .ok (.getfield 60, 3) := by decide +kernel
theorem dX3_addTelling_4 : decode cX3_addTelling 4 = .ok (.bipush 12, 2) := by decide +kernel
theorem dX3_addTelling_6 : decode cX3_addTelling 6 = .ok (.if_icmp .ge 12, 3) := by decide +kernel
theorem dX3_addTelling_9 : decode cX3_addTelling 9 = .ok (.aload_n 0, 1) := by decide +kernel
theorem dX3_addTelling_10 : decode cX3_addTelling 10 = .ok (.iload_n 2, 1) := by decide +kernel
theorem dX3_addTelling_11 : decode cX3_addTelling 11 = .ok (.invokevirtual 95, 3) := by decide +kernel
theorem dX3_addTelling_14 : decode cX3_addTelling 14 = .ok (.iconst 5, 1) := by decide +kernel
theorem dX3_addTelling_15 : decode cX3_addTelling 15 = .ok (.if_icmp .lt 5, 3) := by decide +kernel
theorem dX3_addTelling_18 : decode cX3_addTelling 18 = .ok (.iconst 0, 1) := by decide +kernel
theorem dX3_addTelling_19 : decode cX3_addTelling 19 = .ok (.ireturn, 1) := by decide +kernel
theorem dX3_addTelling_20 : decode cX3_addTelling 20 = .ok (.aload_n 0, 1) := by decide +kernel
theorem dX3_addTelling_21 : decode cX3_addTelling 21 = .ok (.getfield 26, 3) := by decide +kernel
theorem dX3_addTelling_24 : decode cX3_addTelling 24 = .ok (.aload_n 0, 1) := by decide +kernel
theorem dX3_addTelling_25 : decode cX3_addTelling 25 = .ok (.getfield 60, 3) := by decide +kernel
theorem dX3_addTelling_28 : decode cX3_addTelling 28 = .ok (.iload_n 1, 1) := by decide +kernel
theorem dX3_addTelling_29 : decode cX3_addTelling 29 = .ok (.iastore, 1) := by decide +kernel
theorem dX3_addTelling_30 : decode cX3_addTelling 30 = .ok (.aload_n 0, 1) := by decide +kernel
theorem dX3_addTelling_31 : decode cX3_addTelling 31 = .ok (.getfield 29, 3) := by decide +kernel
theorem dX3_addTelling_34 : decode cX3_addTelling 34 = .ok (.aload_n 0, 1) := by decide +kernel
theorem dX3_addTelling_35 : decode cX3_addTelling 35 = .ok (.getfield 60, 3) := by decide +kernel
theorem dX3_addTelling_38 : decode cX3_addTelling 38 = .ok (.iload_n 2, 1) := by decide +kernel
theorem dX3_addTelling_39 : decode cX3_addTelling 39 = .ok (.iastore, 1) := by decide +kernel
theorem dX3_addTelling_40 : decode cX3_addTelling 40 = .ok (.aload_n 0, 1) := by decide +kernel
theorem dX3_addTelling_41 : decode cX3_addTelling 41 = .ok (.getfield 32, 3) := by decide +kernel
theorem dX3_addTelling_44 : decode cX3_addTelling 44 = .ok (.aload_n 0, 1) := by decide +kernel
theorem dX3_addTelling_45 : decode cX3_addTelling 45 = .ok (.getfield 60, 3) := by decide +kernel
theorem dX3_addTelling_48 : decode cX3_addTelling 48 = .ok (.iload_n 3, 1) := by decide +kernel
theorem dX3_addTelling_49 : decode cX3_addTelling 49 = .ok (.iastore, 1) := by decide +kernel
theorem dX3_addTelling_50 : decode cX3_addTelling 50 = .ok (.aload_n 0, 1) := by decide +kernel
theorem dX3_addTelling_51 : decode cX3_addTelling 51 = .ok (.getfield 35, 3) := by decide +kernel
theorem dX3_addTelling_54 : decode cX3_addTelling 54 = .ok (.aload_n 0, 1) := by decide +kernel
theorem dX3_addTelling_55 : decode cX3_addTelling 55 = .ok (.getfield 60, 3) := by decide +kernel
theorem dX3_addTelling_58 : decode cX3_addTelling 58 = .ok (.iload 4, 2) := by decide +kernel
theorem dX3_addTelling_60 : decode cX3_addTelling 60 = .ok (.iastore, 1) := by decide +kernel
theorem dX3_addTelling_61 : decode cX3_addTelling 61 = .ok (.aload_n 0, 1) := by decide +kernel
theorem dX3_addTelling_62 : decode cX3_addTelling 62 = .ok (.dup, 1) := by decide +kernel
theorem dX3_addTelling_63 : decode cX3_addTelling 63 = .ok (.getfield 60, 3) := by decide +kernel
theorem dX3_addTelling_66 : decode cX3_addTelling 66 = .ok (.iconst 1, 1) := by decide +kernel
theorem dX3_addTelling_67 : decode cX3_addTelling 67 = .ok (.iadd, 1) := by decide +kernel
theorem dX3_addTelling_68 : decode cX3_addTelling 68 = .ok (.putfield 60, 3) := by decide +kernel
theorem dX3_addTelling_71 : decode cX3_addTelling 71 = .ok (.iconst 1, 1) := by decide +kernel
theorem dX3_addTelling_72 : decode cX3_addTelling 72 = .ok (.ireturn, 1) := by decide +kernel
set_option maxRecDepth 100000 in
theorem c_X3_addTelling (l : Launch) (E : xE) (a0 a1 a2 a3 a4 : Nat) {T0 : Nat → Int32} {V1 : Nat → Int32} {V2 : Nat → Int32} {V3 : Nat → Int32} {V4 : Nat → Int32} {u0_7 u0_8 u0_9 u0_14 : Nat} {x1 : Int32} {x2 : Int32} {x3 : Int32} {x4 : Int32} {z : Int32 × (Nat → Int32) × (Nat → Int32) × (Nat → Int32) × (Nat → Int32) × (Nat → Int32)} (hf : f_X3_addTelling T0 V1 V2 V3 V4 x1 x2 x3 x4 = some z) (sz : Nat) : Met l yX3_addTelling (Cond.code yX3_addTelling cX3_addTelling 5 (some .boolean) :: gw) ({ frames := 1, cells := 0, slots := 0, locals := 23 }) (xPc E [.ref a0, .int x1, .int x2, .int x3, .int x4] [(a0, o3 T0 u0_7 u0_8 u0_9 a2 a1 a3 a4 u0_14), (a1, ai E 12 V1), (a2, ai E 12 V2), (a3, ai E 12 V3), (a4, ai E 12 V4)] sz) (xQi E z.1 [(a0, o3 T0 u0_7 u0_8 u0_9 a2 a1 a3 a4 u0_14), (a1, ai E 12 V1), (a2, ai E 12 V2), (a3, ai E 12 V3), (a4, ai E 12 V4)] [(a0, o3 z.2.1 u0_7 u0_8 u0_9 a2 a1 a3 a4 u0_14), (a1, ai E 12 z.2.2.1), (a2, ai E 12 z.2.2.2.1), (a3, ai E 12 z.2.2.2.2.1), (a4, ai E 12 z.2.2.2.2.2)] sz) 0 0 (va_A [(a0, o3 T0 u0_7 u0_8 u0_9 a2 a1 a3 a4 u0_14), (a1, ai E 12 V1), (a2, ai E 12 V2), (a3, ai E 12 V3), (a4, ai E 12 V4)] sz) := by
  refine xM_i (by decide +kernel) (Nat.le_of_ble_eq_true rfl) ?_
  intro p e s m args below meth c A Q hx hb hml hown htg hK hG hA ret0 H locs ls hP hD hS hl
  have ret : ∀ (z' : Int32 × (Nat → Int32) × (Nat → Int32) × (Nat → Int32) × (Nat → Int32) × (Nat → Int32)) {H : Heap} {locs : List Loc} {pc : Nat} {ls : Array Slot}, some z' = some z → narrow .boolean (.int z'.1) = .int z'.1 → va_P E.1 vwCl [(a0, o3 z'.2.1 u0_7 u0_8 u0_9 a2 a1 a3 a4 u0_14), (a1, ai E 12 z'.2.2.1), (a2, ai E 12 z'.2.2.2.1), (a3, ai E 12 z'.2.2.2.2.1), (a4, ai E 12 z'.2.2.2.2.2)] H → va_S A s.heap H locs → decode cX3_addTelling pc = .ok (.ireturn, 1) → W p l e ({ frames := 1, cells := 0, slots := 0, locals := 23 } : Room) s m args below meth c H locs 0 0 Q (F0 m pc ls [.int z'.1]) := by
    intro z' H locs pc ls h
    cases h
    exact ret0
  replace hl : lv_has ls 5 [(0, .ref a0), (1, .int x1), (2, .int x2), (3, .int x3), (4, .int x4)] := hl
  unfold f_X3_addTelling at hf
  refine lv_aload_n hx hb dX3_addTelling_0 rfl (lv_at hl 0 rfl) ?_
  refine G3_60 hx hb htg hown hK hP 0 rfl dX3_addTelling_1 ?_
  refine lv_bipush (v := 12) hx hb dX3_addTelling_4 rfl ?_
  refine lv_icmp_ge (tgt := 18) hx hb dX3_addTelling_6 (by decide) (fun c6 => ?_) (fun c6 => ?_)
  · have hf := it_t c6 hf
    refine lv_iconst (v := 0) hx hb dX3_addTelling_18 rfl ?_
    exact ret (0, T0, V1, V2, V3, V4) hf nz0 hP hS dX3_addTelling_19
  · have hf := it_f c6 hf
    refine lv_aload_n hx hb dX3_addTelling_9 rfl (lv_at hl 0 rfl) ?_
    refine lv_iload_n hx hb dX3_addTelling_10 rfl (lv_at hl 2 rfl) ?_
    obtain ⟨z11, hz11, hf⟩ := bind_s hf
    refine xV_ir hx hb hml hown htg L3_95 (c_X3_tellingsOf l E a0 a1 hz11 _) ⟨⟨rfl, rfl⟩, Nat.le_of_ble_eq_true rfl, Nat.le_of_ble_eq_true rfl⟩ hK hG hA hP hD hS (is := [0, 1]) rfl rfl (xrecv hK hP (q0 := 0) (ci := 3) rfl rfl) rfl hl.1 rfl (Nat.le_of_ble_eq_true rfl) dX3_addTelling_11 (fun H locs hP hD hS => ?_)
    refine lv_iconst (v := 5) hx hb dX3_addTelling_14 rfl ?_
    refine lv_icmp_lt (tgt := 20) hx hb dX3_addTelling_15 (by decide) (fun c15 => ?_) (fun c15 => ?_)
    · have hf := it_t c15 hf
      refine lv_aload_n hx hb dX3_addTelling_20 rfl (lv_at hl 0 rfl) ?_
      refine G3_26 hx hb htg hown hK hP 0 rfl dX3_addTelling_21 ?_
      refine lv_aload_n hx hb dX3_addTelling_24 rfl (lv_at hl 0 rfl) ?_
      refine G3_60 hx hb htg hown hK hP 0 rfl dX3_addTelling_25 ?_
      refine lv_iload_n hx hb dX3_addTelling_28 rfl (lv_at hl 1 rfl) ?_
      obtain ⟨g29, hf⟩ := ck_s hf
      refine xiast hx hb hK hP hD hS 2 rfl g29 dX3_addTelling_29 (fun H locs hP hD hS => ?_)
      refine lv_aload_n hx hb dX3_addTelling_30 rfl (lv_at hl 0 rfl) ?_
      refine G3_29 hx hb htg hown hK hP 0 rfl dX3_addTelling_31 ?_
      refine lv_aload_n hx hb dX3_addTelling_34 rfl (lv_at hl 0 rfl) ?_
      refine G3_60 hx hb htg hown hK hP 0 rfl dX3_addTelling_35 ?_
      refine lv_iload_n hx hb dX3_addTelling_38 rfl (lv_at hl 2 rfl) ?_
      obtain ⟨g39, hf⟩ := ck_s hf
      refine xiast hx hb hK hP hD hS 1 rfl g39 dX3_addTelling_39 (fun H locs hP hD hS => ?_)
      refine lv_aload_n hx hb dX3_addTelling_40 rfl (lv_at hl 0 rfl) ?_
      refine G3_32 hx hb htg hown hK hP 0 rfl dX3_addTelling_41 ?_
      refine lv_aload_n hx hb dX3_addTelling_44 rfl (lv_at hl 0 rfl) ?_
      refine G3_60 hx hb htg hown hK hP 0 rfl dX3_addTelling_45 ?_
      refine lv_iload_n hx hb dX3_addTelling_48 rfl (lv_at hl 3 rfl) ?_
      obtain ⟨g49, hf⟩ := ck_s hf
      refine xiast hx hb hK hP hD hS 3 rfl g49 dX3_addTelling_49 (fun H locs hP hD hS => ?_)
      replace hP : va_P E.1 vwCl [(a0, o3 T0 u0_7 u0_8 u0_9 a2 a1 a3 a4 u0_14), (a1, ai E 12 (upd V1 (Int32.toNatClampNeg (T0 6)) x2)), (a2, ai E 12 (upd V2 (Int32.toNatClampNeg (T0 6)) x1)), (a3, ai E 12 (upd V3 (Int32.toNatClampNeg (T0 6)) x3)), (a4, ai E 12 V4)] H := hP
      replace hD : va_D A [(a0, o3 T0 u0_7 u0_8 u0_9 a2 a1 a3 a4 u0_14), (a1, ai E 12 (upd V1 (Int32.toNatClampNeg (T0 6)) x2)), (a2, ai E 12 (upd V2 (Int32.toNatClampNeg (T0 6)) x1)), (a3, ai E 12 (upd V3 (Int32.toNatClampNeg (T0 6)) x3)), (a4, ai E 12 V4)] := hD
      refine lv_aload_n hx hb dX3_addTelling_50 rfl (lv_at hl 0 rfl) ?_
      refine G3_35 hx hb htg hown hK hP 0 rfl dX3_addTelling_51 ?_
      refine lv_aload_n hx hb dX3_addTelling_54 rfl (lv_at hl 0 rfl) ?_
      refine G3_60 hx hb htg hown hK hP 0 rfl dX3_addTelling_55 ?_
      refine lv_iload hx hb dX3_addTelling_58 (lv_at hl 4 rfl) ?_
      obtain ⟨g60, hf⟩ := ck_s hf
      refine xiast hx hb hK hP hD hS 4 rfl g60 dX3_addTelling_60 (fun H locs hP hD hS => ?_)
      refine lv_aload_n hx hb dX3_addTelling_61 rfl (lv_at hl 0 rfl) ?_
      refine lv_dup hx hb dX3_addTelling_62 rfl ?_
      refine G3_60 hx hb htg hown hK hP 0 rfl dX3_addTelling_63 ?_
      refine lv_iconst (v := 1) hx hb dX3_addTelling_66 rfl ?_
      refine lv_iadd hx hb dX3_addTelling_67 ?_
      refine P3_60 hx hb htg hown hK hP hD hS 0 rfl dX3_addTelling_68 (fun H locs hP hD hS => ?_)
      refine lv_iconst (v := 1) hx hb dX3_addTelling_71 rfl ?_
      exact ret (1, upd T0 6 ((T0 6) + 1), upd V1 (Int32.toNatClampNeg (T0 6)) x2, upd V2 (Int32.toNatClampNeg (T0 6)) x1, upd V3 (Int32.toNatClampNeg (T0 6)) x3, upd V4 (Int32.toNatClampNeg (T0 6)) x4) hf nz1 hP hS dX3_addTelling_72
    · have hf := it_f c15 hf
      refine lv_iconst (v := 0) hx hb dX3_addTelling_18 rfl ?_
      exact ret (0, T0, V1, V2, V3, V4) hf nz0 hP hS dX3_addTelling_19
theorem dX3_tellingsBy_0 : decode cX3_tellingsBy 0 = .ok (.iconst 0, 1) := by decide +kernel
theorem dX3_tellingsBy_1 : decode cX3_tellingsBy 1 = .ok (.istore_n 2, 1) := by decide +kernel
theorem dX3_tellingsBy_2 : decode cX3_tellingsBy 2 = .ok (.iconst 0, 1) := by decide +kernel
theorem dX3_tellingsBy_3 : decode cX3_tellingsBy 3 = .ok (.istore_n 3, 1) := by decide +kernel
theorem dX3_tellingsBy_4 : decode cX3_tellingsBy 4 = .ok (.iload_n 3, 1) := by decide +kernel
theorem dX3_tellingsBy_5 : decode cX3_tellingsBy 5 = .ok (.aload_n 0, 1) := by decide +kernel
theorem dX3_tellingsBy_6 : decode cX3_tellingsBy 6 = .ok (.getfield 60, 3) := by decide +kernel
theorem dX3_tellingsBy_9 : decode cX3_tellingsBy 9 = .ok (.if_icmp .ge 27, 3) := by decide +kernel
theorem dX3_tellingsBy_12 : decode cX3_tellingsBy 12 = .ok (.iload_n 2, 1) := by decide +kernel
theorem dX3_tellingsBy_13 : decode cX3_tellingsBy 13 = .ok (.aload_n 0, 1) := by decide +kernel
theorem dX3_tellingsBy_14 : decode cX3_tellingsBy 14 = .ok (.getfield 26, 3) := by decide +kernel
theorem dX3_tellingsBy_17 : decode cX3_tellingsBy 17 = .ok (.iload_n 3, 1) := by decide +kernel
theorem dX3_tellingsBy_18 : decode cX3_tellingsBy 18 = .ok (.iaload, 1) := by decide +kernel
theorem dX3_tellingsBy_19 : decode cX3_tellingsBy 19 = .ok (.iload_n 1, 1) := by decide +kernel
theorem dX3_tellingsBy_20 : decode cX3_tellingsBy 20 = .ok (.if_icmp .ne 7, 3) := by decide +kernel
theorem dX3_tellingsBy_23 : decode cX3_tellingsBy 23 = .ok (.iconst 1, 1) := by decide +kernel
theorem dX3_tellingsBy_24 : decode cX3_tellingsBy 24 = .ok (.goto 4, 3) := by decide +kernel
theorem dX3_tellingsBy_27 : decode cX3_tellingsBy 27 = .ok (.iconst 0, 1) := by decide +kernel
theorem dX3_tellingsBy_28 : decode cX3_tellingsBy 28 = .ok (.iadd, 1) := by decide +kernel
theorem dX3_tellingsBy_29 : decode cX3_tellingsBy 29 = .ok (.istore_n 2, 1) := by decide +kernel
theorem dX3_tellingsBy_30 : decode cX3_tellingsBy 30 = .ok (.iinc 3 1, 3) := by decide +kernel
theorem dX3_tellingsBy_33 : decode cX3_tellingsBy 33 = .ok (.goto (-29), 3) := by decide +kernel
theorem dX3_tellingsBy_36 : decode cX3_tellingsBy 36 = .ok (.iload_n 2, 1) := by decide +kernel
theorem dX3_tellingsBy_37 : decode cX3_tellingsBy 37 = .ok (.ireturn, 1) := by decide +kernel
set_option maxRecDepth 100000 in
theorem c_X3_tellingsBy (l : Launch) (E : xE) (a0 a1 : Nat) {T0 : Nat → Int32} {V1 : Nat → Int32} {u0_7 u0_8 u0_9 u0_11 u0_12 u0_13 u0_14 : Nat} {x1 : Int32} {z : Int32} (hf : f_X3_tellingsBy T0 V1 x1 = some z) (sz : Nat) : Met l yX3_tellingsBy (Cond.code yX3_tellingsBy cX3_tellingsBy 4 (some .int) :: gw) ({ frames := 0, cells := 0, slots := 0, locals := 0 }) (xPc E [.ref a0, .int x1] [(a0, o3 T0 u0_7 u0_8 u0_9 a1 u0_11 u0_12 u0_13 u0_14), (a1, ai E 12 V1)] sz) (xQi E z [(a0, o3 T0 u0_7 u0_8 u0_9 a1 u0_11 u0_12 u0_13 u0_14), (a1, ai E 12 V1)] [(a0, o3 T0 u0_7 u0_8 u0_9 a1 u0_11 u0_12 u0_13 u0_14), (a1, ai E 12 V1)] sz) 0 0 (va_A [(a0, o3 T0 u0_7 u0_8 u0_9 a1 u0_11 u0_12 u0_13 u0_14), (a1, ai E 12 V1)] sz) := by
  refine xM_i (by decide +kernel) (Nat.le_of_ble_eq_true rfl) ?_
  intro p e s m args below meth c A Q hx hb hml hown htg hK hG hA ret0 H locs ls hP hD hS hl
  have ret : ∀ (z' : Int32) {H : Heap} {locs : List Loc} {pc : Nat} {ls : Array Slot}, some z' = some z → narrow .int (.int z') = .int z' → va_P E.1 vwCl [(a0, o3 T0 u0_7 u0_8 u0_9 a1 u0_11 u0_12 u0_13 u0_14), (a1, ai E 12 V1)] H → va_S A s.heap H locs → decode cX3_tellingsBy pc = .ok (.ireturn, 1) → W p l e ({ frames := 0, cells := 0, slots := 0, locals := 0 } : Room) s m args below meth c H locs 0 0 Q (F0 m pc ls [.int z']) := by
    intro z' H locs pc ls h
    cases h
    exact ret0
  replace hl : lv_has ls 4 [(0, .ref a0), (1, .int x1)] := hl
  have b4 : ∀ (n : Nat) (x2 : Int32) (x3 : Int32) (H : Heap) (locs : List Loc) (ls : Array Slot), f_X3_tellingsBy_4 T0 V1 x1 n x2 x3 = some z → va_P E.1 vwCl [(a0, o3 T0 u0_7 u0_8 u0_9 a1 u0_11 u0_12 u0_13 u0_14), (a1, ai E 12 V1)] H → va_D A [(a0, o3 T0 u0_7 u0_8 u0_9 a1 u0_11 u0_12 u0_13 u0_14), (a1, ai E 12 V1)] → va_S A s.heap H locs → lv_has ls 4 [(0, .ref a0), (1, .int x1), (2, .int x2), (3, .int x3)] → W p l e ({ frames := 0, cells := 0, slots := 0, locals := 0 } : Room) s m args below meth c H locs 0 0 Q (F0 m 4 ls []) := by
    intro n
    induction n with
    | zero => intro x2 x3 H locs ls hf; exact (nn_s hf).elim
    | succ n ih4 =>
      obtain ⟨k4, ek4⟩ : ∃ k, k = f_X3_tellingsBy_4 T0 V1 x1 n := ⟨_, rfl⟩
      rw [← ek4] at ih4
      have b28 : ∀ (x3 : Int32) (s0 : Int32) (s1 : Int32) (H : Heap) (locs : List Loc) (ls : Array Slot), f_X3_tellingsBy_28 T0 V1 x1 k4 x3 s0 s1 = some z → va_P E.1 vwCl [(a0, o3 T0 u0_7 u0_8 u0_9 a1 u0_11 u0_12 u0_13 u0_14), (a1, ai E 12 V1)] H → va_D A [(a0, o3 T0 u0_7 u0_8 u0_9 a1 u0_11 u0_12 u0_13 u0_14), (a1, ai E 12 V1)] → va_S A s.heap H locs → lv_has ls 4 [(0, .ref a0), (1, .int x1), (3, .int x3)] → W p l e ({ frames := 0, cells := 0, slots := 0, locals := 0 } : Room) s m args below meth c H locs 0 0 Q (F0 m 28 ls [.int s1, .int s0]) := by
        intro x3 s0 s1 H locs ls hf hP hD hS hl
        unfold f_X3_tellingsBy_28 at hf
        refine lv_iadd hx hb dX3_tellingsBy_28 ?_
        refine lv_istore_n (lv' := [(2, .int (s0 + s1)), (0, .ref a0), (1, .int x1), (3, .int x3)]) hx hb dX3_tellingsBy_29 rfl hl (by decide) rfl (fun ls hl => ?_)
        refine lv_iinc (v := x3 + 1) (lv' := [(3, .int (x3 + 1)), (2, .int (s0 + s1)), (0, .ref a0), (1, .int x1)]) hx hb dX3_tellingsBy_30 hl (k := 3) rfl rfl (by decide) rfl (fun ls hl => ?_)
        refine lv_goto (tgt := 4) hx hb dX3_tellingsBy_33 (by decide) ?_
        exact ih4 (s0 + s1) (x3 + 1) _ _ _ hf hP hD hS (lv_sub hl [2, 3, 1, 0] rfl)
      intro x2 x3 H locs ls hf hP hD hS hl
      replace hf : g_X3_tellingsBy_4 T0 V1 x1 k4 x2 x3 = some z := by rw [ek4]; exact hf
      unfold g_X3_tellingsBy_4 at hf
      refine lv_iload_n hx hb dX3_tellingsBy_4 rfl (lv_at hl 3 rfl) ?_
      refine lv_aload_n hx hb dX3_tellingsBy_5 rfl (lv_at hl 0 rfl) ?_
      refine G3_60 hx hb htg hown hK hP 0 rfl dX3_tellingsBy_6 ?_
      refine lv_icmp_ge (tgt := 36) hx hb dX3_tellingsBy_9 (by decide) (fun c9 => ?_) (fun c9 => ?_)
      · have hf := it_t c9 hf
        refine lv_iload_n hx hb dX3_tellingsBy_36 rfl (lv_at hl 2 rfl) ?_
        exact ret x2 hf nzi hP hS dX3_tellingsBy_37
      · have hf := it_f c9 hf
        refine lv_iload_n hx hb dX3_tellingsBy_12 rfl (lv_at hl 2 rfl) ?_
        refine lv_aload_n hx hb dX3_tellingsBy_13 rfl (lv_at hl 0 rfl) ?_
        refine G3_26 hx hb htg hown hK hP 0 rfl dX3_tellingsBy_14 ?_
        refine lv_iload_n hx hb dX3_tellingsBy_17 rfl (lv_at hl 3 rfl) ?_
        obtain ⟨g18, hf⟩ := ck_s hf
        refine xiald hx hb hK hP 1 rfl g18 dX3_tellingsBy_18 ?_
        refine lv_iload_n hx hb dX3_tellingsBy_19 rfl (lv_at hl 1 rfl) ?_
        refine lv_icmp_ne (tgt := 27) hx hb dX3_tellingsBy_20 (by decide) (fun c20 => ?_) (fun c20 => ?_)
        · have hf := it_f c20 hf
          refine lv_iconst (v := 0) hx hb dX3_tellingsBy_27 rfl ?_
          exact b28 x3 x2 0 _ _ _ hf hP hD hS (lv_sub hl [0, 1, 3] rfl)
        · have hf := it_t c20 hf
          refine lv_iconst (v := 1) hx hb dX3_tellingsBy_23 rfl ?_
          refine lv_goto (tgt := 28) hx hb dX3_tellingsBy_24 (by decide) ?_
          exact b28 x3 x2 1 _ _ _ hf hP hD hS (lv_sub hl [0, 1, 3] rfl)
  unfold f_X3_tellingsBy at hf
  refine lv_iconst (v := 0) hx hb dX3_tellingsBy_0 rfl ?_
  refine lv_istore_n (lv' := [(2, .int 0), (0, .ref a0), (1, .int x1)]) hx hb dX3_tellingsBy_1 rfl hl (by decide) rfl (fun ls hl => ?_)
  refine lv_iconst (v := 0) hx hb dX3_tellingsBy_2 rfl ?_
  refine lv_istore_n (lv' := [(3, .int 0), (2, .int 0), (0, .ref a0), (1, .int x1)]) hx hb dX3_tellingsBy_3 rfl hl (by decide) rfl (fun ls hl => ?_)
  exact b4 xF 0 0 _ _ _ hf hP hD hS (lv_sub hl [2, 3, 1, 0] rfl)
theorem dX3_falseBy_0 : decode cX3_falseBy 0 = .ok (.iconst 0, 1) := by decide +kernel
theorem dX3_falseBy_1 : decode cX3_falseBy 1 = .ok (.istore_n 2, 1) := by decide +kernel
theorem dX3_falseBy_2 : decode cX3_falseBy 2 = .ok (.iconst 0, 1) := by decide +kernel
theorem dX3_falseBy_3 : decode cX3_falseBy 3 = .ok (.istore_n 3, 1) := by decide +kernel
theorem dX3_falseBy_4 : decode cX3_falseBy 4 = .ok (.iload_n 3, 1) := by decide +kernel
theorem dX3_falseBy_5 : decode cX3_falseBy 5 = .ok (.aload_n 0, 1) := by decide +kernel
theorem dX3_falseBy_6 : decode cX3_falseBy 6 = .ok (.getfield 60, 3) := by decide +kernel
theorem dX3_falseBy_9 : decode cX3_falseBy 9 = .ok (.if_icmp .ge 41, 3) := by decide +kernel
theorem dX3_falseBy_12 : decode cX3_falseBy 12 = .ok (.aload_n 0, 1) := by decide +kernel
theorem dX3_falseBy_13 : decode cX3_falseBy 13 = .ok (.getfield 26, 3) := by decide +kernel
theorem dX3_falseBy_16 : decode cX3_falseBy 16 = .ok (.iload_n 3, 1) := by decide +kernel
theorem dX3_falseBy_17 : decode cX3_falseBy 17 = .ok (.iaload, 1) := by decide +kernel
theorem dX3_falseBy_18 : decode cX3_falseBy 18 = .ok (.iload_n 1, 1) := by decide +kernel
theorem dX3_falseBy_19 : decode cX3_falseBy 19 = .ok (.if_icmp .ne 25, 3) := by decide +kernel
theorem dX3_falseBy_22 : decode cX3_falseBy 22 = .ok (.aload_n 0, 1) := by decide +kernel
theorem dX3_falseBy_23 : decode cX3_falseBy 23 = .ok (.getfield 32, 3) := by decide +kernel
theorem dX3_falseBy_26 : decode cX3_falseBy 26 = .ok (.iload_n 3, 1) := by decide +kernel
theorem dX3_falseBy_27 : decode cX3_falseBy 27 = .ok (.iaload, 1) := by decide +kernel
theorem dX3_falseBy_28 : decode cX3_falseBy 28 = .ok (.aload_n 0, 1) := by decide +kernel
theorem dX3_falseBy_29 : decode cX3_falseBy 29 = .ok (.aload_n 0, 1) := by decide +kernel
theorem dX3_falseBy_30 : decode cX3_falseBy 30 = .ok (.getfield 29, 3) := by decide +kernel
theorem dX3_falseBy_33 : decode cX3_falseBy 33 = .ok (.iload_n 3, 1) := by decide +kernel
theorem dX3_falseBy_34 : decode cX3_falseBy 34 = .ok (.iaload, 1) := by decide +kernel
theorem dX3_falseBy_35 : decode cX3_falseBy 35 = .ok (.invokevirtual 99, 3) := by decide +kernel
theorem dX3_falseBy_38 : decode cX3_falseBy 38 = .ok (.if_icmp .eq 6, 3) := by decide +kernel
theorem dX3_falseBy_41 : decode cX3_falseBy 41 = .ok (.iinc 2 1, 3) := by decide +kernel
theorem dX3_falseBy_44 : decode cX3_falseBy 44 = .ok (.iinc 3 1, 3) := by decide +kernel
theorem dX3_falseBy_47 : decode cX3_falseBy 47 = .ok (.goto (-43), 3) := by decide +kernel
theorem dX3_falseBy_50 : decode cX3_falseBy 50 = .ok (.iload_n 2, 1) := by decide +kernel
theorem dX3_falseBy_51 : decode cX3_falseBy 51 = .ok (.ireturn, 1) := by decide +kernel
set_option maxRecDepth 100000 in
theorem c_X3_falseBy (l : Launch) (E : xE) (a0 a1 a2 a3 a4 : Nat) {T0 : Nat → Int32} {V1 : Nat → Int32} {V2 : Nat → Int32} {V3 : Nat → Int32} {V4 : Nat → Int32} {u0_8 u0_9 u0_13 u0_14 : Nat} {x1 : Int32} {z : Int32} (hf : f_X3_falseBy T0 V1 V2 V3 V4 x1 = some z) (sz : Nat) : Met l yX3_falseBy (Cond.code yX3_falseBy cX3_falseBy 4 (some .int) :: gw) ({ frames := 2, cells := 0, slots := 0, locals := 43 }) (xPc E [.ref a0, .int x1] [(a0, o3 T0 a4 u0_8 u0_9 a1 a3 a2 u0_13 u0_14), (a1, ai E 12 V1), (a2, ai E 12 V2), (a3, ai E 12 V3), (a4, ai E 36 V4)] sz) (xQi E z [(a0, o3 T0 a4 u0_8 u0_9 a1 a3 a2 u0_13 u0_14), (a1, ai E 12 V1), (a2, ai E 12 V2), (a3, ai E 12 V3), (a4, ai E 36 V4)] [(a0, o3 T0 a4 u0_8 u0_9 a1 a3 a2 u0_13 u0_14), (a1, ai E 12 V1), (a2, ai E 12 V2), (a3, ai E 12 V3), (a4, ai E 36 V4)] sz) 0 0 (va_A [(a0, o3 T0 a4 u0_8 u0_9 a1 a3 a2 u0_13 u0_14), (a1, ai E 12 V1), (a2, ai E 12 V2), (a3, ai E 12 V3), (a4, ai E 36 V4)] sz) := by
  refine xM_i (by decide +kernel) (Nat.le_of_ble_eq_true rfl) ?_
  intro p e s m args below meth c A Q hx hb hml hown htg hK hG hA ret0 H locs ls hP hD hS hl
  have ret : ∀ (z' : Int32) {H : Heap} {locs : List Loc} {pc : Nat} {ls : Array Slot}, some z' = some z → narrow .int (.int z') = .int z' → va_P E.1 vwCl [(a0, o3 T0 a4 u0_8 u0_9 a1 a3 a2 u0_13 u0_14), (a1, ai E 12 V1), (a2, ai E 12 V2), (a3, ai E 12 V3), (a4, ai E 36 V4)] H → va_S A s.heap H locs → decode cX3_falseBy pc = .ok (.ireturn, 1) → W p l e ({ frames := 2, cells := 0, slots := 0, locals := 43 } : Room) s m args below meth c H locs 0 0 Q (F0 m pc ls [.int z']) := by
    intro z' H locs pc ls h
    cases h
    exact ret0
  replace hl : lv_has ls 4 [(0, .ref a0), (1, .int x1)] := hl
  have b4 : ∀ (n : Nat) (x2 : Int32) (x3 : Int32) (H : Heap) (locs : List Loc) (ls : Array Slot), f_X3_falseBy_4 T0 V1 V2 V3 V4 x1 n x2 x3 = some z → va_P E.1 vwCl [(a0, o3 T0 a4 u0_8 u0_9 a1 a3 a2 u0_13 u0_14), (a1, ai E 12 V1), (a2, ai E 12 V2), (a3, ai E 12 V3), (a4, ai E 36 V4)] H → va_D A [(a0, o3 T0 a4 u0_8 u0_9 a1 a3 a2 u0_13 u0_14), (a1, ai E 12 V1), (a2, ai E 12 V2), (a3, ai E 12 V3), (a4, ai E 36 V4)] → va_S A s.heap H locs → lv_has ls 4 [(0, .ref a0), (1, .int x1), (2, .int x2), (3, .int x3)] → W p l e ({ frames := 2, cells := 0, slots := 0, locals := 43 } : Room) s m args below meth c H locs 0 0 Q (F0 m 4 ls []) := by
    intro n
    induction n with
    | zero => intro x2 x3 H locs ls hf; exact (nn_s hf).elim
    | succ n ih4 =>
      obtain ⟨k4, ek4⟩ : ∃ k, k = f_X3_falseBy_4 T0 V1 V2 V3 V4 x1 n := ⟨_, rfl⟩
      rw [← ek4] at ih4
      intro x2 x3 H locs ls hf hP hD hS hl
      replace hf : g_X3_falseBy_4 T0 V1 V2 V3 V4 x1 k4 x2 x3 = some z := by rw [ek4]; exact hf
      unfold g_X3_falseBy_4 at hf
      refine lv_iload_n hx hb dX3_falseBy_4 rfl (lv_at hl 3 rfl) ?_
      refine lv_aload_n hx hb dX3_falseBy_5 rfl (lv_at hl 0 rfl) ?_
      refine G3_60 hx hb htg hown hK hP 0 rfl dX3_falseBy_6 ?_
      refine lv_icmp_ge (tgt := 50) hx hb dX3_falseBy_9 (by decide) (fun c9 => ?_) (fun c9 => ?_)
      · have hf := it_t c9 hf
        refine lv_iload_n hx hb dX3_falseBy_50 rfl (lv_at hl 2 rfl) ?_
        exact ret x2 hf nzi hP hS dX3_falseBy_51
      · have hf := it_f c9 hf
        refine lv_aload_n hx hb dX3_falseBy_12 rfl (lv_at hl 0 rfl) ?_
        refine G3_26 hx hb htg hown hK hP 0 rfl dX3_falseBy_13 ?_
        refine lv_iload_n hx hb dX3_falseBy_16 rfl (lv_at hl 3 rfl) ?_
        obtain ⟨g17, hf⟩ := ck_s hf
        refine xiald hx hb hK hP 1 rfl g17 dX3_falseBy_17 ?_
        refine lv_iload_n hx hb dX3_falseBy_18 rfl (lv_at hl 1 rfl) ?_
        refine lv_icmp_ne (tgt := 44) hx hb dX3_falseBy_19 (by decide) (fun c19 => ?_) (fun c19 => ?_)
        · have hf := it_f c19 hf
          refine lv_iinc (v := x3 + 1) (lv' := [(3, .int (x3 + 1)), (0, .ref a0), (1, .int x1), (2, .int x2)]) hx hb dX3_falseBy_44 hl (k := 3) rfl rfl (by decide) rfl (fun ls hl => ?_)
          refine lv_goto (tgt := 4) hx hb dX3_falseBy_47 (by decide) ?_
          exact ih4 x2 (x3 + 1) _ _ _ hf hP hD hS (lv_sub hl [1, 2, 3, 0] rfl)
        · have hf := it_t c19 hf
          refine lv_aload_n hx hb dX3_falseBy_22 rfl (lv_at hl 0 rfl) ?_
          refine G3_32 hx hb htg hown hK hP 0 rfl dX3_falseBy_23 ?_
          refine lv_iload_n hx hb dX3_falseBy_26 rfl (lv_at hl 3 rfl) ?_
          obtain ⟨g27, hf⟩ := ck_s hf
          refine xiald hx hb hK hP 2 rfl g27 dX3_falseBy_27 ?_
          refine lv_aload_n hx hb dX3_falseBy_28 rfl (lv_at hl 0 rfl) ?_
          refine lv_aload_n hx hb dX3_falseBy_29 rfl (lv_at hl 0 rfl) ?_
          refine G3_29 hx hb htg hown hK hP 0 rfl dX3_falseBy_30 ?_
          refine lv_iload_n hx hb dX3_falseBy_33 rfl (lv_at hl 3 rfl) ?_
          obtain ⟨g34, hf⟩ := ck_s hf
          refine xiald hx hb hK hP 3 rfl g34 dX3_falseBy_34 ?_
          obtain ⟨z35, hz35, hf⟩ := bind_s hf
          refine xV_ir hx hb hml hown htg L3_99 (c_X3_kindAt l E a0 a4 hz35 _) ⟨⟨rfl, rfl⟩, Nat.le_of_ble_eq_true rfl, Nat.le_of_ble_eq_true rfl⟩ hK hG hA hP hD hS (is := [0, 4]) rfl rfl (xrecv hK hP (q0 := 0) (ci := 3) rfl rfl) rfl hl.1 rfl (Nat.le_of_ble_eq_true rfl) dX3_falseBy_35 (fun H locs hP hD hS => ?_)
          refine lv_icmp_eq (tgt := 44) hx hb dX3_falseBy_38 (by decide) (fun c38 => ?_) (fun c38 => ?_)
          · have hf := it_t c38 hf
            refine lv_iinc (v := x3 + 1) (lv' := [(3, .int (x3 + 1)), (0, .ref a0), (1, .int x1), (2, .int x2)]) hx hb dX3_falseBy_44 hl (k := 3) rfl rfl (by decide) rfl (fun ls hl => ?_)
            refine lv_goto (tgt := 4) hx hb dX3_falseBy_47 (by decide) ?_
            exact ih4 x2 (x3 + 1) _ _ _ hf hP hD hS (lv_sub hl [1, 2, 3, 0] rfl)
          · have hf := it_f c38 hf
            refine lv_iinc (v := x2 + 1) (lv' := [(2, .int (x2 + 1)), (0, .ref a0), (1, .int x1), (3, .int x3)]) hx hb dX3_falseBy_41 hl (k := 2) rfl rfl (by decide) rfl (fun ls hl => ?_)
            refine lv_iinc (v := x3 + 1) (lv' := [(3, .int (x3 + 1)), (2, .int (x2 + 1)), (0, .ref a0), (1, .int x1)]) hx hb dX3_falseBy_44 hl (k := 3) rfl rfl (by decide) rfl (fun ls hl => ?_)
            refine lv_goto (tgt := 4) hx hb dX3_falseBy_47 (by decide) ?_
            exact ih4 (x2 + 1) (x3 + 1) _ _ _ hf hP hD hS (lv_sub hl [2, 3, 1, 0] rfl)
  unfold f_X3_falseBy at hf
  refine lv_iconst (v := 0) hx hb dX3_falseBy_0 rfl ?_
  refine lv_istore_n (lv' := [(2, .int 0), (0, .ref a0), (1, .int x1)]) hx hb dX3_falseBy_1 rfl hl (by decide) rfl (fun ls hl => ?_)
  refine lv_iconst (v := 0) hx hb dX3_falseBy_2 rfl ?_
  refine lv_istore_n (lv' := [(3, .int 0), (2, .int 0), (0, .ref a0), (1, .int x1)]) hx hb dX3_falseBy_3 rfl hl (by decide) rfl (fun ls hl => ?_)
  exact b4 xF 0 0 _ _ _ hf hP hD hS (lv_sub hl [2, 3, 1, 0] rfl)
theorem dX3_sizeOf_0 : decode cX3_sizeOf 0 = .ok (.iconst 0, 1) := by decide +kernel
theorem dX3_sizeOf_1 : decode cX3_sizeOf 1 = .ok (.istore_n 2, 1) := by decide +kernel
theorem dX3_sizeOf_2 : decode cX3_sizeOf 2 = .ok (.iconst 0, 1) := by decide +kernel
theorem dX3_sizeOf_3 : decode cX3_sizeOf 3 = .ok (.istore_n 3, 1) := by decide +kernel
theorem dX3_sizeOf_4 : decode cX3_sizeOf 4 = .ok (.iload_n 3, 1) := by decide +kernel
theorem dX3_sizeOf_5 : decode cX3_sizeOf 5 = .ok (.aload_n 0, 1) := by decide +kernel
theorem dX3_sizeOf_6 : decode cX3_sizeOf 6 = .ok (.getfield 60, 3) := by decide +kernel
theorem dX3_sizeOf_9 : decode cX3_sizeOf 9 = .ok (.if_icmp .ge 51, 3) := by decide +kernel
theorem dX3_sizeOf_12 : decode cX3_sizeOf 12 = .ok (.aload_n 0, 1) := by decide +kernel
theorem dX3_sizeOf_13 : decode cX3_sizeOf 13 = .ok (.getfield 29, 3) := by decide +kernel
theorem dX3_sizeOf_16 : decode cX3_sizeOf 16 = .ok (.iload_n 3, 1) := by decide +kernel
theorem dX3_sizeOf_17 : decode cX3_sizeOf 17 = .ok (.iaload, 1) := by decide +kernel
theorem dX3_sizeOf_18 : decode cX3_sizeOf 18 = .ok (.iload_n 1, 1) := by decide +kernel
theorem dX3_sizeOf_19 : decode cX3_sizeOf 19 = .ok (.if_icmp .ne 35, 3) := by decide +kernel
theorem dX3_sizeOf_22 : decode cX3_sizeOf 22 = .ok (.aload_n 0, 1) := by decide +kernel
theorem dX3_sizeOf_23 : decode cX3_sizeOf 23 = .ok (.getfield 32, 3) := by decide +kernel
theorem dX3_sizeOf_26 : decode cX3_sizeOf 26 = .ok (.iload_n 3, 1) := by decide +kernel
theorem dX3_sizeOf_27 : decode cX3_sizeOf 27 = .ok (.iaload, 1) := by decide +kernel
theorem dX3_sizeOf_28 : decode cX3_sizeOf 28 = .ok (.iconst 3, 1) := by decide +kernel
theorem dX3_sizeOf_29 : decode cX3_sizeOf 29 = .ok (.if_icmp .ne 25, 3) := by decide +kernel
theorem dX3_sizeOf_32 : decode cX3_sizeOf 32 = .ok (.aload_n 0, 1) := by decide +kernel
theorem dX3_sizeOf_33 : decode cX3_sizeOf 33 = .ok (.aload_n 0, 1) := by decide +kernel
theorem dX3_sizeOf_34 : decode cX3_sizeOf 34 = .ok (.getfield 26, 3) := by decide +kernel
theorem dX3_sizeOf_37 : decode cX3_sizeOf 37 = .ok (.iload_n 3, 1) := by decide +kernel
theorem dX3_sizeOf_38 : decode cX3_sizeOf 38 = .ok (.iaload, 1) := by decide +kernel
theorem dX3_sizeOf_39 : decode cX3_sizeOf 39 = .ok (.invokevirtual 92, 3) := by decide +kernel
theorem dX3_sizeOf_42 : decode cX3_sizeOf 42 = .ok (.ifCond .eq 12, 3) := by decide +kernel
theorem dX3_sizeOf_45 : decode cX3_sizeOf 45 = .ok (.iload_n 2, 1) := by decide +kernel
theorem dX3_sizeOf_46 : decode cX3_sizeOf 46 = .ok (.aload_n 0, 1) := by decide +kernel
theorem dX3_sizeOf_47 : decode cX3_sizeOf 47 = .ok (.getfield 35, 3) := by decide +kernel
theorem dX3_sizeOf_50 : decode cX3_sizeOf 50 = .ok (.iload_n 3, 1) := by decide +kernel
theorem dX3_sizeOf_51 : decode cX3_sizeOf 51 = .ok (.iaload, 1) := by decide +kernel
theorem dX3_sizeOf_52 : decode cX3_sizeOf 52 = .ok (.iadd, 1) := by decide +kernel
theorem dX3_sizeOf_53 : decode cX3_sizeOf 53 = .ok (.istore_n 2, 1) := by decide +kernel
theorem dX3_sizeOf_54 : decode cX3_sizeOf 54 = .ok (.iinc 3 1, 3) := by decide +kernel
theorem dX3_sizeOf_57 : decode cX3_sizeOf 57 = .ok (.goto (-53), 3) := by decide +kernel
theorem dX3_sizeOf_60 : decode cX3_sizeOf 60 = .ok (.iload_n 2, 1) := by decide +kernel
theorem dX3_sizeOf_61 : decode cX3_sizeOf 61 = .ok (.ireturn, 1) := by decide +kernel
set_option maxRecDepth 100000 in
theorem c_X3_sizeOf (l : Launch) (E : xE) (a0 a1 a2 a3 a4 : Nat) {T0 : Nat → Int32} {V1 : Nat → Int32} {V2 : Nat → Int32} {V3 : Nat → Int32} {V4 : Nat → Int32} {u0_7 u0_8 u0_9 u0_14 : Nat} {x1 : Int32} {z : Int32} (hf : f_X3_sizeOf T0 V1 V2 V3 V4 x1 = some z) (sz : Nat) : Met l yX3_sizeOf (Cond.code yX3_sizeOf cX3_sizeOf 4 (some .int) :: gw) ({ frames := 2, cells := 0, slots := 0, locals := 42 }) (xPc E [.ref a0, .int x1] [(a0, o3 T0 u0_7 u0_8 u0_9 a3 a1 a2 a4 u0_14), (a1, ai E 12 V1), (a2, ai E 12 V2), (a3, ai E 12 V3), (a4, ai E 12 V4)] sz) (xQi E z [(a0, o3 T0 u0_7 u0_8 u0_9 a3 a1 a2 a4 u0_14), (a1, ai E 12 V1), (a2, ai E 12 V2), (a3, ai E 12 V3), (a4, ai E 12 V4)] [(a0, o3 T0 u0_7 u0_8 u0_9 a3 a1 a2 a4 u0_14), (a1, ai E 12 V1), (a2, ai E 12 V2), (a3, ai E 12 V3), (a4, ai E 12 V4)] sz) 0 0 (va_A [(a0, o3 T0 u0_7 u0_8 u0_9 a3 a1 a2 a4 u0_14), (a1, ai E 12 V1), (a2, ai E 12 V2), (a3, ai E 12 V3), (a4, ai E 12 V4)] sz) := by
  refine xM_i (by decide +kernel) (Nat.le_of_ble_eq_true rfl) ?_
  intro p e s m args below meth c A Q hx hb hml hown htg hK hG hA ret0 H locs ls hP hD hS hl
  have ret : ∀ (z' : Int32) {H : Heap} {locs : List Loc} {pc : Nat} {ls : Array Slot}, some z' = some z → narrow .int (.int z') = .int z' → va_P E.1 vwCl [(a0, o3 T0 u0_7 u0_8 u0_9 a3 a1 a2 a4 u0_14), (a1, ai E 12 V1), (a2, ai E 12 V2), (a3, ai E 12 V3), (a4, ai E 12 V4)] H → va_S A s.heap H locs → decode cX3_sizeOf pc = .ok (.ireturn, 1) → W p l e ({ frames := 2, cells := 0, slots := 0, locals := 42 } : Room) s m args below meth c H locs 0 0 Q (F0 m pc ls [.int z']) := by
    intro z' H locs pc ls h
    cases h
    exact ret0
  replace hl : lv_has ls 4 [(0, .ref a0), (1, .int x1)] := hl
  have b4 : ∀ (n : Nat) (x2 : Int32) (x3 : Int32) (H : Heap) (locs : List Loc) (ls : Array Slot), f_X3_sizeOf_4 T0 V1 V2 V3 V4 x1 n x2 x3 = some z → va_P E.1 vwCl [(a0, o3 T0 u0_7 u0_8 u0_9 a3 a1 a2 a4 u0_14), (a1, ai E 12 V1), (a2, ai E 12 V2), (a3, ai E 12 V3), (a4, ai E 12 V4)] H → va_D A [(a0, o3 T0 u0_7 u0_8 u0_9 a3 a1 a2 a4 u0_14), (a1, ai E 12 V1), (a2, ai E 12 V2), (a3, ai E 12 V3), (a4, ai E 12 V4)] → va_S A s.heap H locs → lv_has ls 4 [(0, .ref a0), (1, .int x1), (2, .int x2), (3, .int x3)] → W p l e ({ frames := 2, cells := 0, slots := 0, locals := 42 } : Room) s m args below meth c H locs 0 0 Q (F0 m 4 ls []) := by
    intro n
    induction n with
    | zero => intro x2 x3 H locs ls hf; exact (nn_s hf).elim
    | succ n ih4 =>
      obtain ⟨k4, ek4⟩ : ∃ k, k = f_X3_sizeOf_4 T0 V1 V2 V3 V4 x1 n := ⟨_, rfl⟩
      rw [← ek4] at ih4
      intro x2 x3 H locs ls hf hP hD hS hl
      replace hf : g_X3_sizeOf_4 T0 V1 V2 V3 V4 x1 k4 x2 x3 = some z := by rw [ek4]; exact hf
      unfold g_X3_sizeOf_4 at hf
      refine lv_iload_n hx hb dX3_sizeOf_4 rfl (lv_at hl 3 rfl) ?_
      refine lv_aload_n hx hb dX3_sizeOf_5 rfl (lv_at hl 0 rfl) ?_
      refine G3_60 hx hb htg hown hK hP 0 rfl dX3_sizeOf_6 ?_
      refine lv_icmp_ge (tgt := 60) hx hb dX3_sizeOf_9 (by decide) (fun c9 => ?_) (fun c9 => ?_)
      · have hf := it_t c9 hf
        refine lv_iload_n hx hb dX3_sizeOf_60 rfl (lv_at hl 2 rfl) ?_
        exact ret x2 hf nzi hP hS dX3_sizeOf_61
      · have hf := it_f c9 hf
        refine lv_aload_n hx hb dX3_sizeOf_12 rfl (lv_at hl 0 rfl) ?_
        refine G3_29 hx hb htg hown hK hP 0 rfl dX3_sizeOf_13 ?_
        refine lv_iload_n hx hb dX3_sizeOf_16 rfl (lv_at hl 3 rfl) ?_
        obtain ⟨g17, hf⟩ := ck_s hf
        refine xiald hx hb hK hP 1 rfl g17 dX3_sizeOf_17 ?_
        refine lv_iload_n hx hb dX3_sizeOf_18 rfl (lv_at hl 1 rfl) ?_
        refine lv_icmp_ne (tgt := 54) hx hb dX3_sizeOf_19 (by decide) (fun c19 => ?_) (fun c19 => ?_)
        · have hf := it_f c19 hf
          refine lv_iinc (v := x3 + 1) (lv' := [(3, .int (x3 + 1)), (0, .ref a0), (1, .int x1), (2, .int x2)]) hx hb dX3_sizeOf_54 hl (k := 3) rfl rfl (by decide) rfl (fun ls hl => ?_)
          refine lv_goto (tgt := 4) hx hb dX3_sizeOf_57 (by decide) ?_
          exact ih4 x2 (x3 + 1) _ _ _ hf hP hD hS (lv_sub hl [1, 2, 3, 0] rfl)
        · have hf := it_t c19 hf
          refine lv_aload_n hx hb dX3_sizeOf_22 rfl (lv_at hl 0 rfl) ?_
          refine G3_32 hx hb htg hown hK hP 0 rfl dX3_sizeOf_23 ?_
          refine lv_iload_n hx hb dX3_sizeOf_26 rfl (lv_at hl 3 rfl) ?_
          obtain ⟨g27, hf⟩ := ck_s hf
          refine xiald hx hb hK hP 2 rfl g27 dX3_sizeOf_27 ?_
          refine lv_iconst (v := 3) hx hb dX3_sizeOf_28 rfl ?_
          refine lv_icmp_ne (tgt := 54) hx hb dX3_sizeOf_29 (by decide) (fun c29 => ?_) (fun c29 => ?_)
          · have hf := it_f c29 hf
            refine lv_iinc (v := x3 + 1) (lv' := [(3, .int (x3 + 1)), (0, .ref a0), (1, .int x1), (2, .int x2)]) hx hb dX3_sizeOf_54 hl (k := 3) rfl rfl (by decide) rfl (fun ls hl => ?_)
            refine lv_goto (tgt := 4) hx hb dX3_sizeOf_57 (by decide) ?_
            exact ih4 x2 (x3 + 1) _ _ _ hf hP hD hS (lv_sub hl [1, 2, 3, 0] rfl)
          · have hf := it_t c29 hf
            refine lv_aload_n hx hb dX3_sizeOf_32 rfl (lv_at hl 0 rfl) ?_
            refine lv_aload_n hx hb dX3_sizeOf_33 rfl (lv_at hl 0 rfl) ?_
            refine G3_26 hx hb htg hown hK hP 0 rfl dX3_sizeOf_34 ?_
            refine lv_iload_n hx hb dX3_sizeOf_37 rfl (lv_at hl 3 rfl) ?_
            obtain ⟨g38, hf⟩ := ck_s hf
            refine xiald hx hb hK hP 3 rfl g38 dX3_sizeOf_38 ?_
            obtain ⟨z39, hz39, hf⟩ := bind_s hf
            refine xV_ir hx hb hml hown htg L3_92 (c_X3_isHeard l E a0 hz39 _) ⟨⟨rfl, rfl⟩, Nat.le_of_ble_eq_true rfl, Nat.le_of_ble_eq_true rfl⟩ hK hG hA hP hD hS (is := [0]) rfl rfl (xrecv hK hP (q0 := 0) (ci := 3) rfl rfl) rfl hl.1 rfl (Nat.le_of_ble_eq_true rfl) dX3_sizeOf_39 (fun H locs hP hD hS => ?_)
            refine lv_if_eq (tgt := 54) hx hb dX3_sizeOf_42 (by decide) (fun c42 => ?_) (fun c42 => ?_)
            · have hf := it_t c42 hf
              refine lv_iinc (v := x3 + 1) (lv' := [(3, .int (x3 + 1)), (0, .ref a0), (1, .int x1), (2, .int x2)]) hx hb dX3_sizeOf_54 hl (k := 3) rfl rfl (by decide) rfl (fun ls hl => ?_)
              refine lv_goto (tgt := 4) hx hb dX3_sizeOf_57 (by decide) ?_
              exact ih4 x2 (x3 + 1) _ _ _ hf hP hD hS (lv_sub hl [1, 2, 3, 0] rfl)
            · have hf := it_f c42 hf
              refine lv_iload_n hx hb dX3_sizeOf_45 rfl (lv_at hl 2 rfl) ?_
              refine lv_aload_n hx hb dX3_sizeOf_46 rfl (lv_at hl 0 rfl) ?_
              refine G3_35 hx hb htg hown hK hP 0 rfl dX3_sizeOf_47 ?_
              refine lv_iload_n hx hb dX3_sizeOf_50 rfl (lv_at hl 3 rfl) ?_
              obtain ⟨g51, hf⟩ := ck_s hf
              refine xiald hx hb hK hP 4 rfl g51 dX3_sizeOf_51 ?_
              refine lv_iadd hx hb dX3_sizeOf_52 ?_
              refine lv_istore_n (lv' := [(2, .int (x2 + (V4 (Int32.toNatClampNeg x3)))), (0, .ref a0), (1, .int x1), (3, .int x3)]) hx hb dX3_sizeOf_53 rfl hl (by decide) rfl (fun ls hl => ?_)
              refine lv_iinc (v := x3 + 1) (lv' := [(3, .int (x3 + 1)), (2, .int (x2 + (V4 (Int32.toNatClampNeg x3)))), (0, .ref a0), (1, .int x1)]) hx hb dX3_sizeOf_54 hl (k := 3) rfl rfl (by decide) rfl (fun ls hl => ?_)
              refine lv_goto (tgt := 4) hx hb dX3_sizeOf_57 (by decide) ?_
              exact ih4 (x2 + (V4 (Int32.toNatClampNeg x3))) (x3 + 1) _ _ _ hf hP hD hS (lv_sub hl [2, 3, 1, 0] rfl)
  unfold f_X3_sizeOf at hf
  refine lv_iconst (v := 0) hx hb dX3_sizeOf_0 rfl ?_
  refine lv_istore_n (lv' := [(2, .int 0), (0, .ref a0), (1, .int x1)]) hx hb dX3_sizeOf_1 rfl hl (by decide) rfl (fun ls hl => ?_)
  refine lv_iconst (v := 0) hx hb dX3_sizeOf_2 rfl ?_
  refine lv_istore_n (lv' := [(3, .int 0), (2, .int 0), (0, .ref a0), (1, .int x1)]) hx hb dX3_sizeOf_3 rfl hl (by decide) rfl (fun ls hl => ?_)
  exact b4 xF 0 0 _ _ _ hf hP hD hS (lv_sub hl [2, 3, 1, 0] rfl)
theorem dX3_clashesWithout_0 : decode cX3_clashesWithout 0 = .ok (.iconst 0, 1) := by decide +kernel
theorem dX3_clashesWithout_1 : decode cX3_clashesWithout 1 = .ok (.istore_n 2, 1) := by decide +kernel
theorem dX3_clashesWithout_2 : decode cX3_clashesWithout 2 = .ok (.iconst 0, 1) := by decide +kernel
theorem dX3_clashesWithout_3 : decode cX3_clashesWithout 3 = .ok (.istore_n 3, 1) := by decide +kernel
theorem dX3_clashesWithout_4 : decode cX3_clashesWithout 4 = .ok (.iload_n 3, 1) := by decide +kernel
theorem dX3_clashesWithout_5 : decode cX3_clashesWithout 5 = .ok (.aload_n 0, 1) := by decide +kernel
theorem dX3_clashesWithout_6 : decode cX3_clashesWithout 6 = .ok (.getfield 60, 3) := by decide +kernel
theorem dX3_clashesWithout_9 : decode cX3_clashesWithout 9 = .ok (.if_icmp .ge 98, 3) := by decide +kernel
theorem dX3_clashesWithout_12 : decode cX3_clashesWithout 12 = .ok (.iconst 0, 1) := by decide +kernel
theorem dX3_clashesWithout_13 : decode cX3_clashesWithout 13 = .ok (.istore 4, 2) := by decide +kernel
theorem dX3_clashesWithout_15 : decode cX3_clashesWithout 15 = .ok (.iload 4, 2) := by decide +kernel
theorem dX3_clashesWithout_17 : decode cX3_clashesWithout 17 = .ok (.iload_n 3, 1) := by decide +kernel
theorem dX3_clashesWithout_18 : decode cX3_clashesWithout 18 = .ok (.if_icmp .ge 83, 3) := by decide +kernel
theorem dX3_clashesWithout_21 : decode cX3_clashesWithout 21 = .ok (.aload_n 0, 1) := by decide +kernel
theorem dX3_clashesWithout_22 : decode cX3_clashesWithout 22 = .ok (.getfield 29, 3) := by decide +kernel
theorem dX3_clashesWithout_25 : decode cX3_clashesWithout 25 = .ok (.iload_n 3, 1) := by decide +kernel
theorem dX3_clashesWithout_26 : decode cX3_clashesWithout 26 = .ok (.iaload, 1) := by decide +kernel
theorem dX3_clashesWithout_27 : decode cX3_clashesWithout 27 = .ok (.aload_n 0, 1) := by decide +kernel
theorem dX3_clashesWithout_28 : decode cX3_clashesWithout 28 = .ok (.getfield 29, 3) := by decide +kernel
theorem dX3_clashesWithout_31 : decode cX3_clashesWithout 31 = .ok (.iload 4, 2) := by decide +kernel
theorem dX3_clashesWithout_33 : decode cX3_clashesWithout 33 = .ok (.iaload, 1) := by decide +kernel
theorem dX3_clashesWithout_34 : decode cX3_clashesWithout 34 = .ok (.if_icmp .ne 23, 3) := by decide +kernel
theorem dX3_clashesWithout_37 : decode cX3_clashesWithout 37 = .ok (.aload_n 0, 1) := by decide +kernel
theorem dX3_clashesWithout_38 : decode cX3_clashesWithout 38 = .ok (.getfield 32, 3) := by decide +kernel
theorem dX3_clashesWithout_41 : decode cX3_clashesWithout 41 = .ok (.iload_n 3, 1) := by decide +kernel
theorem dX3_clashesWithout_42 : decode cX3_clashesWithout 42 = .ok (.iaload, 1) := by decide +kernel
theorem dX3_clashesWithout_43 : decode cX3_clashesWithout 43 = .ok (.aload_n 0, 1) := by decide +kernel
theorem dX3_clashesWithout_44 : decode cX3_clashesWithout 44 = .ok (.getfield 32, 3) := by decide +kernel
theorem dX3_clashesWithout_47 : decode cX3_clashesWithout 47 = .ok (.iload 4, 2) := by decide +kernel
theorem dX3_clashesWithout_49 : decode cX3_clashesWithout 49 = .ok (.iaload, 1) := by decide +kernel
theorem dX3_clashesWithout_50 : decode cX3_clashesWithout 50 = .ok (.if_icmp .eq 7, 3) := by decide +kernel
theorem dX3_clashesWithout_53 : decode cX3_clashesWithout 53 = .ok (.iconst 1, 1) := by decide +kernel
theorem dX3_clashesWithout_54 : decode cX3_clashesWithout 54 = .ok (.goto 4, 3) := by decide +kernel
theorem dX3_clashesWithout_57 : decode cX3_clashesWithout 57 = .ok (.iconst 0, 1) := by decide +kernel
theorem dX3_clashesWithout_58 : decode cX3_clashesWithout 58 = .ok (.istore 5, 2) := by decide +kernel
theorem dX3_clashesWithout_60 : decode cX3_clashesWithout 60 = .ok (.iload 5, 2) := by decide +kernel
theorem dX3_clashesWithout_62 : decode cX3_clashesWithout 62 = .ok (.ifCond .eq 33, 3) := by decide +kernel
theorem dX3_clashesWithout_65 : decode cX3_clashesWithout 65 = .ok (.aload_n 0, 1) := by decide +kernel
theorem dX3_clashesWithout_66 : decode cX3_clashesWithout 66 = .ok (.getfield 26, 3) := by decide +kernel
theorem dX3_clashesWithout_69 : decode cX3_clashesWithout 69 = .ok (.iload_n 3, 1) := by decide +kernel
theorem dX3_clashesWithout_70 : decode cX3_clashesWithout 70 = .ok (.iaload, 1) := by decide +kernel
theorem dX3_clashesWithout_71 : decode cX3_clashesWithout 71 = .ok (.iload_n 1, 1) := by decide +kernel
theorem dX3_clashesWithout_72 : decode cX3_clashesWithout 72 = .ok (.invokestatic 84, 3) := by decide +kernel
theorem dX3_clashesWithout_75 : decode cX3_clashesWithout 75 = .ok (.ifCond .ne 20, 3) := by decide +kernel
theorem dX3_clashesWithout_78 : decode cX3_clashesWithout 78 = .ok (.aload_n 0, 1) := by decide +kernel
theorem dX3_clashesWithout_79 : decode cX3_clashesWithout 79 = .ok (.getfield 26, 3) := by decide +kernel
theorem dX3_clashesWithout_82 : decode cX3_clashesWithout 82 = .ok (.iload 4, 2) := by decide +kernel
theorem dX3_clashesWithout_84 : decode cX3_clashesWithout 84 = .ok (.iaload, 1) := by decide +kernel
theorem dX3_clashesWithout_85 : decode cX3_clashesWithout 85 = .ok (.iload_n 1, 1) := by decide +kernel
theorem dX3_clashesWithout_86 : decode cX3_clashesWithout 86 = .ok (.invokestatic 84, 3) := by decide +kernel
theorem dX3_clashesWithout_89 : decode cX3_clashesWithout 89 = .ok (.ifCond .ne 6, 3) := by decide +kernel
theorem dX3_clashesWithout_92 : decode cX3_clashesWithout 92 = .ok (.iinc 2 1, 3) := by decide +kernel
theorem dX3_clashesWithout_95 : decode cX3_clashesWithout 95 = .ok (.iinc 4 1, 3) := by decide +kernel
theorem dX3_clashesWithout_98 : decode cX3_clashesWithout 98 = .ok (.goto (-83), 3) := by decide +kernel
theorem dX3_clashesWithout_101 : decode cX3_clashesWithout 101 = .ok (.iinc 3 1, 3) := by decide +kernel
theorem dX3_clashesWithout_104 : decode cX3_clashesWithout 104 = .ok (.goto (-100), 3) := by decide +kernel
theorem dX3_clashesWithout_107 : decode cX3_clashesWithout 107 = .ok (.iload_n 2, 1) := by decide +kernel
theorem dX3_clashesWithout_108 : decode cX3_clashesWithout 108 = .ok (.ireturn, 1) := by decide +kernel
set_option maxRecDepth 100000 in
theorem c_X3_clashesWithout (l : Launch) (E : xE) (a0 a1 a2 a3 : Nat) {T0 : Nat → Int32} {V1 : Nat → Int32} {V2 : Nat → Int32} {V3 : Nat → Int32} {u0_7 u0_8 u0_9 u0_13 u0_14 : Nat} {x1 : Int32} {z : Int32} (hf : f_X3_clashesWithout T0 V1 V2 V3 x1 = some z) (sz : Nat) : Met l yX3_clashesWithout (Cond.code yX3_clashesWithout cX3_clashesWithout 6 (some .int) :: gw) ({ frames := 1, cells := 0, slots := 0, locals := 21 }) (xPc E [.ref a0, .int x1] [(a0, o3 T0 u0_7 u0_8 u0_9 a3 a1 a2 u0_13 u0_14), (a1, ai E 12 V1), (a2, ai E 12 V2), (a3, ai E 12 V3)] sz) (xQi E z [(a0, o3 T0 u0_7 u0_8 u0_9 a3 a1 a2 u0_13 u0_14), (a1, ai E 12 V1), (a2, ai E 12 V2), (a3, ai E 12 V3)] [(a0, o3 T0 u0_7 u0_8 u0_9 a3 a1 a2 u0_13 u0_14), (a1, ai E 12 V1), (a2, ai E 12 V2), (a3, ai E 12 V3)] sz) 0 0 (va_A [(a0, o3 T0 u0_7 u0_8 u0_9 a3 a1 a2 u0_13 u0_14), (a1, ai E 12 V1), (a2, ai E 12 V2), (a3, ai E 12 V3)] sz) := by
  refine xM_i (by decide +kernel) (Nat.le_of_ble_eq_true rfl) ?_
  intro p e s m args below meth c A Q hx hb hml hown htg hK hG hA ret0 H locs ls hP hD hS hl
  have ret : ∀ (z' : Int32) {H : Heap} {locs : List Loc} {pc : Nat} {ls : Array Slot}, some z' = some z → narrow .int (.int z') = .int z' → va_P E.1 vwCl [(a0, o3 T0 u0_7 u0_8 u0_9 a3 a1 a2 u0_13 u0_14), (a1, ai E 12 V1), (a2, ai E 12 V2), (a3, ai E 12 V3)] H → va_S A s.heap H locs → decode cX3_clashesWithout pc = .ok (.ireturn, 1) → W p l e ({ frames := 1, cells := 0, slots := 0, locals := 21 } : Room) s m args below meth c H locs 0 0 Q (F0 m pc ls [.int z']) := by
    intro z' H locs pc ls h
    cases h
    exact ret0
  replace hl : lv_has ls 6 [(0, .ref a0), (1, .int x1)] := hl
  have b4 : ∀ (n : Nat) (x2 : Int32) (x3 : Int32) (H : Heap) (locs : List Loc) (ls : Array Slot), f_X3_clashesWithout_4 T0 V1 V2 V3 x1 n x2 x3 = some z → va_P E.1 vwCl [(a0, o3 T0 u0_7 u0_8 u0_9 a3 a1 a2 u0_13 u0_14), (a1, ai E 12 V1), (a2, ai E 12 V2), (a3, ai E 12 V3)] H → va_D A [(a0, o3 T0 u0_7 u0_8 u0_9 a3 a1 a2 u0_13 u0_14), (a1, ai E 12 V1), (a2, ai E 12 V2), (a3, ai E 12 V3)] → va_S A s.heap H locs → lv_has ls 6 [(0, .ref a0), (1, .int x1), (2, .int x2), (3, .int x3)] → W p l e ({ frames := 1, cells := 0, slots := 0, locals := 21 } : Room) s m args below meth c H locs 0 0 Q (F0 m 4 ls []) := by
    intro n
    induction n with
    | zero => intro x2 x3 H locs ls hf; exact (nn_s hf).elim
    | succ n ih4 =>
      obtain ⟨k4, ek4⟩ : ∃ k, k = f_X3_clashesWithout_4 T0 V1 V2 V3 x1 n := ⟨_, rfl⟩
      rw [← ek4] at ih4
      have b15 : ∀ (n : Nat) (x2 : Int32) (x3 : Int32) (x4 : Int32) (H : Heap) (locs : List Loc) (ls : Array Slot), f_X3_clashesWithout_15 T0 V1 V2 V3 x1 k4 n x2 x3 x4 = some z → va_P E.1 vwCl [(a0, o3 T0 u0_7 u0_8 u0_9 a3 a1 a2 u0_13 u0_14), (a1, ai E 12 V1), (a2, ai E 12 V2), (a3, ai E 12 V3)] H → va_D A [(a0, o3 T0 u0_7 u0_8 u0_9 a3 a1 a2 u0_13 u0_14), (a1, ai E 12 V1), (a2, ai E 12 V2), (a3, ai E 12 V3)] → va_S A s.heap H locs → lv_has ls 6 [(0, .ref a0), (1, .int x1), (2, .int x2), (3, .int x3), (4, .int x4)] → W p l e ({ frames := 1, cells := 0, slots := 0, locals := 21 } : Room) s m args below meth c H locs 0 0 Q (F0 m 15 ls []) := by
        intro n
        induction n with
        | zero => intro x2 x3 x4 H locs ls hf; exact (nn_s hf).elim
        | succ n ih15 =>
          obtain ⟨k15, ek15⟩ : ∃ k, k = f_X3_clashesWithout_15 T0 V1 V2 V3 x1 k4 n := ⟨_, rfl⟩
          rw [← ek15] at ih15
          have b58 : ∀ (x2 : Int32) (x3 : Int32) (x4 : Int32) (s0 : Int32) (H : Heap) (locs : List Loc) (ls : Array Slot), f_X3_clashesWithout_58 T0 V1 V2 V3 x1 k4 k15 x2 x3 x4 s0 = some z → va_P E.1 vwCl [(a0, o3 T0 u0_7 u0_8 u0_9 a3 a1 a2 u0_13 u0_14), (a1, ai E 12 V1), (a2, ai E 12 V2), (a3, ai E 12 V3)] H → va_D A [(a0, o3 T0 u0_7 u0_8 u0_9 a3 a1 a2 u0_13 u0_14), (a1, ai E 12 V1), (a2, ai E 12 V2), (a3, ai E 12 V3)] → va_S A s.heap H locs → lv_has ls 6 [(0, .ref a0), (1, .int x1), (2, .int x2), (3, .int x3), (4, .int x4)] → W p l e ({ frames := 1, cells := 0, slots := 0, locals := 21 } : Room) s m args below meth c H locs 0 0 Q (F0 m 58 ls [.int s0]) := by
            intro x2 x3 x4 s0 H locs ls hf hP hD hS hl
            unfold f_X3_clashesWithout_58 at hf
            refine lv_istore (lv' := [(5, .int s0), (0, .ref a0), (1, .int x1), (2, .int x2), (3, .int x3), (4, .int x4)]) hx hb dX3_clashesWithout_58 hl (by decide) rfl (fun ls hl => ?_)
            refine lv_iload hx hb dX3_clashesWithout_60 (lv_at hl 0 rfl) ?_
            refine lv_if_eq (tgt := 95) hx hb dX3_clashesWithout_62 (by decide) (fun c62 => ?_) (fun c62 => ?_)
            · have hf := it_t c62 hf
              refine lv_iinc (v := x4 + 1) (lv' := [(4, .int (x4 + 1)), (5, .int s0), (0, .ref a0), (1, .int x1), (2, .int x2), (3, .int x3)]) hx hb dX3_clashesWithout_95 hl (k := 5) rfl rfl (by decide) rfl (fun ls hl => ?_)
              refine lv_goto (tgt := 15) hx hb dX3_clashesWithout_98 (by decide) ?_
              exact ih15 x2 x3 (x4 + 1) _ _ _ hf hP hD hS (lv_sub hl [2, 3, 4, 5, 0] rfl)
            · have hf := it_f c62 hf
              refine lv_aload_n hx hb dX3_clashesWithout_65 rfl (lv_at hl 1 rfl) ?_
              refine G3_26 hx hb htg hown hK hP 0 rfl dX3_clashesWithout_66 ?_
              refine lv_iload_n hx hb dX3_clashesWithout_69 rfl (lv_at hl 4 rfl) ?_
              obtain ⟨g70, hf⟩ := ck_s hf
              refine xiald hx hb hK hP 3 rfl g70 dX3_clashesWithout_70 ?_
              refine lv_iload_n hx hb dX3_clashesWithout_71 rfl (lv_at hl 2 rfl) ?_
              obtain ⟨z72, hz72, hf⟩ := bind_s hf
              refine xS_ir hx hb hml hown htg L3_84 (c_X3_isIn l E hz72 _) ⟨⟨rfl, rfl⟩, Nat.le_of_ble_eq_true rfl, Nat.le_of_ble_eq_true rfl⟩ hK hG hA hP hD hS (is := []) rfl rfl rfl hl.1 rfl (Nat.le_of_ble_eq_true rfl) dX3_clashesWithout_72 (fun H locs hP hD hS => ?_)
              refine lv_if_ne (tgt := 95) hx hb dX3_clashesWithout_75 (by decide) (fun c75 => ?_) (fun c75 => ?_)
              · have hf := it_f c75 hf
                refine lv_iinc (v := x4 + 1) (lv' := [(4, .int (x4 + 1)), (5, .int s0), (0, .ref a0), (1, .int x1), (2, .int x2), (3, .int x3)]) hx hb dX3_clashesWithout_95 hl (k := 5) rfl rfl (by decide) rfl (fun ls hl => ?_)
                refine lv_goto (tgt := 15) hx hb dX3_clashesWithout_98 (by decide) ?_
                exact ih15 x2 x3 (x4 + 1) _ _ _ hf hP hD hS (lv_sub hl [2, 3, 4, 5, 0] rfl)
              · have hf := it_t c75 hf
                refine lv_aload_n hx hb dX3_clashesWithout_78 rfl (lv_at hl 1 rfl) ?_
                refine G3_26 hx hb htg hown hK hP 0 rfl dX3_clashesWithout_79 ?_
                refine lv_iload hx hb dX3_clashesWithout_82 (lv_at hl 5 rfl) ?_
                obtain ⟨g84, hf⟩ := ck_s hf
                refine xiald hx hb hK hP 3 rfl g84 dX3_clashesWithout_84 ?_
                refine lv_iload_n hx hb dX3_clashesWithout_85 rfl (lv_at hl 2 rfl) ?_
                obtain ⟨z86, hz86, hf⟩ := bind_s hf
                refine xS_ir hx hb hml hown htg L3_84 (c_X3_isIn l E hz86 _) ⟨⟨rfl, rfl⟩, Nat.le_of_ble_eq_true rfl, Nat.le_of_ble_eq_true rfl⟩ hK hG hA hP hD hS (is := []) rfl rfl rfl hl.1 rfl (Nat.le_of_ble_eq_true rfl) dX3_clashesWithout_86 (fun H locs hP hD hS => ?_)
                refine lv_if_ne (tgt := 95) hx hb dX3_clashesWithout_89 (by decide) (fun c89 => ?_) (fun c89 => ?_)
                · have hf := it_f c89 hf
                  refine lv_iinc (v := x4 + 1) (lv' := [(4, .int (x4 + 1)), (5, .int s0), (0, .ref a0), (1, .int x1), (2, .int x2), (3, .int x3)]) hx hb dX3_clashesWithout_95 hl (k := 5) rfl rfl (by decide) rfl (fun ls hl => ?_)
                  refine lv_goto (tgt := 15) hx hb dX3_clashesWithout_98 (by decide) ?_
                  exact ih15 x2 x3 (x4 + 1) _ _ _ hf hP hD hS (lv_sub hl [2, 3, 4, 5, 0] rfl)
                · have hf := it_t c89 hf
                  refine lv_iinc (v := x2 + 1) (lv' := [(2, .int (x2 + 1)), (5, .int s0), (0, .ref a0), (1, .int x1), (3, .int x3), (4, .int x4)]) hx hb dX3_clashesWithout_92 hl (k := 3) rfl rfl (by decide) rfl (fun ls hl => ?_)
                  refine lv_iinc (v := x4 + 1) (lv' := [(4, .int (x4 + 1)), (2, .int (x2 + 1)), (5, .int s0), (0, .ref a0), (1, .int x1), (3, .int x3)]) hx hb dX3_clashesWithout_95 hl (k := 5) rfl rfl (by decide) rfl (fun ls hl => ?_)
                  refine lv_goto (tgt := 15) hx hb dX3_clashesWithout_98 (by decide) ?_
                  exact ih15 (x2 + 1) x3 (x4 + 1) _ _ _ hf hP hD hS (lv_sub hl [3, 4, 1, 5, 0] rfl)
          have b57 : ∀ (x2 : Int32) (x3 : Int32) (x4 : Int32) (H : Heap) (locs : List Loc) (ls : Array Slot), f_X3_clashesWithout_57 T0 V1 V2 V3 x1 k4 k15 x2 x3 x4 = some z → va_P E.1 vwCl [(a0, o3 T0 u0_7 u0_8 u0_9 a3 a1 a2 u0_13 u0_14), (a1, ai E 12 V1), (a2, ai E 12 V2), (a3, ai E 12 V3)] H → va_D A [(a0, o3 T0 u0_7 u0_8 u0_9 a3 a1 a2 u0_13 u0_14), (a1, ai E 12 V1), (a2, ai E 12 V2), (a3, ai E 12 V3)] → va_S A s.heap H locs → lv_has ls 6 [(0, .ref a0), (1, .int x1), (2, .int x2), (3, .int x3), (4, .int x4)] → W p l e ({ frames := 1, cells := 0, slots := 0, locals := 21 } : Room) s m args below meth c H locs 0 0 Q (F0 m 57 ls []) := by
            intro x2 x3 x4 H locs ls hf hP hD hS hl
            unfold f_X3_clashesWithout_57 at hf
            refine lv_iconst (v := 0) hx hb dX3_clashesWithout_57 rfl ?_
            exact b58 x2 x3 x4 0 _ _ _ hf hP hD hS (lv_sub hl [0, 1, 2, 3, 4] rfl)
          intro x2 x3 x4 H locs ls hf hP hD hS hl
          replace hf : g_X3_clashesWithout_15 T0 V1 V2 V3 x1 k4 k15 x2 x3 x4 = some z := by rw [ek15]; exact hf
          unfold g_X3_clashesWithout_15 at hf
          refine lv_iload hx hb dX3_clashesWithout_15 (lv_at hl 4 rfl) ?_
          refine lv_iload_n hx hb dX3_clashesWithout_17 rfl (lv_at hl 3 rfl) ?_
          refine lv_icmp_ge (tgt := 101) hx hb dX3_clashesWithout_18 (by decide) (fun c18 => ?_) (fun c18 => ?_)
          · have hf := it_t c18 hf
            refine lv_iinc (v := x3 + 1) (lv' := [(3, .int (x3 + 1)), (0, .ref a0), (1, .int x1), (2, .int x2), (4, .int x4)]) hx hb dX3_clashesWithout_101 hl (k := 3) rfl rfl (by decide) rfl (fun ls hl => ?_)
            refine lv_goto (tgt := 4) hx hb dX3_clashesWithout_104 (by decide) ?_
            exact ih4 x2 (x3 + 1) _ _ _ hf hP hD hS (lv_sub hl [1, 2, 3, 0] rfl)
          · have hf := it_f c18 hf
            refine lv_aload_n hx hb dX3_clashesWithout_21 rfl (lv_at hl 0 rfl) ?_
            refine G3_29 hx hb htg hown hK hP 0 rfl dX3_clashesWithout_22 ?_
            refine lv_iload_n hx hb dX3_clashesWithout_25 rfl (lv_at hl 3 rfl) ?_
            obtain ⟨g26, hf⟩ := ck_s hf
            refine xiald hx hb hK hP 1 rfl g26 dX3_clashesWithout_26 ?_
            refine lv_aload_n hx hb dX3_clashesWithout_27 rfl (lv_at hl 0 rfl) ?_
            refine G3_29 hx hb htg hown hK hP 0 rfl dX3_clashesWithout_28 ?_
            refine lv_iload hx hb dX3_clashesWithout_31 (lv_at hl 4 rfl) ?_
            obtain ⟨g33, hf⟩ := ck_s hf
            refine xiald hx hb hK hP 1 rfl g33 dX3_clashesWithout_33 ?_
            refine lv_icmp_ne (tgt := 57) hx hb dX3_clashesWithout_34 (by decide) (fun c34 => ?_) (fun c34 => ?_)
            · have hf := it_f c34 hf
              exact b57 x2 x3 x4 _ _ _ hf hP hD hS (lv_sub hl [0, 1, 2, 3, 4] rfl)
            · have hf := it_t c34 hf
              refine lv_aload_n hx hb dX3_clashesWithout_37 rfl (lv_at hl 0 rfl) ?_
              refine G3_32 hx hb htg hown hK hP 0 rfl dX3_clashesWithout_38 ?_
              refine lv_iload_n hx hb dX3_clashesWithout_41 rfl (lv_at hl 3 rfl) ?_
              obtain ⟨g42, hf⟩ := ck_s hf
              refine xiald hx hb hK hP 2 rfl g42 dX3_clashesWithout_42 ?_
              refine lv_aload_n hx hb dX3_clashesWithout_43 rfl (lv_at hl 0 rfl) ?_
              refine G3_32 hx hb htg hown hK hP 0 rfl dX3_clashesWithout_44 ?_
              refine lv_iload hx hb dX3_clashesWithout_47 (lv_at hl 4 rfl) ?_
              obtain ⟨g49, hf⟩ := ck_s hf
              refine xiald hx hb hK hP 2 rfl g49 dX3_clashesWithout_49 ?_
              refine lv_icmp_eq (tgt := 57) hx hb dX3_clashesWithout_50 (by decide) (fun c50 => ?_) (fun c50 => ?_)
              · have hf := it_t c50 hf
                exact b57 x2 x3 x4 _ _ _ hf hP hD hS (lv_sub hl [0, 1, 2, 3, 4] rfl)
              · have hf := it_f c50 hf
                refine lv_iconst (v := 1) hx hb dX3_clashesWithout_53 rfl ?_
                refine lv_goto (tgt := 58) hx hb dX3_clashesWithout_54 (by decide) ?_
                exact b58 x2 x3 x4 1 _ _ _ hf hP hD hS (lv_sub hl [0, 1, 2, 3, 4] rfl)
      intro x2 x3 H locs ls hf hP hD hS hl
      replace hf : g_X3_clashesWithout_4 T0 V1 V2 V3 x1 k4 x2 x3 = some z := by rw [ek4]; exact hf
      unfold g_X3_clashesWithout_4 at hf
      refine lv_iload_n hx hb dX3_clashesWithout_4 rfl (lv_at hl 3 rfl) ?_
      refine lv_aload_n hx hb dX3_clashesWithout_5 rfl (lv_at hl 0 rfl) ?_
      refine G3_60 hx hb htg hown hK hP 0 rfl dX3_clashesWithout_6 ?_
      refine lv_icmp_ge (tgt := 107) hx hb dX3_clashesWithout_9 (by decide) (fun c9 => ?_) (fun c9 => ?_)
      · have hf := it_t c9 hf
        refine lv_iload_n hx hb dX3_clashesWithout_107 rfl (lv_at hl 2 rfl) ?_
        exact ret x2 hf nzi hP hS dX3_clashesWithout_108
      · have hf := it_f c9 hf
        refine lv_iconst (v := 0) hx hb dX3_clashesWithout_12 rfl ?_
        refine lv_istore (lv' := [(4, .int 0), (0, .ref a0), (1, .int x1), (2, .int x2), (3, .int x3)]) hx hb dX3_clashesWithout_13 hl (by decide) rfl (fun ls hl => ?_)
        exact b15 xF x2 x3 0 _ _ _ hf hP hD hS (lv_sub hl [1, 2, 3, 4, 0] rfl)
  unfold f_X3_clashesWithout at hf
  refine lv_iconst (v := 0) hx hb dX3_clashesWithout_0 rfl ?_
  refine lv_istore_n (lv' := [(2, .int 0), (0, .ref a0), (1, .int x1)]) hx hb dX3_clashesWithout_1 rfl hl (by decide) rfl (fun ls hl => ?_)
  refine lv_iconst (v := 0) hx hb dX3_clashesWithout_2 rfl ?_
  refine lv_istore_n (lv' := [(3, .int 0), (2, .int 0), (0, .ref a0), (1, .int x1)]) hx hb dX3_clashesWithout_3 rfl hl (by decide) rfl (fun ls hl => ?_)
  exact b4 xF 0 0 _ _ _ hf hP hD hS (lv_sub hl [2, 3, 1, 0] rfl)
theorem dX3_fewestLiars_0 : decode cX3_fewestLiars 0 = .ok (.aload_n 0, 1) := by decide +kernel
theorem dX3_fewestLiars_1 : decode cX3_fewestLiars 1 = .ok (.invokevirtual 102, 3) := by decide +kernel
theorem dX3_fewestLiars_4 : decode cX3_fewestLiars 4 = .ok (.iconst 1, 1) := by decide +kernel
theorem dX3_fewestLiars_5 : decode cX3_fewestLiars 5 = .ok (.isub, 1) := by decide +kernel
theorem dX3_fewestLiars_6 : decode cX3_fewestLiars 6 = .ok (.istore_n 1, 1) := by decide +kernel
theorem dX3_fewestLiars_7 : decode cX3_fewestLiars 7 = .ok (.aload_n 0, 1) := by decide +kernel
theorem dX3_fewestLiars_8 : decode cX3_fewestLiars 8 = .ok (.invokevirtual 102, 3) := by decide +kernel
theorem dX3_fewestLiars_11 : decode cX3_fewestLiars 11 = .ok (.iconst 1, 1) := by decide +kernel
theorem dX3_fewestLiars_12 : decode cX3_fewestLiars 12 = .ok (.isub, 1) := by decide +kernel
theorem dX3_fewestLiars_13 : decode cX3_fewestLiars 13 = .ok (.istore_n 2, 1) := by decide +kernel
theorem dX3_fewestLiars_14 : decode cX3_fewestLiars 14 = .ok (.iload_n 2, 1) := by decide +kernel
theorem dX3_fewestLiars_15 : decode cX3_fewestLiars 15 = .ok (.ifCond .lt 40, 3) := by decide +kernel
theorem dX3_fewestLiars_18 : decode cX3_fewestLiars 18 = .ok (.iload_n 2, 1) := by decide +kernel
theorem dX3_fewestLiars_19 : decode cX3_fewestLiars 19 = .ok (.invokestatic 105, 3) := by decide +kernel
theorem dX3_fewestLiars_22 : decode cX3_fewestLiars 22 = .ok (.iload_n 1, 1) := by decide +kernel
theorem dX3_fewestLiars_23 : decode cX3_fewestLiars 23 = .ok (.invokestatic 105, 3) := by decide +kernel
theorem dX3_fewestLiars_26 : decode cX3_fewestLiars 26 = .ok (.if_icmp .gt 7, 3) := by decide +kernel
theorem dX3_fewestLiars_29 : decode cX3_fewestLiars 29 = .ok (.iconst 1, 1) := by decide +kernel
theorem dX3_fewestLiars_30 : decode cX3_fewestLiars 30 = .ok (.goto 4, 3) := by decide +kernel
theorem dX3_fewestLiars_33 : decode cX3_fewestLiars 33 = .ok (.iconst 0, 1) := by decide +kernel
theorem dX3_fewestLiars_34 : decode cX3_fewestLiars 34 = .ok (.istore_n 3, 1) := by decide +kernel
theorem dX3_fewestLiars_35 : decode cX3_fewestLiars 35 = .ok (.iload_n 3, 1) := by decide +kernel
theorem dX3_fewestLiars_36 : decode cX3_fewestLiars 36 = .ok (.ifCond .eq 13, 3) := by decide +kernel
theorem dX3_fewestLiars_39 : decode cX3_fewestLiars 39 = .ok (.aload_n 0, 1) := by decide +kernel
theorem dX3_fewestLiars_40 : decode cX3_fewestLiars 40 = .ok (.iload_n 2, 1) := by decide +kernel
theorem dX3_fewestLiars_41 : decode cX3_fewestLiars 41 = .ok (.invokevirtual 110, 3) := by decide +kernel
theorem dX3_fewestLiars_44 : decode cX3_fewestLiars 44 = .ok (.ifCond .ne 5, 3) := by decide +kernel
theorem dX3_fewestLiars_47 : decode cX3_fewestLiars 47 = .ok (.iload_n 2, 1) := by decide +kernel
theorem dX3_fewestLiars_48 : decode cX3_fewestLiars 48 = .ok (.istore_n 1, 1) := by decide +kernel
theorem dX3_fewestLiars_49 : decode cX3_fewestLiars 49 = .ok (.iinc 2 (-1), 3) := by decide +kernel
theorem dX3_fewestLiars_52 : decode cX3_fewestLiars 52 = .ok (.goto (-38), 3) := by decide +kernel
theorem dX3_fewestLiars_55 : decode cX3_fewestLiars 55 = .ok (.iload_n 1, 1) := by decide +kernel
theorem dX3_fewestLiars_56 : decode cX3_fewestLiars 56 = .ok (.ireturn, 1) := by decide +kernel
set_option maxRecDepth 100000 in
theorem c_X3_fewestLiars (l : Launch) (E : xE) (a0 a1 a2 a3 : Nat) {T0 : Nat → Int32} {V1 : Nat → Int32} {V2 : Nat → Int32} {V3 : Nat → Int32} {u0_7 u0_8 u0_9 u0_13 u0_14 : Nat} {z : Int32} (hf : f_X3_fewestLiars T0 V1 V2 V3 = some z) (sz : Nat) : Met l yX3_fewestLiars (Cond.code yX3_fewestLiars cX3_fewestLiars 4 (some .int) :: gw) ({ frames := 2, cells := 0, slots := 0, locals := 46 }) (xPc E [.ref a0] [(a0, o3 T0 u0_7 u0_8 u0_9 a3 a1 a2 u0_13 u0_14), (a1, ai E 12 V1), (a2, ai E 12 V2), (a3, ai E 12 V3)] sz) (xQi E z [(a0, o3 T0 u0_7 u0_8 u0_9 a3 a1 a2 u0_13 u0_14), (a1, ai E 12 V1), (a2, ai E 12 V2), (a3, ai E 12 V3)] [(a0, o3 T0 u0_7 u0_8 u0_9 a3 a1 a2 u0_13 u0_14), (a1, ai E 12 V1), (a2, ai E 12 V2), (a3, ai E 12 V3)] sz) 0 0 (va_A [(a0, o3 T0 u0_7 u0_8 u0_9 a3 a1 a2 u0_13 u0_14), (a1, ai E 12 V1), (a2, ai E 12 V2), (a3, ai E 12 V3)] sz) := by
  refine xM_i (by decide +kernel) (Nat.le_of_ble_eq_true rfl) ?_
  intro p e s m args below meth c A Q hx hb hml hown htg hK hG hA ret0 H locs ls hP hD hS hl
  have ret : ∀ (z' : Int32) {H : Heap} {locs : List Loc} {pc : Nat} {ls : Array Slot}, some z' = some z → narrow .int (.int z') = .int z' → va_P E.1 vwCl [(a0, o3 T0 u0_7 u0_8 u0_9 a3 a1 a2 u0_13 u0_14), (a1, ai E 12 V1), (a2, ai E 12 V2), (a3, ai E 12 V3)] H → va_S A s.heap H locs → decode cX3_fewestLiars pc = .ok (.ireturn, 1) → W p l e ({ frames := 2, cells := 0, slots := 0, locals := 46 } : Room) s m args below meth c H locs 0 0 Q (F0 m pc ls [.int z']) := by
    intro z' H locs pc ls h
    cases h
    exact ret0
  replace hl : lv_has ls 4 [(0, .ref a0)] := hl
  have b14 : ∀ (n : Nat) (x1 : Int32) (x2 : Int32) (H : Heap) (locs : List Loc) (ls : Array Slot), f_X3_fewestLiars_14 T0 V1 V2 V3 n x1 x2 = some z → va_P E.1 vwCl [(a0, o3 T0 u0_7 u0_8 u0_9 a3 a1 a2 u0_13 u0_14), (a1, ai E 12 V1), (a2, ai E 12 V2), (a3, ai E 12 V3)] H → va_D A [(a0, o3 T0 u0_7 u0_8 u0_9 a3 a1 a2 u0_13 u0_14), (a1, ai E 12 V1), (a2, ai E 12 V2), (a3, ai E 12 V3)] → va_S A s.heap H locs → lv_has ls 4 [(0, .ref a0), (1, .int x1), (2, .int x2)] → W p l e ({ frames := 2, cells := 0, slots := 0, locals := 46 } : Room) s m args below meth c H locs 0 0 Q (F0 m 14 ls []) := by
    intro n
    induction n with
    | zero => intro x1 x2 H locs ls hf; exact (nn_s hf).elim
    | succ n ih14 =>
      obtain ⟨k14, ek14⟩ : ∃ k, k = f_X3_fewestLiars_14 T0 V1 V2 V3 n := ⟨_, rfl⟩
      rw [← ek14] at ih14
      have b34 : ∀ (x1 : Int32) (x2 : Int32) (s0 : Int32) (H : Heap) (locs : List Loc) (ls : Array Slot), f_X3_fewestLiars_34 T0 V1 V2 V3 k14 x1 x2 s0 = some z → va_P E.1 vwCl [(a0, o3 T0 u0_7 u0_8 u0_9 a3 a1 a2 u0_13 u0_14), (a1, ai E 12 V1), (a2, ai E 12 V2), (a3, ai E 12 V3)] H → va_D A [(a0, o3 T0 u0_7 u0_8 u0_9 a3 a1 a2 u0_13 u0_14), (a1, ai E 12 V1), (a2, ai E 12 V2), (a3, ai E 12 V3)] → va_S A s.heap H locs → lv_has ls 4 [(0, .ref a0), (1, .int x1), (2, .int x2)] → W p l e ({ frames := 2, cells := 0, slots := 0, locals := 46 } : Room) s m args below meth c H locs 0 0 Q (F0 m 34 ls [.int s0]) := by
        intro x1 x2 s0 H locs ls hf hP hD hS hl
        unfold f_X3_fewestLiars_34 at hf
        refine lv_istore_n (lv' := [(3, .int s0), (0, .ref a0), (1, .int x1), (2, .int x2)]) hx hb dX3_fewestLiars_34 rfl hl (by decide) rfl (fun ls hl => ?_)
        refine lv_iload_n hx hb dX3_fewestLiars_35 rfl (lv_at hl 0 rfl) ?_
        refine lv_if_eq (tgt := 49) hx hb dX3_fewestLiars_36 (by decide) (fun c36 => ?_) (fun c36 => ?_)
        · have hf := it_t c36 hf
          refine lv_iinc (v := x2 + (-1)) (lv' := [(2, .int (x2 + (-1))), (3, .int s0), (0, .ref a0), (1, .int x1)]) hx hb dX3_fewestLiars_49 hl (k := 3) rfl rfl (by decide) rfl (fun ls hl => ?_)
          refine lv_goto (tgt := 14) hx hb dX3_fewestLiars_52 (by decide) ?_
          exact ih14 x1 (x2 + (-1)) _ _ _ hf hP hD hS (lv_sub hl [2, 3, 0] rfl)
        · have hf := it_f c36 hf
          refine lv_aload_n hx hb dX3_fewestLiars_39 rfl (lv_at hl 1 rfl) ?_
          refine lv_iload_n hx hb dX3_fewestLiars_40 rfl (lv_at hl 3 rfl) ?_
          obtain ⟨z41, hz41, hf⟩ := bind_s hf
          refine xV_ir hx hb hml hown htg L3_110 (c_X3_clashesWithout l E a0 a1 a2 a3 hz41 _) ⟨⟨rfl, rfl⟩, Nat.le_of_ble_eq_true rfl, Nat.le_of_ble_eq_true rfl⟩ hK hG hA hP hD hS (is := [0, 1, 2, 3]) rfl rfl (xrecv hK hP (q0 := 0) (ci := 3) rfl rfl) rfl hl.1 rfl (Nat.le_of_ble_eq_true rfl) dX3_fewestLiars_41 (fun H locs hP hD hS => ?_)
          refine lv_if_ne (tgt := 49) hx hb dX3_fewestLiars_44 (by decide) (fun c44 => ?_) (fun c44 => ?_)
          · have hf := it_f c44 hf
            refine lv_iinc (v := x2 + (-1)) (lv' := [(2, .int (x2 + (-1))), (3, .int s0), (0, .ref a0), (1, .int x1)]) hx hb dX3_fewestLiars_49 hl (k := 3) rfl rfl (by decide) rfl (fun ls hl => ?_)
            refine lv_goto (tgt := 14) hx hb dX3_fewestLiars_52 (by decide) ?_
            exact ih14 x1 (x2 + (-1)) _ _ _ hf hP hD hS (lv_sub hl [2, 3, 0] rfl)
          · have hf := it_t c44 hf
            refine lv_iload_n hx hb dX3_fewestLiars_47 rfl (lv_at hl 3 rfl) ?_
            refine lv_istore_n (lv' := [(1, .int x2), (3, .int s0), (0, .ref a0), (2, .int x2)]) hx hb dX3_fewestLiars_48 rfl hl (by decide) rfl (fun ls hl => ?_)
            refine lv_iinc (v := x2 + (-1)) (lv' := [(2, .int (x2 + (-1))), (1, .int x2), (3, .int s0), (0, .ref a0)]) hx hb dX3_fewestLiars_49 hl (k := 3) rfl rfl (by decide) rfl (fun ls hl => ?_)
            refine lv_goto (tgt := 14) hx hb dX3_fewestLiars_52 (by decide) ?_
            exact ih14 x2 (x2 + (-1)) _ _ _ hf hP hD hS (lv_sub hl [3, 1, 0] rfl)
      intro x1 x2 H locs ls hf hP hD hS hl
      replace hf : g_X3_fewestLiars_14 T0 V1 V2 V3 k14 x1 x2 = some z := by rw [ek14]; exact hf
      unfold g_X3_fewestLiars_14 at hf
      refine lv_iload_n hx hb dX3_fewestLiars_14 rfl (lv_at hl 2 rfl) ?_
      refine lv_if_lt (tgt := 55) hx hb dX3_fewestLiars_15 (by decide) (fun c15 => ?_) (fun c15 => ?_)
      · have hf := it_t c15 hf
        refine lv_iload_n hx hb dX3_fewestLiars_55 rfl (lv_at hl 1 rfl) ?_
        exact ret x1 hf nzi hP hS dX3_fewestLiars_56
      · have hf := it_f c15 hf
        refine lv_iload_n hx hb dX3_fewestLiars_18 rfl (lv_at hl 2 rfl) ?_
        obtain ⟨z19, hz19, hf⟩ := bind_s hf
        refine xS_ir hx hb hml hown htg L3_105 (c_J6_bitCount_0f7a4 l E hz19 _) ⟨⟨rfl, rfl⟩, Nat.le_of_ble_eq_true rfl, Nat.le_of_ble_eq_true rfl⟩ hK hG hA hP hD hS (is := []) rfl rfl rfl hl.1 rfl (Nat.le_of_ble_eq_true rfl) dX3_fewestLiars_19 (fun H locs hP hD hS => ?_)
        refine lv_iload_n hx hb dX3_fewestLiars_22 rfl (lv_at hl 1 rfl) ?_
        obtain ⟨z23, hz23, hf⟩ := bind_s hf
        refine xS_ir hx hb hml hown htg L3_105 (c_J6_bitCount_0f7a4 l E hz23 _) ⟨⟨rfl, rfl⟩, Nat.le_of_ble_eq_true rfl, Nat.le_of_ble_eq_true rfl⟩ hK hG hA hP hD hS (is := []) rfl rfl rfl hl.1 rfl (Nat.le_of_ble_eq_true rfl) dX3_fewestLiars_23 (fun H locs hP hD hS => ?_)
        refine lv_icmp_gt (tgt := 33) hx hb dX3_fewestLiars_26 (by decide) (fun c26 => ?_) (fun c26 => ?_)
        · have hf := it_t c26 hf
          refine lv_iconst (v := 0) hx hb dX3_fewestLiars_33 rfl ?_
          exact b34 x1 x2 0 _ _ _ hf hP hD hS (lv_sub hl [0, 1, 2] rfl)
        · have hf := it_f c26 hf
          refine lv_iconst (v := 1) hx hb dX3_fewestLiars_29 rfl ?_
          refine lv_goto (tgt := 34) hx hb dX3_fewestLiars_30 (by decide) ?_
          exact b34 x1 x2 1 _ _ _ hf hP hD hS (lv_sub hl [0, 1, 2] rfl)
  unfold f_X3_fewestLiars at hf
  refine lv_aload_n hx hb dX3_fewestLiars_0 rfl (lv_at hl 0 rfl) ?_
  obtain ⟨z1, hz1, hf⟩ := bind_s hf
  refine xV_ir hx hb hml hown htg L3_102 (c_X3_sets l E a0 hz1 _) ⟨⟨rfl, rfl⟩, Nat.le_of_ble_eq_true rfl, Nat.le_of_ble_eq_true rfl⟩ hK hG hA hP hD hS (is := [0]) rfl rfl (xrecv hK hP (q0 := 0) (ci := 3) rfl rfl) rfl hl.1 rfl (Nat.le_of_ble_eq_true rfl) dX3_fewestLiars_1 (fun H locs hP hD hS => ?_)
  refine lv_iconst (v := 1) hx hb dX3_fewestLiars_4 rfl ?_
  refine lv_isub hx hb dX3_fewestLiars_5 ?_
  refine lv_istore_n (lv' := [(1, .int (z1 - 1)), (0, .ref a0)]) hx hb dX3_fewestLiars_6 rfl hl (by decide) rfl (fun ls hl => ?_)
  refine lv_aload_n hx hb dX3_fewestLiars_7 rfl (lv_at hl 1 rfl) ?_
  obtain ⟨z8, hz8, hf⟩ := bind_s hf
  refine xV_ir hx hb hml hown htg L3_102 (c_X3_sets l E a0 hz8 _) ⟨⟨rfl, rfl⟩, Nat.le_of_ble_eq_true rfl, Nat.le_of_ble_eq_true rfl⟩ hK hG hA hP hD hS (is := [0]) rfl rfl (xrecv hK hP (q0 := 0) (ci := 3) rfl rfl) rfl hl.1 rfl (Nat.le_of_ble_eq_true rfl) dX3_fewestLiars_8 (fun H locs hP hD hS => ?_)
  refine lv_iconst (v := 1) hx hb dX3_fewestLiars_11 rfl ?_
  refine lv_isub hx hb dX3_fewestLiars_12 ?_
  refine lv_istore_n (lv' := [(2, .int (z8 - 1)), (1, .int (z1 - 1)), (0, .ref a0)]) hx hb dX3_fewestLiars_13 rfl hl (by decide) rfl (fun ls hl => ?_)
  exact b14 xF (z1 - 1) (z8 - 1) _ _ _ hf hP hD hS (lv_sub hl [2, 1, 0] rfl)
