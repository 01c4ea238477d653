theorem dX11_status_0 : decode cX11_status 0 = .ok (.aload_n 0, 1) := by decide +kernel
theorem dX11_status_1 : decode cX11_status 1 = .ok (.getfield 104, 3) := by decide +kernel
theorem dX11_status_4 : decode cX11_status 4 = .ok (.ireturn, 1) := by decide +kernel
set_option maxRecDepth 100000 in
theorem c_X11_status (l : Launch) (E : xE) (a0 : Nat) {T0 : Nat → Int32} {J0_15 : Int64} {J0_16 : Int64} {u0_0 u0_1 u0_2 u0_3 u0_4 u0_5 u0_6 u0_7 u0_8 u0_9 u0_11 u0_12 u0_13 : Nat} {z : Int32} (hf : f_X11_status T0 = some z) (sz : Nat) : Met l yX11_status (Cond.code yX11_status cX11_status 1 (some .int) :: gw) ({ frames := 0, cells := 0, slots := 0, locals := 0 }) (xPc E [.ref a0] [(a0, o11 T0 J0_15 J0_16 u0_0 u0_1 u0_2 u0_3 u0_4 u0_5 u0_6 u0_7 u0_8 u0_9 u0_11 u0_12 u0_13)] sz) (xQi E z [(a0, o11 T0 J0_15 J0_16 u0_0 u0_1 u0_2 u0_3 u0_4 u0_5 u0_6 u0_7 u0_8 u0_9 u0_11 u0_12 u0_13)] [(a0, o11 T0 J0_15 J0_16 u0_0 u0_1 u0_2 u0_3 u0_4 u0_5 u0_6 u0_7 u0_8 u0_9 u0_11 u0_12 u0_13)] sz) 0 0 (va_A [(a0, o11 T0 J0_15 J0_16 u0_0 u0_1 u0_2 u0_3 u0_4 u0_5 u0_6 u0_7 u0_8 u0_9 u0_11 u0_12 u0_13)] sz) := by
  refine xM_i (by decide +kernel) (Nat.le_of_ble_eq_true rfl) ?_
  intro p e s m args below meth c A Q hx hb hml hown htg hK hG hA ret0 H locs ls hP hD hS hl
  have ret : ∀ (z' : Int32) {H : Heap} {locs : List Loc} {pc : Nat} {ls : Array Slot}, some z' = some z → narrow .int (.int z') = .int z' → va_P E.1 vwCl [(a0, o11 T0 J0_15 J0_16 u0_0 u0_1 u0_2 u0_3 u0_4 u0_5 u0_6 u0_7 u0_8 u0_9 u0_11 u0_12 u0_13)] H → va_S A s.heap H locs → decode cX11_status pc = .ok (.ireturn, 1) → W p l e ({ frames := 0, cells := 0, slots := 0, locals := 0 } : Room) s m args below meth c H locs 0 0 Q (F0 m pc ls [.int z']) := by
    intro z' H locs pc ls h
    cases h
    exact ret0
  replace hl : lv_has ls 1 [(0, .ref a0)] := hl
  unfold f_X11_status at hf
  refine lv_aload_n hx hb dX11_status_0 rfl (lv_at hl 0 rfl) ?_
  refine G11_104 hx hb htg hown hK hP 0 rfl dX11_status_1 ?_
  exact ret (T0 14) hf nzi hP hS dX11_status_4
theorem dX11_top_0 : decode cX11_top 0 = .ok (.aload_n 0, 1) := by decide +kernel
theorem dX11_top_1 : decode cX11_top 1 = .ok (.getfield 107, 3) := by decide +kernel
theorem dX11_top_4 : decode cX11_top 4 = .ok (.lreturn, 1) := by decide +kernel
set_option maxRecDepth 100000 in
theorem c_X11_top (l : Launch) (E : xE) (a0 : Nat) {T0 : Nat → Int32} {J0_15 : Int64} {J0_16 : Int64} {u0_0 u0_1 u0_2 u0_3 u0_4 u0_5 u0_6 u0_7 u0_8 u0_9 u0_11 u0_12 u0_13 : Nat} {z : Int64} (hf : f_X11_top J0_15 = some z) (sz : Nat) : Met l yX11_top (Cond.code yX11_top cX11_top 1 (some .long) :: gw) ({ frames := 0, cells := 0, slots := 0, locals := 0 }) (xPc E [.ref a0] [(a0, o11 T0 J0_15 J0_16 u0_0 u0_1 u0_2 u0_3 u0_4 u0_5 u0_6 u0_7 u0_8 u0_9 u0_11 u0_12 u0_13)] sz) (xQl E z [(a0, o11 T0 J0_15 J0_16 u0_0 u0_1 u0_2 u0_3 u0_4 u0_5 u0_6 u0_7 u0_8 u0_9 u0_11 u0_12 u0_13)] [(a0, o11 T0 J0_15 J0_16 u0_0 u0_1 u0_2 u0_3 u0_4 u0_5 u0_6 u0_7 u0_8 u0_9 u0_11 u0_12 u0_13)] sz) 0 0 (va_A [(a0, o11 T0 J0_15 J0_16 u0_0 u0_1 u0_2 u0_3 u0_4 u0_5 u0_6 u0_7 u0_8 u0_9 u0_11 u0_12 u0_13)] sz) := by
  refine xM_l (by decide +kernel) (Nat.le_of_ble_eq_true rfl) ?_
  intro p e s m args below meth c A Q hx hb hml hown htg hK hG hA ret0 H locs ls hP hD hS hl
  have ret : ∀ (z' : Int64) {H : Heap} {locs : List Loc} {pc : Nat} {ls : Array Slot}, some z' = some z → va_P E.1 vwCl [(a0, o11 T0 J0_15 J0_16 u0_0 u0_1 u0_2 u0_3 u0_4 u0_5 u0_6 u0_7 u0_8 u0_9 u0_11 u0_12 u0_13)] H → va_S A s.heap H locs → decode cX11_top pc = .ok (.lreturn, 1) → W p l e ({ frames := 0, cells := 0, slots := 0, locals := 0 } : Room) s m args below meth c H locs 0 0 Q (F0 m pc ls [.long z']) := by
    intro z' H locs pc ls h
    cases h
    exact ret0
  replace hl : lv_has ls 1 [(0, .ref a0)] := hl
  unfold f_X11_top at hf
  refine lv_aload_n hx hb dX11_top_0 rfl (lv_at hl 0 rfl) ?_
  refine G11_107 hx hb htg hown hK hP 0 rfl dX11_top_1 ?_
  exact ret J0_15 hf hP hS dX11_top_4
theorem dX11_bottom_0 : decode cX11_bottom 0 = .ok (.aload_n 0, 1) := by decide +kernel
theorem dX11_bottom_1 : decode cX11_bottom 1 = .ok (.getfield 93, 3) := by decide +kernel
theorem dX11_bottom_4 : decode cX11_bottom 4 = .ok (.lreturn, 1) := by decide +kernel
set_option maxRecDepth 100000 in
theorem c_X11_bottom (l : Launch) (E : xE) (a0 : Nat) {T0 : Nat → Int32} {J0_15 : Int64} {J0_16 : Int64} {u0_0 u0_1 u0_2 u0_3 u0_4 u0_5 u0_6 u0_7 u0_8 u0_9 u0_11 u0_12 u0_13 : Nat} {z : Int64} (hf : f_X11_bottom J0_16 = some z) (sz : Nat) : Met l yX11_bottom (Cond.code yX11_bottom cX11_bottom 1 (some .long) :: gw) ({ frames := 0, cells := 0, slots := 0, locals := 0 }) (xPc E [.ref a0] [(a0, o11 T0 J0_15 J0_16 u0_0 u0_1 u0_2 u0_3 u0_4 u0_5 u0_6 u0_7 u0_8 u0_9 u0_11 u0_12 u0_13)] sz) (xQl E z [(a0, o11 T0 J0_15 J0_16 u0_0 u0_1 u0_2 u0_3 u0_4 u0_5 u0_6 u0_7 u0_8 u0_9 u0_11 u0_12 u0_13)] [(a0, o11 T0 J0_15 J0_16 u0_0 u0_1 u0_2 u0_3 u0_4 u0_5 u0_6 u0_7 u0_8 u0_9 u0_11 u0_12 u0_13)] sz) 0 0 (va_A [(a0, o11 T0 J0_15 J0_16 u0_0 u0_1 u0_2 u0_3 u0_4 u0_5 u0_6 u0_7 u0_8 u0_9 u0_11 u0_12 u0_13)] sz) := by
  refine xM_l (by decide +kernel) (Nat.le_of_ble_eq_true rfl) ?_
  intro p e s m args below meth c A Q hx hb hml hown htg hK hG hA ret0 H locs ls hP hD hS hl
  have ret : ∀ (z' : Int64) {H : Heap} {locs : List Loc} {pc : Nat} {ls : Array Slot}, some z' = some z → va_P E.1 vwCl [(a0, o11 T0 J0_15 J0_16 u0_0 u0_1 u0_2 u0_3 u0_4 u0_5 u0_6 u0_7 u0_8 u0_9 u0_11 u0_12 u0_13)] H → va_S A s.heap H locs → decode cX11_bottom pc = .ok (.lreturn, 1) → W p l e ({ frames := 0, cells := 0, slots := 0, locals := 0 } : Room) s m args below meth c H locs 0 0 Q (F0 m pc ls [.long z']) := by
    intro z' H locs pc ls h
    cases h
    exact ret0
  replace hl : lv_has ls 1 [(0, .ref a0)] := hl
  unfold f_X11_bottom at hf
  refine lv_aload_n hx hb dX11_bottom_0 rfl (lv_at hl 0 rfl) ?_
  refine G11_93 hx hb htg hown hK hP 0 rfl dX11_bottom_1 ?_
  exact ret J0_16 hf hP hS dX11_bottom_4
theorem dX11_denied_0 : decode cX11_denied 0 = .ok (.aload_n 0, 1) := by decide +kernel
theorem dX11_denied_1 : decode cX11_denied 1 = .ok (.iload_n 1, 1) := by decide +kernel
theorem dX11_denied_2 : decode cX11_denied 2 = .ok (.putfield 104, 3) := by decide +kernel
theorem dX11_denied_5 : decode cX11_denied 5 = .ok (.iconst 0, 1) := by decide +kernel
theorem dX11_denied_6 : decode cX11_denied 6 = .ok (.ireturn, 1) := by decide +kernel
set_option maxRecDepth 100000 in
theorem c_X11_denied (l : Launch) (E : xE) (a0 : Nat) {T0 : Nat → Int32} {J0_15 : Int64} {J0_16 : Int64} {u0_0 u0_1 u0_2 u0_3 u0_4 u0_5 u0_6 u0_7 u0_8 u0_9 u0_11 u0_12 u0_13 : Nat} {x1 : Int32} {z : Int32 × (Nat → Int32)} (hf : f_X11_denied T0 x1 = some z) (sz : Nat) : Met l yX11_denied (Cond.code yX11_denied cX11_denied 2 (some .boolean) :: gw) ({ frames := 0, cells := 0, slots := 0, locals := 0 }) (xPc E [.ref a0, .int x1] [(a0, o11 T0 J0_15 J0_16 u0_0 u0_1 u0_2 u0_3 u0_4 u0_5 u0_6 u0_7 u0_8 u0_9 u0_11 u0_12 u0_13)] sz) (xQi E z.1 [(a0, o11 T0 J0_15 J0_16 u0_0 u0_1 u0_2 u0_3 u0_4 u0_5 u0_6 u0_7 u0_8 u0_9 u0_11 u0_12 u0_13)] [(a0, o11 z.2 J0_15 J0_16 u0_0 u0_1 u0_2 u0_3 u0_4 u0_5 u0_6 u0_7 u0_8 u0_9 u0_11 u0_12 u0_13)] sz) 0 0 (va_A [(a0, o11 T0 J0_15 J0_16 u0_0 u0_1 u0_2 u0_3 u0_4 u0_5 u0_6 u0_7 u0_8 u0_9 u0_11 u0_12 u0_13)] sz) := by
  refine xM_i (by decide +kernel) (Nat.le_of_ble_eq_true rfl) ?_
  intro p e s m args below meth c A Q hx hb hml hown htg hK hG hA ret0 H locs ls hP hD hS hl
  have ret : ∀ (z' : Int32 × (Nat → Int32)) {H : Heap} {locs : List Loc} {pc : Nat} {ls : Array Slot}, some z' = some z → narrow .boolean (.int z'.1) = .int z'.1 → va_P E.1 vwCl [(a0, o11 z'.2 J0_15 J0_16 u0_0 u0_1 u0_2 u0_3 u0_4 u0_5 u0_6 u0_7 u0_8 u0_9 u0_11 u0_12 u0_13)] H → va_S A s.heap H locs → decode cX11_denied pc = .ok (.ireturn, 1) → W p l e ({ frames := 0, cells := 0, slots := 0, locals := 0 } : Room) s m args below meth c H locs 0 0 Q (F0 m pc ls [.int z'.1]) := by
    intro z' H locs pc ls h
    cases h
    exact ret0
  replace hl : lv_has ls 2 [(0, .ref a0), (1, .int x1)] := hl
  unfold f_X11_denied at hf
  refine lv_aload_n hx hb dX11_denied_0 rfl (lv_at hl 0 rfl) ?_
  refine lv_iload_n hx hb dX11_denied_1 rfl (lv_at hl 1 rfl) ?_
  refine P11_104 hx hb htg hown hK hP hD hS 0 rfl dX11_denied_2 (fun H locs hP hD hS => ?_)
  refine lv_iconst (v := 0) hx hb dX11_denied_5 rfl ?_
  exact ret (0, upd T0 14 x1) hf nz0 hP hS dX11_denied_6
theorem dX11_done_0 : decode cX11_done 0 = .ok (.aload_n 0, 1) := by decide +kernel
theorem dX11_done_1 : decode cX11_done 1 = .ok (.iconst 0, 1) := by decide +kernel
theorem dX11_done_2 : decode cX11_done 2 = .ok (.putfield 104, 3) := by decide +kernel
theorem dX11_done_5 : decode cX11_done 5 = .ok (.iconst 1, 1) := by decide +kernel
theorem dX11_done_6 : decode cX11_done 6 = .ok (.ireturn, 1) := by decide +kernel
set_option maxRecDepth 100000 in
theorem c_X11_done (l : Launch) (E : xE) (a0 : Nat) {T0 : Nat → Int32} {J0_15 : Int64} {J0_16 : Int64} {u0_0 u0_1 u0_2 u0_3 u0_4 u0_5 u0_6 u0_7 u0_8 u0_9 u0_11 u0_12 u0_13 : Nat} {z : Int32 × (Nat → Int32)} (hf : f_X11_done T0 = some z) (sz : Nat) : Met l yX11_done (Cond.code yX11_done cX11_done 1 (some .boolean) :: gw) ({ frames := 0, cells := 0, slots := 0, locals := 0 }) (xPc E [.ref a0] [(a0, o11 T0 J0_15 J0_16 u0_0 u0_1 u0_2 u0_3 u0_4 u0_5 u0_6 u0_7 u0_8 u0_9 u0_11 u0_12 u0_13)] sz) (xQi E z.1 [(a0, o11 T0 J0_15 J0_16 u0_0 u0_1 u0_2 u0_3 u0_4 u0_5 u0_6 u0_7 u0_8 u0_9 u0_11 u0_12 u0_13)] [(a0, o11 z.2 J0_15 J0_16 u0_0 u0_1 u0_2 u0_3 u0_4 u0_5 u0_6 u0_7 u0_8 u0_9 u0_11 u0_12 u0_13)] sz) 0 0 (va_A [(a0, o11 T0 J0_15 J0_16 u0_0 u0_1 u0_2 u0_3 u0_4 u0_5 u0_6 u0_7 u0_8 u0_9 u0_11 u0_12 u0_13)] sz) := by
  refine xM_i (by decide +kernel) (Nat.le_of_ble_eq_true rfl) ?_
  intro p e s m args below meth c A Q hx hb hml hown htg hK hG hA ret0 H locs ls hP hD hS hl
  have ret : ∀ (z' : Int32 × (Nat → Int32)) {H : Heap} {locs : List Loc} {pc : Nat} {ls : Array Slot}, some z' = some z → narrow .boolean (.int z'.1) = .int z'.1 → va_P E.1 vwCl [(a0, o11 z'.2 J0_15 J0_16 u0_0 u0_1 u0_2 u0_3 u0_4 u0_5 u0_6 u0_7 u0_8 u0_9 u0_11 u0_12 u0_13)] H → va_S A s.heap H locs → decode cX11_done pc = .ok (.ireturn, 1) → W p l e ({ frames := 0, cells := 0, slots := 0, locals := 0 } : Room) s m args below meth c H locs 0 0 Q (F0 m pc ls [.int z'.1]) := by
    intro z' H locs pc ls h
    cases h
    exact ret0
  replace hl : lv_has ls 1 [(0, .ref a0)] := hl
  unfold f_X11_done at hf
  refine lv_aload_n hx hb dX11_done_0 rfl (lv_at hl 0 rfl) ?_
  refine lv_iconst (v := 0) hx hb dX11_done_1 rfl ?_
  refine P11_104 hx hb htg hown hK hP hD hS 0 rfl dX11_done_2 (fun H locs hP hD hS => ?_)
  refine lv_iconst (v := 1) hx hb dX11_done_5 rfl ?_
  exact ret (1, upd T0 14 0) hf nz1 hP hS dX11_done_6
theorem dX11_tray_0 : decode cX11_tray 0 = .ok (.aload_n 0, 1) := by decide +kernel
theorem dX11_tray_1 : decode cX11_tray 1 = .ok (.getfield 10, 3) := by decide +kernel
theorem dX11_tray_4 : decode cX11_tray 4 = .ok (.iload_n 1, 1) := by decide +kernel
theorem dX11_tray_5 : decode cX11_tray 5 = .ok (.invokevirtual 110, 3) := by decide +kernel
theorem dX11_tray_8 : decode cX11_tray 8 = .ok (.ifCond .eq 12, 3) := by decide +kernel
theorem dX11_tray_11 : decode cX11_tray 11 = .ok (.iload_n 2, 1) := by decide +kernel
theorem dX11_tray_12 : decode cX11_tray 12 = .ok (.iconst 0, 1) := by decide +kernel
theorem dX11_tray_13 : decode cX11_tray 13 = .ok (.iconst 3, 1) := by decide +kernel
theorem dX11_tray_14 : decode cX11_tray 14 = .ok (.invokestatic 114, 3) := by decide +kernel
theorem dX11_tray_17 : decode cX11_tray 17 = .ok (.ifCond .ne 9, 3) := by decide +kernel
theorem dX11_tray_20 : decode cX11_tray 20 = .ok (.aload_n 0, 1) := by decide +kernel
theorem dX11_tray_21 : decode cX11_tray 21 = .ok (.iconst 1, 1) := by decide +kernel
theorem dX11_tray_22 : decode cX11_tray 22 = .ok (.invokevirtual 118, 3) := by decide +kernel
theorem dX11_tray_25 : decode cX11_tray 25 = .ok (.ireturn, 1) := by decide +kernel
theorem dX11_tray_26 : decode cX11_tray 26 = .ok (.iload_n 3, 1) := by decide +kernel
theorem dX11_tray_27 : decode cX11_tray 27 = .ok (.bipush 60, 2) := by decide +kernel
theorem dX11_tray_29 : decode cX11_tray 29 = .ok (.if_icmp .le 9, 3) := by decide +kernel
theorem dX11_tray_32 : decode cX11_tray 32 = .ok (.aload_n 0, 1) := by decide +kernel
theorem dX11_tray_33 : decode cX11_tray 33 = .ok (.iconst 5, 1) := by decide +kernel
theorem dX11_tray_34 : decode cX11_tray 34 = .ok (.invokevirtual 118, 3) := by decide +kernel
theorem dX11_tray_37 : decode cX11_tray 37 = .ok (.ireturn, 1) := by decide +kernel
theorem dX11_tray_38 : decode cX11_tray 38 = .ok (.iload_n 3, 1) := by decide +kernel
theorem dX11_tray_39 : decode cX11_tray 39 = .ok (.ifCond .ge 10, 3) := by decide +kernel
theorem dX11_tray_42 : decode cX11_tray 42 = .ok (.aload_n 0, 1) := by decide +kernel
theorem dX11_tray_43 : decode cX11_tray 43 = .ok (.bipush 6, 2) := by decide +kernel
theorem dX11_tray_45 : decode cX11_tray 45 = .ok (.invokevirtual 118, 3) := by decide +kernel
theorem dX11_tray_48 : decode cX11_tray 48 = .ok (.ireturn, 1) := by decide +kernel
theorem dX11_tray_49 : decode cX11_tray 49 = .ok (.aload_n 0, 1) := by decide +kernel
theorem dX11_tray_50 : decode cX11_tray 50 = .ok (.getfield 10, 3) := by decide +kernel
theorem dX11_tray_53 : decode cX11_tray 53 = .ok (.iload_n 1, 1) := by decide +kernel
theorem dX11_tray_54 : decode cX11_tray 54 = .ok (.iload_n 2, 1) := by decide +kernel
theorem dX11_tray_55 : decode cX11_tray 55 = .ok (.iload_n 3, 1) := by decide +kernel
theorem dX11_tray_56 : decode cX11_tray 56 = .ok (.invokevirtual 121, 3) := by decide +kernel
theorem dX11_tray_59 : decode cX11_tray 59 = .ok (.aload_n 0, 1) := by decide +kernel
theorem dX11_tray_60 : decode cX11_tray 60 = .ok (.invokevirtual 125, 3) := by decide +kernel
theorem dX11_tray_63 : decode cX11_tray 63 = .ok (.ireturn, 1) := by decide +kernel
set_option maxRecDepth 100000 in
theorem c_X11_tray (l : Launch) (E : xE) (a0 a1 a2 a3 a4 a5 a6 a7 a8 : Nat) {T0 : Nat → Int32} {J0_15 : Int64} {J0_16 : Int64} {V2 : Nat → Int32} {V3 : Nat → Int32} {V5 : Nat → Int64} {V6 : Nat → Int64} {V7 : Nat → Int64} {V8 : Nat → Int64} {u0_1 u0_2 u0_3 u0_4 u0_5 u0_6 u0_7 u0_8 u0_9 u0_11 u0_12 u0_13 : Nat} {x1 : Int32} {x2 : Int32} {x3 : Int32} {z : Int32 × (Nat → Int32) × (Nat → Int32) × (Nat → Int32) × (Nat → Int64) × (Nat → Int64) × (Nat → Int64) × (Nat → Int64)} (hf : f_X11_tray T0 V2 V3 V5 V6 V7 V8 x1 x2 x3 = some z) (sz : Nat) : Met l yX11_tray (Cond.code yX11_tray cX11_tray 4 (some .boolean) :: gw) ({ frames := 3, cells := 0, slots := 0, locals := 66 }) (xPc E [.ref a0, .int x1, .int x2, .int x3] [(a0, o11 T0 J0_15 J0_16 a1 u0_1 u0_2 u0_3 u0_4 u0_5 u0_6 u0_7 u0_8 u0_9 u0_11 u0_12 u0_13), (a1, o9 a4 a2 a3), (a2, ai E 4 V2), (a3, ai E 4 V3), (a4, aj E 4 (en [a5, a6, a7, a8])), (a5, al E 60 V5), (a6, al E 60 V6), (a7, al E 60 V7), (a8, al E 60 V8)] sz) (xQi E z.1 [(a0, o11 T0 J0_15 J0_16 a1 u0_1 u0_2 u0_3 u0_4 u0_5 u0_6 u0_7 u0_8 u0_9 u0_11 u0_12 u0_13), (a1, o9 a4 a2 a3), (a2, ai E 4 V2), (a3, ai E 4 V3), (a4, aj E 4 (en [a5, a6, a7, a8])), (a5, al E 60 V5), (a6, al E 60 V6), (a7, al E 60 V7), (a8, al E 60 V8)] [(a0, o11 z.2.1 J0_15 J0_16 a1 u0_1 u0_2 u0_3 u0_4 u0_5 u0_6 u0_7 u0_8 u0_9 u0_11 u0_12 u0_13), (a1, o9 a4 a2 a3), (a2, ai E 4 z.2.2.1), (a3, ai E 4 z.2.2.2.1), (a4, aj E 4 (en [a5, a6, a7, a8])), (a5, al E 60 z.2.2.2.2.1), (a6, al E 60 z.2.2.2.2.2.1), (a7, al E 60 z.2.2.2.2.2.2.1), (a8, al E 60 z.2.2.2.2.2.2.2)] sz) 0 0 (va_A [(a0, o11 T0 J0_15 J0_16 a1 u0_1 u0_2 u0_3 u0_4 u0_5 u0_6 u0_7 u0_8 u0_9 u0_11 u0_12 u0_13), (a1, o9 a4 a2 a3), (a2, ai E 4 V2), (a3, ai E 4 V3), (a4, aj E 4 (en [a5, a6, a7, a8])), (a5, al E 60 V5), (a6, al E 60 V6), (a7, al E 60 V7), (a8, al E 60 V8)] sz) := by
  refine xM_i (by decide +kernel) (Nat.le_of_ble_eq_true rfl) ?_
  intro p e s m args below meth c A Q hx hb hml hown htg hK hG hA ret0 H locs ls hP hD hS hl
  have ret : ∀ (z' : Int32 × (Nat → Int32) × (Nat → Int32) × (Nat → Int32) × (Nat → Int64) × (Nat → Int64) × (Nat → Int64) × (Nat → Int64)) {H : Heap} {locs : List Loc} {pc : Nat} {ls : Array Slot}, some z' = some z → narrow .boolean (.int z'.1) = .int z'.1 → va_P E.1 vwCl [(a0, o11 z'.2.1 J0_15 J0_16 a1 u0_1 u0_2 u0_3 u0_4 u0_5 u0_6 u0_7 u0_8 u0_9 u0_11 u0_12 u0_13), (a1, o9 a4 a2 a3), (a2, ai E 4 z'.2.2.1), (a3, ai E 4 z'.2.2.2.1), (a4, aj E 4 (en [a5, a6, a7, a8])), (a5, al E 60 z'.2.2.2.2.1), (a6, al E 60 z'.2.2.2.2.2.1), (a7, al E 60 z'.2.2.2.2.2.2.1), (a8, al E 60 z'.2.2.2.2.2.2.2)] H → va_S A s.heap H locs → decode cX11_tray pc = .ok (.ireturn, 1) → W p l e ({ frames := 3, cells := 0, slots := 0, locals := 66 } : Room) s m args below meth c H locs 0 0 Q (F0 m pc ls [.int z'.1]) := by
    intro z' H locs pc ls h
    cases h
    exact ret0
  replace hl : lv_has ls 4 [(0, .ref a0), (1, .int x1), (2, .int x2), (3, .int x3)] := hl
  have b20 : ∀ (T0 : Nat → Int32) (V2 : Nat → Int32) (V3 : Nat → Int32) (V5 : Nat → Int64) (V6 : Nat → Int64) (V7 : Nat → Int64) (V8 : Nat → Int64) (H : Heap) (locs : List Loc) (ls : Array Slot), f_X11_tray_20 x1 x2 x3 T0 V2 V3 V5 V6 V7 V8 = some z → va_P E.1 vwCl [(a0, o11 T0 J0_15 J0_16 a1 u0_1 u0_2 u0_3 u0_4 u0_5 u0_6 u0_7 u0_8 u0_9 u0_11 u0_12 u0_13), (a1, o9 a4 a2 a3), (a2, ai E 4 V2), (a3, ai E 4 V3), (a4, aj E 4 (en [a5, a6, a7, a8])), (a5, al E 60 V5), (a6, al E 60 V6), (a7, al E 60 V7), (a8, al E 60 V8)] H → va_D A [(a0, o11 T0 J0_15 J0_16 a1 u0_1 u0_2 u0_3 u0_4 u0_5 u0_6 u0_7 u0_8 u0_9 u0_11 u0_12 u0_13), (a1, o9 a4 a2 a3), (a2, ai E 4 V2), (a3, ai E 4 V3), (a4, aj E 4 (en [a5, a6, a7, a8])), (a5, al E 60 V5), (a6, al E 60 V6), (a7, al E 60 V7), (a8, al E 60 V8)] → va_S A s.heap H locs → lv_has ls 4 [(0, .ref a0)] → W p l e ({ frames := 3, cells := 0, slots := 0, locals := 66 } : Room) s m args below meth c H locs 0 0 Q (F0 m 20 ls []) := by
    intro T0 V2 V3 V5 V6 V7 V8 H locs ls hf hP hD hS hl
    unfold f_X11_tray_20 at hf
    refine lv_aload_n hx hb dX11_tray_20 rfl (lv_at hl 0 rfl) ?_
    refine lv_iconst (v := 1) hx hb dX11_tray_21 rfl ?_
    obtain ⟨z22, hz22, hf⟩ := bind_s hf
    refine xV_iu hx hb hml hown htg L11_118 (c_X11_denied l E a0 hz22 _) ⟨⟨rfl, rfl⟩, Nat.le_of_ble_eq_true rfl, Nat.le_of_ble_eq_true rfl⟩ hK hG hA hP hD hS (is := [0]) (sel := [some 0, none, none, none, none, none, none, none, none]) (ws2 := [(a0, o11 z22.2 J0_15 J0_16 a1 u0_1 u0_2 u0_3 u0_4 u0_5 u0_6 u0_7 u0_8 u0_9 u0_11 u0_12 u0_13), (a1, o9 a4 a2 a3), (a2, ai E 4 V2), (a3, ai E 4 V3), (a4, aj E 4 (en [a5, a6, a7, a8])), (a5, al E 60 V5), (a6, al E 60 V6), (a7, al E 60 V7), (a8, al E 60 V8)]) rfl rfl rfl rfl rfl (xrecv hK hP (q0 := 0) (ci := 11) rfl rfl) rfl hl.1 rfl (Nat.le_of_ble_eq_true rfl) dX11_tray_22 (fun H locs hP hD hS => ?_)
    obtain ⟨g25, hf⟩ := ck_s hf
    exact ret (z22.1, z22.2, V2, V3, V5, V6, V7, V8) hf (bz_n g25).1 hP hS dX11_tray_25
  unfold f_X11_tray at hf
  refine lv_aload_n hx hb dX11_tray_0 rfl (lv_at hl 0 rfl) ?_
  refine G11_10 hx hb htg hown hK hP 0 rfl dX11_tray_1 ?_
  refine lv_iload_n hx hb dX11_tray_4 rfl (lv_at hl 1 rfl) ?_
  obtain ⟨z5, hz5, hf⟩ := bind_s hf
  refine xV_ir hx hb hml hown htg L11_110 (c_X9_isTray l E a1 hz5 _) ⟨⟨rfl, rfl⟩, Nat.le_of_ble_eq_true rfl, Nat.le_of_ble_eq_true rfl⟩ hK hG hA hP hD hS (is := [1]) rfl rfl (xrecv hK hP (q0 := 1) (ci := 9) rfl rfl) rfl hl.1 rfl (Nat.le_of_ble_eq_true rfl) dX11_tray_5 (fun H locs hP hD hS => ?_)
  refine lv_if_eq (tgt := 20) hx hb dX11_tray_8 (by decide) (fun c8 => ?_) (fun c8 => ?_)
  · have hf := it_t c8 hf
    exact b20 T0 V2 V3 V5 V6 V7 V8 _ _ _ hf hP hD hS (lv_sub hl [0] rfl)
  · have hf := it_f c8 hf
    refine lv_iload_n hx hb dX11_tray_11 rfl (lv_at hl 2 rfl) ?_
    refine lv_iconst (v := 0) hx hb dX11_tray_12 rfl ?_
    refine lv_iconst (v := 3) hx hb dX11_tray_13 rfl ?_
    obtain ⟨z14, hz14, hf⟩ := bind_s hf
    refine xS_ir hx hb hml hown htg L11_114 (c_X11_within l E hz14 _) ⟨⟨rfl, rfl⟩, Nat.le_of_ble_eq_true rfl, Nat.le_of_ble_eq_true rfl⟩ hK hG hA hP hD hS (is := []) rfl rfl rfl hl.1 rfl (Nat.le_of_ble_eq_true rfl) dX11_tray_14 (fun H locs hP hD hS => ?_)
    refine lv_if_ne (tgt := 26) hx hb dX11_tray_17 (by decide) (fun c17 => ?_) (fun c17 => ?_)
    · have hf := it_f c17 hf
      refine lv_iload_n hx hb dX11_tray_26 rfl (lv_at hl 3 rfl) ?_
      refine lv_bipush (v := 60) hx hb dX11_tray_27 rfl ?_
      refine lv_icmp_le (tgt := 38) hx hb dX11_tray_29 (by decide) (fun c29 => ?_) (fun c29 => ?_)
      · have hf := it_t c29 hf
        refine lv_iload_n hx hb dX11_tray_38 rfl (lv_at hl 3 rfl) ?_
        refine lv_if_ge (tgt := 49) hx hb dX11_tray_39 (by decide) (fun c39 => ?_) (fun c39 => ?_)
        · have hf := it_t c39 hf
          refine lv_aload_n hx hb dX11_tray_49 rfl (lv_at hl 0 rfl) ?_
          refine G11_10 hx hb htg hown hK hP 0 rfl dX11_tray_50 ?_
          refine lv_iload_n hx hb dX11_tray_53 rfl (lv_at hl 1 rfl) ?_
          refine lv_iload_n hx hb dX11_tray_54 rfl (lv_at hl 2 rfl) ?_
          refine lv_iload_n hx hb dX11_tray_55 rfl (lv_at hl 3 rfl) ?_
          obtain ⟨z56, hz56, hf⟩ := bind_s hf
          refine xV_vu hx hb hml hown htg L11_121 (c_X9_lay l E a1 a2 a3 a4 a5 a6 a7 a8 hz56 _) ⟨⟨rfl, rfl⟩, Nat.le_of_ble_eq_true rfl, Nat.le_of_ble_eq_true rfl⟩ hK hG hA hP hD hS (is := [1, 2, 3, 4, 5, 6, 7, 8]) (sel := [none, some 0, some 1, some 2, some 3, some 4, some 5, some 6, some 7]) (ws2 := [(a0, o11 T0 J0_15 J0_16 a1 u0_1 u0_2 u0_3 u0_4 u0_5 u0_6 u0_7 u0_8 u0_9 u0_11 u0_12 u0_13), (a1, o9 a4 a2 a3), (a2, ai E 4 z56.1), (a3, ai E 4 z56.2.1), (a4, aj E 4 (en [a5, a6, a7, a8])), (a5, al E 60 z56.2.2.1), (a6, al E 60 z56.2.2.2.1), (a7, al E 60 z56.2.2.2.2.1), (a8, al E 60 z56.2.2.2.2.2)]) rfl rfl rfl rfl rfl (xrecv hK hP (q0 := 1) (ci := 9) rfl rfl) rfl hl.1 rfl (Nat.le_of_ble_eq_true rfl) dX11_tray_56 (fun H locs hP hD hS => ?_)
          refine lv_aload_n hx hb dX11_tray_59 rfl (lv_at hl 0 rfl) ?_
          obtain ⟨z60, hz60, hf⟩ := bind_s hf
          refine xV_iu hx hb hml hown htg L11_125 (c_X11_done l E a0 hz60 _) ⟨⟨rfl, rfl⟩, Nat.le_of_ble_eq_true rfl, Nat.le_of_ble_eq_true rfl⟩ hK hG hA hP hD hS (is := [0]) (sel := [some 0, none, none, none, none, none, none, none, none]) (ws2 := [(a0, o11 z60.2 J0_15 J0_16 a1 u0_1 u0_2 u0_3 u0_4 u0_5 u0_6 u0_7 u0_8 u0_9 u0_11 u0_12 u0_13), (a1, o9 a4 a2 a3), (a2, ai E 4 z56.1), (a3, ai E 4 z56.2.1), (a4, aj E 4 (en [a5, a6, a7, a8])), (a5, al E 60 z56.2.2.1), (a6, al E 60 z56.2.2.2.1), (a7, al E 60 z56.2.2.2.2.1), (a8, al E 60 z56.2.2.2.2.2)]) rfl rfl rfl rfl rfl (xrecv hK hP (q0 := 0) (ci := 11) rfl rfl) rfl hl.1 rfl (Nat.le_of_ble_eq_true rfl) dX11_tray_60 (fun H locs hP hD hS => ?_)
          obtain ⟨g63, hf⟩ := ck_s hf
          exact ret (z60.1, z60.2, z56.1, z56.2.1, z56.2.2.1, z56.2.2.2.1, z56.2.2.2.2.1, z56.2.2.2.2.2) hf (bz_n g63).1 hP hS dX11_tray_63
        · have hf := it_f c39 hf
          refine lv_aload_n hx hb dX11_tray_42 rfl (lv_at hl 0 rfl) ?_
          refine lv_bipush (v := 6) hx hb dX11_tray_43 rfl ?_
          obtain ⟨z45, hz45, hf⟩ := bind_s hf
          refine xV_iu hx hb hml hown htg L11_118 (c_X11_denied l E a0 hz45 _) ⟨⟨rfl, rfl⟩, Nat.le_of_ble_eq_true rfl, Nat.le_of_ble_eq_true rfl⟩ hK hG hA hP hD hS (is := [0]) (sel := [some 0, none, none, none, none, none, none, none, none]) (ws2 := [(a0, o11 z45.2 J0_15 J0_16 a1 u0_1 u0_2 u0_3 u0_4 u0_5 u0_6 u0_7 u0_8 u0_9 u0_11 u0_12 u0_13), (a1, o9 a4 a2 a3), (a2, ai E 4 V2), (a3, ai E 4 V3), (a4, aj E 4 (en [a5, a6, a7, a8])), (a5, al E 60 V5), (a6, al E 60 V6), (a7, al E 60 V7), (a8, al E 60 V8)]) rfl rfl rfl rfl rfl (xrecv hK hP (q0 := 0) (ci := 11) rfl rfl) rfl hl.1 rfl (Nat.le_of_ble_eq_true rfl) dX11_tray_45 (fun H locs hP hD hS => ?_)
          obtain ⟨g48, hf⟩ := ck_s hf
          exact ret (z45.1, z45.2, V2, V3, V5, V6, V7, V8) hf (bz_n g48).1 hP hS dX11_tray_48
      · have hf := it_f c29 hf
        refine lv_aload_n hx hb dX11_tray_32 rfl (lv_at hl 0 rfl) ?_
        refine lv_iconst (v := 5) hx hb dX11_tray_33 rfl ?_
        obtain ⟨z34, hz34, hf⟩ := bind_s hf
        refine xV_iu hx hb hml hown htg L11_118 (c_X11_denied l E a0 hz34 _) ⟨⟨rfl, rfl⟩, Nat.le_of_ble_eq_true rfl, Nat.le_of_ble_eq_true rfl⟩ hK hG hA hP hD hS (is := [0]) (sel := [some 0, none, none, none, none, none, none, none, none]) (ws2 := [(a0, o11 z34.2 J0_15 J0_16 a1 u0_1 u0_2 u0_3 u0_4 u0_5 u0_6 u0_7 u0_8 u0_9 u0_11 u0_12 u0_13), (a1, o9 a4 a2 a3), (a2, ai E 4 V2), (a3, ai E 4 V3), (a4, aj E 4 (en [a5, a6, a7, a8])), (a5, al E 60 V5), (a6, al E 60 V6), (a7, al E 60 V7), (a8, al E 60 V8)]) rfl rfl rfl rfl rfl (xrecv hK hP (q0 := 0) (ci := 11) rfl rfl) rfl hl.1 rfl (Nat.le_of_ble_eq_true rfl) dX11_tray_34 (fun H locs hP hD hS => ?_)
        obtain ⟨g37, hf⟩ := ck_s hf
        exact ret (z34.1, z34.2, V2, V3, V5, V6, V7, V8) hf (bz_n g37).1 hP hS dX11_tray_37
    · have hf := it_t c17 hf
      exact b20 T0 V2 V3 V5 V6 V7 V8 _ _ _ hf hP hD hS (lv_sub hl [0] rfl)
theorem dX11_write_0 : decode cX11_write 0 = .ok (.aload_n 0, 1) := by decide +kernel
theorem dX11_write_1 : decode cX11_write 1 = .ok (.getfield 10, 3) := by decide +kernel
theorem dX11_write_4 : decode cX11_write 4 = .ok (.iload_n 1, 1) := by decide +kernel
theorem dX11_write_5 : decode cX11_write 5 = .ok (.iload_n 2, 1) := by decide +kernel
theorem dX11_write_6 : decode cX11_write 6 = .ok (.invokevirtual 129, 3) := by decide +kernel
theorem dX11_write_9 : decode cX11_write 9 = .ok (.istore 5, 2) := by decide +kernel
theorem dX11_write_11 : decode cX11_write 11 = .ok (.iload 5, 2) := by decide +kernel
theorem dX11_write_13 : decode cX11_write 13 = .ok (.ifCond .eq 10, 3) := by decide +kernel
theorem dX11_write_16 : decode cX11_write 16 = .ok (.aload_n 0, 1) := by decide +kernel
theorem dX11_write_17 : decode cX11_write 17 = .ok (.iload 5, 2) := by decide +kernel
theorem dX11_write_19 : decode cX11_write 19 = .ok (.invokevirtual 118, 3) := by decide +kernel
theorem dX11_write_22 : decode cX11_write 22 = .ok (.ireturn, 1) := by decide +kernel
theorem dX11_write_23 : decode cX11_write 23 = .ok (.aload_n 0, 1) := by decide +kernel
theorem dX11_write_24 : decode cX11_write 24 = .ok (.getfield 10, 3) := by decide +kernel
theorem dX11_write_27 : decode cX11_write 27 = .ok (.iload_n 1, 1) := by decide +kernel
theorem dX11_write_28 : decode cX11_write 28 = .ok (.iload_n 2, 1) := by decide +kernel
theorem dX11_write_29 : decode cX11_write 29 = .ok (.lload_n 3, 1) := by decide +kernel
theorem dX11_write_30 : decode cX11_write 30 = .ok (.invokevirtual 133, 3) := by decide +kernel
theorem dX11_write_33 : decode cX11_write 33 = .ok (.aload_n 0, 1) := by decide +kernel
theorem dX11_write_34 : decode cX11_write 34 = .ok (.invokevirtual 125, 3) := by decide +kernel
theorem dX11_write_37 : decode cX11_write 37 = .ok (.ireturn, 1) := by decide +kernel
set_option maxRecDepth 100000 in
theorem c_X11_write (l : Launch) (E : xE) (a0 a1 a2 a3 a4 a5 a6 a7 a8 : Nat) {T0 : Nat → Int32} {J0_15 : Int64} {J0_16 : Int64} {V2 : Nat → Int32} {V4 : Nat → Int64} {V5 : Nat → Int32} {V6 : Nat → Int64} {V7 : Nat → Int64} {V8 : Nat → Int64} {u0_1 u0_2 u0_3 u0_4 u0_5 u0_6 u0_7 u0_8 u0_9 u0_11 u0_12 u0_13 : Nat} {x1 : Int32} {x2 : Int32} {x3 : Int64} {z : Int32 × (Nat → Int32) × (Nat → Int64) × (Nat → Int64) × (Nat → Int64) × (Nat → Int64)} (hf : f_X11_write T0 V2 V4 V5 V6 V7 V8 x1 x2 x3 = some z) (sz : Nat) : Met l yX11_write (Cond.code yX11_write cX11_write 6 (some .boolean) :: gw) ({ frames := 5, cells := 0, slots := 0, locals := 111 }) (xPc E [.ref a0, .int x1, .int x2, .long x3] [(a0, o11 T0 J0_15 J0_16 a1 u0_1 u0_2 u0_3 u0_4 u0_5 u0_6 u0_7 u0_8 u0_9 u0_11 u0_12 u0_13), (a1, o9 a3 a5 a2), (a2, ai E 4 V2), (a3, aj E 4 (en [a4, a6, a7, a8])), (a4, al E 60 V4), (a5, ai E 4 V5), (a6, al E 60 V6), (a7, al E 60 V7), (a8, al E 60 V8)] sz) (xQi E z.1 [(a0, o11 T0 J0_15 J0_16 a1 u0_1 u0_2 u0_3 u0_4 u0_5 u0_6 u0_7 u0_8 u0_9 u0_11 u0_12 u0_13), (a1, o9 a3 a5 a2), (a2, ai E 4 V2), (a3, aj E 4 (en [a4, a6, a7, a8])), (a4, al E 60 V4), (a5, ai E 4 V5), (a6, al E 60 V6), (a7, al E 60 V7), (a8, al E 60 V8)] [(a0, o11 z.2.1 J0_15 J0_16 a1 u0_1 u0_2 u0_3 u0_4 u0_5 u0_6 u0_7 u0_8 u0_9 u0_11 u0_12 u0_13), (a1, o9 a3 a5 a2), (a2, ai E 4 V2), (a3, aj E 4 (en [a4, a6, a7, a8])), (a4, al E 60 z.2.2.1), (a5, ai E 4 V5), (a6, al E 60 z.2.2.2.1), (a7, al E 60 z.2.2.2.2.1), (a8, al E 60 z.2.2.2.2.2)] sz) 0 0 (va_A [(a0, o11 T0 J0_15 J0_16 a1 u0_1 u0_2 u0_3 u0_4 u0_5 u0_6 u0_7 u0_8 u0_9 u0_11 u0_12 u0_13), (a1, o9 a3 a5 a2), (a2, ai E 4 V2), (a3, aj E 4 (en [a4, a6, a7, a8])), (a4, al E 60 V4), (a5, ai E 4 V5), (a6, al E 60 V6), (a7, al E 60 V7), (a8, al E 60 V8)] sz) := by
  refine xM_i (by decide +kernel) (Nat.le_of_ble_eq_true rfl) ?_
  intro p e s m args below meth c A Q hx hb hml hown htg hK hG hA ret0 H locs ls hP hD hS hl
  have ret : ∀ (z' : Int32 × (Nat → Int32) × (Nat → Int64) × (Nat → Int64) × (Nat → Int64) × (Nat → Int64)) {H : Heap} {locs : List Loc} {pc : Nat} {ls : Array Slot}, some z' = some z → narrow .boolean (.int z'.1) = .int z'.1 → va_P E.1 vwCl [(a0, o11 z'.2.1 J0_15 J0_16 a1 u0_1 u0_2 u0_3 u0_4 u0_5 u0_6 u0_7 u0_8 u0_9 u0_11 u0_12 u0_13), (a1, o9 a3 a5 a2), (a2, ai E 4 V2), (a3, aj E 4 (en [a4, a6, a7, a8])), (a4, al E 60 z'.2.2.1), (a5, ai E 4 V5), (a6, al E 60 z'.2.2.2.1), (a7, al E 60 z'.2.2.2.2.1), (a8, al E 60 z'.2.2.2.2.2)] H → va_S A s.heap H locs → decode cX11_write pc = .ok (.ireturn, 1) → W p l e ({ frames := 5, cells := 0, slots := 0, locals := 111 } : Room) s m args below meth c H locs 0 0 Q (F0 m pc ls [.int z'.1]) := by
    intro z' H locs pc ls h
    cases h
    exact ret0
  replace hl : lv_has ls 6 [(0, .ref a0), (1, .int x1), (2, .int x2), (3, .long x3)] := hl
  unfold f_X11_write at hf
  refine lv_aload_n hx hb dX11_write_0 rfl (lv_at hl 0 rfl) ?_
  refine G11_10 hx hb htg hown hK hP 0 rfl dX11_write_1 ?_
  refine lv_iload_n hx hb dX11_write_4 rfl (lv_at hl 1 rfl) ?_
  refine lv_iload_n hx hb dX11_write_5 rfl (lv_at hl 2 rfl) ?_
  obtain ⟨z6, hz6, hf⟩ := bind_s hf
  refine xV_ir hx hb hml hown htg L11_129 (c_X9_whyNoPlace l E a1 a2 hz6 _) ⟨⟨rfl, rfl⟩, Nat.le_of_ble_eq_true rfl, Nat.le_of_ble_eq_true rfl⟩ hK hG hA hP hD hS (is := [1, 2]) rfl rfl (xrecv hK hP (q0 := 1) (ci := 9) rfl rfl) rfl hl.1 rfl (Nat.le_of_ble_eq_true rfl) dX11_write_6 (fun H locs hP hD hS => ?_)
  refine lv_istore (lv' := [(5, .int z6), (0, .ref a0), (1, .int x1), (2, .int x2), (3, .long x3)]) hx hb dX11_write_9 hl (by decide) rfl (fun ls hl => ?_)
  refine lv_iload hx hb dX11_write_11 (lv_at hl 0 rfl) ?_
  refine lv_if_eq (tgt := 23) hx hb dX11_write_13 (by decide) (fun c13 => ?_) (fun c13 => ?_)
  · have hf := it_t c13 hf
    refine lv_aload_n hx hb dX11_write_23 rfl (lv_at hl 1 rfl) ?_
    refine G11_10 hx hb htg hown hK hP 0 rfl dX11_write_24 ?_
    refine lv_iload_n hx hb dX11_write_27 rfl (lv_at hl 2 rfl) ?_
    refine lv_iload_n hx hb dX11_write_28 rfl (lv_at hl 3 rfl) ?_
    refine lv_lload_n hx hb dX11_write_29 rfl (lv_at hl 4 rfl) ?_
    obtain ⟨z30, hz30, hf⟩ := bind_s hf
    refine xV_vu hx hb hml hown htg L11_133 (c_X9_put l E a1 a2 a3 a4 a5 a6 a7 a8 hz30 _) ⟨⟨rfl, rfl⟩, Nat.le_of_ble_eq_true rfl, Nat.le_of_ble_eq_true rfl⟩ hK hG hA hP hD hS (is := [1, 2, 3, 4, 5, 6, 7, 8]) (sel := [none, some 0, some 1, some 2, some 3, some 4, some 5, some 6, some 7]) (ws2 := [(a0, o11 T0 J0_15 J0_16 a1 u0_1 u0_2 u0_3 u0_4 u0_5 u0_6 u0_7 u0_8 u0_9 u0_11 u0_12 u0_13), (a1, o9 a3 a5 a2), (a2, ai E 4 V2), (a3, aj E 4 (en [a4, a6, a7, a8])), (a4, al E 60 z30.1), (a5, ai E 4 V5), (a6, al E 60 z30.2.1), (a7, al E 60 z30.2.2.1), (a8, al E 60 z30.2.2.2)]) rfl rfl rfl rfl rfl (xrecv hK hP (q0 := 1) (ci := 9) rfl rfl) rfl hl.1 rfl (Nat.le_of_ble_eq_true rfl) dX11_write_30 (fun H locs hP hD hS => ?_)
    refine lv_aload_n hx hb dX11_write_33 rfl (lv_at hl 1 rfl) ?_
    obtain ⟨z34, hz34, hf⟩ := bind_s hf
    refine xV_iu hx hb hml hown htg L11_125 (c_X11_done l E a0 hz34 _) ⟨⟨rfl, rfl⟩, Nat.le_of_ble_eq_true rfl, Nat.le_of_ble_eq_true rfl⟩ hK hG hA hP hD hS (is := [0]) (sel := [some 0, none, none, none, none, none, none, none, none]) (ws2 := [(a0, o11 z34.2 J0_15 J0_16 a1 u0_1 u0_2 u0_3 u0_4 u0_5 u0_6 u0_7 u0_8 u0_9 u0_11 u0_12 u0_13), (a1, o9 a3 a5 a2), (a2, ai E 4 V2), (a3, aj E 4 (en [a4, a6, a7, a8])), (a4, al E 60 z30.1), (a5, ai E 4 V5), (a6, al E 60 z30.2.1), (a7, al E 60 z30.2.2.1), (a8, al E 60 z30.2.2.2)]) rfl rfl rfl rfl rfl (xrecv hK hP (q0 := 0) (ci := 11) rfl rfl) rfl hl.1 rfl (Nat.le_of_ble_eq_true rfl) dX11_write_34 (fun H locs hP hD hS => ?_)
    obtain ⟨g37, hf⟩ := ck_s hf
    exact ret (z34.1, z34.2, z30.1, z30.2.1, z30.2.2.1, z30.2.2.2) hf (bz_n g37).1 hP hS dX11_write_37
  · have hf := it_f c13 hf
    refine lv_aload_n hx hb dX11_write_16 rfl (lv_at hl 1 rfl) ?_
    refine lv_iload hx hb dX11_write_17 (lv_at hl 0 rfl) ?_
    obtain ⟨z19, hz19, hf⟩ := bind_s hf
    refine xV_iu hx hb hml hown htg L11_118 (c_X11_denied l E a0 hz19 _) ⟨⟨rfl, rfl⟩, Nat.le_of_ble_eq_true rfl, Nat.le_of_ble_eq_true rfl⟩ hK hG hA hP hD hS (is := [0]) (sel := [some 0, none, none, none, none, none, none, none, none]) (ws2 := [(a0, o11 z19.2 J0_15 J0_16 a1 u0_1 u0_2 u0_3 u0_4 u0_5 u0_6 u0_7 u0_8 u0_9 u0_11 u0_12 u0_13), (a1, o9 a3 a5 a2), (a2, ai E 4 V2), (a3, aj E 4 (en [a4, a6, a7, a8])), (a4, al E 60 V4), (a5, ai E 4 V5), (a6, al E 60 V6), (a7, al E 60 V7), (a8, al E 60 V8)]) rfl rfl rfl rfl rfl (xrecv hK hP (q0 := 0) (ci := 11) rfl rfl) rfl hl.1 rfl (Nat.le_of_ble_eq_true rfl) dX11_write_19 (fun H locs hP hD hS => ?_)
    obtain ⟨g22, hf⟩ := ck_s hf
    exact ret (z19.1, z19.2, V4, V6, V7, V8) hf (bz_n g22).1 hP hS dX11_write_22
theorem dX11_refused_0 : decode cX11_refused 0 = .ok (.aload_n 0, 1) := by decide +kernel
theorem dX11_refused_1 : decode cX11_refused 1 = .ok (.iload_n 1, 1) := by decide +kernel
theorem dX11_refused_2 : decode cX11_refused 2 = .ok (.putfield 104, 3) := by decide +kernel
theorem dX11_refused_5 : decode cX11_refused 5 = .ok (.iconst (-1), 1) := by decide +kernel
theorem dX11_refused_6 : decode cX11_refused 6 = .ok (.ireturn, 1) := by decide +kernel
set_option maxRecDepth 100000 in
theorem c_X11_refused (l : Launch) (E : xE) (a0 : Nat) {T0 : Nat → Int32} {J0_15 : Int64} {J0_16 : Int64} {u0_0 u0_1 u0_2 u0_3 u0_4 u0_5 u0_6 u0_7 u0_8 u0_9 u0_11 u0_12 u0_13 : Nat} {x1 : Int32} {z : Int32 × (Nat → Int32)} (hf : f_X11_refused T0 x1 = some z) (sz : Nat) : Met l yX11_refused (Cond.code yX11_refused cX11_refused 2 (some .int) :: gw) ({ frames := 0, cells := 0, slots := 0, locals := 0 }) (xPc E [.ref a0, .int x1] [(a0, o11 T0 J0_15 J0_16 u0_0 u0_1 u0_2 u0_3 u0_4 u0_5 u0_6 u0_7 u0_8 u0_9 u0_11 u0_12 u0_13)] sz) (xQi E z.1 [(a0, o11 T0 J0_15 J0_16 u0_0 u0_1 u0_2 u0_3 u0_4 u0_5 u0_6 u0_7 u0_8 u0_9 u0_11 u0_12 u0_13)] [(a0, o11 z.2 J0_15 J0_16 u0_0 u0_1 u0_2 u0_3 u0_4 u0_5 u0_6 u0_7 u0_8 u0_9 u0_11 u0_12 u0_13)] sz) 0 0 (va_A [(a0, o11 T0 J0_15 J0_16 u0_0 u0_1 u0_2 u0_3 u0_4 u0_5 u0_6 u0_7 u0_8 u0_9 u0_11 u0_12 u0_13)] sz) := by
  refine xM_i (by decide +kernel) (Nat.le_of_ble_eq_true rfl) ?_
  intro p e s m args below meth c A Q hx hb hml hown htg hK hG hA ret0 H locs ls hP hD hS hl
  have ret : ∀ (z' : Int32 × (Nat → Int32)) {H : Heap} {locs : List Loc} {pc : Nat} {ls : Array Slot}, some z' = some z → narrow .int (.int z'.1) = .int z'.1 → va_P E.1 vwCl [(a0, o11 z'.2 J0_15 J0_16 u0_0 u0_1 u0_2 u0_3 u0_4 u0_5 u0_6 u0_7 u0_8 u0_9 u0_11 u0_12 u0_13)] H → va_S A s.heap H locs → decode cX11_refused pc = .ok (.ireturn, 1) → W p l e ({ frames := 0, cells := 0, slots := 0, locals := 0 } : Room) s m args below meth c H locs 0 0 Q (F0 m pc ls [.int z'.1]) := by
    intro z' H locs pc ls h
    cases h
    exact ret0
  replace hl : lv_has ls 2 [(0, .ref a0), (1, .int x1)] := hl
  unfold f_X11_refused at hf
  refine lv_aload_n hx hb dX11_refused_0 rfl (lv_at hl 0 rfl) ?_
  refine lv_iload_n hx hb dX11_refused_1 rfl (lv_at hl 1 rfl) ?_
  refine P11_104 hx hb htg hown hK hP hD hS 0 rfl dX11_refused_2 (fun H locs hP hD hS => ?_)
  refine lv_iconst (v := (-1)) hx hb dX11_refused_5 rfl ?_
  exact ret ((-1), upd T0 14 x1) hf nzi hP hS dX11_refused_6
theorem dX11_read_0 : decode cX11_read 0 = .ok (.aload_n 0, 1) := by decide +kernel
theorem dX11_read_1 : decode cX11_read 1 = .ok (.getfield 10, 3) := by decide +kernel
theorem dX11_read_4 : decode cX11_read 4 = .ok (.iload_n 1, 1) := by decide +kernel
theorem dX11_read_5 : decode cX11_read 5 = .ok (.iload_n 2, 1) := by decide +kernel
theorem dX11_read_6 : decode cX11_read 6 = .ok (.invokevirtual 129, 3) := by decide +kernel
theorem dX11_read_9 : decode cX11_read 9 = .ok (.istore_n 3, 1) := by decide +kernel
theorem dX11_read_10 : decode cX11_read 10 = .ok (.iload_n 3, 1) := by decide +kernel
theorem dX11_read_11 : decode cX11_read 11 = .ok (.ifCond .eq 10, 3) := by decide +kernel
theorem dX11_read_14 : decode cX11_read 14 = .ok (.aload_n 0, 1) := by decide +kernel
theorem dX11_read_15 : decode cX11_read 15 = .ok (.iload_n 3, 1) := by decide +kernel
theorem dX11_read_16 : decode cX11_read 16 = .ok (.invokevirtual 137, 3) := by decide +kernel
theorem dX11_read_19 : decode cX11_read 19 = .ok (.i2l, 1) := by decide +kernel
theorem dX11_read_20 : decode cX11_read 20 = .ok (.lreturn, 1) := by decide +kernel
theorem dX11_read_21 : decode cX11_read 21 = .ok (.aload_n 0, 1) := by decide +kernel
theorem dX11_read_22 : decode cX11_read 22 = .ok (.iconst 0, 1) := by decide +kernel
theorem dX11_read_23 : decode cX11_read 23 = .ok (.putfield 104, 3) := by decide +kernel
theorem dX11_read_26 : decode cX11_read 26 = .ok (.aload_n 0, 1) := by decide +kernel
theorem dX11_read_27 : decode cX11_read 27 = .ok (.getfield 10, 3) := by decide +kernel
theorem dX11_read_30 : decode cX11_read 30 = .ok (.iload_n 1, 1) := by decide +kernel
theorem dX11_read_31 : decode cX11_read 31 = .ok (.iload_n 2, 1) := by decide +kernel
theorem dX11_read_32 : decode cX11_read 32 = .ok (.invokevirtual 141, 3) := by decide +kernel
theorem dX11_read_35 : decode cX11_read 35 = .ok (.lreturn, 1) := by decide +kernel
set_option maxRecDepth 100000 in
theorem c_X11_read (l : Launch) (E : xE) (a0 a1 a2 a3 a4 a5 a6 a7 : Nat) {T0 : Nat → Int32} {J0_15 : Int64} {J0_16 : Int64} {V2 : Nat → Int32} {V4 : Nat → Int64} {V5 : Nat → Int64} {V6 : Nat → Int64} {V7 : Nat → Int64} {u0_1 u0_2 u0_3 u0_4 u0_5 u0_6 u0_7 u0_8 u0_9 u0_11 u0_12 u0_13 u1_1 : Nat} {x1 : Int32} {x2 : Int32} {z : Int64 × (Nat → Int32)} (hf : f_X11_read T0 V2 V4 V5 V6 V7 x1 x2 = some z) (sz : Nat) : Met l yX11_read (Cond.code yX11_read cX11_read 4 (some .long) :: gw) ({ frames := 5, cells := 0, slots := 0, locals := 109 }) (xPc E [.ref a0, .int x1, .int x2] [(a0, o11 T0 J0_15 J0_16 a1 u0_1 u0_2 u0_3 u0_4 u0_5 u0_6 u0_7 u0_8 u0_9 u0_11 u0_12 u0_13), (a1, o9 a3 u1_1 a2), (a2, ai E 4 V2), (a3, aj E 4 (en [a4, a5, a6, a7])), (a4, al E 60 V4), (a5, al E 60 V5), (a6, al E 60 V6), (a7, al E 60 V7)] sz) (xQl E z.1 [(a0, o11 T0 J0_15 J0_16 a1 u0_1 u0_2 u0_3 u0_4 u0_5 u0_6 u0_7 u0_8 u0_9 u0_11 u0_12 u0_13), (a1, o9 a3 u1_1 a2), (a2, ai E 4 V2), (a3, aj E 4 (en [a4, a5, a6, a7])), (a4, al E 60 V4), (a5, al E 60 V5), (a6, al E 60 V6), (a7, al E 60 V7)] [(a0, o11 z.2 J0_15 J0_16 a1 u0_1 u0_2 u0_3 u0_4 u0_5 u0_6 u0_7 u0_8 u0_9 u0_11 u0_12 u0_13), (a1, o9 a3 u1_1 a2), (a2, ai E 4 V2), (a3, aj E 4 (en [a4, a5, a6, a7])), (a4, al E 60 V4), (a5, al E 60 V5), (a6, al E 60 V6), (a7, al E 60 V7)] sz) 0 0 (va_A [(a0, o11 T0 J0_15 J0_16 a1 u0_1 u0_2 u0_3 u0_4 u0_5 u0_6 u0_7 u0_8 u0_9 u0_11 u0_12 u0_13), (a1, o9 a3 u1_1 a2), (a2, ai E 4 V2), (a3, aj E 4 (en [a4, a5, a6, a7])), (a4, al E 60 V4), (a5, al E 60 V5), (a6, al E 60 V6), (a7, al E 60 V7)] sz) := by
  refine xM_l (by decide +kernel) (Nat.le_of_ble_eq_true rfl) ?_
  intro p e s m args below meth c A Q hx hb hml hown htg hK hG hA ret0 H locs ls hP hD hS hl
  have ret : ∀ (z' : Int64 × (Nat → Int32)) {H : Heap} {locs : List Loc} {pc : Nat} {ls : Array Slot}, some z' = some z → va_P E.1 vwCl [(a0, o11 z'.2 J0_15 J0_16 a1 u0_1 u0_2 u0_3 u0_4 u0_5 u0_6 u0_7 u0_8 u0_9 u0_11 u0_12 u0_13), (a1, o9 a3 u1_1 a2), (a2, ai E 4 V2), (a3, aj E 4 (en [a4, a5, a6, a7])), (a4, al E 60 V4), (a5, al E 60 V5), (a6, al E 60 V6), (a7, al E 60 V7)] H → va_S A s.heap H locs → decode cX11_read pc = .ok (.lreturn, 1) → W p l e ({ frames := 5, cells := 0, slots := 0, locals := 109 } : Room) s m args below meth c H locs 0 0 Q (F0 m pc ls [.long z'.1]) := by
    intro z' H locs pc ls h
    cases h
    exact ret0
  replace hl : lv_has ls 4 [(0, .ref a0), (1, .int x1), (2, .int x2)] := hl
  unfold f_X11_read at hf
  refine lv_aload_n hx hb dX11_read_0 rfl (lv_at hl 0 rfl) ?_
  refine G11_10 hx hb htg hown hK hP 0 rfl dX11_read_1 ?_
  refine lv_iload_n hx hb dX11_read_4 rfl (lv_at hl 1 rfl) ?_
  refine lv_iload_n hx hb dX11_read_5 rfl (lv_at hl 2 rfl) ?_
  obtain ⟨z6, hz6, hf⟩ := bind_s hf
  refine xV_ir hx hb hml hown htg L11_129 (c_X9_whyNoPlace l E a1 a2 hz6 _) ⟨⟨rfl, rfl⟩, Nat.le_of_ble_eq_true rfl, Nat.le_of_ble_eq_true rfl⟩ hK hG hA hP hD hS (is := [1, 2]) rfl rfl (xrecv hK hP (q0 := 1) (ci := 9) rfl rfl) rfl hl.1 rfl (Nat.le_of_ble_eq_true rfl) dX11_read_6 (fun H locs hP hD hS => ?_)
  refine lv_istore_n (lv' := [(3, .int z6), (0, .ref a0), (1, .int x1), (2, .int x2)]) hx hb dX11_read_9 rfl hl (by decide) rfl (fun ls hl => ?_)
  refine lv_iload_n hx hb dX11_read_10 rfl (lv_at hl 0 rfl) ?_
  refine lv_if_eq (tgt := 21) hx hb dX11_read_11 (by decide) (fun c11 => ?_) (fun c11 => ?_)
  · have hf := it_t c11 hf
    refine lv_aload_n hx hb dX11_read_21 rfl (lv_at hl 1 rfl) ?_
    refine lv_iconst (v := 0) hx hb dX11_read_22 rfl ?_
    refine P11_104 hx hb htg hown hK hP hD hS 0 rfl dX11_read_23 (fun H locs hP hD hS => ?_)
    refine lv_aload_n hx hb dX11_read_26 rfl (lv_at hl 1 rfl) ?_
    refine G11_10 hx hb htg hown hK hP 0 rfl dX11_read_27 ?_
    refine lv_iload_n hx hb dX11_read_30 rfl (lv_at hl 2 rfl) ?_
    refine lv_iload_n hx hb dX11_read_31 rfl (lv_at hl 3 rfl) ?_
    obtain ⟨z32, hz32, hf⟩ := bind_s hf
    refine xV_lr hx hb hml hown htg L11_141 (c_X9_get l E a1 a2 a3 a4 a5 a6 a7 hz32 _) ⟨⟨rfl, rfl⟩, Nat.le_of_ble_eq_true rfl, Nat.le_of_ble_eq_true rfl⟩ hK hG hA hP hD hS (is := [1, 2, 3, 4, 5, 6, 7]) rfl rfl (xrecv hK hP (q0 := 1) (ci := 9) rfl rfl) rfl hl.1 rfl (Nat.le_of_ble_eq_true rfl) dX11_read_32 (fun H locs hP hD hS => ?_)
    exact ret (z32, upd T0 14 0) hf hP hS dX11_read_35
  · have hf := it_f c11 hf
    refine lv_aload_n hx hb dX11_read_14 rfl (lv_at hl 1 rfl) ?_
    refine lv_iload_n hx hb dX11_read_15 rfl (lv_at hl 0 rfl) ?_
    obtain ⟨z16, hz16, hf⟩ := bind_s hf
    refine xV_iu hx hb hml hown htg L11_137 (c_X11_refused l E a0 hz16 _) ⟨⟨rfl, rfl⟩, Nat.le_of_ble_eq_true rfl, Nat.le_of_ble_eq_true rfl⟩ hK hG hA hP hD hS (is := [0]) (sel := [some 0, none, none, none, none, none, none, none]) (ws2 := [(a0, o11 z16.2 J0_15 J0_16 a1 u0_1 u0_2 u0_3 u0_4 u0_5 u0_6 u0_7 u0_8 u0_9 u0_11 u0_12 u0_13), (a1, o9 a3 u1_1 a2), (a2, ai E 4 V2), (a3, aj E 4 (en [a4, a5, a6, a7])), (a4, al E 60 V4), (a5, al E 60 V5), (a6, al E 60 V6), (a7, al E 60 V7)]) rfl rfl rfl rfl rfl (xrecv hK hP (q0 := 0) (ci := 11) rfl rfl) rfl hl.1 rfl (Nat.le_of_ble_eq_true rfl) dX11_read_16 (fun H locs hP hD hS => ?_)
    refine lv_i2l hx hb dX11_read_19 rfl ?_
    exact ret (Int32.toInt64 z16.1, z16.2) hf hP hS dX11_read_20
theorem dX11_pour_0 : decode cX11_pour 0 = .ok (.aload_n 0, 1) := by decide +kernel
theorem dX11_pour_1 : decode cX11_pour 1 = .ok (.getfield 10, 3) := by decide +kernel
theorem dX11_pour_4 : decode cX11_pour 4 = .ok (.iload_n 1, 1) := by decide +kernel
theorem dX11_pour_5 : decode cX11_pour 5 = .ok (.invokevirtual 110, 3) := by decide +kernel
theorem dX11_pour_8 : decode cX11_pour 8 = .ok (.ifCond .eq 14, 3) := by decide +kernel
theorem dX11_pour_11 : decode cX11_pour 11 = .ok (.aload_n 0, 1) := by decide +kernel
theorem dX11_pour_12 : decode cX11_pour 12 = .ok (.getfield 10, 3) := by decide +kernel
theorem dX11_pour_15 : decode cX11_pour 15 = .ok (.iload_n 3, 1) := by decide +kernel
theorem dX11_pour_16 : decode cX11_pour 16 = .ok (.invokevirtual 110, 3) := by decide +kernel
theorem dX11_pour_19 : decode cX11_pour 19 = .ok (.ifCond .ne 9, 3) := by decide +kernel
theorem dX11_pour_22 : decode cX11_pour 22 = .ok (.aload_n 0, 1) := by decide +kernel
theorem dX11_pour_23 : decode cX11_pour 23 = .ok (.iconst 1, 1) := by decide +kernel
theorem dX11_pour_24 : decode cX11_pour 24 = .ok (.invokevirtual 118, 3) := by decide +kernel
theorem dX11_pour_27 : decode cX11_pour 27 = .ok (.ireturn, 1) := by decide +kernel
theorem dX11_pour_28 : decode cX11_pour 28 = .ok (.aload_n 0, 1) := by decide +kernel
theorem dX11_pour_29 : decode cX11_pour 29 = .ok (.getfield 10, 3) := by decide +kernel
theorem dX11_pour_32 : decode cX11_pour 32 = .ok (.iload_n 1, 1) := by decide +kernel
theorem dX11_pour_33 : decode cX11_pour 33 = .ok (.invokevirtual 145, 3) := by decide +kernel
theorem dX11_pour_36 : decode cX11_pour 36 = .ok (.ifCond .ne 14, 3) := by decide +kernel
theorem dX11_pour_39 : decode cX11_pour 39 = .ok (.aload_n 0, 1) := by decide +kernel
theorem dX11_pour_40 : decode cX11_pour 40 = .ok (.getfield 10, 3) := by decide +kernel
theorem dX11_pour_43 : decode cX11_pour 43 = .ok (.iload_n 3, 1) := by decide +kernel
theorem dX11_pour_44 : decode cX11_pour 44 = .ok (.invokevirtual 145, 3) := by decide +kernel
theorem dX11_pour_47 : decode cX11_pour 47 = .ok (.ifCond .eq 9, 3) := by decide +kernel
theorem dX11_pour_50 : decode cX11_pour 50 = .ok (.aload_n 0, 1) := by decide +kernel
theorem dX11_pour_51 : decode cX11_pour 51 = .ok (.iconst 3, 1) := by decide +kernel
theorem dX11_pour_52 : decode cX11_pour 52 = .ok (.invokevirtual 118, 3) := by decide +kernel
theorem dX11_pour_55 : decode cX11_pour 55 = .ok (.ireturn, 1) := by decide +kernel
theorem dX11_pour_56 : decode cX11_pour 56 = .ok (.aload_n 0, 1) := by decide +kernel
theorem dX11_pour_57 : decode cX11_pour 57 = .ok (.getfield 10, 3) := by decide +kernel
theorem dX11_pour_60 : decode cX11_pour 60 = .ok (.iload_n 1, 1) := by decide +kernel
theorem dX11_pour_61 : decode cX11_pour 61 = .ok (.invokevirtual 148, 3) := by decide +kernel
theorem dX11_pour_64 : decode cX11_pour 64 = .ok (.aload_n 0, 1) := by decide +kernel
theorem dX11_pour_65 : decode cX11_pour 65 = .ok (.getfield 10, 3) := by decide +kernel
theorem dX11_pour_68 : decode cX11_pour 68 = .ok (.iload_n 3, 1) := by decide +kernel
theorem dX11_pour_69 : decode cX11_pour 69 = .ok (.invokevirtual 148, 3) := by decide +kernel
theorem dX11_pour_72 : decode cX11_pour 72 = .ok (.if_icmp .eq 10, 3) := by decide +kernel
theorem dX11_pour_75 : decode cX11_pour 75 = .ok (.aload_n 0, 1) := by decide +kernel
theorem dX11_pour_76 : decode cX11_pour 76 = .ok (.bipush 11, 2) := by decide +kernel
theorem dX11_pour_78 : decode cX11_pour 78 = .ok (.invokevirtual 118, 3) := by decide +kernel
theorem dX11_pour_81 : decode cX11_pour 81 = .ok (.ireturn, 1) := by decide +kernel
theorem dX11_pour_82 : decode cX11_pour 82 = .ok (.iload 5, 2) := by decide +kernel
theorem dX11_pour_84 : decode cX11_pour 84 = .ok (.ifCond .ge 10, 3) := by decide +kernel
theorem dX11_pour_87 : decode cX11_pour 87 = .ok (.aload_n 0, 1) := by decide +kernel
theorem dX11_pour_88 : decode cX11_pour 88 = .ok (.bipush 6, 2) := by decide +kernel
theorem dX11_pour_90 : decode cX11_pour 90 = .ok (.invokevirtual 118, 3) := by decide +kernel
theorem dX11_pour_93 : decode cX11_pour 93 = .ok (.ireturn, 1) := by decide +kernel
theorem dX11_pour_94 : decode cX11_pour 94 = .ok (.aload_n 0, 1) := by decide +kernel
theorem dX11_pour_95 : decode cX11_pour 95 = .ok (.getfield 10, 3) := by decide +kernel
theorem dX11_pour_98 : decode cX11_pour 98 = .ok (.iload_n 1, 1) := by decide +kernel
theorem dX11_pour_99 : decode cX11_pour 99 = .ok (.iload_n 2, 1) := by decide +kernel
theorem dX11_pour_100 : decode cX11_pour 100 = .ok (.iload 5, 2) := by decide +kernel
theorem dX11_pour_102 : decode cX11_pour 102 = .ok (.invokevirtual 151, 3) := by decide +kernel
theorem dX11_pour_105 : decode cX11_pour 105 = .ok (.ifCond .eq 18, 3) := by decide +kernel
theorem dX11_pour_108 : decode cX11_pour 108 = .ok (.aload_n 0, 1) := by decide +kernel
theorem dX11_pour_109 : decode cX11_pour 109 = .ok (.getfield 10, 3) := by decide +kernel
theorem dX11_pour_112 : decode cX11_pour 112 = .ok (.iload_n 3, 1) := by decide +kernel
theorem dX11_pour_113 : decode cX11_pour 113 = .ok (.iload 4, 2) := by decide +kernel
theorem dX11_pour_115 : decode cX11_pour 115 = .ok (.iload 5, 2) := by decide +kernel
theorem dX11_pour_117 : decode cX11_pour 117 = .ok (.invokevirtual 151, 3) := by decide +kernel
theorem dX11_pour_120 : decode cX11_pour 120 = .ok (.ifCond .ne 9, 3) := by decide +kernel
theorem dX11_pour_123 : decode cX11_pour 123 = .ok (.aload_n 0, 1) := by decide +kernel
theorem dX11_pour_124 : decode cX11_pour 124 = .ok (.iconst 4, 1) := by decide +kernel
theorem dX11_pour_125 : decode cX11_pour 125 = .ok (.invokevirtual 118, 3) := by decide +kernel
theorem dX11_pour_128 : decode cX11_pour 128 = .ok (.ireturn, 1) := by decide +kernel
theorem dX11_pour_129 : decode cX11_pour 129 = .ok (.aload_n 0, 1) := by decide +kernel
theorem dX11_pour_130 : decode cX11_pour 130 = .ok (.getfield 10, 3) := by decide +kernel
theorem dX11_pour_133 : decode cX11_pour 133 = .ok (.iload_n 1, 1) := by decide +kernel
theorem dX11_pour_134 : decode cX11_pour 134 = .ok (.iload_n 2, 1) := by decide +kernel
theorem dX11_pour_135 : decode cX11_pour 135 = .ok (.iload_n 3, 1) := by decide +kernel
theorem dX11_pour_136 : decode cX11_pour 136 = .ok (.iload 4, 2) := by decide +kernel
theorem dX11_pour_138 : decode cX11_pour 138 = .ok (.iload 5, 2) := by decide +kernel
theorem dX11_pour_140 : decode cX11_pour 140 = .ok (.invokevirtual 154, 3) := by decide +kernel
theorem dX11_pour_143 : decode cX11_pour 143 = .ok (.aload_n 0, 1) := by decide +kernel
theorem dX11_pour_144 : decode cX11_pour 144 = .ok (.invokevirtual 125, 3) := by decide +kernel
theorem dX11_pour_147 : decode cX11_pour 147 = .ok (.ireturn, 1) := by decide +kernel
set_option maxRecDepth 100000 in
theorem c_X11_pour (l : Launch) (E : xE) (a0 a1 a2 a3 a4 a5 a6 a7 a8 : Nat) {T0 : Nat → Int32} {J0_15 : Int64} {J0_16 : Int64} {V2 : Nat → Int32} {V3 : Nat → Int32} {V5 : Nat → Int64} {V6 : Nat → Int64} {V7 : Nat → Int64} {V8 : Nat → Int64} {u0_1 u0_2 u0_3 u0_4 u0_5 u0_6 u0_7 u0_8 u0_9 u0_11 u0_12 u0_13 : Nat} {x1 : Int32} {x2 : Int32} {x3 : Int32} {x4 : Int32} {x5 : Int32} {z : Int32 × (Nat → Int32) × (Nat → Int64) × (Nat → Int64) × (Nat → Int64) × (Nat → Int64)} (hf : f_X11_pour T0 V2 V3 V5 V6 V7 V8 x1 x2 x3 x4 x5 = some z) (sz : Nat) : Met l yX11_pour (Cond.code yX11_pour cX11_pour 6 (some .boolean) :: gw) ({ frames := 5, cells := 0, slots := 0, locals := 112 }) (xPc E [.ref a0, .int x1, .int x2, .int x3, .int x4, .int x5] [(a0, o11 T0 J0_15 J0_16 a1 u0_1 u0_2 u0_3 u0_4 u0_5 u0_6 u0_7 u0_8 u0_9 u0_11 u0_12 u0_13), (a1, o9 a4 a3 a2), (a2, ai E 4 V2), (a3, ai E 4 V3), (a4, aj E 4 (en [a5, a6, a7, a8])), (a5, al E 60 V5), (a6, al E 60 V6), (a7, al E 60 V7), (a8, al E 60 V8)] sz) (xQi E z.1 [(a0, o11 T0 J0_15 J0_16 a1 u0_1 u0_2 u0_3 u0_4 u0_5 u0_6 u0_7 u0_8 u0_9 u0_11 u0_12 u0_13), (a1, o9 a4 a3 a2), (a2, ai E 4 V2), (a3, ai E 4 V3), (a4, aj E 4 (en [a5, a6, a7, a8])), (a5, al E 60 V5), (a6, al E 60 V6), (a7, al E 60 V7), (a8, al E 60 V8)] [(a0, o11 z.2.1 J0_15 J0_16 a1 u0_1 u0_2 u0_3 u0_4 u0_5 u0_6 u0_7 u0_8 u0_9 u0_11 u0_12 u0_13), (a1, o9 a4 a3 a2), (a2, ai E 4 V2), (a3, ai E 4 V3), (a4, aj E 4 (en [a5, a6, a7, a8])), (a5, al E 60 z.2.2.1), (a6, al E 60 z.2.2.2.1), (a7, al E 60 z.2.2.2.2.1), (a8, al E 60 z.2.2.2.2.2)] sz) 0 0 (va_A [(a0, o11 T0 J0_15 J0_16 a1 u0_1 u0_2 u0_3 u0_4 u0_5 u0_6 u0_7 u0_8 u0_9 u0_11 u0_12 u0_13), (a1, o9 a4 a3 a2), (a2, ai E 4 V2), (a3, ai E 4 V3), (a4, aj E 4 (en [a5, a6, a7, a8])), (a5, al E 60 V5), (a6, al E 60 V6), (a7, al E 60 V7), (a8, al E 60 V8)] sz) := by
  refine xM_i (by decide +kernel) (Nat.le_of_ble_eq_true rfl) ?_
  intro p e s m args below meth c A Q hx hb hml hown htg hK hG hA ret0 H locs ls hP hD hS hl
  have ret : ∀ (z' : Int32 × (Nat → Int32) × (Nat → Int64) × (Nat → Int64) × (Nat → Int64) × (Nat → Int64)) {H : Heap} {locs : List Loc} {pc : Nat} {ls : Array Slot}, some z' = some z → narrow .boolean (.int z'.1) = .int z'.1 → va_P E.1 vwCl [(a0, o11 z'.2.1 J0_15 J0_16 a1 u0_1 u0_2 u0_3 u0_4 u0_5 u0_6 u0_7 u0_8 u0_9 u0_11 u0_12 u0_13), (a1, o9 a4 a3 a2), (a2, ai E 4 V2), (a3, ai E 4 V3), (a4, aj E 4 (en [a5, a6, a7, a8])), (a5, al E 60 z'.2.2.1), (a6, al E 60 z'.2.2.2.1), (a7, al E 60 z'.2.2.2.2.1), (a8, al E 60 z'.2.2.2.2.2)] H → va_S A s.heap H locs → decode cX11_pour pc = .ok (.ireturn, 1) → W p l e ({ frames := 5, cells := 0, slots := 0, locals := 112 } : Room) s m args below meth c H locs 0 0 Q (F0 m pc ls [.int z'.1]) := by
    intro z' H locs pc ls h
    cases h
    exact ret0
  replace hl : lv_has ls 6 [(0, .ref a0), (1, .int x1), (2, .int x2), (3, .int x3), (4, .int x4), (5, .int x5)] := hl
  have b22 : ∀ (T0 : Nat → Int32) (V5 : Nat → Int64) (V6 : Nat → Int64) (V7 : Nat → Int64) (V8 : Nat → Int64) (H : Heap) (locs : List Loc) (ls : Array Slot), f_X11_pour_22 V2 V3 x1 x2 x3 x4 x5 T0 V5 V6 V7 V8 = some z → va_P E.1 vwCl [(a0, o11 T0 J0_15 J0_16 a1 u0_1 u0_2 u0_3 u0_4 u0_5 u0_6 u0_7 u0_8 u0_9 u0_11 u0_12 u0_13), (a1, o9 a4 a3 a2), (a2, ai E 4 V2), (a3, ai E 4 V3), (a4, aj E 4 (en [a5, a6, a7, a8])), (a5, al E 60 V5), (a6, al E 60 V6), (a7, al E 60 V7), (a8, al E 60 V8)] H → va_D A [(a0, o11 T0 J0_15 J0_16 a1 u0_1 u0_2 u0_3 u0_4 u0_5 u0_6 u0_7 u0_8 u0_9 u0_11 u0_12 u0_13), (a1, o9 a4 a3 a2), (a2, ai E 4 V2), (a3, ai E 4 V3), (a4, aj E 4 (en [a5, a6, a7, a8])), (a5, al E 60 V5), (a6, al E 60 V6), (a7, al E 60 V7), (a8, al E 60 V8)] → va_S A s.heap H locs → lv_has ls 6 [(0, .ref a0)] → W p l e ({ frames := 5, cells := 0, slots := 0, locals := 112 } : Room) s m args below meth c H locs 0 0 Q (F0 m 22 ls []) := by
    intro T0 V5 V6 V7 V8 H locs ls hf hP hD hS hl
    unfold f_X11_pour_22 at hf
    refine lv_aload_n hx hb dX11_pour_22 rfl (lv_at hl 0 rfl) ?_
    refine lv_iconst (v := 1) hx hb dX11_pour_23 rfl ?_
    obtain ⟨z24, hz24, hf⟩ := bind_s hf
    refine xV_iu hx hb hml hown htg L11_118 (c_X11_denied l E a0 hz24 _) ⟨⟨rfl, rfl⟩, Nat.le_of_ble_eq_true rfl, Nat.le_of_ble_eq_true rfl⟩ hK hG hA hP hD hS (is := [0]) (sel := [some 0, none, none, none, none, none, none, none, none]) (ws2 := [(a0, o11 z24.2 J0_15 J0_16 a1 u0_1 u0_2 u0_3 u0_4 u0_5 u0_6 u0_7 u0_8 u0_9 u0_11 u0_12 u0_13), (a1, o9 a4 a3 a2), (a2, ai E 4 V2), (a3, ai E 4 V3), (a4, aj E 4 (en [a5, a6, a7, a8])), (a5, al E 60 V5), (a6, al E 60 V6), (a7, al E 60 V7), (a8, al E 60 V8)]) rfl rfl rfl rfl rfl (xrecv hK hP (q0 := 0) (ci := 11) rfl rfl) rfl hl.1 rfl (Nat.le_of_ble_eq_true rfl) dX11_pour_24 (fun H locs hP hD hS => ?_)
    obtain ⟨g27, hf⟩ := ck_s hf
    exact ret (z24.1, z24.2, V5, V6, V7, V8) hf (bz_n g27).1 hP hS dX11_pour_27
  have b50 : ∀ (T0 : Nat → Int32) (V5 : Nat → Int64) (V6 : Nat → Int64) (V7 : Nat → Int64) (V8 : Nat → Int64) (H : Heap) (locs : List Loc) (ls : Array Slot), f_X11_pour_50 V2 V3 x1 x2 x3 x4 x5 T0 V5 V6 V7 V8 = some z → va_P E.1 vwCl [(a0, o11 T0 J0_15 J0_16 a1 u0_1 u0_2 u0_3 u0_4 u0_5 u0_6 u0_7 u0_8 u0_9 u0_11 u0_12 u0_13), (a1, o9 a4 a3 a2), (a2, ai E 4 V2), (a3, ai E 4 V3), (a4, aj E 4 (en [a5, a6, a7, a8])), (a5, al E 60 V5), (a6, al E 60 V6), (a7, al E 60 V7), (a8, al E 60 V8)] H → va_D A [(a0, o11 T0 J0_15 J0_16 a1 u0_1 u0_2 u0_3 u0_4 u0_5 u0_6 u0_7 u0_8 u0_9 u0_11 u0_12 u0_13), (a1, o9 a4 a3 a2), (a2, ai E 4 V2), (a3, ai E 4 V3), (a4, aj E 4 (en [a5, a6, a7, a8])), (a5, al E 60 V5), (a6, al E 60 V6), (a7, al E 60 V7), (a8, al E 60 V8)] → va_S A s.heap H locs → lv_has ls 6 [(0, .ref a0)] → W p l e ({ frames := 5, cells := 0, slots := 0, locals := 112 } : Room) s m args below meth c H locs 0 0 Q (F0 m 50 ls []) := by
    intro T0 V5 V6 V7 V8 H locs ls hf hP hD hS hl
    unfold f_X11_pour_50 at hf
    refine lv_aload_n hx hb dX11_pour_50 rfl (lv_at hl 0 rfl) ?_
    refine lv_iconst (v := 3) hx hb dX11_pour_51 rfl ?_
    obtain ⟨z52, hz52, hf⟩ := bind_s hf
    refine xV_iu hx hb hml hown htg L11_118 (c_X11_denied l E a0 hz52 _) ⟨⟨rfl, rfl⟩, Nat.le_of_ble_eq_true rfl, Nat.le_of_ble_eq_true rfl⟩ hK hG hA hP hD hS (is := [0]) (sel := [some 0, none, none, none, none, none, none, none, none]) (ws2 := [(a0, o11 z52.2 J0_15 J0_16 a1 u0_1 u0_2 u0_3 u0_4 u0_5 u0_6 u0_7 u0_8 u0_9 u0_11 u0_12 u0_13), (a1, o9 a4 a3 a2), (a2, ai E 4 V2), (a3, ai E 4 V3), (a4, aj E 4 (en [a5, a6, a7, a8])), (a5, al E 60 V5), (a6, al E 60 V6), (a7, al E 60 V7), (a8, al E 60 V8)]) rfl rfl rfl rfl rfl (xrecv hK hP (q0 := 0) (ci := 11) rfl rfl) rfl hl.1 rfl (Nat.le_of_ble_eq_true rfl) dX11_pour_52 (fun H locs hP hD hS => ?_)
    obtain ⟨g55, hf⟩ := ck_s hf
    exact ret (z52.1, z52.2, V5, V6, V7, V8) hf (bz_n g55).1 hP hS dX11_pour_55
  have b123 : ∀ (T0 : Nat → Int32) (V5 : Nat → Int64) (V6 : Nat → Int64) (V7 : Nat → Int64) (V8 : Nat → Int64) (H : Heap) (locs : List Loc) (ls : Array Slot), f_X11_pour_123 V2 V3 x1 x2 x3 x4 x5 T0 V5 V6 V7 V8 = some z → va_P E.1 vwCl [(a0, o11 T0 J0_15 J0_16 a1 u0_1 u0_2 u0_3 u0_4 u0_5 u0_6 u0_7 u0_8 u0_9 u0_11 u0_12 u0_13), (a1, o9 a4 a3 a2), (a2, ai E 4 V2), (a3, ai E 4 V3), (a4, aj E 4 (en [a5, a6, a7, a8])), (a5, al E 60 V5), (a6, al E 60 V6), (a7, al E 60 V7), (a8, al E 60 V8)] H → va_D A [(a0, o11 T0 J0_15 J0_16 a1 u0_1 u0_2 u0_3 u0_4 u0_5 u0_6 u0_7 u0_8 u0_9 u0_11 u0_12 u0_13), (a1, o9 a4 a3 a2), (a2, ai E 4 V2), (a3, ai E 4 V3), (a4, aj E 4 (en [a5, a6, a7, a8])), (a5, al E 60 V5), (a6, al E 60 V6), (a7, al E 60 V7), (a8, al E 60 V8)] → va_S A s.heap H locs → lv_has ls 6 [(0, .ref a0)] → W p l e ({ frames := 5, cells := 0, slots := 0, locals := 112 } : Room) s m args below meth c H locs 0 0 Q (F0 m 123 ls []) := by
    intro T0 V5 V6 V7 V8 H locs ls hf hP hD hS hl
    unfold f_X11_pour_123 at hf
    refine lv_aload_n hx hb dX11_pour_123 rfl (lv_at hl 0 rfl) ?_
    refine lv_iconst (v := 4) hx hb dX11_pour_124 rfl ?_
    obtain ⟨z125, hz125, hf⟩ := bind_s hf
    refine xV_iu hx hb hml hown htg L11_118 (c_X11_denied l E a0 hz125 _) ⟨⟨rfl, rfl⟩, Nat.le_of_ble_eq_true rfl, Nat.le_of_ble_eq_true rfl⟩ hK hG hA hP hD hS (is := [0]) (sel := [some 0, none, none, none, none, none, none, none, none]) (ws2 := [(a0, o11 z125.2 J0_15 J0_16 a1 u0_1 u0_2 u0_3 u0_4 u0_5 u0_6 u0_7 u0_8 u0_9 u0_11 u0_12 u0_13), (a1, o9 a4 a3 a2), (a2, ai E 4 V2), (a3, ai E 4 V3), (a4, aj E 4 (en [a5, a6, a7, a8])), (a5, al E 60 V5), (a6, al E 60 V6), (a7, al E 60 V7), (a8, al E 60 V8)]) rfl rfl rfl rfl rfl (xrecv hK hP (q0 := 0) (ci := 11) rfl rfl) rfl hl.1 rfl (Nat.le_of_ble_eq_true rfl) dX11_pour_125 (fun H locs hP hD hS => ?_)
    obtain ⟨g128, hf⟩ := ck_s hf
    exact ret (z125.1, z125.2, V5, V6, V7, V8) hf (bz_n g128).1 hP hS dX11_pour_128
  unfold f_X11_pour at hf
  refine lv_aload_n hx hb dX11_pour_0 rfl (lv_at hl 0 rfl) ?_
  refine G11_10 hx hb htg hown hK hP 0 rfl dX11_pour_1 ?_
  refine lv_iload_n hx hb dX11_pour_4 rfl (lv_at hl 1 rfl) ?_
  obtain ⟨z5, hz5, hf⟩ := bind_s hf
  refine xV_ir hx hb hml hown htg L11_110 (c_X9_isTray l E a1 hz5 _) ⟨⟨rfl, rfl⟩, Nat.le_of_ble_eq_true rfl, Nat.le_of_ble_eq_true rfl⟩ hK hG hA hP hD hS (is := [1]) rfl rfl (xrecv hK hP (q0 := 1) (ci := 9) rfl rfl) rfl hl.1 rfl (Nat.le_of_ble_eq_true rfl) dX11_pour_5 (fun H locs hP hD hS => ?_)
  refine lv_if_eq (tgt := 22) hx hb dX11_pour_8 (by decide) (fun c8 => ?_) (fun c8 => ?_)
  · have hf := it_t c8 hf
    exact b22 T0 V5 V6 V7 V8 _ _ _ hf hP hD hS (lv_sub hl [0] rfl)
  · have hf := it_f c8 hf
    refine lv_aload_n hx hb dX11_pour_11 rfl (lv_at hl 0 rfl) ?_
    refine G11_10 hx hb htg hown hK hP 0 rfl dX11_pour_12 ?_
    refine lv_iload_n hx hb dX11_pour_15 rfl (lv_at hl 3 rfl) ?_
    obtain ⟨z16, hz16, hf⟩ := bind_s hf
    refine xV_ir hx hb hml hown htg L11_110 (c_X9_isTray l E a1 hz16 _) ⟨⟨rfl, rfl⟩, Nat.le_of_ble_eq_true rfl, Nat.le_of_ble_eq_true rfl⟩ hK hG hA hP hD hS (is := [1]) rfl rfl (xrecv hK hP (q0 := 1) (ci := 9) rfl rfl) rfl hl.1 rfl (Nat.le_of_ble_eq_true rfl) dX11_pour_16 (fun H locs hP hD hS => ?_)
    refine lv_if_ne (tgt := 28) hx hb dX11_pour_19 (by decide) (fun c19 => ?_) (fun c19 => ?_)
    · have hf := it_f c19 hf
      refine lv_aload_n hx hb dX11_pour_28 rfl (lv_at hl 0 rfl) ?_
      refine G11_10 hx hb htg hown hK hP 0 rfl dX11_pour_29 ?_
      refine lv_iload_n hx hb dX11_pour_32 rfl (lv_at hl 1 rfl) ?_
      obtain ⟨z33, hz33, hf⟩ := bind_s hf
      refine xV_ir hx hb hml hown htg L11_145 (c_X9_isMissing l E a1 a2 hz33 _) ⟨⟨rfl, rfl⟩, Nat.le_of_ble_eq_true rfl, Nat.le_of_ble_eq_true rfl⟩ hK hG hA hP hD hS (is := [1, 2]) rfl rfl (xrecv hK hP (q0 := 1) (ci := 9) rfl rfl) rfl hl.1 rfl (Nat.le_of_ble_eq_true rfl) dX11_pour_33 (fun H locs hP hD hS => ?_)
      refine lv_if_ne (tgt := 50) hx hb dX11_pour_36 (by decide) (fun c36 => ?_) (fun c36 => ?_)
      · have hf := it_f c36 hf
        exact b50 T0 V5 V6 V7 V8 _ _ _ hf hP hD hS (lv_sub hl [0] rfl)
      · have hf := it_t c36 hf
        refine lv_aload_n hx hb dX11_pour_39 rfl (lv_at hl 0 rfl) ?_
        refine G11_10 hx hb htg hown hK hP 0 rfl dX11_pour_40 ?_
        refine lv_iload_n hx hb dX11_pour_43 rfl (lv_at hl 3 rfl) ?_
        obtain ⟨z44, hz44, hf⟩ := bind_s hf
        refine xV_ir hx hb hml hown htg L11_145 (c_X9_isMissing l E a1 a2 hz44 _) ⟨⟨rfl, rfl⟩, Nat.le_of_ble_eq_true rfl, Nat.le_of_ble_eq_true rfl⟩ hK hG hA hP hD hS (is := [1, 2]) rfl rfl (xrecv hK hP (q0 := 1) (ci := 9) rfl rfl) rfl hl.1 rfl (Nat.le_of_ble_eq_true rfl) dX11_pour_44 (fun H locs hP hD hS => ?_)
        refine lv_if_eq (tgt := 56) hx hb dX11_pour_47 (by decide) (fun c47 => ?_) (fun c47 => ?_)
        · have hf := it_t c47 hf
          refine lv_aload_n hx hb dX11_pour_56 rfl (lv_at hl 0 rfl) ?_
          refine G11_10 hx hb htg hown hK hP 0 rfl dX11_pour_57 ?_
          refine lv_iload_n hx hb dX11_pour_60 rfl (lv_at hl 1 rfl) ?_
          obtain ⟨z61, hz61, hf⟩ := bind_s hf
          refine xV_ir hx hb hml hown htg L11_148 (c_X9_sortOf l E a1 a3 hz61 _) ⟨⟨rfl, rfl⟩, Nat.le_of_ble_eq_true rfl, Nat.le_of_ble_eq_true rfl⟩ hK hG hA hP hD hS (is := [1, 3]) rfl rfl (xrecv hK hP (q0 := 1) (ci := 9) rfl rfl) rfl hl.1 rfl (Nat.le_of_ble_eq_true rfl) dX11_pour_61 (fun H locs hP hD hS => ?_)
          refine lv_aload_n hx hb dX11_pour_64 rfl (lv_at hl 0 rfl) ?_
          refine G11_10 hx hb htg hown hK hP 0 rfl dX11_pour_65 ?_
          refine lv_iload_n hx hb dX11_pour_68 rfl (lv_at hl 3 rfl) ?_
          obtain ⟨z69, hz69, hf⟩ := bind_s hf
          refine xV_ir hx hb hml hown htg L11_148 (c_X9_sortOf l E a1 a3 hz69 _) ⟨⟨rfl, rfl⟩, Nat.le_of_ble_eq_true rfl, Nat.le_of_ble_eq_true rfl⟩ hK hG hA hP hD hS (is := [1, 3]) rfl rfl (xrecv hK hP (q0 := 1) (ci := 9) rfl rfl) rfl hl.1 rfl (Nat.le_of_ble_eq_true rfl) dX11_pour_69 (fun H locs hP hD hS => ?_)
          refine lv_icmp_eq (tgt := 82) hx hb dX11_pour_72 (by decide) (fun c72 => ?_) (fun c72 => ?_)
          · have hf := it_t c72 hf
            refine lv_iload hx hb dX11_pour_82 (lv_at hl 5 rfl) ?_
            refine lv_if_ge (tgt := 94) hx hb dX11_pour_84 (by decide) (fun c84 => ?_) (fun c84 => ?_)
            · have hf := it_t c84 hf
              refine lv_aload_n hx hb dX11_pour_94 rfl (lv_at hl 0 rfl) ?_
              refine G11_10 hx hb htg hown hK hP 0 rfl dX11_pour_95 ?_
              refine lv_iload_n hx hb dX11_pour_98 rfl (lv_at hl 1 rfl) ?_
              refine lv_iload_n hx hb dX11_pour_99 rfl (lv_at hl 2 rfl) ?_
              refine lv_iload hx hb dX11_pour_100 (lv_at hl 5 rfl) ?_
              obtain ⟨z102, hz102, hf⟩ := bind_s hf
              refine xV_ir hx hb hml hown htg L11_151 (c_X9_hasPlaces l E a1 a2 hz102 _) ⟨⟨rfl, rfl⟩, Nat.le_of_ble_eq_true rfl, Nat.le_of_ble_eq_true rfl⟩ hK hG hA hP hD hS (is := [1, 2]) rfl rfl (xrecv hK hP (q0 := 1) (ci := 9) rfl rfl) rfl hl.1 rfl (Nat.le_of_ble_eq_true rfl) dX11_pour_102 (fun H locs hP hD hS => ?_)
              refine lv_if_eq (tgt := 123) hx hb dX11_pour_105 (by decide) (fun c105 => ?_) (fun c105 => ?_)
              · have hf := it_t c105 hf
                exact b123 T0 V5 V6 V7 V8 _ _ _ hf hP hD hS (lv_sub hl [0] rfl)
              · have hf := it_f c105 hf
                refine lv_aload_n hx hb dX11_pour_108 rfl (lv_at hl 0 rfl) ?_
                refine G11_10 hx hb htg hown hK hP 0 rfl dX11_pour_109 ?_
                refine lv_iload_n hx hb dX11_pour_112 rfl (lv_at hl 3 rfl) ?_
                refine lv_iload hx hb dX11_pour_113 (lv_at hl 4 rfl) ?_
                refine lv_iload hx hb dX11_pour_115 (lv_at hl 5 rfl) ?_
                obtain ⟨z117, hz117, hf⟩ := bind_s hf
                refine xV_ir hx hb hml hown htg L11_151 (c_X9_hasPlaces l E a1 a2 hz117 _) ⟨⟨rfl, rfl⟩, Nat.le_of_ble_eq_true rfl, Nat.le_of_ble_eq_true rfl⟩ hK hG hA hP hD hS (is := [1, 2]) rfl rfl (xrecv hK hP (q0 := 1) (ci := 9) rfl rfl) rfl hl.1 rfl (Nat.le_of_ble_eq_true rfl) dX11_pour_117 (fun H locs hP hD hS => ?_)
                refine lv_if_ne (tgt := 129) hx hb dX11_pour_120 (by decide) (fun c120 => ?_) (fun c120 => ?_)
                · have hf := it_f c120 hf
                  refine lv_aload_n hx hb dX11_pour_129 rfl (lv_at hl 0 rfl) ?_
                  refine G11_10 hx hb htg hown hK hP 0 rfl dX11_pour_130 ?_
                  refine lv_iload_n hx hb dX11_pour_133 rfl (lv_at hl 1 rfl) ?_
                  refine lv_iload_n hx hb dX11_pour_134 rfl (lv_at hl 2 rfl) ?_
                  refine lv_iload_n hx hb dX11_pour_135 rfl (lv_at hl 3 rfl) ?_
                  refine lv_iload hx hb dX11_pour_136 (lv_at hl 4 rfl) ?_
                  refine lv_iload hx hb dX11_pour_138 (lv_at hl 5 rfl) ?_
                  obtain ⟨z140, hz140, hf⟩ := bind_s hf
                  refine xV_vu hx hb hml hown htg L11_154 (c_X9_move l E a1 a2 a4 a5 a6 a7 a8 hz140 _) ⟨⟨rfl, rfl⟩, Nat.le_of_ble_eq_true rfl, Nat.le_of_ble_eq_true rfl⟩ hK hG hA hP hD hS (is := [1, 2, 4, 5, 6, 7, 8]) (sel := [none, some 0, some 1, none, some 2, some 3, some 4, some 5, some 6]) (ws2 := [(a0, o11 T0 J0_15 J0_16 a1 u0_1 u0_2 u0_3 u0_4 u0_5 u0_6 u0_7 u0_8 u0_9 u0_11 u0_12 u0_13), (a1, o9 a4 a3 a2), (a2, ai E 4 V2), (a3, ai E 4 V3), (a4, aj E 4 (en [a5, a6, a7, a8])), (a5, al E 60 z140.1), (a6, al E 60 z140.2.1), (a7, al E 60 z140.2.2.1), (a8, al E 60 z140.2.2.2)]) rfl rfl rfl rfl rfl (xrecv hK hP (q0 := 1) (ci := 9) rfl rfl) rfl hl.1 rfl (Nat.le_of_ble_eq_true rfl) dX11_pour_140 (fun H locs hP hD hS => ?_)
                  refine lv_aload_n hx hb dX11_pour_143 rfl (lv_at hl 0 rfl) ?_
                  obtain ⟨z144, hz144, hf⟩ := bind_s hf
                  refine xV_iu hx hb hml hown htg L11_125 (c_X11_done l E a0 hz144 _) ⟨⟨rfl, rfl⟩, Nat.le_of_ble_eq_true rfl, Nat.le_of_ble_eq_true rfl⟩ hK hG hA hP hD hS (is := [0]) (sel := [some 0, none, none, none, none, none, none, none, none]) (ws2 := [(a0, o11 z144.2 J0_15 J0_16 a1 u0_1 u0_2 u0_3 u0_4 u0_5 u0_6 u0_7 u0_8 u0_9 u0_11 u0_12 u0_13), (a1, o9 a4 a3 a2), (a2, ai E 4 V2), (a3, ai E 4 V3), (a4, aj E 4 (en [a5, a6, a7, a8])), (a5, al E 60 z140.1), (a6, al E 60 z140.2.1), (a7, al E 60 z140.2.2.1), (a8, al E 60 z140.2.2.2)]) rfl rfl rfl rfl rfl (xrecv hK hP (q0 := 0) (ci := 11) rfl rfl) rfl hl.1 rfl (Nat.le_of_ble_eq_true rfl) dX11_pour_144 (fun H locs hP hD hS => ?_)
                  obtain ⟨g147, hf⟩ := ck_s hf
                  exact ret (z144.1, z144.2, z140.1, z140.2.1, z140.2.2.1, z140.2.2.2) hf (bz_n g147).1 hP hS dX11_pour_147
                · have hf := it_t c120 hf
                  exact b123 T0 V5 V6 V7 V8 _ _ _ hf hP hD hS (lv_sub hl [0] rfl)
            · have hf := it_f c84 hf
              refine lv_aload_n hx hb dX11_pour_87 rfl (lv_at hl 0 rfl) ?_
              refine lv_bipush (v := 6) hx hb dX11_pour_88 rfl ?_
              obtain ⟨z90, hz90, hf⟩ := bind_s hf
              refine xV_iu hx hb hml hown htg L11_118 (c_X11_denied l E a0 hz90 _) ⟨⟨rfl, rfl⟩, Nat.le_of_ble_eq_true rfl, Nat.le_of_ble_eq_true rfl⟩ hK hG hA hP hD hS (is := [0]) (sel := [some 0, none, none, none, none, none, none, none, none]) (ws2 := [(a0, o11 z90.2 J0_15 J0_16 a1 u0_1 u0_2 u0_3 u0_4 u0_5 u0_6 u0_7 u0_8 u0_9 u0_11 u0_12 u0_13), (a1, o9 a4 a3 a2), (a2, ai E 4 V2), (a3, ai E 4 V3), (a4, aj E 4 (en [a5, a6, a7, a8])), (a5, al E 60 V5), (a6, al E 60 V6), (a7, al E 60 V7), (a8, al E 60 V8)]) rfl rfl rfl rfl rfl (xrecv hK hP (q0 := 0) (ci := 11) rfl rfl) rfl hl.1 rfl (Nat.le_of_ble_eq_true rfl) dX11_pour_90 (fun H locs hP hD hS => ?_)
              obtain ⟨g93, hf⟩ := ck_s hf
              exact ret (z90.1, z90.2, V5, V6, V7, V8) hf (bz_n g93).1 hP hS dX11_pour_93
          · have hf := it_f c72 hf
            refine lv_aload_n hx hb dX11_pour_75 rfl (lv_at hl 0 rfl) ?_
            refine lv_bipush (v := 11) hx hb dX11_pour_76 rfl ?_
            obtain ⟨z78, hz78, hf⟩ := bind_s hf
            refine xV_iu hx hb hml hown htg L11_118 (c_X11_denied l E a0 hz78 _) ⟨⟨rfl, rfl⟩, Nat.le_of_ble_eq_true rfl, Nat.le_of_ble_eq_true rfl⟩ hK hG hA hP hD hS (is := [0]) (sel := [some 0, none, none, none, none, none, none, none, none]) (ws2 := [(a0, o11 z78.2 J0_15 J0_16 a1 u0_1 u0_2 u0_3 u0_4 u0_5 u0_6 u0_7 u0_8 u0_9 u0_11 u0_12 u0_13), (a1, o9 a4 a3 a2), (a2, ai E 4 V2), (a3, ai E 4 V3), (a4, aj E 4 (en [a5, a6, a7, a8])), (a5, al E 60 V5), (a6, al E 60 V6), (a7, al E 60 V7), (a8, al E 60 V8)]) rfl rfl rfl rfl rfl (xrecv hK hP (q0 := 0) (ci := 11) rfl rfl) rfl hl.1 rfl (Nat.le_of_ble_eq_true rfl) dX11_pour_78 (fun H locs hP hD hS => ?_)
            obtain ⟨g81, hf⟩ := ck_s hf
            exact ret (z78.1, z78.2, V5, V6, V7, V8) hf (bz_n g81).1 hP hS dX11_pour_81
        · have hf := it_f c47 hf
          exact b50 T0 V5 V6 V7 V8 _ _ _ hf hP hD hS (lv_sub hl [0] rfl)
    · have hf := it_t c19 hf
      exact b22 T0 V5 V6 V7 V8 _ _ _ hf hP hD hS (lv_sub hl [0] rfl)
theorem dX11_feed_0 : decode cX11_feed 0 = .ok (.aload_n 0, 1) := by decide +kernel
theorem dX11_feed_1 : decode cX11_feed 1 = .ok (.getfield 19, 3) := by decide +kernel
theorem dX11_feed_4 : decode cX11_feed 4 = .ok (.invokevirtual 158, 3) := by decide +kernel
theorem dX11_feed_7 : decode cX11_feed 7 = .ok (.ifCond .ne 5, 3) := by decide +kernel
theorem dX11_feed_10 : decode cX11_feed 10 = .ok (.iconst (-1), 1) := by decide +kernel
theorem dX11_feed_11 : decode cX11_feed 11 = .ok (.ireturn, 1) := by decide +kernel
theorem dX11_feed_12 : decode cX11_feed 12 = .ok (.aload_n 0, 1) := by decide +kernel
theorem dX11_feed_13 : decode cX11_feed 13 = .ok (.getfield 19, 3) := by decide +kernel
theorem dX11_feed_16 : decode cX11_feed 16 = .ok (.iload_n 1, 1) := by decide +kernel
theorem dX11_feed_17 : decode cX11_feed 17 = .ok (.invokevirtual 161, 3) := by decide +kernel
theorem dX11_feed_20 : decode cX11_feed 20 = .ok (.aload_n 0, 1) := by decide +kernel
theorem dX11_feed_21 : decode cX11_feed 21 = .ok (.getfield 19, 3) := by decide +kernel
theorem dX11_feed_24 : decode cX11_feed 24 = .ok (.iload_n 2, 1) := by decide +kernel
theorem dX11_feed_25 : decode cX11_feed 25 = .ok (.invokevirtual 161, 3) := by decide +kernel
theorem dX11_feed_28 : decode cX11_feed 28 = .ok (.aload_n 0, 1) := by decide +kernel
theorem dX11_feed_29 : decode cX11_feed 29 = .ok (.getfield 19, 3) := by decide +kernel
theorem dX11_feed_32 : decode cX11_feed 32 = .ok (.iload_n 3, 1) := by decide +kernel
theorem dX11_feed_33 : decode cX11_feed 33 = .ok (.invokevirtual 161, 3) := by decide +kernel
theorem dX11_feed_36 : decode cX11_feed 36 = .ok (.aload_n 0, 1) := by decide +kernel
theorem dX11_feed_37 : decode cX11_feed 37 = .ok (.getfield 19, 3) := by decide +kernel
theorem dX11_feed_40 : decode cX11_feed 40 = .ok (.iload 4, 2) := by decide +kernel
theorem dX11_feed_42 : decode cX11_feed 42 = .ok (.invokevirtual 161, 3) := by decide +kernel
theorem dX11_feed_45 : decode cX11_feed 45 = .ok (.aload_n 0, 1) := by decide +kernel
theorem dX11_feed_46 : decode cX11_feed 46 = .ok (.getfield 19, 3) := by decide +kernel
theorem dX11_feed_49 : decode cX11_feed 49 = .ok (.iload 5, 2) := by decide +kernel
theorem dX11_feed_51 : decode cX11_feed 51 = .ok (.invokevirtual 161, 3) := by decide +kernel
theorem dX11_feed_54 : decode cX11_feed 54 = .ok (.aload_n 0, 1) := by decide +kernel
theorem dX11_feed_55 : decode cX11_feed 55 = .ok (.getfield 19, 3) := by decide +kernel
theorem dX11_feed_58 : decode cX11_feed 58 = .ok (.invokevirtual 165, 3) := by decide +kernel
theorem dX11_feed_61 : decode cX11_feed 61 = .ok (.ireturn, 1) := by decide +kernel
set_option maxRecDepth 100000 in
theorem c_X11_feed (l : Launch) (E : xE) (a0 a1 a2 : Nat) {T0 : Nat → Int32} {J0_15 : Int64} {J0_16 : Int64} {T1 : Nat → Int32} {J1_8 : Int64} {V2 : Nat → Int32} {u0_0 u0_2 u0_3 u0_4 u0_5 u0_6 u0_7 u0_8 u0_9 u0_11 u0_12 u0_13 u1_1 : Nat} {x1 : Int32} {x2 : Int32} {x3 : Int32} {x4 : Int32} {x5 : Int32} {z : Int32 × (Nat → Int32) × (Nat → Int32)} (hf : f_X11_feed T1 V2 x1 x2 x3 x4 x5 = some z) (sz : Nat) : Met l yX11_feed (Cond.code yX11_feed cX11_feed 6 (some .int) :: gw) ({ frames := 1, cells := 0, slots := 0, locals := 22 }) (xPc E [.ref a0, .int x1, .int x2, .int x3, .int x4, .int x5] [(a0, o11 T0 J0_15 J0_16 u0_0 a1 u0_2 u0_3 u0_4 u0_5 u0_6 u0_7 u0_8 u0_9 u0_11 u0_12 u0_13), (a1, o8 T1 J1_8 a2 u1_1), (a2, ab E 900 V2)] sz) (xQi E z.1 [(a0, o11 T0 J0_15 J0_16 u0_0 a1 u0_2 u0_3 u0_4 u0_5 u0_6 u0_7 u0_8 u0_9 u0_11 u0_12 u0_13), (a1, o8 T1 J1_8 a2 u1_1), (a2, ab E 900 V2)] [(a0, o11 T0 J0_15 J0_16 u0_0 a1 u0_2 u0_3 u0_4 u0_5 u0_6 u0_7 u0_8 u0_9 u0_11 u0_12 u0_13), (a1, o8 z.2.1 J1_8 a2 u1_1), (a2, ab E 900 z.2.2)] sz) 0 0 (va_A [(a0, o11 T0 J0_15 J0_16 u0_0 a1 u0_2 u0_3 u0_4 u0_5 u0_6 u0_7 u0_8 u0_9 u0_11 u0_12 u0_13), (a1, o8 T1 J1_8 a2 u1_1), (a2, ab E 900 V2)] sz) := by
  refine xM_i (by decide +kernel) (Nat.le_of_ble_eq_true rfl) ?_
  intro p e s m args below meth c A Q hx hb hml hown htg hK hG hA ret0 H locs ls hP hD hS hl
  have ret : ∀ (z' : Int32 × (Nat → Int32) × (Nat → Int32)) {H : Heap} {locs : List Loc} {pc : Nat} {ls : Array Slot}, some z' = some z → narrow .int (.int z'.1) = .int z'.1 → va_P E.1 vwCl [(a0, o11 T0 J0_15 J0_16 u0_0 a1 u0_2 u0_3 u0_4 u0_5 u0_6 u0_7 u0_8 u0_9 u0_11 u0_12 u0_13), (a1, o8 z'.2.1 J1_8 a2 u1_1), (a2, ab E 900 z'.2.2)] H → va_S A s.heap H locs → decode cX11_feed pc = .ok (.ireturn, 1) → W p l e ({ frames := 1, cells := 0, slots := 0, locals := 22 } : Room) s m args below meth c H locs 0 0 Q (F0 m pc ls [.int z'.1]) := by
    intro z' H locs pc ls h
    cases h
    exact ret0
  replace hl : lv_has ls 6 [(0, .ref a0), (1, .int x1), (2, .int x2), (3, .int x3), (4, .int x4), (5, .int x5)] := hl
  unfold f_X11_feed at hf
  refine lv_aload_n hx hb dX11_feed_0 rfl (lv_at hl 0 rfl) ?_
  refine G11_19 hx hb htg hown hK hP 0 rfl dX11_feed_1 ?_
  obtain ⟨z4, hz4, hf⟩ := bind_s hf
  refine xV_ir hx hb hml hown htg L11_158 (c_X8_hasRoom l E a1 hz4 _) ⟨⟨rfl, rfl⟩, Nat.le_of_ble_eq_true rfl, Nat.le_of_ble_eq_true rfl⟩ hK hG hA hP hD hS (is := [1]) rfl rfl (xrecv hK hP (q0 := 1) (ci := 8) rfl rfl) rfl hl.1 rfl (Nat.le_of_ble_eq_true rfl) dX11_feed_4 (fun H locs hP hD hS => ?_)
  refine lv_if_ne (tgt := 12) hx hb dX11_feed_7 (by decide) (fun c7 => ?_) (fun c7 => ?_)
  · have hf := it_f c7 hf
    refine lv_aload_n hx hb dX11_feed_12 rfl (lv_at hl 0 rfl) ?_
    refine G11_19 hx hb htg hown hK hP 0 rfl dX11_feed_13 ?_
    refine lv_iload_n hx hb dX11_feed_16 rfl (lv_at hl 1 rfl) ?_
    obtain ⟨z17, hz17, hf⟩ := bind_s hf
    refine xV_vu hx hb hml hown htg L11_161 (c_X8_add l E a1 a2 hz17 _) ⟨⟨rfl, rfl⟩, Nat.le_of_ble_eq_true rfl, Nat.le_of_ble_eq_true rfl⟩ hK hG hA hP hD hS (is := [1, 2]) (sel := [none, some 0, some 1]) (ws2 := [(a0, o11 T0 J0_15 J0_16 u0_0 a1 u0_2 u0_3 u0_4 u0_5 u0_6 u0_7 u0_8 u0_9 u0_11 u0_12 u0_13), (a1, o8 z17.1 J1_8 a2 u1_1), (a2, ab E 900 z17.2)]) rfl rfl rfl rfl rfl (xrecv hK hP (q0 := 1) (ci := 8) rfl rfl) rfl hl.1 rfl (Nat.le_of_ble_eq_true rfl) dX11_feed_17 (fun H locs hP hD hS => ?_)
    refine lv_aload_n hx hb dX11_feed_20 rfl (lv_at hl 0 rfl) ?_
    refine G11_19 hx hb htg hown hK hP 0 rfl dX11_feed_21 ?_
    refine lv_iload_n hx hb dX11_feed_24 rfl (lv_at hl 2 rfl) ?_
    obtain ⟨z25, hz25, hf⟩ := bind_s hf
    refine xV_vu hx hb hml hown htg L11_161 (c_X8_add l E a1 a2 hz25 _) ⟨⟨rfl, rfl⟩, Nat.le_of_ble_eq_true rfl, Nat.le_of_ble_eq_true rfl⟩ hK hG hA hP hD hS (is := [1, 2]) (sel := [none, some 0, some 1]) (ws2 := [(a0, o11 T0 J0_15 J0_16 u0_0 a1 u0_2 u0_3 u0_4 u0_5 u0_6 u0_7 u0_8 u0_9 u0_11 u0_12 u0_13), (a1, o8 z25.1 J1_8 a2 u1_1), (a2, ab E 900 z25.2)]) rfl rfl rfl rfl rfl (xrecv hK hP (q0 := 1) (ci := 8) rfl rfl) rfl hl.1 rfl (Nat.le_of_ble_eq_true rfl) dX11_feed_25 (fun H locs hP hD hS => ?_)
    refine lv_aload_n hx hb dX11_feed_28 rfl (lv_at hl 0 rfl) ?_
    refine G11_19 hx hb htg hown hK hP 0 rfl dX11_feed_29 ?_
    refine lv_iload_n hx hb dX11_feed_32 rfl (lv_at hl 3 rfl) ?_
    obtain ⟨z33, hz33, hf⟩ := bind_s hf
    refine xV_vu hx hb hml hown htg L11_161 (c_X8_add l E a1 a2 hz33 _) ⟨⟨rfl, rfl⟩, Nat.le_of_ble_eq_true rfl, Nat.le_of_ble_eq_true rfl⟩ hK hG hA hP hD hS (is := [1, 2]) (sel := [none, some 0, some 1]) (ws2 := [(a0, o11 T0 J0_15 J0_16 u0_0 a1 u0_2 u0_3 u0_4 u0_5 u0_6 u0_7 u0_8 u0_9 u0_11 u0_12 u0_13), (a1, o8 z33.1 J1_8 a2 u1_1), (a2, ab E 900 z33.2)]) rfl rfl rfl rfl rfl (xrecv hK hP (q0 := 1) (ci := 8) rfl rfl) rfl hl.1 rfl (Nat.le_of_ble_eq_true rfl) dX11_feed_33 (fun H locs hP hD hS => ?_)
    refine lv_aload_n hx hb dX11_feed_36 rfl (lv_at hl 0 rfl) ?_
    refine G11_19 hx hb htg hown hK hP 0 rfl dX11_feed_37 ?_
    refine lv_iload hx hb dX11_feed_40 (lv_at hl 4 rfl) ?_
    obtain ⟨z42, hz42, hf⟩ := bind_s hf
    refine xV_vu hx hb hml hown htg L11_161 (c_X8_add l E a1 a2 hz42 _) ⟨⟨rfl, rfl⟩, Nat.le_of_ble_eq_true rfl, Nat.le_of_ble_eq_true rfl⟩ hK hG hA hP hD hS (is := [1, 2]) (sel := [none, some 0, some 1]) (ws2 := [(a0, o11 T0 J0_15 J0_16 u0_0 a1 u0_2 u0_3 u0_4 u0_5 u0_6 u0_7 u0_8 u0_9 u0_11 u0_12 u0_13), (a1, o8 z42.1 J1_8 a2 u1_1), (a2, ab E 900 z42.2)]) rfl rfl rfl rfl rfl (xrecv hK hP (q0 := 1) (ci := 8) rfl rfl) rfl hl.1 rfl (Nat.le_of_ble_eq_true rfl) dX11_feed_42 (fun H locs hP hD hS => ?_)
    refine lv_aload_n hx hb dX11_feed_45 rfl (lv_at hl 0 rfl) ?_
    refine G11_19 hx hb htg hown hK hP 0 rfl dX11_feed_46 ?_
    refine lv_iload hx hb dX11_feed_49 (lv_at hl 5 rfl) ?_
    obtain ⟨z51, hz51, hf⟩ := bind_s hf
    refine xV_vu hx hb hml hown htg L11_161 (c_X8_add l E a1 a2 hz51 _) ⟨⟨rfl, rfl⟩, Nat.le_of_ble_eq_true rfl, Nat.le_of_ble_eq_true rfl⟩ hK hG hA hP hD hS (is := [1, 2]) (sel := [none, some 0, some 1]) (ws2 := [(a0, o11 T0 J0_15 J0_16 u0_0 a1 u0_2 u0_3 u0_4 u0_5 u0_6 u0_7 u0_8 u0_9 u0_11 u0_12 u0_13), (a1, o8 z51.1 J1_8 a2 u1_1), (a2, ab E 900 z51.2)]) rfl rfl rfl rfl rfl (xrecv hK hP (q0 := 1) (ci := 8) rfl rfl) rfl hl.1 rfl (Nat.le_of_ble_eq_true rfl) dX11_feed_51 (fun H locs hP hD hS => ?_)
    refine lv_aload_n hx hb dX11_feed_54 rfl (lv_at hl 0 rfl) ?_
    refine G11_19 hx hb htg hown hK hP 0 rfl dX11_feed_55 ?_
    obtain ⟨z58, hz58, hf⟩ := bind_s hf
    refine xV_ir hx hb hml hown htg L11_165 (c_X8_length l E a1 hz58 _) ⟨⟨rfl, rfl⟩, Nat.le_of_ble_eq_true rfl, Nat.le_of_ble_eq_true rfl⟩ hK hG hA hP hD hS (is := [1]) rfl rfl (xrecv hK hP (q0 := 1) (ci := 8) rfl rfl) rfl hl.1 rfl (Nat.le_of_ble_eq_true rfl) dX11_feed_58 (fun H locs hP hD hS => ?_)
    exact ret (z58, z51.1, z51.2) hf nzi hP hS dX11_feed_61
  · have hf := it_t c7 hf
    refine lv_iconst (v := (-1)) hx hb dX11_feed_10 rfl ?_
    exact ret ((-1), T1, V2) hf nzi hP hS dX11_feed_11
theorem dX11_fault_0 : decode cX11_fault 0 = .ok (.iload_n 1, 1) := by decide +kernel
theorem dX11_fault_1 : decode cX11_fault 1 = .ok (.ifCond .ne 8, 3) := by decide +kernel
theorem dX11_fault_4 : decode cX11_fault 4 = .ok (.aload_n 0, 1) := by decide +kernel
theorem dX11_fault_5 : decode cX11_fault 5 = .ok (.getfield 97, 3) := by decide +kernel
theorem dX11_fault_8 : decode cX11_fault 8 = .ok (.ireturn, 1) := by decide +kernel
theorem dX11_fault_9 : decode cX11_fault 9 = .ok (.iload_n 1, 1) := by decide +kernel
theorem dX11_fault_10 : decode cX11_fault 10 = .ok (.iconst 1, 1) := by decide +kernel
theorem dX11_fault_11 : decode cX11_fault 11 = .ok (.if_icmp .ne 10, 3) := by decide +kernel
theorem dX11_fault_14 : decode cX11_fault 14 = .ok (.aload_n 0, 1) := by decide +kernel
theorem dX11_fault_15 : decode cX11_fault 15 = .ok (.getfield 101, 3) := by decide +kernel
theorem dX11_fault_18 : decode cX11_fault 18 = .ok (.goto 4, 3) := by decide +kernel
theorem dX11_fault_21 : decode cX11_fault 21 = .ok (.iconst (-1), 1) := by decide +kernel
theorem dX11_fault_22 : decode cX11_fault 22 = .ok (.ireturn, 1) := by decide +kernel
set_option maxRecDepth 100000 in
theorem c_X11_fault (l : Launch) (E : xE) (a0 : Nat) {T0 : Nat → Int32} {J0_15 : Int64} {J0_16 : Int64} {u0_0 u0_1 u0_2 u0_3 u0_4 u0_5 u0_6 u0_7 u0_8 u0_9 u0_11 u0_12 u0_13 : Nat} {x1 : Int32} {z : Int32} (hf : f_X11_fault T0 x1 = some z) (sz : Nat) : Met l yX11_fault (Cond.code yX11_fault cX11_fault 2 (some .int) :: gw) ({ frames := 0, cells := 0, slots := 0, locals := 0 }) (xPc E [.ref a0, .int x1] [(a0, o11 T0 J0_15 J0_16 u0_0 u0_1 u0_2 u0_3 u0_4 u0_5 u0_6 u0_7 u0_8 u0_9 u0_11 u0_12 u0_13)] sz) (xQi E z [(a0, o11 T0 J0_15 J0_16 u0_0 u0_1 u0_2 u0_3 u0_4 u0_5 u0_6 u0_7 u0_8 u0_9 u0_11 u0_12 u0_13)] [(a0, o11 T0 J0_15 J0_16 u0_0 u0_1 u0_2 u0_3 u0_4 u0_5 u0_6 u0_7 u0_8 u0_9 u0_11 u0_12 u0_13)] sz) 0 0 (va_A [(a0, o11 T0 J0_15 J0_16 u0_0 u0_1 u0_2 u0_3 u0_4 u0_5 u0_6 u0_7 u0_8 u0_9 u0_11 u0_12 u0_13)] sz) := by
  refine xM_i (by decide +kernel) (Nat.le_of_ble_eq_true rfl) ?_
  intro p e s m args below meth c A Q hx hb hml hown htg hK hG hA ret0 H locs ls hP hD hS hl
  have ret : ∀ (z' : Int32) {H : Heap} {locs : List Loc} {pc : Nat} {ls : Array Slot}, some z' = some z → narrow .int (.int z') = .int z' → va_P E.1 vwCl [(a0, o11 T0 J0_15 J0_16 u0_0 u0_1 u0_2 u0_3 u0_4 u0_5 u0_6 u0_7 u0_8 u0_9 u0_11 u0_12 u0_13)] H → va_S A s.heap H locs → decode cX11_fault pc = .ok (.ireturn, 1) → W p l e ({ frames := 0, cells := 0, slots := 0, locals := 0 } : Room) s m args below meth c H locs 0 0 Q (F0 m pc ls [.int z']) := by
    intro z' H locs pc ls h
    cases h
    exact ret0
  replace hl : lv_has ls 2 [(0, .ref a0), (1, .int x1)] := hl
  unfold f_X11_fault at hf
  refine lv_iload_n hx hb dX11_fault_0 rfl (lv_at hl 1 rfl) ?_
  refine lv_if_ne (tgt := 9) hx hb dX11_fault_1 (by decide) (fun c1 => ?_) (fun c1 => ?_)
  · have hf := it_f c1 hf
    refine lv_iload_n hx hb dX11_fault_9 rfl (lv_at hl 1 rfl) ?_
    refine lv_iconst (v := 1) hx hb dX11_fault_10 rfl ?_
    refine lv_icmp_ne (tgt := 21) hx hb dX11_fault_11 (by decide) (fun c11 => ?_) (fun c11 => ?_)
    · have hf := it_f c11 hf
      refine lv_iconst (v := (-1)) hx hb dX11_fault_21 rfl ?_
      exact ret (-1) hf nzi hP hS dX11_fault_22
    · have hf := it_t c11 hf
      refine lv_aload_n hx hb dX11_fault_14 rfl (lv_at hl 0 rfl) ?_
      refine G11_101 hx hb htg hown hK hP 0 rfl dX11_fault_15 ?_
      refine lv_goto (tgt := 22) hx hb dX11_fault_18 (by decide) ?_
      exact ret (T0 18) hf nzi hP hS dX11_fault_22
  · have hf := it_t c1 hf
    refine lv_aload_n hx hb dX11_fault_4 rfl (lv_at hl 0 rfl) ?_
    refine G11_97 hx hb htg hown hK hP 0 rfl dX11_fault_5 ?_
    exact ret (T0 17) hf nzi hP hS dX11_fault_8
theorem dX11_answer_0 : decode cX11_answer 0 = .ok (.aload_n 0, 1) := by decide +kernel
theorem dX11_answer_1 : decode cX11_answer 1 = .ok (.iconst 0, 1) := by decide +kernel
theorem dX11_answer_2 : decode cX11_answer 2 = .ok (.putfield 104, 3) := by decide +kernel
theorem dX11_answer_5 : decode cX11_answer 5 = .ok (.iload_n 1, 1) := by decide +kernel
theorem dX11_answer_6 : decode cX11_answer 6 = .ok (.ireturn, 1) := by decide +kernel
set_option maxRecDepth 100000 in
theorem c_X11_answer (l : Launch) (E : xE) (a0 : Nat) {T0 : Nat → Int32} {J0_15 : Int64} {J0_16 : Int64} {u0_0 u0_1 u0_2 u0_3 u0_4 u0_5 u0_6 u0_7 u0_8 u0_9 u0_11 u0_12 u0_13 : Nat} {x1 : Int32} {z : Int32 × (Nat → Int32)} (hf : f_X11_answer T0 x1 = some z) (sz : Nat) : Met l yX11_answer (Cond.code yX11_answer cX11_answer 2 (some .int) :: gw) ({ frames := 0, cells := 0, slots := 0, locals := 0 }) (xPc E [.ref a0, .int x1] [(a0, o11 T0 J0_15 J0_16 u0_0 u0_1 u0_2 u0_3 u0_4 u0_5 u0_6 u0_7 u0_8 u0_9 u0_11 u0_12 u0_13)] sz) (xQi E z.1 [(a0, o11 T0 J0_15 J0_16 u0_0 u0_1 u0_2 u0_3 u0_4 u0_5 u0_6 u0_7 u0_8 u0_9 u0_11 u0_12 u0_13)] [(a0, o11 z.2 J0_15 J0_16 u0_0 u0_1 u0_2 u0_3 u0_4 u0_5 u0_6 u0_7 u0_8 u0_9 u0_11 u0_12 u0_13)] sz) 0 0 (va_A [(a0, o11 T0 J0_15 J0_16 u0_0 u0_1 u0_2 u0_3 u0_4 u0_5 u0_6 u0_7 u0_8 u0_9 u0_11 u0_12 u0_13)] sz) := by
  refine xM_i (by decide +kernel) (Nat.le_of_ble_eq_true rfl) ?_
  intro p e s m args below meth c A Q hx hb hml hown htg hK hG hA ret0 H locs ls hP hD hS hl
  have ret : ∀ (z' : Int32 × (Nat → Int32)) {H : Heap} {locs : List Loc} {pc : Nat} {ls : Array Slot}, some z' = some z → narrow .int (.int z'.1) = .int z'.1 → va_P E.1 vwCl [(a0, o11 z'.2 J0_15 J0_16 u0_0 u0_1 u0_2 u0_3 u0_4 u0_5 u0_6 u0_7 u0_8 u0_9 u0_11 u0_12 u0_13)] H → va_S A s.heap H locs → decode cX11_answer pc = .ok (.ireturn, 1) → W p l e ({ frames := 0, cells := 0, slots := 0, locals := 0 } : Room) s m args below meth c H locs 0 0 Q (F0 m pc ls [.int z'.1]) := by
    intro z' H locs pc ls h
    cases h
    exact ret0
  replace hl : lv_has ls 2 [(0, .ref a0), (1, .int x1)] := hl
  unfold f_X11_answer at hf
  refine lv_aload_n hx hb dX11_answer_0 rfl (lv_at hl 0 rfl) ?_
  refine lv_iconst (v := 0) hx hb dX11_answer_1 rfl ?_
  refine P11_104 hx hb htg hown hK hP hD hS 0 rfl dX11_answer_2 (fun H locs hP hD hS => ?_)
  refine lv_iload_n hx hb dX11_answer_5 rfl (lv_at hl 1 rfl) ?_
  exact ret (x1, upd T0 14 0) hf nzi hP hS dX11_answer_6
theorem dX11_knownNow_0 : decode cX11_knownNow 0 = .ok (.aload_n 0, 1) := by decide +kernel
theorem dX11_knownNow_1 : decode cX11_knownNow 1 = .ok (.getfield 40, 3) := by decide +kernel
theorem dX11_knownNow_4 : decode cX11_knownNow 4 = .ok (.aload_n 0, 1) := by decide +kernel
theorem dX11_knownNow_5 : decode cX11_knownNow 5 = .ok (.getfield 79, 3) := by decide +kernel
theorem dX11_knownNow_8 : decode cX11_knownNow 8 = .ok (.aload_n 0, 1) := by decide +kernel
theorem dX11_knownNow_9 : decode cX11_knownNow 9 = .ok (.getfield 79, 3) := by decide +kernel
theorem dX11_knownNow_12 : decode cX11_knownNow 12 = .ok (.getfield 214, 3) := by decide +kernel
theorem dX11_knownNow_15 : decode cX11_knownNow 15 = .ok (.invokevirtual 220, 3) := by decide +kernel
theorem dX11_knownNow_18 : decode cX11_knownNow 18 = .ok (.aload_n 0, 1) := by decide +kernel
theorem dX11_knownNow_19 : decode cX11_knownNow 19 = .ok (.getfield 40, 3) := by decide +kernel
theorem dX11_knownNow_22 : decode cX11_knownNow 22 = .ok (.aload_n 0, 1) := by decide +kernel
theorem dX11_knownNow_23 : decode cX11_knownNow 23 = .ok (.getfield 79, 3) := by decide +kernel
theorem dX11_knownNow_26 : decode cX11_knownNow 26 = .ok (.invokevirtual 405, 3) := by decide +kernel
theorem dX11_knownNow_29 : decode cX11_knownNow 29 = .ok (.ireturn, 1) := by decide +kernel
set_option maxRecDepth 100000 in
theorem c_X11_knownNow (l : Launch) (E : xE) (a0 a1 a2 a3 a4 a5 a6 : Nat) {T0 : Nat → Int32} {J0_15 : Int64} {J0_16 : Int64} {T2 : Nat → Int32} {V3 : Nat → Int32} {V4 : Nat → Int32} {V5 : Nat → Int32} {V6 : Nat → Int32} {u0_0 u0_1 u0_2 u0_3 u0_5 u0_6 u0_7 u0_8 u0_9 u0_12 u0_13 u2_7 u2_8 u2_9 u2_13 u2_14 : Nat} {z : Int32 × (Nat → Int32)} (hf : f_X11_knownNow T2 V3 V4 V5 V6 = some z) (sz : Nat) : Met l yX11_knownNow (Cond.code yX11_knownNow cX11_knownNow 1 (some .int) :: gw) ({ frames := 2, cells := 0, slots := 0, locals := 49 }) (xPc E [.ref a0] [(a0, o11 T0 J0_15 J0_16 u0_0 u0_1 u0_2 u0_3 a1 u0_5 u0_6 u0_7 u0_8 u0_9 a2 u0_12 u0_13), (a1, o7 a3), (a2, o3 T2 u2_7 u2_8 u2_9 a6 a4 a5 u2_13 u2_14), (a3, ai E 144 V3), (a4, ai E 12 V4), (a5, ai E 12 V5), (a6, ai E 12 V6)] sz) (xQi E z.1 [(a0, o11 T0 J0_15 J0_16 u0_0 u0_1 u0_2 u0_3 a1 u0_5 u0_6 u0_7 u0_8 u0_9 a2 u0_12 u0_13), (a1, o7 a3), (a2, o3 T2 u2_7 u2_8 u2_9 a6 a4 a5 u2_13 u2_14), (a3, ai E 144 V3), (a4, ai E 12 V4), (a5, ai E 12 V5), (a6, ai E 12 V6)] [(a0, o11 T0 J0_15 J0_16 u0_0 u0_1 u0_2 u0_3 a1 u0_5 u0_6 u0_7 u0_8 u0_9 a2 u0_12 u0_13), (a1, o7 a3), (a2, o3 T2 u2_7 u2_8 u2_9 a6 a4 a5 u2_13 u2_14), (a3, ai E 144 z.2), (a4, ai E 12 V4), (a5, ai E 12 V5), (a6, ai E 12 V6)] sz) 0 0 (va_A [(a0, o11 T0 J0_15 J0_16 u0_0 u0_1 u0_2 u0_3 a1 u0_5 u0_6 u0_7 u0_8 u0_9 a2 u0_12 u0_13), (a1, o7 a3), (a2, o3 T2 u2_7 u2_8 u2_9 a6 a4 a5 u2_13 u2_14), (a3, ai E 144 V3), (a4, ai E 12 V4), (a5, ai E 12 V5), (a6, ai E 12 V6)] sz) := by
  refine xM_i (by decide +kernel) (Nat.le_of_ble_eq_true rfl) ?_
  intro p e s m args below meth c A Q hx hb hml hown htg hK hG hA ret0 H locs ls hP hD hS hl
  have ret : ∀ (z' : Int32 × (Nat → Int32)) {H : Heap} {locs : List Loc} {pc : Nat} {ls : Array Slot}, some z' = some z → narrow .int (.int z'.1) = .int z'.1 → va_P E.1 vwCl [(a0, o11 T0 J0_15 J0_16 u0_0 u0_1 u0_2 u0_3 a1 u0_5 u0_6 u0_7 u0_8 u0_9 a2 u0_12 u0_13), (a1, o7 a3), (a2, o3 T2 u2_7 u2_8 u2_9 a6 a4 a5 u2_13 u2_14), (a3, ai E 144 z'.2), (a4, ai E 12 V4), (a5, ai E 12 V5), (a6, ai E 12 V6)] H → va_S A s.heap H locs → decode cX11_knownNow pc = .ok (.ireturn, 1) → W p l e ({ frames := 2, cells := 0, slots := 0, locals := 49 } : Room) s m args below meth c H locs 0 0 Q (F0 m pc ls [.int z'.1]) := by
    intro z' H locs pc ls h
    cases h
    exact ret0
  replace hl : lv_has ls 1 [(0, .ref a0)] := hl
  unfold f_X11_knownNow at hf
  refine lv_aload_n hx hb dX11_knownNow_0 rfl (lv_at hl 0 rfl) ?_
  refine G11_40 hx hb htg hown hK hP 0 rfl dX11_knownNow_1 ?_
  refine lv_aload_n hx hb dX11_knownNow_4 rfl (lv_at hl 0 rfl) ?_
  refine G11_79 hx hb htg hown hK hP 0 rfl dX11_knownNow_5 ?_
  refine lv_aload_n hx hb dX11_knownNow_8 rfl (lv_at hl 0 rfl) ?_
  refine G11_79 hx hb htg hown hK hP 0 rfl dX11_knownNow_9 ?_
  refine G11_214 hx hb htg hown hK hP 2 rfl dX11_knownNow_12 ?_
  obtain ⟨z15, hz15, hf⟩ := bind_s hf
  refine xV_vu hx hb hml hown htg L11_220 (c_X7_take l E a1 a2 a3 a4 a5 a6 hz15 _) ⟨⟨rfl, rfl⟩, Nat.le_of_ble_eq_true rfl, Nat.le_of_ble_eq_true rfl⟩ hK hG hA hP hD hS (is := [1, 2, 3, 4, 5, 6]) (sel := [none, some 0, some 1, some 2, some 3, some 4, some 5]) (ws2 := [(a0, o11 T0 J0_15 J0_16 u0_0 u0_1 u0_2 u0_3 a1 u0_5 u0_6 u0_7 u0_8 u0_9 a2 u0_12 u0_13), (a1, o7 a3), (a2, o3 T2 u2_7 u2_8 u2_9 a6 a4 a5 u2_13 u2_14), (a3, ai E 144 z15), (a4, ai E 12 V4), (a5, ai E 12 V5), (a6, ai E 12 V6)]) rfl rfl rfl rfl rfl (xrecv hK hP (q0 := 1) (ci := 7) rfl rfl) rfl hl.1 rfl (Nat.le_of_ble_eq_true rfl) dX11_knownNow_15 (fun H locs hP hD hS => ?_)
  refine lv_aload_n hx hb dX11_knownNow_18 rfl (lv_at hl 0 rfl) ?_
  refine G11_40 hx hb htg hown hK hP 0 rfl dX11_knownNow_19 ?_
  refine lv_aload_n hx hb dX11_knownNow_22 rfl (lv_at hl 0 rfl) ?_
  refine G11_79 hx hb htg hown hK hP 0 rfl dX11_knownNow_23 ?_
  obtain ⟨z26, hz26, hf⟩ := bind_s hf
  refine xV_ir hx hb hml hown htg L11_405 (c_X7_knownCells l E a1 a2 a3 hz26 _) ⟨⟨rfl, rfl⟩, Nat.le_of_ble_eq_true rfl, Nat.le_of_ble_eq_true rfl⟩ hK hG hA hP hD hS (is := [1, 2, 3]) rfl rfl (xrecv hK hP (q0 := 1) (ci := 7) rfl rfl) rfl hl.1 rfl (Nat.le_of_ble_eq_true rfl) dX11_knownNow_26 (fun H locs hP hD hS => ?_)
  exact ret (z26, z15) hf nzi hP hS dX11_knownNow_29
theorem dX11_many_0 : decode cX11_many 0 = .ok (.iload_n 1, 1) := by decide +kernel
theorem dX11_many_1 : decode cX11_many 1 = .ok (.tableswitch 205 0 8 #[51, 63, 75, 87, 99, 111, 142, 154, 171], 51) := by decide +kernel
theorem dX11_many_52 : decode cX11_many 52 = .ok (.aload_n 0, 1) := by decide +kernel
theorem dX11_many_53 : decode cX11_many 53 = .ok (.aload_n 0, 1) := by decide +kernel
theorem dX11_many_54 : decode cX11_many 54 = .ok (.getfield 79, 3) := by decide +kernel
theorem dX11_many_57 : decode cX11_many 57 = .ok (.getfield 196, 3) := by decide +kernel
theorem dX11_many_60 : decode cX11_many 60 = .ok (.invokevirtual 179, 3) := by decide +kernel
theorem dX11_many_63 : decode cX11_many 63 = .ok (.ireturn, 1) := by decide +kernel
theorem dX11_many_64 : decode cX11_many 64 = .ok (.aload_n 0, 1) := by decide +kernel
theorem dX11_many_65 : decode cX11_many 65 = .ok (.aload_n 0, 1) := by decide +kernel
theorem dX11_many_66 : decode cX11_many 66 = .ok (.getfield 79, 3) := by decide +kernel
theorem dX11_many_69 : decode cX11_many 69 = .ok (.getfield 199, 3) := by decide +kernel
theorem dX11_many_72 : decode cX11_many 72 = .ok (.invokevirtual 179, 3) := by decide +kernel
theorem dX11_many_75 : decode cX11_many 75 = .ok (.ireturn, 1) := by decide +kernel
theorem dX11_many_76 : decode cX11_many 76 = .ok (.aload_n 0, 1) := by decide +kernel
theorem dX11_many_77 : decode cX11_many 77 = .ok (.aload_n 0, 1) := by decide +kernel
theorem dX11_many_78 : decode cX11_many 78 = .ok (.getfield 79, 3) := by decide +kernel
theorem dX11_many_81 : decode cX11_many 81 = .ok (.getfield 202, 3) := by decide +kernel
theorem dX11_many_84 : decode cX11_many 84 = .ok (.invokevirtual 179, 3) := by decide +kernel
theorem dX11_many_87 : decode cX11_many 87 = .ok (.ireturn, 1) := by decide +kernel
theorem dX11_many_88 : decode cX11_many 88 = .ok (.aload_n 0, 1) := by decide +kernel
theorem dX11_many_89 : decode cX11_many 89 = .ok (.aload_n 0, 1) := by decide +kernel
theorem dX11_many_90 : decode cX11_many 90 = .ok (.getfield 79, 3) := by decide +kernel
theorem dX11_many_93 : decode cX11_many 93 = .ok (.getfield 205, 3) := by decide +kernel
theorem dX11_many_96 : decode cX11_many 96 = .ok (.invokevirtual 179, 3) := by decide +kernel
theorem dX11_many_99 : decode cX11_many 99 = .ok (.ireturn, 1) := by decide +kernel
theorem dX11_many_100 : decode cX11_many 100 = .ok (.aload_n 0, 1) := by decide +kernel
theorem dX11_many_101 : decode cX11_many 101 = .ok (.aload_n 0, 1) := by decide +kernel
theorem dX11_many_102 : decode cX11_many 102 = .ok (.getfield 79, 3) := by decide +kernel
theorem dX11_many_105 : decode cX11_many 105 = .ok (.getfield 208, 3) := by decide +kernel
theorem dX11_many_108 : decode cX11_many 108 = .ok (.invokevirtual 179, 3) := by decide +kernel
theorem dX11_many_111 : decode cX11_many 111 = .ok (.ireturn, 1) := by decide +kernel
theorem dX11_many_112 : decode cX11_many 112 = .ok (.aload_n 0, 1) := by decide +kernel
theorem dX11_many_113 : decode cX11_many 113 = .ok (.getfield 79, 3) := by decide +kernel
theorem dX11_many_116 : decode cX11_many 116 = .ok (.invokevirtual 176, 3) := by decide +kernel
theorem dX11_many_119 : decode cX11_many 119 = .ok (.ifCond .ne 12, 3) := by decide +kernel
theorem dX11_many_122 : decode cX11_many 122 = .ok (.aload_n 0, 1) := by decide +kernel
theorem dX11_many_123 : decode cX11_many 123 = .ok (.bipush 8, 2) := by decide +kernel
theorem dX11_many_125 : decode cX11_many 125 = .ok (.invokevirtual 137, 3) := by decide +kernel
theorem dX11_many_128 : decode cX11_many 128 = .ok (.goto 14, 3) := by decide +kernel
theorem dX11_many_131 : decode cX11_many 131 = .ok (.aload_n 0, 1) := by decide +kernel
theorem dX11_many_132 : decode cX11_many 132 = .ok (.aload_n 0, 1) := by decide +kernel
theorem dX11_many_133 : decode cX11_many 133 = .ok (.getfield 79, 3) := by decide +kernel
theorem dX11_many_136 : decode cX11_many 136 = .ok (.getfield 211, 3) := by decide +kernel
theorem dX11_many_139 : decode cX11_many 139 = .ok (.invokevirtual 179, 3) := by decide +kernel
theorem dX11_many_142 : decode cX11_many 142 = .ok (.ireturn, 1) := by decide +kernel
theorem dX11_many_143 : decode cX11_many 143 = .ok (.aload_n 0, 1) := by decide +kernel
theorem dX11_many_144 : decode cX11_many 144 = .ok (.aload_n 0, 1) := by decide +kernel
theorem dX11_many_145 : decode cX11_many 145 = .ok (.getfield 79, 3) := by decide +kernel
theorem dX11_many_148 : decode cX11_many 148 = .ok (.getfield 214, 3) := by decide +kernel
theorem dX11_many_151 : decode cX11_many 151 = .ok (.invokevirtual 179, 3) := by decide +kernel
theorem dX11_many_154 : decode cX11_many 154 = .ok (.ireturn, 1) := by decide +kernel
theorem dX11_many_155 : decode cX11_many 155 = .ok (.aload_n 0, 1) := by decide +kernel
theorem dX11_many_156 : decode cX11_many 156 = .ok (.aload_n 0, 1) := by decide +kernel
theorem dX11_many_157 : decode cX11_many 157 = .ok (.getfield 79, 3) := by decide +kernel
theorem dX11_many_160 : decode cX11_many 160 = .ok (.invokevirtual 176, 3) := by decide +kernel
theorem dX11_many_163 : decode cX11_many 163 = .ok (.aload_n 0, 1) := by decide +kernel
theorem dX11_many_164 : decode cX11_many 164 = .ok (.invokevirtual 217, 3) := by decide +kernel
theorem dX11_many_167 : decode cX11_many 167 = .ok (.isub, 1) := by decide +kernel
theorem dX11_many_168 : decode cX11_many 168 = .ok (.invokevirtual 179, 3) := by decide +kernel
theorem dX11_many_171 : decode cX11_many 171 = .ok (.ireturn, 1) := by decide +kernel
theorem dX11_many_172 : decode cX11_many 172 = .ok (.aload_n 0, 1) := by decide +kernel
theorem dX11_many_173 : decode cX11_many 173 = .ok (.getfield 40, 3) := by decide +kernel
theorem dX11_many_176 : decode cX11_many 176 = .ok (.aload_n 0, 1) := by decide +kernel
theorem dX11_many_177 : decode cX11_many 177 = .ok (.getfield 79, 3) := by decide +kernel
theorem dX11_many_180 : decode cX11_many 180 = .ok (.aload_n 0, 1) := by decide +kernel
theorem dX11_many_181 : decode cX11_many 181 = .ok (.getfield 79, 3) := by decide +kernel
theorem dX11_many_184 : decode cX11_many 184 = .ok (.getfield 214, 3) := by decide +kernel
theorem dX11_many_187 : decode cX11_many 187 = .ok (.invokevirtual 220, 3) := by decide +kernel
theorem dX11_many_190 : decode cX11_many 190 = .ok (.aload_n 0, 1) := by decide +kernel
theorem dX11_many_191 : decode cX11_many 191 = .ok (.aload_n 0, 1) := by decide +kernel
theorem dX11_many_192 : decode cX11_many 192 = .ok (.getfield 40, 3) := by decide +kernel
theorem dX11_many_195 : decode cX11_many 195 = .ok (.aload_n 0, 1) := by decide +kernel
theorem dX11_many_196 : decode cX11_many 196 = .ok (.getfield 79, 3) := by decide +kernel
theorem dX11_many_199 : decode cX11_many 199 = .ok (.invokevirtual 223, 3) := by decide +kernel
theorem dX11_many_202 : decode cX11_many 202 = .ok (.invokevirtual 179, 3) := by decide +kernel
theorem dX11_many_205 : decode cX11_many 205 = .ok (.ireturn, 1) := by decide +kernel
theorem dX11_many_206 : decode cX11_many 206 = .ok (.aload_n 0, 1) := by decide +kernel
theorem dX11_many_207 : decode cX11_many 207 = .ok (.iconst 5, 1) := by decide +kernel
theorem dX11_many_208 : decode cX11_many 208 = .ok (.invokevirtual 137, 3) := by decide +kernel
theorem dX11_many_211 : decode cX11_many 211 = .ok (.ireturn, 1) := by decide +kernel
set_option maxRecDepth 100000 in
theorem c_X11_many (l : Launch) (E : xE) (a0 a1 a2 a3 a4 a5 a6 a7 : Nat) {T0 : Nat → Int32} {J0_15 : Int64} {J0_16 : Int64} {T1 : Nat → Int32} {V3 : Nat → Int32} {V4 : Nat → Int32} {V5 : Nat → Int32} {V6 : Nat → Int32} {V7 : Nat → Int32} {u0_0 u0_1 u0_2 u0_3 u0_5 u0_6 u0_7 u0_8 u0_9 u0_12 u0_13 u1_8 u1_9 u1_13 u1_14 : Nat} {x1 : Int32} {z : Int32 × (Nat → Int32) × (Nat → Int32)} (hf : f_X11_many T0 T1 V3 V4 V5 V6 V7 x1 = some z) (sz : Nat) : Met l yX11_many (Cond.code yX11_many cX11_many 2 (some .int) :: gw) ({ frames := 3, cells := 0, slots := 0, locals := 69 }) (xPc E [.ref a0, .int x1] [(a0, o11 T0 J0_15 J0_16 u0_0 u0_1 u0_2 u0_3 a2 u0_5 u0_6 u0_7 u0_8 u0_9 a1 u0_12 u0_13), (a1, o3 T1 a7 u1_8 u1_9 a6 a4 a5 u1_13 u1_14), (a2, o7 a3), (a3, ai E 144 V3), (a4, ai E 12 V4), (a5, ai E 12 V5), (a6, ai E 12 V6), (a7, ai E 36 V7)] sz) (xQi E z.1 [(a0, o11 T0 J0_15 J0_16 u0_0 u0_1 u0_2 u0_3 a2 u0_5 u0_6 u0_7 u0_8 u0_9 a1 u0_12 u0_13), (a1, o3 T1 a7 u1_8 u1_9 a6 a4 a5 u1_13 u1_14), (a2, o7 a3), (a3, ai E 144 V3), (a4, ai E 12 V4), (a5, ai E 12 V5), (a6, ai E 12 V6), (a7, ai E 36 V7)] [(a0, o11 z.2.1 J0_15 J0_16 u0_0 u0_1 u0_2 u0_3 a2 u0_5 u0_6 u0_7 u0_8 u0_9 a1 u0_12 u0_13), (a1, o3 T1 a7 u1_8 u1_9 a6 a4 a5 u1_13 u1_14), (a2, o7 a3), (a3, ai E 144 z.2.2), (a4, ai E 12 V4), (a5, ai E 12 V5), (a6, ai E 12 V6), (a7, ai E 36 V7)] sz) 0 0 (va_A [(a0, o11 T0 J0_15 J0_16 u0_0 u0_1 u0_2 u0_3 a2 u0_5 u0_6 u0_7 u0_8 u0_9 a1 u0_12 u0_13), (a1, o3 T1 a7 u1_8 u1_9 a6 a4 a5 u1_13 u1_14), (a2, o7 a3), (a3, ai E 144 V3), (a4, ai E 12 V4), (a5, ai E 12 V5), (a6, ai E 12 V6), (a7, ai E 36 V7)] sz) := by
  refine xM_i (by decide +kernel) (Nat.le_of_ble_eq_true rfl) ?_
  intro p e s m args below meth c A Q hx hb hml hown htg hK hG hA ret0 H locs ls hP hD hS hl
  have ret : ∀ (z' : Int32 × (Nat → Int32) × (Nat → Int32)) {H : Heap} {locs : List Loc} {pc : Nat} {ls : Array Slot}, some z' = some z → narrow .int (.int z'.1) = .int z'.1 → va_P E.1 vwCl [(a0, o11 z'.2.1 J0_15 J0_16 u0_0 u0_1 u0_2 u0_3 a2 u0_5 u0_6 u0_7 u0_8 u0_9 a1 u0_12 u0_13), (a1, o3 T1 a7 u1_8 u1_9 a6 a4 a5 u1_13 u1_14), (a2, o7 a3), (a3, ai E 144 z'.2.2), (a4, ai E 12 V4), (a5, ai E 12 V5), (a6, ai E 12 V6), (a7, ai E 36 V7)] H → va_S A s.heap H locs → decode cX11_many pc = .ok (.ireturn, 1) → W p l e ({ frames := 3, cells := 0, slots := 0, locals := 69 } : Room) s m args below meth c H locs 0 0 Q (F0 m pc ls [.int z'.1]) := by
    intro z' H locs pc ls h
    cases h
    exact ret0
  replace hl : lv_has ls 2 [(0, .ref a0), (1, .int x1)] := hl
  unfold f_X11_many at hf
  refine lv_iload_n hx hb dX11_many_0 rfl (lv_at hl 1 rfl) ?_
  by_cases c1_0 : x1 = 0
  · have hf := it_t c1_0 hf
    refine xtabI (off := 51) (tgt := 52) hx hb c1_0 dX11_many_1 rfl (by decide) ?_
    refine lv_aload_n hx hb dX11_many_52 rfl (lv_at hl 0 rfl) ?_
    refine lv_aload_n hx hb dX11_many_53 rfl (lv_at hl 0 rfl) ?_
    refine G11_79 hx hb htg hown hK hP 0 rfl dX11_many_54 ?_
    refine G11_196 hx hb htg hown hK hP 1 rfl dX11_many_57 ?_
    obtain ⟨z60, hz60, hf⟩ := bind_s hf
    refine xV_iu hx hb hml hown htg L11_179 (c_X11_answer l E a0 hz60 _) ⟨⟨rfl, rfl⟩, Nat.le_of_ble_eq_true rfl, Nat.le_of_ble_eq_true rfl⟩ hK hG hA hP hD hS (is := [0]) (sel := [some 0, none, none, none, none, none, none, none]) (ws2 := [(a0, o11 z60.2 J0_15 J0_16 u0_0 u0_1 u0_2 u0_3 a2 u0_5 u0_6 u0_7 u0_8 u0_9 a1 u0_12 u0_13), (a1, o3 T1 a7 u1_8 u1_9 a6 a4 a5 u1_13 u1_14), (a2, o7 a3), (a3, ai E 144 V3), (a4, ai E 12 V4), (a5, ai E 12 V5), (a6, ai E 12 V6), (a7, ai E 36 V7)]) rfl rfl rfl rfl rfl (xrecv hK hP (q0 := 0) (ci := 11) rfl rfl) rfl hl.1 rfl (Nat.le_of_ble_eq_true rfl) dX11_many_60 (fun H locs hP hD hS => ?_)
    exact ret (z60.1, z60.2, V3) hf nzi hP hS dX11_many_63
  have hf := it_f c1_0 hf
  by_cases c1_1 : x1 = 1
  · have hf := it_t c1_1 hf
    refine xtabI (off := 63) (tgt := 64) hx hb c1_1 dX11_many_1 rfl (by decide) ?_
    refine lv_aload_n hx hb dX11_many_64 rfl (lv_at hl 0 rfl) ?_
    refine lv_aload_n hx hb dX11_many_65 rfl (lv_at hl 0 rfl) ?_
    refine G11_79 hx hb htg hown hK hP 0 rfl dX11_many_66 ?_
    refine G11_199 hx hb htg hown hK hP 1 rfl dX11_many_69 ?_
    obtain ⟨z72, hz72, hf⟩ := bind_s hf
    refine xV_iu hx hb hml hown htg L11_179 (c_X11_answer l E a0 hz72 _) ⟨⟨rfl, rfl⟩, Nat.le_of_ble_eq_true rfl, Nat.le_of_ble_eq_true rfl⟩ hK hG hA hP hD hS (is := [0]) (sel := [some 0, none, none, none, none, none, none, none]) (ws2 := [(a0, o11 z72.2 J0_15 J0_16 u0_0 u0_1 u0_2 u0_3 a2 u0_5 u0_6 u0_7 u0_8 u0_9 a1 u0_12 u0_13), (a1, o3 T1 a7 u1_8 u1_9 a6 a4 a5 u1_13 u1_14), (a2, o7 a3), (a3, ai E 144 V3), (a4, ai E 12 V4), (a5, ai E 12 V5), (a6, ai E 12 V6), (a7, ai E 36 V7)]) rfl rfl rfl rfl rfl (xrecv hK hP (q0 := 0) (ci := 11) rfl rfl) rfl hl.1 rfl (Nat.le_of_ble_eq_true rfl) dX11_many_72 (fun H locs hP hD hS => ?_)
    exact ret (z72.1, z72.2, V3) hf nzi hP hS dX11_many_75
  have hf := it_f c1_1 hf
  by_cases c1_2 : x1 = 2
  · have hf := it_t c1_2 hf
    refine xtabI (off := 75) (tgt := 76) hx hb c1_2 dX11_many_1 rfl (by decide) ?_
    refine lv_aload_n hx hb dX11_many_76 rfl (lv_at hl 0 rfl) ?_
    refine lv_aload_n hx hb dX11_many_77 rfl (lv_at hl 0 rfl) ?_
    refine G11_79 hx hb htg hown hK hP 0 rfl dX11_many_78 ?_
    refine G11_202 hx hb htg hown hK hP 1 rfl dX11_many_81 ?_
    obtain ⟨z84, hz84, hf⟩ := bind_s hf
    refine xV_iu hx hb hml hown htg L11_179 (c_X11_answer l E a0 hz84 _) ⟨⟨rfl, rfl⟩, Nat.le_of_ble_eq_true rfl, Nat.le_of_ble_eq_true rfl⟩ hK hG hA hP hD hS (is := [0]) (sel := [some 0, none, none, none, none, none, none, none]) (ws2 := [(a0, o11 z84.2 J0_15 J0_16 u0_0 u0_1 u0_2 u0_3 a2 u0_5 u0_6 u0_7 u0_8 u0_9 a1 u0_12 u0_13), (a1, o3 T1 a7 u1_8 u1_9 a6 a4 a5 u1_13 u1_14), (a2, o7 a3), (a3, ai E 144 V3), (a4, ai E 12 V4), (a5, ai E 12 V5), (a6, ai E 12 V6), (a7, ai E 36 V7)]) rfl rfl rfl rfl rfl (xrecv hK hP (q0 := 0) (ci := 11) rfl rfl) rfl hl.1 rfl (Nat.le_of_ble_eq_true rfl) dX11_many_84 (fun H locs hP hD hS => ?_)
    exact ret (z84.1, z84.2, V3) hf nzi hP hS dX11_many_87
  have hf := it_f c1_2 hf
  by_cases c1_3 : x1 = 3
  · have hf := it_t c1_3 hf
    refine xtabI (off := 87) (tgt := 88) hx hb c1_3 dX11_many_1 rfl (by decide) ?_
    refine lv_aload_n hx hb dX11_many_88 rfl (lv_at hl 0 rfl) ?_
    refine lv_aload_n hx hb dX11_many_89 rfl (lv_at hl 0 rfl) ?_
    refine G11_79 hx hb htg hown hK hP 0 rfl dX11_many_90 ?_
    refine G11_205 hx hb htg hown hK hP 1 rfl dX11_many_93 ?_
    obtain ⟨z96, hz96, hf⟩ := bind_s hf
    refine xV_iu hx hb hml hown htg L11_179 (c_X11_answer l E a0 hz96 _) ⟨⟨rfl, rfl⟩, Nat.le_of_ble_eq_true rfl, Nat.le_of_ble_eq_true rfl⟩ hK hG hA hP hD hS (is := [0]) (sel := [some 0, none, none, none, none, none, none, none]) (ws2 := [(a0, o11 z96.2 J0_15 J0_16 u0_0 u0_1 u0_2 u0_3 a2 u0_5 u0_6 u0_7 u0_8 u0_9 a1 u0_12 u0_13), (a1, o3 T1 a7 u1_8 u1_9 a6 a4 a5 u1_13 u1_14), (a2, o7 a3), (a3, ai E 144 V3), (a4, ai E 12 V4), (a5, ai E 12 V5), (a6, ai E 12 V6), (a7, ai E 36 V7)]) rfl rfl rfl rfl rfl (xrecv hK hP (q0 := 0) (ci := 11) rfl rfl) rfl hl.1 rfl (Nat.le_of_ble_eq_true rfl) dX11_many_96 (fun H locs hP hD hS => ?_)
    exact ret (z96.1, z96.2, V3) hf nzi hP hS dX11_many_99
  have hf := it_f c1_3 hf
  by_cases c1_4 : x1 = 4
  · have hf := it_t c1_4 hf
    refine xtabI (off := 99) (tgt := 100) hx hb c1_4 dX11_many_1 rfl (by decide) ?_
    refine lv_aload_n hx hb dX11_many_100 rfl (lv_at hl 0 rfl) ?_
    refine lv_aload_n hx hb dX11_many_101 rfl (lv_at hl 0 rfl) ?_
    refine G11_79 hx hb htg hown hK hP 0 rfl dX11_many_102 ?_
    refine G11_208 hx hb htg hown hK hP 1 rfl dX11_many_105 ?_
    obtain ⟨z108, hz108, hf⟩ := bind_s hf
    refine xV_iu hx hb hml hown htg L11_179 (c_X11_answer l E a0 hz108 _) ⟨⟨rfl, rfl⟩, Nat.le_of_ble_eq_true rfl, Nat.le_of_ble_eq_true rfl⟩ hK hG hA hP hD hS (is := [0]) (sel := [some 0, none, none, none, none, none, none, none]) (ws2 := [(a0, o11 z108.2 J0_15 J0_16 u0_0 u0_1 u0_2 u0_3 a2 u0_5 u0_6 u0_7 u0_8 u0_9 a1 u0_12 u0_13), (a1, o3 T1 a7 u1_8 u1_9 a6 a4 a5 u1_13 u1_14), (a2, o7 a3), (a3, ai E 144 V3), (a4, ai E 12 V4), (a5, ai E 12 V5), (a6, ai E 12 V6), (a7, ai E 36 V7)]) rfl rfl rfl rfl rfl (xrecv hK hP (q0 := 0) (ci := 11) rfl rfl) rfl hl.1 rfl (Nat.le_of_ble_eq_true rfl) dX11_many_108 (fun H locs hP hD hS => ?_)
    exact ret (z108.1, z108.2, V3) hf nzi hP hS dX11_many_111
  have hf := it_f c1_4 hf
  by_cases c1_5 : x1 = 5
  · have hf := it_t c1_5 hf
    refine xtabI (off := 111) (tgt := 112) hx hb c1_5 dX11_many_1 rfl (by decide) ?_
    refine lv_aload_n hx hb dX11_many_112 rfl (lv_at hl 0 rfl) ?_
    refine G11_79 hx hb htg hown hK hP 0 rfl dX11_many_113 ?_
    obtain ⟨z116, hz116, hf⟩ := bind_s hf
    refine xV_ir hx hb hml hown htg L11_176 (c_X3_cellCount l E a1 hz116 _) ⟨⟨rfl, rfl⟩, Nat.le_of_ble_eq_true rfl, Nat.le_of_ble_eq_true rfl⟩ hK hG hA hP hD hS (is := [1]) rfl rfl (xrecv hK hP (q0 := 1) (ci := 3) rfl rfl) rfl hl.1 rfl (Nat.le_of_ble_eq_true rfl) dX11_many_116 (fun H locs hP hD hS => ?_)
    refine lv_if_ne (tgt := 131) hx hb dX11_many_119 (by decide) (fun c119 => ?_) (fun c119 => ?_)
    · have hf := it_f c119 hf
      refine lv_aload_n hx hb dX11_many_131 rfl (lv_at hl 0 rfl) ?_
      refine lv_aload_n hx hb dX11_many_132 rfl (lv_at hl 0 rfl) ?_
      refine G11_79 hx hb htg hown hK hP 0 rfl dX11_many_133 ?_
      refine G11_211 hx hb htg hown hK hP 1 rfl dX11_many_136 ?_
      obtain ⟨z139, hz139, hf⟩ := bind_s hf
      refine xV_iu hx hb hml hown htg L11_179 (c_X11_answer l E a0 hz139 _) ⟨⟨rfl, rfl⟩, Nat.le_of_ble_eq_true rfl, Nat.le_of_ble_eq_true rfl⟩ hK hG hA hP hD hS (is := [0]) (sel := [some 0, none, none, none, none, none, none, none]) (ws2 := [(a0, o11 z139.2 J0_15 J0_16 u0_0 u0_1 u0_2 u0_3 a2 u0_5 u0_6 u0_7 u0_8 u0_9 a1 u0_12 u0_13), (a1, o3 T1 a7 u1_8 u1_9 a6 a4 a5 u1_13 u1_14), (a2, o7 a3), (a3, ai E 144 V3), (a4, ai E 12 V4), (a5, ai E 12 V5), (a6, ai E 12 V6), (a7, ai E 36 V7)]) rfl rfl rfl rfl rfl (xrecv hK hP (q0 := 0) (ci := 11) rfl rfl) rfl hl.1 rfl (Nat.le_of_ble_eq_true rfl) dX11_many_139 (fun H locs hP hD hS => ?_)
      exact ret (z139.1, z139.2, V3) hf nzi hP hS dX11_many_142
    · have hf := it_t c119 hf
      refine lv_aload_n hx hb dX11_many_122 rfl (lv_at hl 0 rfl) ?_
      refine lv_bipush (v := 8) hx hb dX11_many_123 rfl ?_
      obtain ⟨z125, hz125, hf⟩ := bind_s hf
      refine xV_iu hx hb hml hown htg L11_137 (c_X11_refused l E a0 hz125 _) ⟨⟨rfl, rfl⟩, Nat.le_of_ble_eq_true rfl, Nat.le_of_ble_eq_true rfl⟩ hK hG hA hP hD hS (is := [0]) (sel := [some 0, none, none, none, none, none, none, none]) (ws2 := [(a0, o11 z125.2 J0_15 J0_16 u0_0 u0_1 u0_2 u0_3 a2 u0_5 u0_6 u0_7 u0_8 u0_9 a1 u0_12 u0_13), (a1, o3 T1 a7 u1_8 u1_9 a6 a4 a5 u1_13 u1_14), (a2, o7 a3), (a3, ai E 144 V3), (a4, ai E 12 V4), (a5, ai E 12 V5), (a6, ai E 12 V6), (a7, ai E 36 V7)]) rfl rfl rfl rfl rfl (xrecv hK hP (q0 := 0) (ci := 11) rfl rfl) rfl hl.1 rfl (Nat.le_of_ble_eq_true rfl) dX11_many_125 (fun H locs hP hD hS => ?_)
      refine lv_goto (tgt := 142) hx hb dX11_many_128 (by decide) ?_
      exact ret (z125.1, z125.2, V3) hf nzi hP hS dX11_many_142
  have hf := it_f c1_5 hf
  by_cases c1_6 : x1 = 6
  · have hf := it_t c1_6 hf
    refine xtabI (off := 142) (tgt := 143) hx hb c1_6 dX11_many_1 rfl (by decide) ?_
    refine lv_aload_n hx hb dX11_many_143 rfl (lv_at hl 0 rfl) ?_
    refine lv_aload_n hx hb dX11_many_144 rfl (lv_at hl 0 rfl) ?_
    refine G11_79 hx hb htg hown hK hP 0 rfl dX11_many_145 ?_
    refine G11_214 hx hb htg hown hK hP 1 rfl dX11_many_148 ?_
    obtain ⟨z151, hz151, hf⟩ := bind_s hf
    refine xV_iu hx hb hml hown htg L11_179 (c_X11_answer l E a0 hz151 _) ⟨⟨rfl, rfl⟩, Nat.le_of_ble_eq_true rfl, Nat.le_of_ble_eq_true rfl⟩ hK hG hA hP hD hS (is := [0]) (sel := [some 0, none, none, none, none, none, none, none]) (ws2 := [(a0, o11 z151.2 J0_15 J0_16 u0_0 u0_1 u0_2 u0_3 a2 u0_5 u0_6 u0_7 u0_8 u0_9 a1 u0_12 u0_13), (a1, o3 T1 a7 u1_8 u1_9 a6 a4 a5 u1_13 u1_14), (a2, o7 a3), (a3, ai E 144 V3), (a4, ai E 12 V4), (a5, ai E 12 V5), (a6, ai E 12 V6), (a7, ai E 36 V7)]) rfl rfl rfl rfl rfl (xrecv hK hP (q0 := 0) (ci := 11) rfl rfl) rfl hl.1 rfl (Nat.le_of_ble_eq_true rfl) dX11_many_151 (fun H locs hP hD hS => ?_)
    exact ret (z151.1, z151.2, V3) hf nzi hP hS dX11_many_154
  have hf := it_f c1_6 hf
  by_cases c1_7 : x1 = 7
  · have hf := it_t c1_7 hf
    refine xtabI (off := 154) (tgt := 155) hx hb c1_7 dX11_many_1 rfl (by decide) ?_
    refine lv_aload_n hx hb dX11_many_155 rfl (lv_at hl 0 rfl) ?_
    refine lv_aload_n hx hb dX11_many_156 rfl (lv_at hl 0 rfl) ?_
    refine G11_79 hx hb htg hown hK hP 0 rfl dX11_many_157 ?_
    obtain ⟨z160, hz160, hf⟩ := bind_s hf
    refine xV_ir hx hb hml hown htg L11_176 (c_X3_cellCount l E a1 hz160 _) ⟨⟨rfl, rfl⟩, Nat.le_of_ble_eq_true rfl, Nat.le_of_ble_eq_true rfl⟩ hK hG hA hP hD hS (is := [1]) rfl rfl (xrecv hK hP (q0 := 1) (ci := 3) rfl rfl) rfl hl.1 rfl (Nat.le_of_ble_eq_true rfl) dX11_many_160 (fun H locs hP hD hS => ?_)
    refine lv_aload_n hx hb dX11_many_163 rfl (lv_at hl 0 rfl) ?_
    obtain ⟨z164, hz164, hf⟩ := bind_s hf
    refine xV_iu hx hb hml hown htg L11_217 (c_X11_knownNow l E a0 a2 a1 a3 a4 a5 a6 hz164 _) ⟨⟨rfl, rfl⟩, Nat.le_of_ble_eq_true rfl, Nat.le_of_ble_eq_true rfl⟩ hK hG hA hP hD hS (is := [0, 2, 1, 3, 4, 5, 6]) (sel := [some 0, some 2, some 1, some 3, some 4, some 5, some 6, none]) (ws2 := [(a0, o11 T0 J0_15 J0_16 u0_0 u0_1 u0_2 u0_3 a2 u0_5 u0_6 u0_7 u0_8 u0_9 a1 u0_12 u0_13), (a1, o3 T1 a7 u1_8 u1_9 a6 a4 a5 u1_13 u1_14), (a2, o7 a3), (a3, ai E 144 z164.2), (a4, ai E 12 V4), (a5, ai E 12 V5), (a6, ai E 12 V6), (a7, ai E 36 V7)]) rfl rfl rfl rfl rfl (xrecv hK hP (q0 := 0) (ci := 11) rfl rfl) rfl hl.1 rfl (Nat.le_of_ble_eq_true rfl) dX11_many_164 (fun H locs hP hD hS => ?_)
    refine lv_isub hx hb dX11_many_167 ?_
    obtain ⟨z168, hz168, hf⟩ := bind_s hf
    refine xV_iu hx hb hml hown htg L11_179 (c_X11_answer l E a0 hz168 _) ⟨⟨rfl, rfl⟩, Nat.le_of_ble_eq_true rfl, Nat.le_of_ble_eq_true rfl⟩ hK hG hA hP hD hS (is := [0]) (sel := [some 0, none, none, none, none, none, none, none]) (ws2 := [(a0, o11 z168.2 J0_15 J0_16 u0_0 u0_1 u0_2 u0_3 a2 u0_5 u0_6 u0_7 u0_8 u0_9 a1 u0_12 u0_13), (a1, o3 T1 a7 u1_8 u1_9 a6 a4 a5 u1_13 u1_14), (a2, o7 a3), (a3, ai E 144 z164.2), (a4, ai E 12 V4), (a5, ai E 12 V5), (a6, ai E 12 V6), (a7, ai E 36 V7)]) rfl rfl rfl rfl rfl (xrecv hK hP (q0 := 0) (ci := 11) rfl rfl) rfl hl.1 rfl (Nat.le_of_ble_eq_true rfl) dX11_many_168 (fun H locs hP hD hS => ?_)
    exact ret (z168.1, z168.2, z164.2) hf nzi hP hS dX11_many_171
  have hf := it_f c1_7 hf
  by_cases c1_8 : x1 = 8
  · have hf := it_t c1_8 hf
    refine xtabI (off := 171) (tgt := 172) hx hb c1_8 dX11_many_1 rfl (by decide) ?_
    refine lv_aload_n hx hb dX11_many_172 rfl (lv_at hl 0 rfl) ?_
    refine G11_40 hx hb htg hown hK hP 0 rfl dX11_many_173 ?_
    refine lv_aload_n hx hb dX11_many_176 rfl (lv_at hl 0 rfl) ?_
    refine G11_79 hx hb htg hown hK hP 0 rfl dX11_many_177 ?_
    refine lv_aload_n hx hb dX11_many_180 rfl (lv_at hl 0 rfl) ?_
    refine G11_79 hx hb htg hown hK hP 0 rfl dX11_many_181 ?_
    refine G11_214 hx hb htg hown hK hP 1 rfl dX11_many_184 ?_
    obtain ⟨z187, hz187, hf⟩ := bind_s hf
    refine xV_vu hx hb hml hown htg L11_220 (c_X7_take l E a2 a1 a3 a4 a5 a6 hz187 _) ⟨⟨rfl, rfl⟩, Nat.le_of_ble_eq_true rfl, Nat.le_of_ble_eq_true rfl⟩ hK hG hA hP hD hS (is := [2, 1, 3, 4, 5, 6]) (sel := [none, some 1, some 0, some 2, some 3, some 4, some 5, none]) (ws2 := [(a0, o11 T0 J0_15 J0_16 u0_0 u0_1 u0_2 u0_3 a2 u0_5 u0_6 u0_7 u0_8 u0_9 a1 u0_12 u0_13), (a1, o3 T1 a7 u1_8 u1_9 a6 a4 a5 u1_13 u1_14), (a2, o7 a3), (a3, ai E 144 z187), (a4, ai E 12 V4), (a5, ai E 12 V5), (a6, ai E 12 V6), (a7, ai E 36 V7)]) rfl rfl rfl rfl rfl (xrecv hK hP (q0 := 2) (ci := 7) rfl rfl) rfl hl.1 rfl (Nat.le_of_ble_eq_true rfl) dX11_many_187 (fun H locs hP hD hS => ?_)
    refine lv_aload_n hx hb dX11_many_190 rfl (lv_at hl 0 rfl) ?_
    refine lv_aload_n hx hb dX11_many_191 rfl (lv_at hl 0 rfl) ?_
    refine G11_40 hx hb htg hown hK hP 0 rfl dX11_many_192 ?_
    refine lv_aload_n hx hb dX11_many_195 rfl (lv_at hl 0 rfl) ?_
    refine G11_79 hx hb htg hown hK hP 0 rfl dX11_many_196 ?_
    obtain ⟨z199, hz199, hf⟩ := bind_s hf
    refine xV_ir hx hb hml hown htg L11_223 (c_X7_rightCells l E a2 a1 a3 a7 hz199 _) ⟨⟨rfl, rfl⟩, Nat.le_of_ble_eq_true rfl, Nat.le_of_ble_eq_true rfl⟩ hK hG hA hP hD hS (is := [2, 1, 3, 7]) rfl rfl (xrecv hK hP (q0 := 2) (ci := 7) rfl rfl) rfl hl.1 rfl (Nat.le_of_ble_eq_true rfl) dX11_many_199 (fun H locs hP hD hS => ?_)
    obtain ⟨z202, hz202, hf⟩ := bind_s hf
    refine xV_iu hx hb hml hown htg L11_179 (c_X11_answer l E a0 hz202 _) ⟨⟨rfl, rfl⟩, Nat.le_of_ble_eq_true rfl, Nat.le_of_ble_eq_true rfl⟩ hK hG hA hP hD hS (is := [0]) (sel := [some 0, none, none, none, none, none, none, none]) (ws2 := [(a0, o11 z202.2 J0_15 J0_16 u0_0 u0_1 u0_2 u0_3 a2 u0_5 u0_6 u0_7 u0_8 u0_9 a1 u0_12 u0_13), (a1, o3 T1 a7 u1_8 u1_9 a6 a4 a5 u1_13 u1_14), (a2, o7 a3), (a3, ai E 144 z187), (a4, ai E 12 V4), (a5, ai E 12 V5), (a6, ai E 12 V6), (a7, ai E 36 V7)]) rfl rfl rfl rfl rfl (xrecv hK hP (q0 := 0) (ci := 11) rfl rfl) rfl hl.1 rfl (Nat.le_of_ble_eq_true rfl) dX11_many_202 (fun H locs hP hD hS => ?_)
    exact ret (z202.1, z202.2, z187) hf nzi hP hS dX11_many_205
  have hf := it_f c1_8 hf
  refine xtabD (tgt := 206) (cs := [0, 1, 2, 3, 4, 5, 6, 7, 8]) hx hb (by simp only [List.forall_mem_cons]; exact ⟨c1_0, c1_1, c1_2, c1_3, c1_4, c1_5, c1_6, c1_7, c1_8, fun _ h => absurd h List.not_mem_nil⟩) rfl dX11_many_1 (by decide) ?_
  refine lv_aload_n hx hb dX11_many_206 rfl (lv_at hl 0 rfl) ?_
  refine lv_iconst (v := 5) hx hb dX11_many_207 rfl ?_
  obtain ⟨z208, hz208, hf⟩ := bind_s hf
  refine xV_iu hx hb hml hown htg L11_137 (c_X11_refused l E a0 hz208 _) ⟨⟨rfl, rfl⟩, Nat.le_of_ble_eq_true rfl, Nat.le_of_ble_eq_true rfl⟩ hK hG hA hP hD hS (is := [0]) (sel := [some 0, none, none, none, none, none, none, none]) (ws2 := [(a0, o11 z208.2 J0_15 J0_16 u0_0 u0_1 u0_2 u0_3 a2 u0_5 u0_6 u0_7 u0_8 u0_9 a1 u0_12 u0_13), (a1, o3 T1 a7 u1_8 u1_9 a6 a4 a5 u1_13 u1_14), (a2, o7 a3), (a3, ai E 144 V3), (a4, ai E 12 V4), (a5, ai E 12 V5), (a6, ai E 12 V6), (a7, ai E 36 V7)]) rfl rfl rfl rfl rfl (xrecv hK hP (q0 := 0) (ci := 11) rfl rfl) rfl hl.1 rfl (Nat.le_of_ble_eq_true rfl) dX11_many_208 (fun H locs hP hD hS => ?_)
  exact ret (z208.1, z208.2, V3) hf nzi hP hS dX11_many_211
theorem dX11_cell_0 : decode cX11_cell 0 = .ok (.aload_n 0, 1) := by decide +kernel
theorem dX11_cell_1 : decode cX11_cell 1 = .ok (.getfield 79, 3) := by decide +kernel
theorem dX11_cell_4 : decode cX11_cell 4 = .ok (.iload_n 1, 1) := by decide +kernel
theorem dX11_cell_5 : decode cX11_cell 5 = .ok (.invokevirtual 227, 3) := by decide +kernel
theorem dX11_cell_8 : decode cX11_cell 8 = .ok (.ifCond .ne 9, 3) := by decide +kernel
theorem dX11_cell_11 : decode cX11_cell 11 = .ok (.aload_n 0, 1) := by decide +kernel
theorem dX11_cell_12 : decode cX11_cell 12 = .ok (.iconst 2, 1) := by decide +kernel
theorem dX11_cell_13 : decode cX11_cell 13 = .ok (.invokevirtual 137, 3) := by decide +kernel
theorem dX11_cell_16 : decode cX11_cell 16 = .ok (.ireturn, 1) := by decide +kernel
theorem dX11_cell_17 : decode cX11_cell 17 = .ok (.aload_n 0, 1) := by decide +kernel
theorem dX11_cell_18 : decode cX11_cell 18 = .ok (.getfield 40, 3) := by decide +kernel
theorem dX11_cell_21 : decode cX11_cell 21 = .ok (.aload_n 0, 1) := by decide +kernel
theorem dX11_cell_22 : decode cX11_cell 22 = .ok (.getfield 79, 3) := by decide +kernel
theorem dX11_cell_25 : decode cX11_cell 25 = .ok (.aload_n 0, 1) := by decide +kernel
theorem dX11_cell_26 : decode cX11_cell 26 = .ok (.getfield 79, 3) := by decide +kernel
theorem dX11_cell_29 : decode cX11_cell 29 = .ok (.getfield 214, 3) := by decide +kernel
theorem dX11_cell_32 : decode cX11_cell 32 = .ok (.invokevirtual 220, 3) := by decide +kernel
theorem dX11_cell_35 : decode cX11_cell 35 = .ok (.iload_n 2, 1) := by decide +kernel
theorem dX11_cell_36 : decode cX11_cell 36 = .ok (.tableswitch 101 0 4 #[36, 49, 62, 75, 88], 36) := by decide +kernel
theorem dX11_cell_72 : decode cX11_cell 72 = .ok (.aload_n 0, 1) := by decide +kernel
theorem dX11_cell_73 : decode cX11_cell 73 = .ok (.aload_n 0, 1) := by decide +kernel
theorem dX11_cell_74 : decode cX11_cell 74 = .ok (.getfield 79, 3) := by decide +kernel
theorem dX11_cell_77 : decode cX11_cell 77 = .ok (.iload_n 1, 1) := by decide +kernel
theorem dX11_cell_78 : decode cX11_cell 78 = .ok (.invokevirtual 230, 3) := by decide +kernel
theorem dX11_cell_81 : decode cX11_cell 81 = .ok (.invokevirtual 179, 3) := by decide +kernel
theorem dX11_cell_84 : decode cX11_cell 84 = .ok (.ireturn, 1) := by decide +kernel
theorem dX11_cell_85 : decode cX11_cell 85 = .ok (.aload_n 0, 1) := by decide +kernel
theorem dX11_cell_86 : decode cX11_cell 86 = .ok (.aload_n 0, 1) := by decide +kernel
theorem dX11_cell_87 : decode cX11_cell 87 = .ok (.getfield 40, 3) := by decide +kernel
theorem dX11_cell_90 : decode cX11_cell 90 = .ok (.iload_n 1, 1) := by decide +kernel
theorem dX11_cell_91 : decode cX11_cell 91 = .ok (.invokevirtual 233, 3) := by decide +kernel
theorem dX11_cell_94 : decode cX11_cell 94 = .ok (.invokevirtual 179, 3) := by decide +kernel
theorem dX11_cell_97 : decode cX11_cell 97 = .ok (.ireturn, 1) := by decide +kernel
theorem dX11_cell_98 : decode cX11_cell 98 = .ok (.aload_n 0, 1) := by decide +kernel
theorem dX11_cell_99 : decode cX11_cell 99 = .ok (.aload_n 0, 1) := by decide +kernel
theorem dX11_cell_100 : decode cX11_cell 100 = .ok (.getfield 40, 3) := by decide +kernel
theorem dX11_cell_103 : decode cX11_cell 103 = .ok (.iload_n 1, 1) := by decide +kernel
theorem dX11_cell_104 : decode cX11_cell 104 = .ok (.invokevirtual 236, 3) := by decide +kernel
theorem dX11_cell_107 : decode cX11_cell 107 = .ok (.invokevirtual 179, 3) := by decide +kernel
theorem dX11_cell_110 : decode cX11_cell 110 = .ok (.ireturn, 1) := by decide +kernel
theorem dX11_cell_111 : decode cX11_cell 111 = .ok (.aload_n 0, 1) := by decide +kernel
theorem dX11_cell_112 : decode cX11_cell 112 = .ok (.aload_n 0, 1) := by decide +kernel
theorem dX11_cell_113 : decode cX11_cell 113 = .ok (.getfield 79, 3) := by decide +kernel
theorem dX11_cell_116 : decode cX11_cell 116 = .ok (.iload_n 1, 1) := by decide +kernel
theorem dX11_cell_117 : decode cX11_cell 117 = .ok (.invokevirtual 239, 3) := by decide +kernel
theorem dX11_cell_120 : decode cX11_cell 120 = .ok (.invokevirtual 179, 3) := by decide +kernel
theorem dX11_cell_123 : decode cX11_cell 123 = .ok (.ireturn, 1) := by decide +kernel
theorem dX11_cell_124 : decode cX11_cell 124 = .ok (.aload_n 0, 1) := by decide +kernel
theorem dX11_cell_125 : decode cX11_cell 125 = .ok (.aload_n 0, 1) := by decide +kernel
theorem dX11_cell_126 : decode cX11_cell 126 = .ok (.getfield 79, 3) := by decide +kernel
theorem dX11_cell_129 : decode cX11_cell 129 = .ok (.iload_n 1, 1) := by decide +kernel
theorem dX11_cell_130 : decode cX11_cell 130 = .ok (.invokevirtual 242, 3) := by decide +kernel
theorem dX11_cell_133 : decode cX11_cell 133 = .ok (.invokevirtual 179, 3) := by decide +kernel
theorem dX11_cell_136 : decode cX11_cell 136 = .ok (.ireturn, 1) := by decide +kernel
theorem dX11_cell_137 : decode cX11_cell 137 = .ok (.aload_n 0, 1) := by decide +kernel
theorem dX11_cell_138 : decode cX11_cell 138 = .ok (.iconst 5, 1) := by decide +kernel
theorem dX11_cell_139 : decode cX11_cell 139 = .ok (.invokevirtual 137, 3) := by decide +kernel
theorem dX11_cell_142 : decode cX11_cell 142 = .ok (.ireturn, 1) := by decide +kernel
set_option maxRecDepth 100000 in
theorem c_X11_cell (l : Launch) (E : xE) (a0 a1 a2 a3 a4 a5 a6 a7 a8 : Nat) {T0 : Nat → Int32} {J0_15 : Int64} {J0_16 : Int64} {T1 : Nat → Int32} {V3 : Nat → Int32} {V4 : Nat → Int32} {V5 : Nat → Int32} {V6 : Nat → Int32} {V7 : Nat → Int32} {V8 : Nat → Int32} {u0_0 u0_1 u0_2 u0_3 u0_5 u0_6 u0_7 u0_8 u0_9 u0_12 u0_13 u1_8 u1_9 u1_14 : Nat} {x1 : Int32} {x2 : Int32} {z : Int32 × (Nat → Int32) × (Nat → Int32)} (hf : f_X11_cell T0 T1 V3 V4 V5 V6 V7 V8 x1 x2 = some z) (sz : Nat) : Met l yX11_cell (Cond.code yX11_cell cX11_cell 3 (some .int) :: gw) ({ frames := 3, cells := 0, slots := 0, locals := 65 }) (xPc E [.ref a0, .int x1, .int x2] [(a0, o11 T0 J0_15 J0_16 u0_0 u0_1 u0_2 u0_3 a2 u0_5 u0_6 u0_7 u0_8 u0_9 a1 u0_12 u0_13), (a1, o3 T1 a7 u1_8 u1_9 a6 a4 a5 a8 u1_14), (a2, o7 a3), (a3, ai E 144 V3), (a4, ai E 12 V4), (a5, ai E 12 V5), (a6, ai E 12 V6), (a7, ai E 36 V7), (a8, ai E 12 V8)] sz) (xQi E z.1 [(a0, o11 T0 J0_15 J0_16 u0_0 u0_1 u0_2 u0_3 a2 u0_5 u0_6 u0_7 u0_8 u0_9 a1 u0_12 u0_13), (a1, o3 T1 a7 u1_8 u1_9 a6 a4 a5 a8 u1_14), (a2, o7 a3), (a3, ai E 144 V3), (a4, ai E 12 V4), (a5, ai E 12 V5), (a6, ai E 12 V6), (a7, ai E 36 V7), (a8, ai E 12 V8)] [(a0, o11 z.2.1 J0_15 J0_16 u0_0 u0_1 u0_2 u0_3 a2 u0_5 u0_6 u0_7 u0_8 u0_9 a1 u0_12 u0_13), (a1, o3 T1 a7 u1_8 u1_9 a6 a4 a5 a8 u1_14), (a2, o7 a3), (a3, ai E 144 z.2.2), (a4, ai E 12 V4), (a5, ai E 12 V5), (a6, ai E 12 V6), (a7, ai E 36 V7), (a8, ai E 12 V8)] sz) 0 0 (va_A [(a0, o11 T0 J0_15 J0_16 u0_0 u0_1 u0_2 u0_3 a2 u0_5 u0_6 u0_7 u0_8 u0_9 a1 u0_12 u0_13), (a1, o3 T1 a7 u1_8 u1_9 a6 a4 a5 a8 u1_14), (a2, o7 a3), (a3, ai E 144 V3), (a4, ai E 12 V4), (a5, ai E 12 V5), (a6, ai E 12 V6), (a7, ai E 36 V7), (a8, ai E 12 V8)] sz) := by
  refine xM_i (by decide +kernel) (Nat.le_of_ble_eq_true rfl) ?_
  intro p e s m args below meth c A Q hx hb hml hown htg hK hG hA ret0 H locs ls hP hD hS hl
  have ret : ∀ (z' : Int32 × (Nat → Int32) × (Nat → Int32)) {H : Heap} {locs : List Loc} {pc : Nat} {ls : Array Slot}, some z' = some z → narrow .int (.int z'.1) = .int z'.1 → va_P E.1 vwCl [(a0, o11 z'.2.1 J0_15 J0_16 u0_0 u0_1 u0_2 u0_3 a2 u0_5 u0_6 u0_7 u0_8 u0_9 a1 u0_12 u0_13), (a1, o3 T1 a7 u1_8 u1_9 a6 a4 a5 a8 u1_14), (a2, o7 a3), (a3, ai E 144 z'.2.2), (a4, ai E 12 V4), (a5, ai E 12 V5), (a6, ai E 12 V6), (a7, ai E 36 V7), (a8, ai E 12 V8)] H → va_S A s.heap H locs → decode cX11_cell pc = .ok (.ireturn, 1) → W p l e ({ frames := 3, cells := 0, slots := 0, locals := 65 } : Room) s m args below meth c H locs 0 0 Q (F0 m pc ls [.int z'.1]) := by
    intro z' H locs pc ls h
    cases h
    exact ret0
  replace hl : lv_has ls 3 [(0, .ref a0), (1, .int x1), (2, .int x2)] := hl
  unfold f_X11_cell at hf
  refine lv_aload_n hx hb dX11_cell_0 rfl (lv_at hl 0 rfl) ?_
  refine G11_79 hx hb htg hown hK hP 0 rfl dX11_cell_1 ?_
  refine lv_iload_n hx hb dX11_cell_4 rfl (lv_at hl 1 rfl) ?_
  obtain ⟨z5, hz5, hf⟩ := bind_s hf
  refine xV_ir hx hb hml hown htg L11_227 (c_X3_hasCell l E a1 hz5 _) ⟨⟨rfl, rfl⟩, Nat.le_of_ble_eq_true rfl, Nat.le_of_ble_eq_true rfl⟩ hK hG hA hP hD hS (is := [1]) rfl rfl (xrecv hK hP (q0 := 1) (ci := 3) rfl rfl) rfl hl.1 rfl (Nat.le_of_ble_eq_true rfl) dX11_cell_5 (fun H locs hP hD hS => ?_)
  refine lv_if_ne (tgt := 17) hx hb dX11_cell_8 (by decide) (fun c8 => ?_) (fun c8 => ?_)
  · have hf := it_f c8 hf
    refine lv_aload_n hx hb dX11_cell_17 rfl (lv_at hl 0 rfl) ?_
    refine G11_40 hx hb htg hown hK hP 0 rfl dX11_cell_18 ?_
    refine lv_aload_n hx hb dX11_cell_21 rfl (lv_at hl 0 rfl) ?_
    refine G11_79 hx hb htg hown hK hP 0 rfl dX11_cell_22 ?_
    refine lv_aload_n hx hb dX11_cell_25 rfl (lv_at hl 0 rfl) ?_
    refine G11_79 hx hb htg hown hK hP 0 rfl dX11_cell_26 ?_
    refine G11_214 hx hb htg hown hK hP 1 rfl dX11_cell_29 ?_
    obtain ⟨z32, hz32, hf⟩ := bind_s hf
    refine xV_vu hx hb hml hown htg L11_220 (c_X7_take l E a2 a1 a3 a4 a5 a6 hz32 _) ⟨⟨rfl, rfl⟩, Nat.le_of_ble_eq_true rfl, Nat.le_of_ble_eq_true rfl⟩ hK hG hA hP hD hS (is := [2, 1, 3, 4, 5, 6]) (sel := [none, some 1, some 0, some 2, some 3, some 4, some 5, none, none]) (ws2 := [(a0, o11 T0 J0_15 J0_16 u0_0 u0_1 u0_2 u0_3 a2 u0_5 u0_6 u0_7 u0_8 u0_9 a1 u0_12 u0_13), (a1, o3 T1 a7 u1_8 u1_9 a6 a4 a5 a8 u1_14), (a2, o7 a3), (a3, ai E 144 z32), (a4, ai E 12 V4), (a5, ai E 12 V5), (a6, ai E 12 V6), (a7, ai E 36 V7), (a8, ai E 12 V8)]) rfl rfl rfl rfl rfl (xrecv hK hP (q0 := 2) (ci := 7) rfl rfl) rfl hl.1 rfl (Nat.le_of_ble_eq_true rfl) dX11_cell_32 (fun H locs hP hD hS => ?_)
    refine lv_iload_n hx hb dX11_cell_35 rfl (lv_at hl 2 rfl) ?_
    by_cases c36_0 : x2 = 0
    · have hf := it_t c36_0 hf
      refine xtabI (off := 36) (tgt := 72) hx hb c36_0 dX11_cell_36 rfl (by decide) ?_
      refine lv_aload_n hx hb dX11_cell_72 rfl (lv_at hl 0 rfl) ?_
      refine lv_aload_n hx hb dX11_cell_73 rfl (lv_at hl 0 rfl) ?_
      refine G11_79 hx hb htg hown hK hP 0 rfl dX11_cell_74 ?_
      refine lv_iload_n hx hb dX11_cell_77 rfl (lv_at hl 1 rfl) ?_
      obtain ⟨z78, hz78, hf⟩ := bind_s hf
      refine xV_ir hx hb hml hown htg L11_230 (c_X3_kindAt l E a1 a7 hz78 _) ⟨⟨rfl, rfl⟩, Nat.le_of_ble_eq_true rfl, Nat.le_of_ble_eq_true rfl⟩ hK hG hA hP hD hS (is := [1, 7]) rfl rfl (xrecv hK hP (q0 := 1) (ci := 3) rfl rfl) rfl hl.1 rfl (Nat.le_of_ble_eq_true rfl) dX11_cell_78 (fun H locs hP hD hS => ?_)
      obtain ⟨z81, hz81, hf⟩ := bind_s hf
      refine xV_iu hx hb hml hown htg L11_179 (c_X11_answer l E a0 hz81 _) ⟨⟨rfl, rfl⟩, Nat.le_of_ble_eq_true rfl, Nat.le_of_ble_eq_true rfl⟩ hK hG hA hP hD hS (is := [0]) (sel := [some 0, none, none, none, none, none, none, none, none]) (ws2 := [(a0, o11 z81.2 J0_15 J0_16 u0_0 u0_1 u0_2 u0_3 a2 u0_5 u0_6 u0_7 u0_8 u0_9 a1 u0_12 u0_13), (a1, o3 T1 a7 u1_8 u1_9 a6 a4 a5 a8 u1_14), (a2, o7 a3), (a3, ai E 144 z32), (a4, ai E 12 V4), (a5, ai E 12 V5), (a6, ai E 12 V6), (a7, ai E 36 V7), (a8, ai E 12 V8)]) rfl rfl rfl rfl rfl (xrecv hK hP (q0 := 0) (ci := 11) rfl rfl) rfl hl.1 rfl (Nat.le_of_ble_eq_true rfl) dX11_cell_81 (fun H locs hP hD hS => ?_)
      exact ret (z81.1, z81.2, z32) hf nzi hP hS dX11_cell_84
    have hf := it_f c36_0 hf
    by_cases c36_1 : x2 = 1
    · have hf := it_t c36_1 hf
      refine xtabI (off := 49) (tgt := 85) hx hb c36_1 dX11_cell_36 rfl (by decide) ?_
      refine lv_aload_n hx hb dX11_cell_85 rfl (lv_at hl 0 rfl) ?_
      refine lv_aload_n hx hb dX11_cell_86 rfl (lv_at hl 0 rfl) ?_
      refine G11_40 hx hb htg hown hK hP 0 rfl dX11_cell_87 ?_
      refine lv_iload_n hx hb dX11_cell_90 rfl (lv_at hl 1 rfl) ?_
      obtain ⟨z91, hz91, hf⟩ := bind_s hf
      refine xV_ir hx hb hml hown htg L11_233 (c_X7_drawnAs l E a2 a3 hz91 _) ⟨⟨rfl, rfl⟩, Nat.le_of_ble_eq_true rfl, Nat.le_of_ble_eq_true rfl⟩ hK hG hA hP hD hS (is := [2, 3]) rfl rfl (xrecv hK hP (q0 := 2) (ci := 7) rfl rfl) rfl hl.1 rfl (Nat.le_of_ble_eq_true rfl) dX11_cell_91 (fun H locs hP hD hS => ?_)
      obtain ⟨z94, hz94, hf⟩ := bind_s hf
      refine xV_iu hx hb hml hown htg L11_179 (c_X11_answer l E a0 hz94 _) ⟨⟨rfl, rfl⟩, Nat.le_of_ble_eq_true rfl, Nat.le_of_ble_eq_true rfl⟩ hK hG hA hP hD hS (is := [0]) (sel := [some 0, none, none, none, none, none, none, none, none]) (ws2 := [(a0, o11 z94.2 J0_15 J0_16 u0_0 u0_1 u0_2 u0_3 a2 u0_5 u0_6 u0_7 u0_8 u0_9 a1 u0_12 u0_13), (a1, o3 T1 a7 u1_8 u1_9 a6 a4 a5 a8 u1_14), (a2, o7 a3), (a3, ai E 144 z32), (a4, ai E 12 V4), (a5, ai E 12 V5), (a6, ai E 12 V6), (a7, ai E 36 V7), (a8, ai E 12 V8)]) rfl rfl rfl rfl rfl (xrecv hK hP (q0 := 0) (ci := 11) rfl rfl) rfl hl.1 rfl (Nat.le_of_ble_eq_true rfl) dX11_cell_94 (fun H locs hP hD hS => ?_)
      exact ret (z94.1, z94.2, z32) hf nzi hP hS dX11_cell_97
    have hf := it_f c36_1 hf
    by_cases c36_2 : x2 = 2
    · have hf := it_t c36_2 hf
      refine xtabI (off := 62) (tgt := 98) hx hb c36_2 dX11_cell_36 rfl (by decide) ?_
      refine lv_aload_n hx hb dX11_cell_98 rfl (lv_at hl 0 rfl) ?_
      refine lv_aload_n hx hb dX11_cell_99 rfl (lv_at hl 0 rfl) ?_
      refine G11_40 hx hb htg hown hK hP 0 rfl dX11_cell_100 ?_
      refine lv_iload_n hx hb dX11_cell_103 rfl (lv_at hl 1 rfl) ?_
      obtain ⟨z104, hz104, hf⟩ := bind_s hf
      refine xV_ir hx hb hml hown htg L11_236 (c_X7_riskOf l E a2 a3 hz104 _) ⟨⟨rfl, rfl⟩, Nat.le_of_ble_eq_true rfl, Nat.le_of_ble_eq_true rfl⟩ hK hG hA hP hD hS (is := [2, 3]) rfl rfl (xrecv hK hP (q0 := 2) (ci := 7) rfl rfl) rfl hl.1 rfl (Nat.le_of_ble_eq_true rfl) dX11_cell_104 (fun H locs hP hD hS => ?_)
      obtain ⟨z107, hz107, hf⟩ := bind_s hf
      refine xV_iu hx hb hml hown htg L11_179 (c_X11_answer l E a0 hz107 _) ⟨⟨rfl, rfl⟩, Nat.le_of_ble_eq_true rfl, Nat.le_of_ble_eq_true rfl⟩ hK hG hA hP hD hS (is := [0]) (sel := [some 0, none, none, none, none, none, none, none, none]) (ws2 := [(a0, o11 z107.2 J0_15 J0_16 u0_0 u0_1 u0_2 u0_3 a2 u0_5 u0_6 u0_7 u0_8 u0_9 a1 u0_12 u0_13), (a1, o3 T1 a7 u1_8 u1_9 a6 a4 a5 a8 u1_14), (a2, o7 a3), (a3, ai E 144 z32), (a4, ai E 12 V4), (a5, ai E 12 V5), (a6, ai E 12 V6), (a7, ai E 36 V7), (a8, ai E 12 V8)]) rfl rfl rfl rfl rfl (xrecv hK hP (q0 := 0) (ci := 11) rfl rfl) rfl hl.1 rfl (Nat.le_of_ble_eq_true rfl) dX11_cell_107 (fun H locs hP hD hS => ?_)
      exact ret (z107.1, z107.2, z32) hf nzi hP hS dX11_cell_110
    have hf := it_f c36_2 hf
    by_cases c36_3 : x2 = 3
    · have hf := it_t c36_3 hf
      refine xtabI (off := 75) (tgt := 111) hx hb c36_3 dX11_cell_36 rfl (by decide) ?_
      refine lv_aload_n hx hb dX11_cell_111 rfl (lv_at hl 0 rfl) ?_
      refine lv_aload_n hx hb dX11_cell_112 rfl (lv_at hl 0 rfl) ?_
      refine G11_79 hx hb htg hown hK hP 0 rfl dX11_cell_113 ?_
      refine lv_iload_n hx hb dX11_cell_116 rfl (lv_at hl 1 rfl) ?_
      obtain ⟨z117, hz117, hf⟩ := bind_s hf
      refine xV_ir hx hb hml hown htg L11_239 (c_X3_sizeOf l E a1 a4 a5 a6 a8 hz117 _) ⟨⟨rfl, rfl⟩, Nat.le_of_ble_eq_true rfl, Nat.le_of_ble_eq_true rfl⟩ hK hG hA hP hD hS (is := [1, 4, 5, 6, 8]) rfl rfl (xrecv hK hP (q0 := 1) (ci := 3) rfl rfl) rfl hl.1 rfl (Nat.le_of_ble_eq_true rfl) dX11_cell_117 (fun H locs hP hD hS => ?_)
      obtain ⟨z120, hz120, hf⟩ := bind_s hf
      refine xV_iu hx hb hml hown htg L11_179 (c_X11_answer l E a0 hz120 _) ⟨⟨rfl, rfl⟩, Nat.le_of_ble_eq_true rfl, Nat.le_of_ble_eq_true rfl⟩ hK hG hA hP hD hS (is := [0]) (sel := [some 0, none, none, none, none, none, none, none, none]) (ws2 := [(a0, o11 z120.2 J0_15 J0_16 u0_0 u0_1 u0_2 u0_3 a2 u0_5 u0_6 u0_7 u0_8 u0_9 a1 u0_12 u0_13), (a1, o3 T1 a7 u1_8 u1_9 a6 a4 a5 a8 u1_14), (a2, o7 a3), (a3, ai E 144 z32), (a4, ai E 12 V4), (a5, ai E 12 V5), (a6, ai E 12 V6), (a7, ai E 36 V7), (a8, ai E 12 V8)]) rfl rfl rfl rfl rfl (xrecv hK hP (q0 := 0) (ci := 11) rfl rfl) rfl hl.1 rfl (Nat.le_of_ble_eq_true rfl) dX11_cell_120 (fun H locs hP hD hS => ?_)
      exact ret (z120.1, z120.2, z32) hf nzi hP hS dX11_cell_123
    have hf := it_f c36_3 hf
    by_cases c36_4 : x2 = 4
    · have hf := it_t c36_4 hf
      refine xtabI (off := 88) (tgt := 124) hx hb c36_4 dX11_cell_36 rfl (by decide) ?_
      refine lv_aload_n hx hb dX11_cell_124 rfl (lv_at hl 0 rfl) ?_
      refine lv_aload_n hx hb dX11_cell_125 rfl (lv_at hl 0 rfl) ?_
      refine G11_79 hx hb htg hown hK hP 0 rfl dX11_cell_126 ?_
      refine lv_iload_n hx hb dX11_cell_129 rfl (lv_at hl 1 rfl) ?_
      obtain ⟨z130, hz130, hf⟩ := bind_s hf
      refine xV_ir hx hb hml hown htg L11_242 (c_X3_tellingsOf l E a1 a4 hz130 _) ⟨⟨rfl, rfl⟩, Nat.le_of_ble_eq_true rfl, Nat.le_of_ble_eq_true rfl⟩ hK hG hA hP hD hS (is := [1, 4]) rfl rfl (xrecv hK hP (q0 := 1) (ci := 3) rfl rfl) rfl hl.1 rfl (Nat.le_of_ble_eq_true rfl) dX11_cell_130 (fun H locs hP hD hS => ?_)
      obtain ⟨z133, hz133, hf⟩ := bind_s hf
      refine xV_iu hx hb hml hown htg L11_179 (c_X11_answer l E a0 hz133 _) ⟨⟨rfl, rfl⟩, Nat.le_of_ble_eq_true rfl, Nat.le_of_ble_eq_true rfl⟩ hK hG hA hP hD hS (is := [0]) (sel := [some 0, none, none, none, none, none, none, none, none]) (ws2 := [(a0, o11 z133.2 J0_15 J0_16 u0_0 u0_1 u0_2 u0_3 a2 u0_5 u0_6 u0_7 u0_8 u0_9 a1 u0_12 u0_13), (a1, o3 T1 a7 u1_8 u1_9 a6 a4 a5 a8 u1_14), (a2, o7 a3), (a3, ai E 144 z32), (a4, ai E 12 V4), (a5, ai E 12 V5), (a6, ai E 12 V6), (a7, ai E 36 V7), (a8, ai E 12 V8)]) rfl rfl rfl rfl rfl (xrecv hK hP (q0 := 0) (ci := 11) rfl rfl) rfl hl.1 rfl (Nat.le_of_ble_eq_true rfl) dX11_cell_133 (fun H locs hP hD hS => ?_)
      exact ret (z133.1, z133.2, z32) hf nzi hP hS dX11_cell_136
    have hf := it_f c36_4 hf
    refine xtabD (tgt := 137) (cs := [0, 1, 2, 3, 4]) hx hb (by simp only [List.forall_mem_cons]; exact ⟨c36_0, c36_1, c36_2, c36_3, c36_4, fun _ h => absurd h List.not_mem_nil⟩) rfl dX11_cell_36 (by decide) ?_
    refine lv_aload_n hx hb dX11_cell_137 rfl (lv_at hl 0 rfl) ?_
    refine lv_iconst (v := 5) hx hb dX11_cell_138 rfl ?_
    obtain ⟨z139, hz139, hf⟩ := bind_s hf
    refine xV_iu hx hb hml hown htg L11_137 (c_X11_refused l E a0 hz139 _) ⟨⟨rfl, rfl⟩, Nat.le_of_ble_eq_true rfl, Nat.le_of_ble_eq_true rfl⟩ hK hG hA hP hD hS (is := [0]) (sel := [some 0, none, none, none, none, none, none, none, none]) (ws2 := [(a0, o11 z139.2 J0_15 J0_16 u0_0 u0_1 u0_2 u0_3 a2 u0_5 u0_6 u0_7 u0_8 u0_9 a1 u0_12 u0_13), (a1, o3 T1 a7 u1_8 u1_9 a6 a4 a5 a8 u1_14), (a2, o7 a3), (a3, ai E 144 z32), (a4, ai E 12 V4), (a5, ai E 12 V5), (a6, ai E 12 V6), (a7, ai E 36 V7), (a8, ai E 12 V8)]) rfl rfl rfl rfl rfl (xrecv hK hP (q0 := 0) (ci := 11) rfl rfl) rfl hl.1 rfl (Nat.le_of_ble_eq_true rfl) dX11_cell_139 (fun H locs hP hD hS => ?_)
    exact ret (z139.1, z139.2, z32) hf nzi hP hS dX11_cell_142
  · have hf := it_t c8 hf
    refine lv_aload_n hx hb dX11_cell_11 rfl (lv_at hl 0 rfl) ?_
    refine lv_iconst (v := 2) hx hb dX11_cell_12 rfl ?_
    obtain ⟨z13, hz13, hf⟩ := bind_s hf
    refine xV_iu hx hb hml hown htg L11_137 (c_X11_refused l E a0 hz13 _) ⟨⟨rfl, rfl⟩, Nat.le_of_ble_eq_true rfl, Nat.le_of_ble_eq_true rfl⟩ hK hG hA hP hD hS (is := [0]) (sel := [some 0, none, none, none, none, none, none, none, none]) (ws2 := [(a0, o11 z13.2 J0_15 J0_16 u0_0 u0_1 u0_2 u0_3 a2 u0_5 u0_6 u0_7 u0_8 u0_9 a1 u0_12 u0_13), (a1, o3 T1 a7 u1_8 u1_9 a6 a4 a5 a8 u1_14), (a2, o7 a3), (a3, ai E 144 V3), (a4, ai E 12 V4), (a5, ai E 12 V5), (a6, ai E 12 V6), (a7, ai E 36 V7), (a8, ai E 12 V8)]) rfl rfl rfl rfl rfl (xrecv hK hP (q0 := 0) (ci := 11) rfl rfl) rfl hl.1 rfl (Nat.le_of_ble_eq_true rfl) dX11_cell_13 (fun H locs hP hD hS => ?_)
    exact ret (z13.1, z13.2, V3) hf nzi hP hS dX11_cell_16
theorem dX11_votes_0 : decode cX11_votes 0 = .ok (.aload_n 0, 1) := by decide +kernel
theorem dX11_votes_1 : decode cX11_votes 1 = .ok (.getfield 79, 3) := by decide +kernel
theorem dX11_votes_4 : decode cX11_votes 4 = .ok (.iload_n 1, 1) := by decide +kernel
theorem dX11_votes_5 : decode cX11_votes 5 = .ok (.invokevirtual 227, 3) := by decide +kernel
theorem dX11_votes_8 : decode cX11_votes 8 = .ok (.ifCond .ne 9, 3) := by decide +kernel
theorem dX11_votes_11 : decode cX11_votes 11 = .ok (.aload_n 0, 1) := by decide +kernel
theorem dX11_votes_12 : decode cX11_votes 12 = .ok (.iconst 2, 1) := by decide +kernel
theorem dX11_votes_13 : decode cX11_votes 13 = .ok (.invokevirtual 137, 3) := by decide +kernel
theorem dX11_votes_16 : decode cX11_votes 16 = .ok (.ireturn, 1) := by decide +kernel
theorem dX11_votes_17 : decode cX11_votes 17 = .ok (.iload_n 2, 1) := by decide +kernel
theorem dX11_votes_18 : decode cX11_votes 18 = .ok (.invokestatic 245, 3) := by decide +kernel
theorem dX11_votes_21 : decode cX11_votes 21 = .ok (.ifCond .ne 9, 3) := by decide +kernel
theorem dX11_votes_24 : decode cX11_votes 24 = .ok (.aload_n 0, 1) := by decide +kernel
theorem dX11_votes_25 : decode cX11_votes 25 = .ok (.iconst 5, 1) := by decide +kernel
theorem dX11_votes_26 : decode cX11_votes 26 = .ok (.invokevirtual 137, 3) := by decide +kernel
theorem dX11_votes_29 : decode cX11_votes 29 = .ok (.ireturn, 1) := by decide +kernel
theorem dX11_votes_30 : decode cX11_votes 30 = .ok (.aload_n 0, 1) := by decide +kernel
theorem dX11_votes_31 : decode cX11_votes 31 = .ok (.getfield 40, 3) := by decide +kernel
theorem dX11_votes_34 : decode cX11_votes 34 = .ok (.aload_n 0, 1) := by decide +kernel
theorem dX11_votes_35 : decode cX11_votes 35 = .ok (.getfield 79, 3) := by decide +kernel
theorem dX11_votes_38 : decode cX11_votes 38 = .ok (.aload_n 0, 1) := by decide +kernel
theorem dX11_votes_39 : decode cX11_votes 39 = .ok (.getfield 79, 3) := by decide +kernel
theorem dX11_votes_42 : decode cX11_votes 42 = .ok (.getfield 214, 3) := by decide +kernel
theorem dX11_votes_45 : decode cX11_votes 45 = .ok (.invokevirtual 220, 3) := by decide +kernel
theorem dX11_votes_48 : decode cX11_votes 48 = .ok (.aload_n 0, 1) := by decide +kernel
theorem dX11_votes_49 : decode cX11_votes 49 = .ok (.aload_n 0, 1) := by decide +kernel
theorem dX11_votes_50 : decode cX11_votes 50 = .ok (.getfield 40, 3) := by decide +kernel
theorem dX11_votes_53 : decode cX11_votes 53 = .ok (.iload_n 1, 1) := by decide +kernel
theorem dX11_votes_54 : decode cX11_votes 54 = .ok (.iload_n 2, 1) := by decide +kernel
theorem dX11_votes_55 : decode cX11_votes 55 = .ok (.invokevirtual 248, 3) := by decide +kernel
theorem dX11_votes_58 : decode cX11_votes 58 = .ok (.invokevirtual 179, 3) := by decide +kernel
theorem dX11_votes_61 : decode cX11_votes 61 = .ok (.ireturn, 1) := by decide +kernel
set_option maxRecDepth 100000 in
theorem c_X11_votes (l : Launch) (E : xE) (a0 a1 a2 a3 a4 a5 a6 : Nat) {T0 : Nat → Int32} {J0_15 : Int64} {J0_16 : Int64} {T1 : Nat → Int32} {V3 : Nat → Int32} {V4 : Nat → Int32} {V5 : Nat → Int32} {V6 : Nat → Int32} {u0_0 u0_1 u0_2 u0_3 u0_5 u0_6 u0_7 u0_8 u0_9 u0_12 u0_13 u1_7 u1_8 u1_9 u1_13 u1_14 : Nat} {x1 : Int32} {x2 : Int32} {z : Int32 × (Nat → Int32) × (Nat → Int32)} (hf : f_X11_votes T0 T1 V3 V4 V5 V6 x1 x2 = some z) (sz : Nat) : Met l yX11_votes (Cond.code yX11_votes cX11_votes 3 (some .int) :: gw) ({ frames := 2, cells := 0, slots := 0, locals := 47 }) (xPc E [.ref a0, .int x1, .int x2] [(a0, o11 T0 J0_15 J0_16 u0_0 u0_1 u0_2 u0_3 a2 u0_5 u0_6 u0_7 u0_8 u0_9 a1 u0_12 u0_13), (a1, o3 T1 u1_7 u1_8 u1_9 a6 a4 a5 u1_13 u1_14), (a2, o7 a3), (a3, ai E 144 V3), (a4, ai E 12 V4), (a5, ai E 12 V5), (a6, ai E 12 V6)] sz) (xQi E z.1 [(a0, o11 T0 J0_15 J0_16 u0_0 u0_1 u0_2 u0_3 a2 u0_5 u0_6 u0_7 u0_8 u0_9 a1 u0_12 u0_13), (a1, o3 T1 u1_7 u1_8 u1_9 a6 a4 a5 u1_13 u1_14), (a2, o7 a3), (a3, ai E 144 V3), (a4, ai E 12 V4), (a5, ai E 12 V5), (a6, ai E 12 V6)] [(a0, o11 z.2.1 J0_15 J0_16 u0_0 u0_1 u0_2 u0_3 a2 u0_5 u0_6 u0_7 u0_8 u0_9 a1 u0_12 u0_13), (a1, o3 T1 u1_7 u1_8 u1_9 a6 a4 a5 u1_13 u1_14), (a2, o7 a3), (a3, ai E 144 z.2.2), (a4, ai E 12 V4), (a5, ai E 12 V5), (a6, ai E 12 V6)] sz) 0 0 (va_A [(a0, o11 T0 J0_15 J0_16 u0_0 u0_1 u0_2 u0_3 a2 u0_5 u0_6 u0_7 u0_8 u0_9 a1 u0_12 u0_13), (a1, o3 T1 u1_7 u1_8 u1_9 a6 a4 a5 u1_13 u1_14), (a2, o7 a3), (a3, ai E 144 V3), (a4, ai E 12 V4), (a5, ai E 12 V5), (a6, ai E 12 V6)] sz) := by
  refine xM_i (by decide +kernel) (Nat.le_of_ble_eq_true rfl) ?_
  intro p e s m args below meth c A Q hx hb hml hown htg hK hG hA ret0 H locs ls hP hD hS hl
  have ret : ∀ (z' : Int32 × (Nat → Int32) × (Nat → Int32)) {H : Heap} {locs : List Loc} {pc : Nat} {ls : Array Slot}, some z' = some z → narrow .int (.int z'.1) = .int z'.1 → va_P E.1 vwCl [(a0, o11 z'.2.1 J0_15 J0_16 u0_0 u0_1 u0_2 u0_3 a2 u0_5 u0_6 u0_7 u0_8 u0_9 a1 u0_12 u0_13), (a1, o3 T1 u1_7 u1_8 u1_9 a6 a4 a5 u1_13 u1_14), (a2, o7 a3), (a3, ai E 144 z'.2.2), (a4, ai E 12 V4), (a5, ai E 12 V5), (a6, ai E 12 V6)] H → va_S A s.heap H locs → decode cX11_votes pc = .ok (.ireturn, 1) → W p l e ({ frames := 2, cells := 0, slots := 0, locals := 47 } : Room) s m args below meth c H locs 0 0 Q (F0 m pc ls [.int z'.1]) := by
    intro z' H locs pc ls h
    cases h
    exact ret0
  replace hl : lv_has ls 3 [(0, .ref a0), (1, .int x1), (2, .int x2)] := hl
  unfold f_X11_votes at hf
  refine lv_aload_n hx hb dX11_votes_0 rfl (lv_at hl 0 rfl) ?_
  refine G11_79 hx hb htg hown hK hP 0 rfl dX11_votes_1 ?_
  refine lv_iload_n hx hb dX11_votes_4 rfl (lv_at hl 1 rfl) ?_
  obtain ⟨z5, hz5, hf⟩ := bind_s hf
  refine xV_ir hx hb hml hown htg L11_227 (c_X3_hasCell l E a1 hz5 _) ⟨⟨rfl, rfl⟩, Nat.le_of_ble_eq_true rfl, Nat.le_of_ble_eq_true rfl⟩ hK hG hA hP hD hS (is := [1]) rfl rfl (xrecv hK hP (q0 := 1) (ci := 3) rfl rfl) rfl hl.1 rfl (Nat.le_of_ble_eq_true rfl) dX11_votes_5 (fun H locs hP hD hS => ?_)
  refine lv_if_ne (tgt := 17) hx hb dX11_votes_8 (by decide) (fun c8 => ?_) (fun c8 => ?_)
  · have hf := it_f c8 hf
    refine lv_iload_n hx hb dX11_votes_17 rfl (lv_at hl 2 rfl) ?_
    obtain ⟨z18, hz18, hf⟩ := bind_s hf
    refine xS_ir hx hb hml hown htg L11_245 (c_X11_isKind l E hz18 _) ⟨⟨rfl, rfl⟩, Nat.le_of_ble_eq_true rfl, Nat.le_of_ble_eq_true rfl⟩ hK hG hA hP hD hS (is := []) rfl rfl rfl hl.1 rfl (Nat.le_of_ble_eq_true rfl) dX11_votes_18 (fun H locs hP hD hS => ?_)
    refine lv_if_ne (tgt := 30) hx hb dX11_votes_21 (by decide) (fun c21 => ?_) (fun c21 => ?_)
    · have hf := it_f c21 hf
      refine lv_aload_n hx hb dX11_votes_30 rfl (lv_at hl 0 rfl) ?_
      refine G11_40 hx hb htg hown hK hP 0 rfl dX11_votes_31 ?_
      refine lv_aload_n hx hb dX11_votes_34 rfl (lv_at hl 0 rfl) ?_
      refine G11_79 hx hb htg hown hK hP 0 rfl dX11_votes_35 ?_
      refine lv_aload_n hx hb dX11_votes_38 rfl (lv_at hl 0 rfl) ?_
      refine G11_79 hx hb htg hown hK hP 0 rfl dX11_votes_39 ?_
      refine G11_214 hx hb htg hown hK hP 1 rfl dX11_votes_42 ?_
      obtain ⟨z45, hz45, hf⟩ := bind_s hf
      refine xV_vu hx hb hml hown htg L11_220 (c_X7_take l E a2 a1 a3 a4 a5 a6 hz45 _) ⟨⟨rfl, rfl⟩, Nat.le_of_ble_eq_true rfl, Nat.le_of_ble_eq_true rfl⟩ hK hG hA hP hD hS (is := [2, 1, 3, 4, 5, 6]) (sel := [none, some 1, some 0, some 2, some 3, some 4, some 5]) (ws2 := [(a0, o11 T0 J0_15 J0_16 u0_0 u0_1 u0_2 u0_3 a2 u0_5 u0_6 u0_7 u0_8 u0_9 a1 u0_12 u0_13), (a1, o3 T1 u1_7 u1_8 u1_9 a6 a4 a5 u1_13 u1_14), (a2, o7 a3), (a3, ai E 144 z45), (a4, ai E 12 V4), (a5, ai E 12 V5), (a6, ai E 12 V6)]) rfl rfl rfl rfl rfl (xrecv hK hP (q0 := 2) (ci := 7) rfl rfl) rfl hl.1 rfl (Nat.le_of_ble_eq_true rfl) dX11_votes_45 (fun H locs hP hD hS => ?_)
      refine lv_aload_n hx hb dX11_votes_48 rfl (lv_at hl 0 rfl) ?_
      refine lv_aload_n hx hb dX11_votes_49 rfl (lv_at hl 0 rfl) ?_
      refine G11_40 hx hb htg hown hK hP 0 rfl dX11_votes_50 ?_
      refine lv_iload_n hx hb dX11_votes_53 rfl (lv_at hl 1 rfl) ?_
      refine lv_iload_n hx hb dX11_votes_54 rfl (lv_at hl 2 rfl) ?_
      obtain ⟨z55, hz55, hf⟩ := bind_s hf
      refine xV_ir hx hb hml hown htg L11_248 (c_X7_votesFor l E a2 a3 hz55 _) ⟨⟨rfl, rfl⟩, Nat.le_of_ble_eq_true rfl, Nat.le_of_ble_eq_true rfl⟩ hK hG hA hP hD hS (is := [2, 3]) rfl rfl (xrecv hK hP (q0 := 2) (ci := 7) rfl rfl) rfl hl.1 rfl (Nat.le_of_ble_eq_true rfl) dX11_votes_55 (fun H locs hP hD hS => ?_)
      obtain ⟨z58, hz58, hf⟩ := bind_s hf
      refine xV_iu hx hb hml hown htg L11_179 (c_X11_answer l E a0 hz58 _) ⟨⟨rfl, rfl⟩, Nat.le_of_ble_eq_true rfl, Nat.le_of_ble_eq_true rfl⟩ hK hG hA hP hD hS (is := [0]) (sel := [some 0, none, none, none, none, none, none]) (ws2 := [(a0, o11 z58.2 J0_15 J0_16 u0_0 u0_1 u0_2 u0_3 a2 u0_5 u0_6 u0_7 u0_8 u0_9 a1 u0_12 u0_13), (a1, o3 T1 u1_7 u1_8 u1_9 a6 a4 a5 u1_13 u1_14), (a2, o7 a3), (a3, ai E 144 z45), (a4, ai E 12 V4), (a5, ai E 12 V5), (a6, ai E 12 V6)]) rfl rfl rfl rfl rfl (xrecv hK hP (q0 := 0) (ci := 11) rfl rfl) rfl hl.1 rfl (Nat.le_of_ble_eq_true rfl) dX11_votes_58 (fun H locs hP hD hS => ?_)
      exact ret (z58.1, z58.2, z45) hf nzi hP hS dX11_votes_61
    · have hf := it_t c21 hf
      refine lv_aload_n hx hb dX11_votes_24 rfl (lv_at hl 0 rfl) ?_
      refine lv_iconst (v := 5) hx hb dX11_votes_25 rfl ?_
      obtain ⟨z26, hz26, hf⟩ := bind_s hf
      refine xV_iu hx hb hml hown htg L11_137 (c_X11_refused l E a0 hz26 _) ⟨⟨rfl, rfl⟩, Nat.le_of_ble_eq_true rfl, Nat.le_of_ble_eq_true rfl⟩ hK hG hA hP hD hS (is := [0]) (sel := [some 0, none, none, none, none, none, none]) (ws2 := [(a0, o11 z26.2 J0_15 J0_16 u0_0 u0_1 u0_2 u0_3 a2 u0_5 u0_6 u0_7 u0_8 u0_9 a1 u0_12 u0_13), (a1, o3 T1 u1_7 u1_8 u1_9 a6 a4 a5 u1_13 u1_14), (a2, o7 a3), (a3, ai E 144 V3), (a4, ai E 12 V4), (a5, ai E 12 V5), (a6, ai E 12 V6)]) rfl rfl rfl rfl rfl (xrecv hK hP (q0 := 0) (ci := 11) rfl rfl) rfl hl.1 rfl (Nat.le_of_ble_eq_true rfl) dX11_votes_26 (fun H locs hP hD hS => ?_)
      exact ret (z26.1, z26.2, V3) hf nzi hP hS dX11_votes_29
  · have hf := it_t c8 hf
    refine lv_aload_n hx hb dX11_votes_11 rfl (lv_at hl 0 rfl) ?_
    refine lv_iconst (v := 2) hx hb dX11_votes_12 rfl ?_
    obtain ⟨z13, hz13, hf⟩ := bind_s hf
    refine xV_iu hx hb hml hown htg L11_137 (c_X11_refused l E a0 hz13 _) ⟨⟨rfl, rfl⟩, Nat.le_of_ble_eq_true rfl, Nat.le_of_ble_eq_true rfl⟩ hK hG hA hP hD hS (is := [0]) (sel := [some 0, none, none, none, none, none, none]) (ws2 := [(a0, o11 z13.2 J0_15 J0_16 u0_0 u0_1 u0_2 u0_3 a2 u0_5 u0_6 u0_7 u0_8 u0_9 a1 u0_12 u0_13), (a1, o3 T1 u1_7 u1_8 u1_9 a6 a4 a5 u1_13 u1_14), (a2, o7 a3), (a3, ai E 144 V3), (a4, ai E 12 V4), (a5, ai E 12 V5), (a6, ai E 12 V6)]) rfl rfl rfl rfl rfl (xrecv hK hP (q0 := 0) (ci := 11) rfl rfl) rfl hl.1 rfl (Nat.le_of_ble_eq_true rfl) dX11_votes_13 (fun H locs hP hD hS => ?_)
    exact ret (z13.1, z13.2, V3) hf nzi hP hS dX11_votes_16
theorem dX11_traveller_0 : decode cX11_traveller 0 = .ok (.aload_n 0, 1) := by decide +kernel
theorem dX11_traveller_1 : decode cX11_traveller 1 = .ok (.getfield 79, 3) := by decide +kernel
theorem dX11_traveller_4 : decode cX11_traveller 4 = .ok (.iload_n 1, 1) := by decide +kernel
theorem dX11_traveller_5 : decode cX11_traveller 5 = .ok (.invokevirtual 251, 3) := by decide +kernel
theorem dX11_traveller_8 : decode cX11_traveller 8 = .ok (.ifCond .ne 9, 3) := by decide +kernel
theorem dX11_traveller_11 : decode cX11_traveller 11 = .ok (.aload_n 0, 1) := by decide +kernel
theorem dX11_traveller_12 : decode cX11_traveller 12 = .ok (.iconst 2, 1) := by decide +kernel
theorem dX11_traveller_13 : decode cX11_traveller 13 = .ok (.invokevirtual 137, 3) := by decide +kernel
theorem dX11_traveller_16 : decode cX11_traveller 16 = .ok (.ireturn, 1) := by decide +kernel
theorem dX11_traveller_17 : decode cX11_traveller 17 = .ok (.iload_n 2, 1) := by decide +kernel
theorem dX11_traveller_18 : decode cX11_traveller 18 = .ok (.tableswitch 91 0 3 #[30, 44, 65, 78], 30) := by decide +kernel
theorem dX11_traveller_48 : decode cX11_traveller 48 = .ok (.aload_n 0, 1) := by decide +kernel
theorem dX11_traveller_49 : decode cX11_traveller 49 = .ok (.aload_n 0, 1) := by decide +kernel
theorem dX11_traveller_50 : decode cX11_traveller 50 = .ok (.getfield 79, 3) := by decide +kernel
theorem dX11_traveller_53 : decode cX11_traveller 53 = .ok (.getfield 254, 3) := by decide +kernel
theorem dX11_traveller_56 : decode cX11_traveller 56 = .ok (.iload_n 1, 1) := by decide +kernel
theorem dX11_traveller_57 : decode cX11_traveller 57 = .ok (.iaload, 1) := by decide +kernel
theorem dX11_traveller_58 : decode cX11_traveller 58 = .ok (.invokevirtual 179, 3) := by decide +kernel
theorem dX11_traveller_61 : decode cX11_traveller 61 = .ok (.ireturn, 1) := by decide +kernel
theorem dX11_traveller_62 : decode cX11_traveller 62 = .ok (.aload_n 0, 1) := by decide +kernel
theorem dX11_traveller_63 : decode cX11_traveller 63 = .ok (.aload_n 0, 1) := by decide +kernel
theorem dX11_traveller_64 : decode cX11_traveller 64 = .ok (.getfield 79, 3) := by decide +kernel
theorem dX11_traveller_67 : decode cX11_traveller 67 = .ok (.iload_n 1, 1) := by decide +kernel
theorem dX11_traveller_68 : decode cX11_traveller 68 = .ok (.invokevirtual 258, 3) := by decide +kernel
theorem dX11_traveller_71 : decode cX11_traveller 71 = .ok (.ifCond .eq 7, 3) := by decide +kernel
theorem dX11_traveller_74 : decode cX11_traveller 74 = .ok (.iconst 1, 1) := by decide +kernel
theorem dX11_traveller_75 : decode cX11_traveller 75 = .ok (.goto 4, 3) := by decide +kernel
theorem dX11_traveller_78 : decode cX11_traveller 78 = .ok (.iconst 0, 1) := by decide +kernel
theorem dX11_traveller_79 : decode cX11_traveller 79 = .ok (.invokevirtual 179, 3) := by decide +kernel
theorem dX11_traveller_82 : decode cX11_traveller 82 = .ok (.ireturn, 1) := by decide +kernel
theorem dX11_traveller_83 : decode cX11_traveller 83 = .ok (.aload_n 0, 1) := by decide +kernel
theorem dX11_traveller_84 : decode cX11_traveller 84 = .ok (.aload_n 0, 1) := by decide +kernel
theorem dX11_traveller_85 : decode cX11_traveller 85 = .ok (.getfield 79, 3) := by decide +kernel
theorem dX11_traveller_88 : decode cX11_traveller 88 = .ok (.iload_n 1, 1) := by decide +kernel
theorem dX11_traveller_89 : decode cX11_traveller 89 = .ok (.invokevirtual 261, 3) := by decide +kernel
theorem dX11_traveller_92 : decode cX11_traveller 92 = .ok (.invokevirtual 179, 3) := by decide +kernel
theorem dX11_traveller_95 : decode cX11_traveller 95 = .ok (.ireturn, 1) := by decide +kernel
theorem dX11_traveller_96 : decode cX11_traveller 96 = .ok (.aload_n 0, 1) := by decide +kernel
theorem dX11_traveller_97 : decode cX11_traveller 97 = .ok (.aload_n 0, 1) := by decide +kernel
theorem dX11_traveller_98 : decode cX11_traveller 98 = .ok (.getfield 79, 3) := by decide +kernel
theorem dX11_traveller_101 : decode cX11_traveller 101 = .ok (.iload_n 1, 1) := by decide +kernel
theorem dX11_traveller_102 : decode cX11_traveller 102 = .ok (.invokevirtual 264, 3) := by decide +kernel
theorem dX11_traveller_105 : decode cX11_traveller 105 = .ok (.invokevirtual 179, 3) := by decide +kernel
theorem dX11_traveller_108 : decode cX11_traveller 108 = .ok (.ireturn, 1) := by decide +kernel
theorem dX11_traveller_109 : decode cX11_traveller 109 = .ok (.aload_n 0, 1) := by decide +kernel
theorem dX11_traveller_110 : decode cX11_traveller 110 = .ok (.iconst 5, 1) := by decide +kernel
theorem dX11_traveller_111 : decode cX11_traveller 111 = .ok (.invokevirtual 137, 3) := by decide +kernel
theorem dX11_traveller_114 : decode cX11_traveller 114 = .ok (.ireturn, 1) := by decide +kernel
set_option maxRecDepth 100000 in
theorem c_X11_traveller (l : Launch) (E : xE) (a0 a1 a2 a3 a4 a5 a6 : Nat) {T0 : Nat → Int32} {J0_15 : Int64} {J0_16 : Int64} {T1 : Nat → Int32} {V2 : Nat → Int32} {V3 : Nat → Int32} {V4 : Nat → Int32} {V5 : Nat → Int32} {V6 : Nat → Int32} {u0_0 u0_1 u0_2 u0_3 u0_4 u0_5 u0_6 u0_7 u0_8 u0_9 u0_12 u0_13 u1_9 u1_13 u1_14 : Nat} {x1 : Int32} {x2 : Int32} {z : Int32 × (Nat → Int32)} (hf : f_X11_traveller T0 T1 V2 V3 V4 V5 V6 x1 x2 = some z) (sz : Nat) : Met l yX11_traveller (Cond.code yX11_traveller cX11_traveller 3 (some .int) :: gw) ({ frames := 3, cells := 0, slots := 0, locals := 66 }) (xPc E [.ref a0, .int x1, .int x2] [(a0, o11 T0 J0_15 J0_16 u0_0 u0_1 u0_2 u0_3 u0_4 u0_5 u0_6 u0_7 u0_8 u0_9 a1 u0_12 u0_13), (a1, o3 T1 a6 a2 u1_9 a3 a5 a4 u1_13 u1_14), (a2, ai E 5 V2), (a3, ai E 12 V3), (a4, ai E 12 V4), (a5, ai E 12 V5), (a6, ai E 36 V6)] sz) (xQi E z.1 [(a0, o11 T0 J0_15 J0_16 u0_0 u0_1 u0_2 u0_3 u0_4 u0_5 u0_6 u0_7 u0_8 u0_9 a1 u0_12 u0_13), (a1, o3 T1 a6 a2 u1_9 a3 a5 a4 u1_13 u1_14), (a2, ai E 5 V2), (a3, ai E 12 V3), (a4, ai E 12 V4), (a5, ai E 12 V5), (a6, ai E 36 V6)] [(a0, o11 z.2 J0_15 J0_16 u0_0 u0_1 u0_2 u0_3 u0_4 u0_5 u0_6 u0_7 u0_8 u0_9 a1 u0_12 u0_13), (a1, o3 T1 a6 a2 u1_9 a3 a5 a4 u1_13 u1_14), (a2, ai E 5 V2), (a3, ai E 12 V3), (a4, ai E 12 V4), (a5, ai E 12 V5), (a6, ai E 36 V6)] sz) 0 0 (va_A [(a0, o11 T0 J0_15 J0_16 u0_0 u0_1 u0_2 u0_3 u0_4 u0_5 u0_6 u0_7 u0_8 u0_9 a1 u0_12 u0_13), (a1, o3 T1 a6 a2 u1_9 a3 a5 a4 u1_13 u1_14), (a2, ai E 5 V2), (a3, ai E 12 V3), (a4, ai E 12 V4), (a5, ai E 12 V5), (a6, ai E 36 V6)] sz) := by
  refine xM_i (by decide +kernel) (Nat.le_of_ble_eq_true rfl) ?_
  intro p e s m args below meth c A Q hx hb hml hown htg hK hG hA ret0 H locs ls hP hD hS hl
  have ret : ∀ (z' : Int32 × (Nat → Int32)) {H : Heap} {locs : List Loc} {pc : Nat} {ls : Array Slot}, some z' = some z → narrow .int (.int z'.1) = .int z'.1 → va_P E.1 vwCl [(a0, o11 z'.2 J0_15 J0_16 u0_0 u0_1 u0_2 u0_3 u0_4 u0_5 u0_6 u0_7 u0_8 u0_9 a1 u0_12 u0_13), (a1, o3 T1 a6 a2 u1_9 a3 a5 a4 u1_13 u1_14), (a2, ai E 5 V2), (a3, ai E 12 V3), (a4, ai E 12 V4), (a5, ai E 12 V5), (a6, ai E 36 V6)] H → va_S A s.heap H locs → decode cX11_traveller pc = .ok (.ireturn, 1) → W p l e ({ frames := 3, cells := 0, slots := 0, locals := 66 } : Room) s m args below meth c H locs 0 0 Q (F0 m pc ls [.int z'.1]) := by
    intro z' H locs pc ls h
    cases h
    exact ret0
  replace hl : lv_has ls 3 [(0, .ref a0), (1, .int x1), (2, .int x2)] := hl
  have b79 : ∀ (s1 : Int32) (T0 : Nat → Int32) (H : Heap) (locs : List Loc) (ls : Array Slot), f_X11_traveller_79 T1 V2 V3 V4 V5 V6 x1 x2 s1 T0 = some z → va_P E.1 vwCl [(a0, o11 T0 J0_15 J0_16 u0_0 u0_1 u0_2 u0_3 u0_4 u0_5 u0_6 u0_7 u0_8 u0_9 a1 u0_12 u0_13), (a1, o3 T1 a6 a2 u1_9 a3 a5 a4 u1_13 u1_14), (a2, ai E 5 V2), (a3, ai E 12 V3), (a4, ai E 12 V4), (a5, ai E 12 V5), (a6, ai E 36 V6)] H → va_D A [(a0, o11 T0 J0_15 J0_16 u0_0 u0_1 u0_2 u0_3 u0_4 u0_5 u0_6 u0_7 u0_8 u0_9 a1 u0_12 u0_13), (a1, o3 T1 a6 a2 u1_9 a3 a5 a4 u1_13 u1_14), (a2, ai E 5 V2), (a3, ai E 12 V3), (a4, ai E 12 V4), (a5, ai E 12 V5), (a6, ai E 36 V6)] → va_S A s.heap H locs → lv_has ls 3 [] → W p l e ({ frames := 3, cells := 0, slots := 0, locals := 66 } : Room) s m args below meth c H locs 0 0 Q (F0 m 79 ls [.int s1, .ref a0]) := by
    intro s1 T0 H locs ls hf hP hD hS hl
    unfold f_X11_traveller_79 at hf
    obtain ⟨z79, hz79, hf⟩ := bind_s hf
    refine xV_iu hx hb hml hown htg L11_179 (c_X11_answer l E a0 hz79 _) ⟨⟨rfl, rfl⟩, Nat.le_of_ble_eq_true rfl, Nat.le_of_ble_eq_true rfl⟩ hK hG hA hP hD hS (is := [0]) (sel := [some 0, none, none, none, none, none, none]) (ws2 := [(a0, o11 z79.2 J0_15 J0_16 u0_0 u0_1 u0_2 u0_3 u0_4 u0_5 u0_6 u0_7 u0_8 u0_9 a1 u0_12 u0_13), (a1, o3 T1 a6 a2 u1_9 a3 a5 a4 u1_13 u1_14), (a2, ai E 5 V2), (a3, ai E 12 V3), (a4, ai E 12 V4), (a5, ai E 12 V5), (a6, ai E 36 V6)]) rfl rfl rfl rfl rfl (xrecv hK hP (q0 := 0) (ci := 11) rfl rfl) rfl hl.1 rfl (Nat.le_of_ble_eq_true rfl) dX11_traveller_79 (fun H locs hP hD hS => ?_)
    exact ret (z79.1, z79.2) hf nzi hP hS dX11_traveller_82
  unfold f_X11_traveller at hf
  refine lv_aload_n hx hb dX11_traveller_0 rfl (lv_at hl 0 rfl) ?_
  refine G11_79 hx hb htg hown hK hP 0 rfl dX11_traveller_1 ?_
  refine lv_iload_n hx hb dX11_traveller_4 rfl (lv_at hl 1 rfl) ?_
  obtain ⟨z5, hz5, hf⟩ := bind_s hf
  refine xV_ir hx hb hml hown htg L11_251 (c_X3_hasTraveller l E a1 hz5 _) ⟨⟨rfl, rfl⟩, Nat.le_of_ble_eq_true rfl, Nat.le_of_ble_eq_true rfl⟩ hK hG hA hP hD hS (is := [1]) rfl rfl (xrecv hK hP (q0 := 1) (ci := 3) rfl rfl) rfl hl.1 rfl (Nat.le_of_ble_eq_true rfl) dX11_traveller_5 (fun H locs hP hD hS => ?_)
  refine lv_if_ne (tgt := 17) hx hb dX11_traveller_8 (by decide) (fun c8 => ?_) (fun c8 => ?_)
  · have hf := it_f c8 hf
    refine lv_iload_n hx hb dX11_traveller_17 rfl (lv_at hl 2 rfl) ?_
    by_cases c18_0 : x2 = 0
    · have hf := it_t c18_0 hf
      refine xtabI (off := 30) (tgt := 48) hx hb c18_0 dX11_traveller_18 rfl (by decide) ?_
      refine lv_aload_n hx hb dX11_traveller_48 rfl (lv_at hl 0 rfl) ?_
      refine lv_aload_n hx hb dX11_traveller_49 rfl (lv_at hl 0 rfl) ?_
      refine G11_79 hx hb htg hown hK hP 0 rfl dX11_traveller_50 ?_
      refine G11_254 hx hb htg hown hK hP 1 rfl dX11_traveller_53 ?_
      refine lv_iload_n hx hb dX11_traveller_56 rfl (lv_at hl 1 rfl) ?_
      obtain ⟨g57, hf⟩ := ck_s hf
      refine xiald hx hb hK hP 2 rfl g57 dX11_traveller_57 ?_
      obtain ⟨z58, hz58, hf⟩ := bind_s hf
      refine xV_iu hx hb hml hown htg L11_179 (c_X11_answer l E a0 hz58 _) ⟨⟨rfl, rfl⟩, Nat.le_of_ble_eq_true rfl, Nat.le_of_ble_eq_true rfl⟩ hK hG hA hP hD hS (is := [0]) (sel := [some 0, none, none, none, none, none, none]) (ws2 := [(a0, o11 z58.2 J0_15 J0_16 u0_0 u0_1 u0_2 u0_3 u0_4 u0_5 u0_6 u0_7 u0_8 u0_9 a1 u0_12 u0_13), (a1, o3 T1 a6 a2 u1_9 a3 a5 a4 u1_13 u1_14), (a2, ai E 5 V2), (a3, ai E 12 V3), (a4, ai E 12 V4), (a5, ai E 12 V5), (a6, ai E 36 V6)]) rfl rfl rfl rfl rfl (xrecv hK hP (q0 := 0) (ci := 11) rfl rfl) rfl hl.1 rfl (Nat.le_of_ble_eq_true rfl) dX11_traveller_58 (fun H locs hP hD hS => ?_)
      exact ret (z58.1, z58.2) hf nzi hP hS dX11_traveller_61
    have hf := it_f c18_0 hf
    by_cases c18_1 : x2 = 1
    · have hf := it_t c18_1 hf
      refine xtabI (off := 44) (tgt := 62) hx hb c18_1 dX11_traveller_18 rfl (by decide) ?_
      refine lv_aload_n hx hb dX11_traveller_62 rfl (lv_at hl 0 rfl) ?_
      refine lv_aload_n hx hb dX11_traveller_63 rfl (lv_at hl 0 rfl) ?_
      refine G11_79 hx hb htg hown hK hP 0 rfl dX11_traveller_64 ?_
      refine lv_iload_n hx hb dX11_traveller_67 rfl (lv_at hl 1 rfl) ?_
      obtain ⟨z68, hz68, hf⟩ := bind_s hf
      refine xV_ir hx hb hml hown htg L11_258 (c_X3_isHeard l E a1 hz68 _) ⟨⟨rfl, rfl⟩, Nat.le_of_ble_eq_true rfl, Nat.le_of_ble_eq_true rfl⟩ hK hG hA hP hD hS (is := [1]) rfl rfl (xrecv hK hP (q0 := 1) (ci := 3) rfl rfl) rfl hl.1 rfl (Nat.le_of_ble_eq_true rfl) dX11_traveller_68 (fun H locs hP hD hS => ?_)
      refine lv_if_eq (tgt := 78) hx hb dX11_traveller_71 (by decide) (fun c71 => ?_) (fun c71 => ?_)
      · have hf := it_t c71 hf
        refine lv_iconst (v := 0) hx hb dX11_traveller_78 rfl ?_
        exact b79 0 T0 _ _ _ hf hP hD hS (lv_sub hl [] rfl)
      · have hf := it_f c71 hf
        refine lv_iconst (v := 1) hx hb dX11_traveller_74 rfl ?_
        refine lv_goto (tgt := 79) hx hb dX11_traveller_75 (by decide) ?_
        exact b79 1 T0 _ _ _ hf hP hD hS (lv_sub hl [] rfl)
    have hf := it_f c18_1 hf
    by_cases c18_2 : x2 = 2
    · have hf := it_t c18_2 hf
      refine xtabI (off := 65) (tgt := 83) hx hb c18_2 dX11_traveller_18 rfl (by decide) ?_
      refine lv_aload_n hx hb dX11_traveller_83 rfl (lv_at hl 0 rfl) ?_
      refine lv_aload_n hx hb dX11_traveller_84 rfl (lv_at hl 0 rfl) ?_
      refine G11_79 hx hb htg hown hK hP 0 rfl dX11_traveller_85 ?_
      refine lv_iload_n hx hb dX11_traveller_88 rfl (lv_at hl 1 rfl) ?_
      obtain ⟨z89, hz89, hf⟩ := bind_s hf
      refine xV_ir hx hb hml hown htg L11_261 (c_X3_tellingsBy l E a1 a3 hz89 _) ⟨⟨rfl, rfl⟩, Nat.le_of_ble_eq_true rfl, Nat.le_of_ble_eq_true rfl⟩ hK hG hA hP hD hS (is := [1, 3]) rfl rfl (xrecv hK hP (q0 := 1) (ci := 3) rfl rfl) rfl hl.1 rfl (Nat.le_of_ble_eq_true rfl) dX11_traveller_89 (fun H locs hP hD hS => ?_)
      obtain ⟨z92, hz92, hf⟩ := bind_s hf
      refine xV_iu hx hb hml hown htg L11_179 (c_X11_answer l E a0 hz92 _) ⟨⟨rfl, rfl⟩, Nat.le_of_ble_eq_true rfl, Nat.le_of_ble_eq_true rfl⟩ hK hG hA hP hD hS (is := [0]) (sel := [some 0, none, none, none, none, none, none]) (ws2 := [(a0, o11 z92.2 J0_15 J0_16 u0_0 u0_1 u0_2 u0_3 u0_4 u0_5 u0_6 u0_7 u0_8 u0_9 a1 u0_12 u0_13), (a1, o3 T1 a6 a2 u1_9 a3 a5 a4 u1_13 u1_14), (a2, ai E 5 V2), (a3, ai E 12 V3), (a4, ai E 12 V4), (a5, ai E 12 V5), (a6, ai E 36 V6)]) rfl rfl rfl rfl rfl (xrecv hK hP (q0 := 0) (ci := 11) rfl rfl) rfl hl.1 rfl (Nat.le_of_ble_eq_true rfl) dX11_traveller_92 (fun H locs hP hD hS => ?_)
      exact ret (z92.1, z92.2) hf nzi hP hS dX11_traveller_95
    have hf := it_f c18_2 hf
    by_cases c18_3 : x2 = 3
    · have hf := it_t c18_3 hf
      refine xtabI (off := 78) (tgt := 96) hx hb c18_3 dX11_traveller_18 rfl (by decide) ?_
      refine lv_aload_n hx hb dX11_traveller_96 rfl (lv_at hl 0 rfl) ?_
      refine lv_aload_n hx hb dX11_traveller_97 rfl (lv_at hl 0 rfl) ?_
      refine G11_79 hx hb htg hown hK hP 0 rfl dX11_traveller_98 ?_
      refine lv_iload_n hx hb dX11_traveller_101 rfl (lv_at hl 1 rfl) ?_
      obtain ⟨z102, hz102, hf⟩ := bind_s hf
      refine xV_ir hx hb hml hown htg L11_264 (c_X3_falseBy l E a1 a3 a4 a5 a6 hz102 _) ⟨⟨rfl, rfl⟩, Nat.le_of_ble_eq_true rfl, Nat.le_of_ble_eq_true rfl⟩ hK hG hA hP hD hS (is := [1, 3, 4, 5, 6]) rfl rfl (xrecv hK hP (q0 := 1) (ci := 3) rfl rfl) rfl hl.1 rfl (Nat.le_of_ble_eq_true rfl) dX11_traveller_102 (fun H locs hP hD hS => ?_)
      obtain ⟨z105, hz105, hf⟩ := bind_s hf
      refine xV_iu hx hb hml hown htg L11_179 (c_X11_answer l E a0 hz105 _) ⟨⟨rfl, rfl⟩, Nat.le_of_ble_eq_true rfl, Nat.le_of_ble_eq_true rfl⟩ hK hG hA hP hD hS (is := [0]) (sel := [some 0, none, none, none, none, none, none]) (ws2 := [(a0, o11 z105.2 J0_15 J0_16 u0_0 u0_1 u0_2 u0_3 u0_4 u0_5 u0_6 u0_7 u0_8 u0_9 a1 u0_12 u0_13), (a1, o3 T1 a6 a2 u1_9 a3 a5 a4 u1_13 u1_14), (a2, ai E 5 V2), (a3, ai E 12 V3), (a4, ai E 12 V4), (a5, ai E 12 V5), (a6, ai E 36 V6)]) rfl rfl rfl rfl rfl (xrecv hK hP (q0 := 0) (ci := 11) rfl rfl) rfl hl.1 rfl (Nat.le_of_ble_eq_true rfl) dX11_traveller_105 (fun H locs hP hD hS => ?_)
      exact ret (z105.1, z105.2) hf nzi hP hS dX11_traveller_108
    have hf := it_f c18_3 hf
    refine xtabD (tgt := 109) (cs := [0, 1, 2, 3]) hx hb (by simp only [List.forall_mem_cons]; exact ⟨c18_0, c18_1, c18_2, c18_3, fun _ h => absurd h List.not_mem_nil⟩) rfl dX11_traveller_18 (by decide) ?_
    refine lv_aload_n hx hb dX11_traveller_109 rfl (lv_at hl 0 rfl) ?_
    refine lv_iconst (v := 5) hx hb dX11_traveller_110 rfl ?_
    obtain ⟨z111, hz111, hf⟩ := bind_s hf
    refine xV_iu hx hb hml hown htg L11_137 (c_X11_refused l E a0 hz111 _) ⟨⟨rfl, rfl⟩, Nat.le_of_ble_eq_true rfl, Nat.le_of_ble_eq_true rfl⟩ hK hG hA hP hD hS (is := [0]) (sel := [some 0, none, none, none, none, none, none]) (ws2 := [(a0, o11 z111.2 J0_15 J0_16 u0_0 u0_1 u0_2 u0_3 u0_4 u0_5 u0_6 u0_7 u0_8 u0_9 a1 u0_12 u0_13), (a1, o3 T1 a6 a2 u1_9 a3 a5 a4 u1_13 u1_14), (a2, ai E 5 V2), (a3, ai E 12 V3), (a4, ai E 12 V4), (a5, ai E 12 V5), (a6, ai E 36 V6)]) rfl rfl rfl rfl rfl (xrecv hK hP (q0 := 0) (ci := 11) rfl rfl) rfl hl.1 rfl (Nat.le_of_ble_eq_true rfl) dX11_traveller_111 (fun H locs hP hD hS => ?_)
    exact ret (z111.1, z111.2) hf nzi hP hS dX11_traveller_114
  · have hf := it_t c8 hf
    refine lv_aload_n hx hb dX11_traveller_11 rfl (lv_at hl 0 rfl) ?_
    refine lv_iconst (v := 2) hx hb dX11_traveller_12 rfl ?_
    obtain ⟨z13, hz13, hf⟩ := bind_s hf
    refine xV_iu hx hb hml hown htg L11_137 (c_X11_refused l E a0 hz13 _) ⟨⟨rfl, rfl⟩, Nat.le_of_ble_eq_true rfl, Nat.le_of_ble_eq_true rfl⟩ hK hG hA hP hD hS (is := [0]) (sel := [some 0, none, none, none, none, none, none]) (ws2 := [(a0, o11 z13.2 J0_15 J0_16 u0_0 u0_1 u0_2 u0_3 u0_4 u0_5 u0_6 u0_7 u0_8 u0_9 a1 u0_12 u0_13), (a1, o3 T1 a6 a2 u1_9 a3 a5 a4 u1_13 u1_14), (a2, ai E 5 V2), (a3, ai E 12 V3), (a4, ai E 12 V4), (a5, ai E 12 V5), (a6, ai E 36 V6)]) rfl rfl rfl rfl rfl (xrecv hK hP (q0 := 0) (ci := 11) rfl rfl) rfl hl.1 rfl (Nat.le_of_ble_eq_true rfl) dX11_traveller_13 (fun H locs hP hD hS => ?_)
    exact ret (z13.1, z13.2) hf nzi hP hS dX11_traveller_16
theorem dX11_telling_0 : decode cX11_telling 0 = .ok (.iload_n 1, 1) := by decide +kernel
theorem dX11_telling_1 : decode cX11_telling 1 = .ok (.iconst 0, 1) := by decide +kernel
theorem dX11_telling_2 : decode cX11_telling 2 = .ok (.aload_n 0, 1) := by decide +kernel
theorem dX11_telling_3 : decode cX11_telling 3 = .ok (.getfield 79, 3) := by decide +kernel
theorem dX11_telling_6 : decode cX11_telling 6 = .ok (.getfield 205, 3) := by decide +kernel
theorem dX11_telling_9 : decode cX11_telling 9 = .ok (.iconst 1, 1) := by decide +kernel
theorem dX11_telling_10 : decode cX11_telling 10 = .ok (.isub, 1) := by decide +kernel
theorem dX11_telling_11 : decode cX11_telling 11 = .ok (.invokestatic 114, 3) := by decide +kernel
theorem dX11_telling_14 : decode cX11_telling 14 = .ok (.ifCond .ne 9, 3) := by decide +kernel
theorem dX11_telling_17 : decode cX11_telling 17 = .ok (.aload_n 0, 1) := by decide +kernel
theorem dX11_telling_18 : decode cX11_telling 18 = .ok (.iconst 2, 1) := by decide +kernel
theorem dX11_telling_19 : decode cX11_telling 19 = .ok (.invokevirtual 137, 3) := by decide +kernel
theorem dX11_telling_22 : decode cX11_telling 22 = .ok (.ireturn, 1) := by decide +kernel
theorem dX11_telling_23 : decode cX11_telling 23 = .ok (.iload_n 2, 1) := by decide +kernel
theorem dX11_telling_24 : decode cX11_telling 24 = .ok (.tableswitch 88 0 3 #[32, 46, 60, 74], 32) := by decide +kernel
theorem dX11_telling_56 : decode cX11_telling 56 = .ok (.aload_n 0, 1) := by decide +kernel
theorem dX11_telling_57 : decode cX11_telling 57 = .ok (.aload_n 0, 1) := by decide +kernel
theorem dX11_telling_58 : decode cX11_telling 58 = .ok (.getfield 79, 3) := by decide +kernel
theorem dX11_telling_61 : decode cX11_telling 61 = .ok (.getfield 267, 3) := by decide +kernel
theorem dX11_telling_64 : decode cX11_telling 64 = .ok (.iload_n 1, 1) := by decide +kernel
theorem dX11_telling_65 : decode cX11_telling 65 = .ok (.iaload, 1) := by decide +kernel
theorem dX11_telling_66 : decode cX11_telling 66 = .ok (.invokevirtual 179, 3) := by decide +kernel
theorem dX11_telling_69 : decode cX11_telling 69 = .ok (.ireturn, 1) := by decide +kernel
theorem dX11_telling_70 : decode cX11_telling 70 = .ok (.aload_n 0, 1) := by decide +kernel
theorem dX11_telling_71 : decode cX11_telling 71 = .ok (.aload_n 0, 1) := by decide +kernel
theorem dX11_telling_72 : decode cX11_telling 72 = .ok (.getfield 79, 3) := by decide +kernel
theorem dX11_telling_75 : decode cX11_telling 75 = .ok (.getfield 270, 3) := by decide +kernel
theorem dX11_telling_78 : decode cX11_telling 78 = .ok (.iload_n 1, 1) := by decide +kernel
theorem dX11_telling_79 : decode cX11_telling 79 = .ok (.iaload, 1) := by decide +kernel
theorem dX11_telling_80 : decode cX11_telling 80 = .ok (.invokevirtual 179, 3) := by decide +kernel
theorem dX11_telling_83 : decode cX11_telling 83 = .ok (.ireturn, 1) := by decide +kernel
theorem dX11_telling_84 : decode cX11_telling 84 = .ok (.aload_n 0, 1) := by decide +kernel
theorem dX11_telling_85 : decode cX11_telling 85 = .ok (.aload_n 0, 1) := by decide +kernel
theorem dX11_telling_86 : decode cX11_telling 86 = .ok (.getfield 79, 3) := by decide +kernel
theorem dX11_telling_89 : decode cX11_telling 89 = .ok (.getfield 273, 3) := by decide +kernel
theorem dX11_telling_92 : decode cX11_telling 92 = .ok (.iload_n 1, 1) := by decide +kernel
theorem dX11_telling_93 : decode cX11_telling 93 = .ok (.iaload, 1) := by decide +kernel
theorem dX11_telling_94 : decode cX11_telling 94 = .ok (.invokevirtual 179, 3) := by decide +kernel
theorem dX11_telling_97 : decode cX11_telling 97 = .ok (.ireturn, 1) := by decide +kernel
theorem dX11_telling_98 : decode cX11_telling 98 = .ok (.aload_n 0, 1) := by decide +kernel
theorem dX11_telling_99 : decode cX11_telling 99 = .ok (.aload_n 0, 1) := by decide +kernel
theorem dX11_telling_100 : decode cX11_telling 100 = .ok (.getfield 79, 3) := by decide +kernel
theorem dX11_telling_103 : decode cX11_telling 103 = .ok (.getfield 276, 3) := by decide +kernel
theorem dX11_telling_106 : decode cX11_telling 106 = .ok (.iload_n 1, 1) := by decide +kernel
theorem dX11_telling_107 : decode cX11_telling 107 = .ok (.iaload, 1) := by decide +kernel
theorem dX11_telling_108 : decode cX11_telling 108 = .ok (.invokevirtual 179, 3) := by decide +kernel
theorem dX11_telling_111 : decode cX11_telling 111 = .ok (.ireturn, 1) := by decide +kernel
theorem dX11_telling_112 : decode cX11_telling 112 = .ok (.aload_n 0, 1) := by decide +kernel
theorem dX11_telling_113 : decode cX11_telling 113 = .ok (.iconst 5, 1) := by decide +kernel
theorem dX11_telling_114 : decode cX11_telling 114 = .ok (.invokevirtual 137, 3) := by decide +kernel
theorem dX11_telling_117 : decode cX11_telling 117 = .ok (.ireturn, 1) := by decide +kernel
set_option maxRecDepth 100000 in
theorem c_X11_telling (l : Launch) (E : xE) (a0 a1 a2 a3 a4 a5 : Nat) {T0 : Nat → Int32} {J0_15 : Int64} {J0_16 : Int64} {T1 : Nat → Int32} {V2 : Nat → Int32} {V3 : Nat → Int32} {V4 : Nat → Int32} {V5 : Nat → Int32} {u0_0 u0_1 u0_2 u0_3 u0_4 u0_5 u0_6 u0_7 u0_8 u0_9 u0_12 u0_13 u1_7 u1_8 u1_9 u1_14 : Nat} {x1 : Int32} {x2 : Int32} {z : Int32 × (Nat → Int32)} (hf : f_X11_telling T0 T1 V2 V3 V4 V5 x1 x2 = some z) (sz : Nat) : Met l yX11_telling (Cond.code yX11_telling cX11_telling 3 (some .int) :: gw) ({ frames := 1, cells := 0, slots := 0, locals := 22 }) (xPc E [.ref a0, .int x1, .int x2] [(a0, o11 T0 J0_15 J0_16 u0_0 u0_1 u0_2 u0_3 u0_4 u0_5 u0_6 u0_7 u0_8 u0_9 a1 u0_12 u0_13), (a1, o3 T1 u1_7 u1_8 u1_9 a2 a3 a4 a5 u1_14), (a2, ai E 12 V2), (a3, ai E 12 V3), (a4, ai E 12 V4), (a5, ai E 12 V5)] sz) (xQi E z.1 [(a0, o11 T0 J0_15 J0_16 u0_0 u0_1 u0_2 u0_3 u0_4 u0_5 u0_6 u0_7 u0_8 u0_9 a1 u0_12 u0_13), (a1, o3 T1 u1_7 u1_8 u1_9 a2 a3 a4 a5 u1_14), (a2, ai E 12 V2), (a3, ai E 12 V3), (a4, ai E 12 V4), (a5, ai E 12 V5)] [(a0, o11 z.2 J0_15 J0_16 u0_0 u0_1 u0_2 u0_3 u0_4 u0_5 u0_6 u0_7 u0_8 u0_9 a1 u0_12 u0_13), (a1, o3 T1 u1_7 u1_8 u1_9 a2 a3 a4 a5 u1_14), (a2, ai E 12 V2), (a3, ai E 12 V3), (a4, ai E 12 V4), (a5, ai E 12 V5)] sz) 0 0 (va_A [(a0, o11 T0 J0_15 J0_16 u0_0 u0_1 u0_2 u0_3 u0_4 u0_5 u0_6 u0_7 u0_8 u0_9 a1 u0_12 u0_13), (a1, o3 T1 u1_7 u1_8 u1_9 a2 a3 a4 a5 u1_14), (a2, ai E 12 V2), (a3, ai E 12 V3), (a4, ai E 12 V4), (a5, ai E 12 V5)] sz) := by
  refine xM_i (by decide +kernel) (Nat.le_of_ble_eq_true rfl) ?_
  intro p e s m args below meth c A Q hx hb hml hown htg hK hG hA ret0 H locs ls hP hD hS hl
  have ret : ∀ (z' : Int32 × (Nat → Int32)) {H : Heap} {locs : List Loc} {pc : Nat} {ls : Array Slot}, some z' = some z → narrow .int (.int z'.1) = .int z'.1 → va_P E.1 vwCl [(a0, o11 z'.2 J0_15 J0_16 u0_0 u0_1 u0_2 u0_3 u0_4 u0_5 u0_6 u0_7 u0_8 u0_9 a1 u0_12 u0_13), (a1, o3 T1 u1_7 u1_8 u1_9 a2 a3 a4 a5 u1_14), (a2, ai E 12 V2), (a3, ai E 12 V3), (a4, ai E 12 V4), (a5, ai E 12 V5)] H → va_S A s.heap H locs → decode cX11_telling pc = .ok (.ireturn, 1) → W p l e ({ frames := 1, cells := 0, slots := 0, locals := 22 } : Room) s m args below meth c H locs 0 0 Q (F0 m pc ls [.int z'.1]) := by
    intro z' H locs pc ls h
    cases h
    exact ret0
  replace hl : lv_has ls 3 [(0, .ref a0), (1, .int x1), (2, .int x2)] := hl
  unfold f_X11_telling at hf
  refine lv_iload_n hx hb dX11_telling_0 rfl (lv_at hl 1 rfl) ?_
  refine lv_iconst (v := 0) hx hb dX11_telling_1 rfl ?_
  refine lv_aload_n hx hb dX11_telling_2 rfl (lv_at hl 0 rfl) ?_
  refine G11_79 hx hb htg hown hK hP 0 rfl dX11_telling_3 ?_
  refine G11_205 hx hb htg hown hK hP 1 rfl dX11_telling_6 ?_
  refine lv_iconst (v := 1) hx hb dX11_telling_9 rfl ?_
  refine lv_isub hx hb dX11_telling_10 ?_
  obtain ⟨z11, hz11, hf⟩ := bind_s hf
  refine xS_ir hx hb hml hown htg L11_114 (c_X11_within l E hz11 _) ⟨⟨rfl, rfl⟩, Nat.le_of_ble_eq_true rfl, Nat.le_of_ble_eq_true rfl⟩ hK hG hA hP hD hS (is := []) rfl rfl rfl hl.1 rfl (Nat.le_of_ble_eq_true rfl) dX11_telling_11 (fun H locs hP hD hS => ?_)
  refine lv_if_ne (tgt := 23) hx hb dX11_telling_14 (by decide) (fun c14 => ?_) (fun c14 => ?_)
  · have hf := it_f c14 hf
    refine lv_iload_n hx hb dX11_telling_23 rfl (lv_at hl 2 rfl) ?_
    by_cases c24_0 : x2 = 0
    · have hf := it_t c24_0 hf
      refine xtabI (off := 32) (tgt := 56) hx hb c24_0 dX11_telling_24 rfl (by decide) ?_
      refine lv_aload_n hx hb dX11_telling_56 rfl (lv_at hl 0 rfl) ?_
      refine lv_aload_n hx hb dX11_telling_57 rfl (lv_at hl 0 rfl) ?_
      refine G11_79 hx hb htg hown hK hP 0 rfl dX11_telling_58 ?_
      refine G11_267 hx hb htg hown hK hP 1 rfl dX11_telling_61 ?_
      refine lv_iload_n hx hb dX11_telling_64 rfl (lv_at hl 1 rfl) ?_
      obtain ⟨g65, hf⟩ := ck_s hf
      refine xiald hx hb hK hP 2 rfl g65 dX11_telling_65 ?_
      obtain ⟨z66, hz66, hf⟩ := bind_s hf
      refine xV_iu hx hb hml hown htg L11_179 (c_X11_answer l E a0 hz66 _) ⟨⟨rfl, rfl⟩, Nat.le_of_ble_eq_true rfl, Nat.le_of_ble_eq_true rfl⟩ hK hG hA hP hD hS (is := [0]) (sel := [some 0, none, none, none, none, none]) (ws2 := [(a0, o11 z66.2 J0_15 J0_16 u0_0 u0_1 u0_2 u0_3 u0_4 u0_5 u0_6 u0_7 u0_8 u0_9 a1 u0_12 u0_13), (a1, o3 T1 u1_7 u1_8 u1_9 a2 a3 a4 a5 u1_14), (a2, ai E 12 V2), (a3, ai E 12 V3), (a4, ai E 12 V4), (a5, ai E 12 V5)]) rfl rfl rfl rfl rfl (xrecv hK hP (q0 := 0) (ci := 11) rfl rfl) rfl hl.1 rfl (Nat.le_of_ble_eq_true rfl) dX11_telling_66 (fun H locs hP hD hS => ?_)
      exact ret (z66.1, z66.2) hf nzi hP hS dX11_telling_69
    have hf := it_f c24_0 hf
    by_cases c24_1 : x2 = 1
    · have hf := it_t c24_1 hf
      refine xtabI (off := 46) (tgt := 70) hx hb c24_1 dX11_telling_24 rfl (by decide) ?_
      refine lv_aload_n hx hb dX11_telling_70 rfl (lv_at hl 0 rfl) ?_
      refine lv_aload_n hx hb dX11_telling_71 rfl (lv_at hl 0 rfl) ?_
      refine G11_79 hx hb htg hown hK hP 0 rfl dX11_telling_72 ?_
      refine G11_270 hx hb htg hown hK hP 1 rfl dX11_telling_75 ?_
      refine lv_iload_n hx hb dX11_telling_78 rfl (lv_at hl 1 rfl) ?_
      obtain ⟨g79, hf⟩ := ck_s hf
      refine xiald hx hb hK hP 3 rfl g79 dX11_telling_79 ?_
      obtain ⟨z80, hz80, hf⟩ := bind_s hf
      refine xV_iu hx hb hml hown htg L11_179 (c_X11_answer l E a0 hz80 _) ⟨⟨rfl, rfl⟩, Nat.le_of_ble_eq_true rfl, Nat.le_of_ble_eq_true rfl⟩ hK hG hA hP hD hS (is := [0]) (sel := [some 0, none, none, none, none, none]) (ws2 := [(a0, o11 z80.2 J0_15 J0_16 u0_0 u0_1 u0_2 u0_3 u0_4 u0_5 u0_6 u0_7 u0_8 u0_9 a1 u0_12 u0_13), (a1, o3 T1 u1_7 u1_8 u1_9 a2 a3 a4 a5 u1_14), (a2, ai E 12 V2), (a3, ai E 12 V3), (a4, ai E 12 V4), (a5, ai E 12 V5)]) rfl rfl rfl rfl rfl (xrecv hK hP (q0 := 0) (ci := 11) rfl rfl) rfl hl.1 rfl (Nat.le_of_ble_eq_true rfl) dX11_telling_80 (fun H locs hP hD hS => ?_)
      exact ret (z80.1, z80.2) hf nzi hP hS dX11_telling_83
    have hf := it_f c24_1 hf
    by_cases c24_2 : x2 = 2
    · have hf := it_t c24_2 hf
      refine xtabI (off := 60) (tgt := 84) hx hb c24_2 dX11_telling_24 rfl (by decide) ?_
      refine lv_aload_n hx hb dX11_telling_84 rfl (lv_at hl 0 rfl) ?_
      refine lv_aload_n hx hb dX11_telling_85 rfl (lv_at hl 0 rfl) ?_
      refine G11_79 hx hb htg hown hK hP 0 rfl dX11_telling_86 ?_
      refine G11_273 hx hb htg hown hK hP 1 rfl dX11_telling_89 ?_
      refine lv_iload_n hx hb dX11_telling_92 rfl (lv_at hl 1 rfl) ?_
      obtain ⟨g93, hf⟩ := ck_s hf
      refine xiald hx hb hK hP 4 rfl g93 dX11_telling_93 ?_
      obtain ⟨z94, hz94, hf⟩ := bind_s hf
      refine xV_iu hx hb hml hown htg L11_179 (c_X11_answer l E a0 hz94 _) ⟨⟨rfl, rfl⟩, Nat.le_of_ble_eq_true rfl, Nat.le_of_ble_eq_true rfl⟩ hK hG hA hP hD hS (is := [0]) (sel := [some 0, none, none, none, none, none]) (ws2 := [(a0, o11 z94.2 J0_15 J0_16 u0_0 u0_1 u0_2 u0_3 u0_4 u0_5 u0_6 u0_7 u0_8 u0_9 a1 u0_12 u0_13), (a1, o3 T1 u1_7 u1_8 u1_9 a2 a3 a4 a5 u1_14), (a2, ai E 12 V2), (a3, ai E 12 V3), (a4, ai E 12 V4), (a5, ai E 12 V5)]) rfl rfl rfl rfl rfl (xrecv hK hP (q0 := 0) (ci := 11) rfl rfl) rfl hl.1 rfl (Nat.le_of_ble_eq_true rfl) dX11_telling_94 (fun H locs hP hD hS => ?_)
      exact ret (z94.1, z94.2) hf nzi hP hS dX11_telling_97
    have hf := it_f c24_2 hf
    by_cases c24_3 : x2 = 3
    · have hf := it_t c24_3 hf
      refine xtabI (off := 74) (tgt := 98) hx hb c24_3 dX11_telling_24 rfl (by decide) ?_
      refine lv_aload_n hx hb dX11_telling_98 rfl (lv_at hl 0 rfl) ?_
      refine lv_aload_n hx hb dX11_telling_99 rfl (lv_at hl 0 rfl) ?_
      refine G11_79 hx hb htg hown hK hP 0 rfl dX11_telling_100 ?_
      refine G11_276 hx hb htg hown hK hP 1 rfl dX11_telling_103 ?_
      refine lv_iload_n hx hb dX11_telling_106 rfl (lv_at hl 1 rfl) ?_
      obtain ⟨g107, hf⟩ := ck_s hf
      refine xiald hx hb hK hP 5 rfl g107 dX11_telling_107 ?_
      obtain ⟨z108, hz108, hf⟩ := bind_s hf
      refine xV_iu hx hb hml hown htg L11_179 (c_X11_answer l E a0 hz108 _) ⟨⟨rfl, rfl⟩, Nat.le_of_ble_eq_true rfl, Nat.le_of_ble_eq_true rfl⟩ hK hG hA hP hD hS (is := [0]) (sel := [some 0, none, none, none, none, none]) (ws2 := [(a0, o11 z108.2 J0_15 J0_16 u0_0 u0_1 u0_2 u0_3 u0_4 u0_5 u0_6 u0_7 u0_8 u0_9 a1 u0_12 u0_13), (a1, o3 T1 u1_7 u1_8 u1_9 a2 a3 a4 a5 u1_14), (a2, ai E 12 V2), (a3, ai E 12 V3), (a4, ai E 12 V4), (a5, ai E 12 V5)]) rfl rfl rfl rfl rfl (xrecv hK hP (q0 := 0) (ci := 11) rfl rfl) rfl hl.1 rfl (Nat.le_of_ble_eq_true rfl) dX11_telling_108 (fun H locs hP hD hS => ?_)
      exact ret (z108.1, z108.2) hf nzi hP hS dX11_telling_111
    have hf := it_f c24_3 hf
    refine xtabD (tgt := 112) (cs := [0, 1, 2, 3]) hx hb (by simp only [List.forall_mem_cons]; exact ⟨c24_0, c24_1, c24_2, c24_3, fun _ h => absurd h List.not_mem_nil⟩) rfl dX11_telling_24 (by decide) ?_
    refine lv_aload_n hx hb dX11_telling_112 rfl (lv_at hl 0 rfl) ?_
    refine lv_iconst (v := 5) hx hb dX11_telling_113 rfl ?_
    obtain ⟨z114, hz114, hf⟩ := bind_s hf
    refine xV_iu hx hb hml hown htg L11_137 (c_X11_refused l E a0 hz114 _) ⟨⟨rfl, rfl⟩, Nat.le_of_ble_eq_true rfl, Nat.le_of_ble_eq_true rfl⟩ hK hG hA hP hD hS (is := [0]) (sel := [some 0, none, none, none, none, none]) (ws2 := [(a0, o11 z114.2 J0_15 J0_16 u0_0 u0_1 u0_2 u0_3 u0_4 u0_5 u0_6 u0_7 u0_8 u0_9 a1 u0_12 u0_13), (a1, o3 T1 u1_7 u1_8 u1_9 a2 a3 a4 a5 u1_14), (a2, ai E 12 V2), (a3, ai E 12 V3), (a4, ai E 12 V4), (a5, ai E 12 V5)]) rfl rfl rfl rfl rfl (xrecv hK hP (q0 := 0) (ci := 11) rfl rfl) rfl hl.1 rfl (Nat.le_of_ble_eq_true rfl) dX11_telling_114 (fun H locs hP hD hS => ?_)
    exact ret (z114.1, z114.2) hf nzi hP hS dX11_telling_117
  · have hf := it_t c14 hf
    refine lv_aload_n hx hb dX11_telling_17 rfl (lv_at hl 0 rfl) ?_
    refine lv_iconst (v := 2) hx hb dX11_telling_18 rfl ?_
    obtain ⟨z19, hz19, hf⟩ := bind_s hf
    refine xV_iu hx hb hml hown htg L11_137 (c_X11_refused l E a0 hz19 _) ⟨⟨rfl, rfl⟩, Nat.le_of_ble_eq_true rfl, Nat.le_of_ble_eq_true rfl⟩ hK hG hA hP hD hS (is := [0]) (sel := [some 0, none, none, none, none, none]) (ws2 := [(a0, o11 z19.2 J0_15 J0_16 u0_0 u0_1 u0_2 u0_3 u0_4 u0_5 u0_6 u0_7 u0_8 u0_9 a1 u0_12 u0_13), (a1, o3 T1 u1_7 u1_8 u1_9 a2 a3 a4 a5 u1_14), (a2, ai E 12 V2), (a3, ai E 12 V3), (a4, ai E 12 V4), (a5, ai E 12 V5)]) rfl rfl rfl rfl rfl (xrecv hK hP (q0 := 0) (ci := 11) rfl rfl) rfl hl.1 rfl (Nat.le_of_ble_eq_true rfl) dX11_telling_19 (fun H locs hP hD hS => ?_)
    exact ret (z19.1, z19.2) hf nzi hP hS dX11_telling_22
theorem dX11_copyChart_0 : decode cX11_copyChart 0 = .ok (.aload_n 0, 1) := by decide +kernel
theorem dX11_copyChart_1 : decode cX11_copyChart 1 = .ok (.getfield 10, 3) := by decide +kernel
theorem dX11_copyChart_4 : decode cX11_copyChart 4 = .ok (.iload_n 1, 1) := by decide +kernel
theorem dX11_copyChart_5 : decode cX11_copyChart 5 = .ok (.invokevirtual 110, 3) := by decide +kernel
theorem dX11_copyChart_8 : decode cX11_copyChart 8 = .ok (.ifCond .ne 9, 3) := by decide +kernel
theorem dX11_copyChart_11 : decode cX11_copyChart 11 = .ok (.aload_n 0, 1) := by decide +kernel
theorem dX11_copyChart_12 : decode cX11_copyChart 12 = .ok (.iconst 1, 1) := by decide +kernel
theorem dX11_copyChart_13 : decode cX11_copyChart 13 = .ok (.invokevirtual 137, 3) := by decide +kernel
theorem dX11_copyChart_16 : decode cX11_copyChart 16 = .ok (.ireturn, 1) := by decide +kernel
theorem dX11_copyChart_17 : decode cX11_copyChart 17 = .ok (.aload_n 0, 1) := by decide +kernel
theorem dX11_copyChart_18 : decode cX11_copyChart 18 = .ok (.getfield 10, 3) := by decide +kernel
theorem dX11_copyChart_21 : decode cX11_copyChart 21 = .ok (.iload_n 1, 1) := by decide +kernel
theorem dX11_copyChart_22 : decode cX11_copyChart 22 = .ok (.invokevirtual 145, 3) := by decide +kernel
theorem dX11_copyChart_25 : decode cX11_copyChart 25 = .ok (.ifCond .eq 9, 3) := by decide +kernel
theorem dX11_copyChart_28 : decode cX11_copyChart 28 = .ok (.aload_n 0, 1) := by decide +kernel
theorem dX11_copyChart_29 : decode cX11_copyChart 29 = .ok (.iconst 3, 1) := by decide +kernel
theorem dX11_copyChart_30 : decode cX11_copyChart 30 = .ok (.invokevirtual 137, 3) := by decide +kernel
theorem dX11_copyChart_33 : decode cX11_copyChart 33 = .ok (.ireturn, 1) := by decide +kernel
theorem dX11_copyChart_34 : decode cX11_copyChart 34 = .ok (.aload_n 0, 1) := by decide +kernel
theorem dX11_copyChart_35 : decode cX11_copyChart 35 = .ok (.getfield 79, 3) := by decide +kernel
theorem dX11_copyChart_38 : decode cX11_copyChart 38 = .ok (.invokevirtual 176, 3) := by decide +kernel
theorem dX11_copyChart_41 : decode cX11_copyChart 41 = .ok (.istore_n 2, 1) := by decide +kernel
theorem dX11_copyChart_42 : decode cX11_copyChart 42 = .ok (.aload_n 0, 1) := by decide +kernel
theorem dX11_copyChart_43 : decode cX11_copyChart 43 = .ok (.getfield 10, 3) := by decide +kernel
theorem dX11_copyChart_46 : decode cX11_copyChart 46 = .ok (.iload_n 1, 1) := by decide +kernel
theorem dX11_copyChart_47 : decode cX11_copyChart 47 = .ok (.iconst 0, 1) := by decide +kernel
theorem dX11_copyChart_48 : decode cX11_copyChart 48 = .ok (.iload_n 2, 1) := by decide +kernel
theorem dX11_copyChart_49 : decode cX11_copyChart 49 = .ok (.invokevirtual 151, 3) := by decide +kernel
theorem dX11_copyChart_52 : decode cX11_copyChart 52 = .ok (.ifCond .ne 9, 3) := by decide +kernel
theorem dX11_copyChart_55 : decode cX11_copyChart 55 = .ok (.aload_n 0, 1) := by decide +kernel
theorem dX11_copyChart_56 : decode cX11_copyChart 56 = .ok (.iconst 4, 1) := by decide +kernel
theorem dX11_copyChart_57 : decode cX11_copyChart 57 = .ok (.invokevirtual 137, 3) := by decide +kernel
theorem dX11_copyChart_60 : decode cX11_copyChart 60 = .ok (.ireturn, 1) := by decide +kernel
theorem dX11_copyChart_61 : decode cX11_copyChart 61 = .ok (.aload_n 0, 1) := by decide +kernel
theorem dX11_copyChart_62 : decode cX11_copyChart 62 = .ok (.getfield 40, 3) := by decide +kernel
theorem dX11_copyChart_65 : decode cX11_copyChart 65 = .ok (.aload_n 0, 1) := by decide +kernel
theorem dX11_copyChart_66 : decode cX11_copyChart 66 = .ok (.getfield 79, 3) := by decide +kernel
theorem dX11_copyChart_69 : decode cX11_copyChart 69 = .ok (.aload_n 0, 1) := by decide +kernel
theorem dX11_copyChart_70 : decode cX11_copyChart 70 = .ok (.getfield 79, 3) := by decide +kernel
theorem dX11_copyChart_73 : decode cX11_copyChart 73 = .ok (.getfield 214, 3) := by decide +kernel
theorem dX11_copyChart_76 : decode cX11_copyChart 76 = .ok (.invokevirtual 220, 3) := by decide +kernel
theorem dX11_copyChart_79 : decode cX11_copyChart 79 = .ok (.iconst 0, 1) := by decide +kernel
theorem dX11_copyChart_80 : decode cX11_copyChart 80 = .ok (.istore_n 3, 1) := by decide +kernel
theorem dX11_copyChart_81 : decode cX11_copyChart 81 = .ok (.iload_n 3, 1) := by decide +kernel
theorem dX11_copyChart_82 : decode cX11_copyChart 82 = .ok (.iload_n 2, 1) := by decide +kernel
theorem dX11_copyChart_83 : decode cX11_copyChart 83 = .ok (.if_icmp .ge 27, 3) := by decide +kernel
theorem dX11_copyChart_86 : decode cX11_copyChart 86 = .ok (.aload_n 0, 1) := by decide +kernel
theorem dX11_copyChart_87 : decode cX11_copyChart 87 = .ok (.getfield 10, 3) := by decide +kernel
theorem dX11_copyChart_90 : decode cX11_copyChart 90 = .ok (.iload_n 1, 1) := by decide +kernel
theorem dX11_copyChart_91 : decode cX11_copyChart 91 = .ok (.iload_n 3, 1) := by decide +kernel
theorem dX11_copyChart_92 : decode cX11_copyChart 92 = .ok (.aload_n 0, 1) := by decide +kernel
theorem dX11_copyChart_93 : decode cX11_copyChart 93 = .ok (.getfield 40, 3) := by decide +kernel
theorem dX11_copyChart_96 : decode cX11_copyChart 96 = .ok (.iload_n 3, 1) := by decide +kernel
theorem dX11_copyChart_97 : decode cX11_copyChart 97 = .ok (.invokevirtual 233, 3) := by decide +kernel
theorem dX11_copyChart_100 : decode cX11_copyChart 100 = .ok (.i2l, 1) := by decide +kernel
theorem dX11_copyChart_101 : decode cX11_copyChart 101 = .ok (.invokevirtual 133, 3) := by decide +kernel
theorem dX11_copyChart_104 : decode cX11_copyChart 104 = .ok (.iinc 3 1, 3) := by decide +kernel
theorem dX11_copyChart_107 : decode cX11_copyChart 107 = .ok (.goto (-26), 3) := by decide +kernel
theorem dX11_copyChart_110 : decode cX11_copyChart 110 = .ok (.aload_n 0, 1) := by decide +kernel
theorem dX11_copyChart_111 : decode cX11_copyChart 111 = .ok (.iload_n 2, 1) := by decide +kernel
theorem dX11_copyChart_112 : decode cX11_copyChart 112 = .ok (.invokevirtual 179, 3) := by decide +kernel
theorem dX11_copyChart_115 : decode cX11_copyChart 115 = .ok (.ireturn, 1) := by decide +kernel
set_option maxRecDepth 100000 in
theorem c_X11_copyChart (l : Launch) (E : xE) (a0 a1 a2 a3 a4 a5 a6 a7 a8 a9 a10 a11 a12 a13 a14 : Nat) {T0 : Nat → Int32} {J0_15 : Int64} {J0_16 : Int64} {V2 : Nat → Int32} {T3 : Nat → Int32} {V5 : Nat → Int32} {V6 : Nat → Int32} {V7 : Nat → Int32} {V8 : Nat → Int32} {V10 : Nat → Int64} {V11 : Nat → Int32} {V12 : Nat → Int64} {V13 : Nat → Int64} {V14 : Nat → Int64} {u0_1 u0_2 u0_3 u0_5 u0_6 u0_7 u0_8 u0_9 u0_12 u0_13 u3_7 u3_8 u3_9 u3_13 u3_14 : Nat} {x1 : Int32} {z : Int32 × (Nat → Int32) × (Nat → Int32) × (Nat → Int64) × (Nat → Int64) × (Nat → Int64) × (Nat → Int64)} (hf : f_X11_copyChart T0 V2 T3 V5 V6 V7 V8 V10 V11 V12 V13 V14 x1 = some z) (sz : Nat) : Met l yX11_copyChart (Cond.code yX11_copyChart cX11_copyChart 4 (some .int) :: gw) ({ frames := 5, cells := 0, slots := 0, locals := 111 }) (xPc E [.ref a0, .int x1] [(a0, o11 T0 J0_15 J0_16 a1 u0_1 u0_2 u0_3 a4 u0_5 u0_6 u0_7 u0_8 u0_9 a3 u0_12 u0_13), (a1, o9 a9 a11 a2), (a2, ai E 4 V2), (a3, o3 T3 u3_7 u3_8 u3_9 a8 a6 a7 u3_13 u3_14), (a4, o7 a5), (a5, ai E 144 V5), (a6, ai E 12 V6), (a7, ai E 12 V7), (a8, ai E 12 V8), (a9, aj E 4 (en [a10, a12, a13, a14])), (a10, al E 60 V10), (a11, ai E 4 V11), (a12, al E 60 V12), (a13, al E 60 V13), (a14, al E 60 V14)] sz) (xQi E z.1 [(a0, o11 T0 J0_15 J0_16 a1 u0_1 u0_2 u0_3 a4 u0_5 u0_6 u0_7 u0_8 u0_9 a3 u0_12 u0_13), (a1, o9 a9 a11 a2), (a2, ai E 4 V2), (a3, o3 T3 u3_7 u3_8 u3_9 a8 a6 a7 u3_13 u3_14), (a4, o7 a5), (a5, ai E 144 V5), (a6, ai E 12 V6), (a7, ai E 12 V7), (a8, ai E 12 V8), (a9, aj E 4 (en [a10, a12, a13, a14])), (a10, al E 60 V10), (a11, ai E 4 V11), (a12, al E 60 V12), (a13, al E 60 V13), (a14, al E 60 V14)] [(a0, o11 z.2.1 J0_15 J0_16 a1 u0_1 u0_2 u0_3 a4 u0_5 u0_6 u0_7 u0_8 u0_9 a3 u0_12 u0_13), (a1, o9 a9 a11 a2), (a2, ai E 4 V2), (a3, o3 T3 u3_7 u3_8 u3_9 a8 a6 a7 u3_13 u3_14), (a4, o7 a5), (a5, ai E 144 z.2.2.1), (a6, ai E 12 V6), (a7, ai E 12 V7), (a8, ai E 12 V8), (a9, aj E 4 (en [a10, a12, a13, a14])), (a10, al E 60 z.2.2.2.1), (a11, ai E 4 V11), (a12, al E 60 z.2.2.2.2.1), (a13, al E 60 z.2.2.2.2.2.1), (a14, al E 60 z.2.2.2.2.2.2)] sz) 0 0 (va_A [(a0, o11 T0 J0_15 J0_16 a1 u0_1 u0_2 u0_3 a4 u0_5 u0_6 u0_7 u0_8 u0_9 a3 u0_12 u0_13), (a1, o9 a9 a11 a2), (a2, ai E 4 V2), (a3, o3 T3 u3_7 u3_8 u3_9 a8 a6 a7 u3_13 u3_14), (a4, o7 a5), (a5, ai E 144 V5), (a6, ai E 12 V6), (a7, ai E 12 V7), (a8, ai E 12 V8), (a9, aj E 4 (en [a10, a12, a13, a14])), (a10, al E 60 V10), (a11, ai E 4 V11), (a12, al E 60 V12), (a13, al E 60 V13), (a14, al E 60 V14)] sz) := by
  refine xM_i (by decide +kernel) (Nat.le_of_ble_eq_true rfl) ?_
  intro p e s m args below meth c A Q hx hb hml hown htg hK hG hA ret0 H locs ls hP hD hS hl
  have ret : ∀ (z' : Int32 × (Nat → Int32) × (Nat → Int32) × (Nat → Int64) × (Nat → Int64) × (Nat → Int64) × (Nat → Int64)) {H : Heap} {locs : List Loc} {pc : Nat} {ls : Array Slot}, some z' = some z → narrow .int (.int z'.1) = .int z'.1 → va_P E.1 vwCl [(a0, o11 z'.2.1 J0_15 J0_16 a1 u0_1 u0_2 u0_3 a4 u0_5 u0_6 u0_7 u0_8 u0_9 a3 u0_12 u0_13), (a1, o9 a9 a11 a2), (a2, ai E 4 V2), (a3, o3 T3 u3_7 u3_8 u3_9 a8 a6 a7 u3_13 u3_14), (a4, o7 a5), (a5, ai E 144 z'.2.2.1), (a6, ai E 12 V6), (a7, ai E 12 V7), (a8, ai E 12 V8), (a9, aj E 4 (en [a10, a12, a13, a14])), (a10, al E 60 z'.2.2.2.1), (a11, ai E 4 V11), (a12, al E 60 z'.2.2.2.2.1), (a13, al E 60 z'.2.2.2.2.2.1), (a14, al E 60 z'.2.2.2.2.2.2)] H → va_S A s.heap H locs → decode cX11_copyChart pc = .ok (.ireturn, 1) → W p l e ({ frames := 5, cells := 0, slots := 0, locals := 111 } : Room) s m args below meth c H locs 0 0 Q (F0 m pc ls [.int z'.1]) := by
    intro z' H locs pc ls h
    cases h
    exact ret0
  replace hl : lv_has ls 4 [(0, .ref a0), (1, .int x1)] := hl
  have b81 : ∀ (n : Nat) (x2 : Int32) (x3 : Int32) (T0 : Nat → Int32) (V5 : Nat → Int32) (V10 : Nat → Int64) (V12 : Nat → Int64) (V13 : Nat → Int64) (V14 : Nat → Int64) (H : Heap) (locs : List Loc) (ls : Array Slot), f_X11_copyChart_81 V2 T3 V6 V7 V8 V11 x1 n x2 x3 T0 V5 V10 V12 V13 V14 = some z → va_P E.1 vwCl [(a0, o11 T0 J0_15 J0_16 a1 u0_1 u0_2 u0_3 a4 u0_5 u0_6 u0_7 u0_8 u0_9 a3 u0_12 u0_13), (a1, o9 a9 a11 a2), (a2, ai E 4 V2), (a3, o3 T3 u3_7 u3_8 u3_9 a8 a6 a7 u3_13 u3_14), (a4, o7 a5), (a5, ai E 144 V5), (a6, ai E 12 V6), (a7, ai E 12 V7), (a8, ai E 12 V8), (a9, aj E 4 (en [a10, a12, a13, a14])), (a10, al E 60 V10), (a11, ai E 4 V11), (a12, al E 60 V12), (a13, al E 60 V13), (a14, al E 60 V14)] H → va_D A [(a0, o11 T0 J0_15 J0_16 a1 u0_1 u0_2 u0_3 a4 u0_5 u0_6 u0_7 u0_8 u0_9 a3 u0_12 u0_13), (a1, o9 a9 a11 a2), (a2, ai E 4 V2), (a3, o3 T3 u3_7 u3_8 u3_9 a8 a6 a7 u3_13 u3_14), (a4, o7 a5), (a5, ai E 144 V5), (a6, ai E 12 V6), (a7, ai E 12 V7), (a8, ai E 12 V8), (a9, aj E 4 (en [a10, a12, a13, a14])), (a10, al E 60 V10), (a11, ai E 4 V11), (a12, al E 60 V12), (a13, al E 60 V13), (a14, al E 60 V14)] → va_S A s.heap H locs → lv_has ls 4 [(0, .ref a0), (1, .int x1), (2, .int x2), (3, .int x3)] → W p l e ({ frames := 5, cells := 0, slots := 0, locals := 111 } : Room) s m args below meth c H locs 0 0 Q (F0 m 81 ls []) := by
    intro n
    induction n with
    | zero => intro x2 x3 T0 V5 V10 V12 V13 V14 H locs ls hf; exact (nn_s hf).elim
    | succ n ih81 =>
      obtain ⟨k81, ek81⟩ : ∃ k, k = f_X11_copyChart_81 V2 T3 V6 V7 V8 V11 x1 n := ⟨_, rfl⟩
      rw [← ek81] at ih81
      intro x2 x3 T0 V5 V10 V12 V13 V14 H locs ls hf hP hD hS hl
      replace hf : g_X11_copyChart_81 V2 T3 V6 V7 V8 V11 x1 k81 x2 x3 T0 V5 V10 V12 V13 V14 = some z := by rw [ek81]; exact hf
      unfold g_X11_copyChart_81 at hf
      refine lv_iload_n hx hb dX11_copyChart_81 rfl (lv_at hl 3 rfl) ?_
      refine lv_iload_n hx hb dX11_copyChart_82 rfl (lv_at hl 2 rfl) ?_
      refine lv_icmp_ge (tgt := 110) hx hb dX11_copyChart_83 (by decide) (fun c83 => ?_) (fun c83 => ?_)
      · have hf := it_t c83 hf
        refine lv_aload_n hx hb dX11_copyChart_110 rfl (lv_at hl 0 rfl) ?_
        refine lv_iload_n hx hb dX11_copyChart_111 rfl (lv_at hl 2 rfl) ?_
        obtain ⟨z112, hz112, hf⟩ := bind_s hf
        refine xV_iu hx hb hml hown htg L11_179 (c_X11_answer l E a0 hz112 _) ⟨⟨rfl, rfl⟩, Nat.le_of_ble_eq_true rfl, Nat.le_of_ble_eq_true rfl⟩ hK hG hA hP hD hS (is := [0]) (sel := [some 0, none, none, none, none, none, none, none, none, none, none, none, none, none, none]) (ws2 := [(a0, o11 z112.2 J0_15 J0_16 a1 u0_1 u0_2 u0_3 a4 u0_5 u0_6 u0_7 u0_8 u0_9 a3 u0_12 u0_13), (a1, o9 a9 a11 a2), (a2, ai E 4 V2), (a3, o3 T3 u3_7 u3_8 u3_9 a8 a6 a7 u3_13 u3_14), (a4, o7 a5), (a5, ai E 144 V5), (a6, ai E 12 V6), (a7, ai E 12 V7), (a8, ai E 12 V8), (a9, aj E 4 (en [a10, a12, a13, a14])), (a10, al E 60 V10), (a11, ai E 4 V11), (a12, al E 60 V12), (a13, al E 60 V13), (a14, al E 60 V14)]) rfl rfl rfl rfl rfl (xrecv hK hP (q0 := 0) (ci := 11) rfl rfl) rfl hl.1 rfl (Nat.le_of_ble_eq_true rfl) dX11_copyChart_112 (fun H locs hP hD hS => ?_)
        exact ret (z112.1, z112.2, V5, V10, V12, V13, V14) hf nzi hP hS dX11_copyChart_115
      · have hf := it_f c83 hf
        refine lv_aload_n hx hb dX11_copyChart_86 rfl (lv_at hl 0 rfl) ?_
        refine G11_10 hx hb htg hown hK hP 0 rfl dX11_copyChart_87 ?_
        refine lv_iload_n hx hb dX11_copyChart_90 rfl (lv_at hl 1 rfl) ?_
        refine lv_iload_n hx hb dX11_copyChart_91 rfl (lv_at hl 3 rfl) ?_
        refine lv_aload_n hx hb dX11_copyChart_92 rfl (lv_at hl 0 rfl) ?_
        refine G11_40 hx hb htg hown hK hP 0 rfl dX11_copyChart_93 ?_
        refine lv_iload_n hx hb dX11_copyChart_96 rfl (lv_at hl 3 rfl) ?_
        obtain ⟨z97, hz97, hf⟩ := bind_s hf
        refine xV_ir hx hb hml hown htg L11_233 (c_X7_drawnAs l E a4 a5 hz97 _) ⟨⟨rfl, rfl⟩, Nat.le_of_ble_eq_true rfl, Nat.le_of_ble_eq_true rfl⟩ hK hG hA hP hD hS (is := [4, 5]) rfl rfl (xrecv hK hP (q0 := 4) (ci := 7) rfl rfl) rfl hl.1 rfl (Nat.le_of_ble_eq_true rfl) dX11_copyChart_97 (fun H locs hP hD hS => ?_)
        refine lv_i2l hx hb dX11_copyChart_100 rfl ?_
        obtain ⟨z101, hz101, hf⟩ := bind_s hf
        refine xV_vu hx hb hml hown htg L11_133 (c_X9_put l E a1 a2 a9 a10 a11 a12 a13 a14 hz101 _) ⟨⟨rfl, rfl⟩, Nat.le_of_ble_eq_true rfl, Nat.le_of_ble_eq_true rfl⟩ hK hG hA hP hD hS (is := [1, 2, 9, 10, 11, 12, 13, 14]) (sel := [none, some 0, some 1, none, none, none, none, none, none, some 2, some 3, some 4, some 5, some 6, some 7]) (ws2 := [(a0, o11 T0 J0_15 J0_16 a1 u0_1 u0_2 u0_3 a4 u0_5 u0_6 u0_7 u0_8 u0_9 a3 u0_12 u0_13), (a1, o9 a9 a11 a2), (a2, ai E 4 V2), (a3, o3 T3 u3_7 u3_8 u3_9 a8 a6 a7 u3_13 u3_14), (a4, o7 a5), (a5, ai E 144 V5), (a6, ai E 12 V6), (a7, ai E 12 V7), (a8, ai E 12 V8), (a9, aj E 4 (en [a10, a12, a13, a14])), (a10, al E 60 z101.1), (a11, ai E 4 V11), (a12, al E 60 z101.2.1), (a13, al E 60 z101.2.2.1), (a14, al E 60 z101.2.2.2)]) rfl rfl rfl rfl rfl (xrecv hK hP (q0 := 1) (ci := 9) rfl rfl) rfl hl.1 rfl (Nat.le_of_ble_eq_true rfl) dX11_copyChart_101 (fun H locs hP hD hS => ?_)
        refine lv_iinc (v := x3 + 1) (lv' := [(3, .int (x3 + 1)), (0, .ref a0), (1, .int x1), (2, .int x2)]) hx hb dX11_copyChart_104 hl (k := 3) rfl rfl (by decide) rfl (fun ls hl => ?_)
        refine lv_goto (tgt := 81) hx hb dX11_copyChart_107 (by decide) ?_
        exact ih81 x2 (x3 + 1) T0 V5 z101.1 z101.2.1 z101.2.2.1 z101.2.2.2 _ _ _ hf hP hD hS (lv_sub hl [1, 2, 3, 0] rfl)
  unfold f_X11_copyChart at hf
  refine lv_aload_n hx hb dX11_copyChart_0 rfl (lv_at hl 0 rfl) ?_
  refine G11_10 hx hb htg hown hK hP 0 rfl dX11_copyChart_1 ?_
  refine lv_iload_n hx hb dX11_copyChart_4 rfl (lv_at hl 1 rfl) ?_
  obtain ⟨z5, hz5, hf⟩ := bind_s hf
  refine xV_ir hx hb hml hown htg L11_110 (c_X9_isTray l E a1 hz5 _) ⟨⟨rfl, rfl⟩, Nat.le_of_ble_eq_true rfl, Nat.le_of_ble_eq_true rfl⟩ hK hG hA hP hD hS (is := [1]) rfl rfl (xrecv hK hP (q0 := 1) (ci := 9) rfl rfl) rfl hl.1 rfl (Nat.le_of_ble_eq_true rfl) dX11_copyChart_5 (fun H locs hP hD hS => ?_)
  refine lv_if_ne (tgt := 17) hx hb dX11_copyChart_8 (by decide) (fun c8 => ?_) (fun c8 => ?_)
  · have hf := it_f c8 hf
    refine lv_aload_n hx hb dX11_copyChart_17 rfl (lv_at hl 0 rfl) ?_
    refine G11_10 hx hb htg hown hK hP 0 rfl dX11_copyChart_18 ?_
    refine lv_iload_n hx hb dX11_copyChart_21 rfl (lv_at hl 1 rfl) ?_
    obtain ⟨z22, hz22, hf⟩ := bind_s hf
    refine xV_ir hx hb hml hown htg L11_145 (c_X9_isMissing l E a1 a2 hz22 _) ⟨⟨rfl, rfl⟩, Nat.le_of_ble_eq_true rfl, Nat.le_of_ble_eq_true rfl⟩ hK hG hA hP hD hS (is := [1, 2]) rfl rfl (xrecv hK hP (q0 := 1) (ci := 9) rfl rfl) rfl hl.1 rfl (Nat.le_of_ble_eq_true rfl) dX11_copyChart_22 (fun H locs hP hD hS => ?_)
    refine lv_if_eq (tgt := 34) hx hb dX11_copyChart_25 (by decide) (fun c25 => ?_) (fun c25 => ?_)
    · have hf := it_t c25 hf
      refine lv_aload_n hx hb dX11_copyChart_34 rfl (lv_at hl 0 rfl) ?_
      refine G11_79 hx hb htg hown hK hP 0 rfl dX11_copyChart_35 ?_
      obtain ⟨z38, hz38, hf⟩ := bind_s hf
      refine xV_ir hx hb hml hown htg L11_176 (c_X3_cellCount l E a3 hz38 _) ⟨⟨rfl, rfl⟩, Nat.le_of_ble_eq_true rfl, Nat.le_of_ble_eq_true rfl⟩ hK hG hA hP hD hS (is := [3]) rfl rfl (xrecv hK hP (q0 := 3) (ci := 3) rfl rfl) rfl hl.1 rfl (Nat.le_of_ble_eq_true rfl) dX11_copyChart_38 (fun H locs hP hD hS => ?_)
      refine lv_istore_n (lv' := [(2, .int z38), (0, .ref a0), (1, .int x1)]) hx hb dX11_copyChart_41 rfl hl (by decide) rfl (fun ls hl => ?_)
      refine lv_aload_n hx hb dX11_copyChart_42 rfl (lv_at hl 1 rfl) ?_
      refine G11_10 hx hb htg hown hK hP 0 rfl dX11_copyChart_43 ?_
      refine lv_iload_n hx hb dX11_copyChart_46 rfl (lv_at hl 2 rfl) ?_
      refine lv_iconst (v := 0) hx hb dX11_copyChart_47 rfl ?_
      refine lv_iload_n hx hb dX11_copyChart_48 rfl (lv_at hl 0 rfl) ?_
      obtain ⟨z49, hz49, hf⟩ := bind_s hf
      refine xV_ir hx hb hml hown htg L11_151 (c_X9_hasPlaces l E a1 a2 hz49 _) ⟨⟨rfl, rfl⟩, Nat.le_of_ble_eq_true rfl, Nat.le_of_ble_eq_true rfl⟩ hK hG hA hP hD hS (is := [1, 2]) rfl rfl (xrecv hK hP (q0 := 1) (ci := 9) rfl rfl) rfl hl.1 rfl (Nat.le_of_ble_eq_true rfl) dX11_copyChart_49 (fun H locs hP hD hS => ?_)
      refine lv_if_ne (tgt := 61) hx hb dX11_copyChart_52 (by decide) (fun c52 => ?_) (fun c52 => ?_)
      · have hf := it_f c52 hf
        refine lv_aload_n hx hb dX11_copyChart_61 rfl (lv_at hl 1 rfl) ?_
        refine G11_40 hx hb htg hown hK hP 0 rfl dX11_copyChart_62 ?_
        refine lv_aload_n hx hb dX11_copyChart_65 rfl (lv_at hl 1 rfl) ?_
        refine G11_79 hx hb htg hown hK hP 0 rfl dX11_copyChart_66 ?_
        refine lv_aload_n hx hb dX11_copyChart_69 rfl (lv_at hl 1 rfl) ?_
        refine G11_79 hx hb htg hown hK hP 0 rfl dX11_copyChart_70 ?_
        refine G11_214 hx hb htg hown hK hP 3 rfl dX11_copyChart_73 ?_
        obtain ⟨z76, hz76, hf⟩ := bind_s hf
        refine xV_vu hx hb hml hown htg L11_220 (c_X7_take l E a4 a3 a5 a6 a7 a8 hz76 _) ⟨⟨rfl, rfl⟩, Nat.le_of_ble_eq_true rfl, Nat.le_of_ble_eq_true rfl⟩ hK hG hA hP hD hS (is := [4, 3, 5, 6, 7, 8]) (sel := [none, none, none, some 1, some 0, some 2, some 3, some 4, some 5, none, none, none, none, none, none]) (ws2 := [(a0, o11 T0 J0_15 J0_16 a1 u0_1 u0_2 u0_3 a4 u0_5 u0_6 u0_7 u0_8 u0_9 a3 u0_12 u0_13), (a1, o9 a9 a11 a2), (a2, ai E 4 V2), (a3, o3 T3 u3_7 u3_8 u3_9 a8 a6 a7 u3_13 u3_14), (a4, o7 a5), (a5, ai E 144 z76), (a6, ai E 12 V6), (a7, ai E 12 V7), (a8, ai E 12 V8), (a9, aj E 4 (en [a10, a12, a13, a14])), (a10, al E 60 V10), (a11, ai E 4 V11), (a12, al E 60 V12), (a13, al E 60 V13), (a14, al E 60 V14)]) rfl rfl rfl rfl rfl (xrecv hK hP (q0 := 4) (ci := 7) rfl rfl) rfl hl.1 rfl (Nat.le_of_ble_eq_true rfl) dX11_copyChart_76 (fun H locs hP hD hS => ?_)
        refine lv_iconst (v := 0) hx hb dX11_copyChart_79 rfl ?_
        refine lv_istore_n (lv' := [(3, .int 0), (2, .int z38), (0, .ref a0), (1, .int x1)]) hx hb dX11_copyChart_80 rfl hl (by decide) rfl (fun ls hl => ?_)
        exact b81 xF z38 0 T0 z76 V10 V12 V13 V14 _ _ _ hf hP hD hS (lv_sub hl [2, 3, 1, 0] rfl)
      · have hf := it_t c52 hf
        refine lv_aload_n hx hb dX11_copyChart_55 rfl (lv_at hl 1 rfl) ?_
        refine lv_iconst (v := 4) hx hb dX11_copyChart_56 rfl ?_
        obtain ⟨z57, hz57, hf⟩ := bind_s hf
        refine xV_iu hx hb hml hown htg L11_137 (c_X11_refused l E a0 hz57 _) ⟨⟨rfl, rfl⟩, Nat.le_of_ble_eq_true rfl, Nat.le_of_ble_eq_true rfl⟩ hK hG hA hP hD hS (is := [0]) (sel := [some 0, none, none, none, none, none, none, none, none, none, none, none, none, none, none]) (ws2 := [(a0, o11 z57.2 J0_15 J0_16 a1 u0_1 u0_2 u0_3 a4 u0_5 u0_6 u0_7 u0_8 u0_9 a3 u0_12 u0_13), (a1, o9 a9 a11 a2), (a2, ai E 4 V2), (a3, o3 T3 u3_7 u3_8 u3_9 a8 a6 a7 u3_13 u3_14), (a4, o7 a5), (a5, ai E 144 V5), (a6, ai E 12 V6), (a7, ai E 12 V7), (a8, ai E 12 V8), (a9, aj E 4 (en [a10, a12, a13, a14])), (a10, al E 60 V10), (a11, ai E 4 V11), (a12, al E 60 V12), (a13, al E 60 V13), (a14, al E 60 V14)]) rfl rfl rfl rfl rfl (xrecv hK hP (q0 := 0) (ci := 11) rfl rfl) rfl hl.1 rfl (Nat.le_of_ble_eq_true rfl) dX11_copyChart_57 (fun H locs hP hD hS => ?_)
        exact ret (z57.1, z57.2, V5, V10, V12, V13, V14) hf nzi hP hS dX11_copyChart_60
    · have hf := it_f c25 hf
      refine lv_aload_n hx hb dX11_copyChart_28 rfl (lv_at hl 0 rfl) ?_
      refine lv_iconst (v := 3) hx hb dX11_copyChart_29 rfl ?_
      obtain ⟨z30, hz30, hf⟩ := bind_s hf
      refine xV_iu hx hb hml hown htg L11_137 (c_X11_refused l E a0 hz30 _) ⟨⟨rfl, rfl⟩, Nat.le_of_ble_eq_true rfl, Nat.le_of_ble_eq_true rfl⟩ hK hG hA hP hD hS (is := [0]) (sel := [some 0, none, none, none, none, none, none, none, none, none, none, none, none, none, none]) (ws2 := [(a0, o11 z30.2 J0_15 J0_16 a1 u0_1 u0_2 u0_3 a4 u0_5 u0_6 u0_7 u0_8 u0_9 a3 u0_12 u0_13), (a1, o9 a9 a11 a2), (a2, ai E 4 V2), (a3, o3 T3 u3_7 u3_8 u3_9 a8 a6 a7 u3_13 u3_14), (a4, o7 a5), (a5, ai E 144 V5), (a6, ai E 12 V6), (a7, ai E 12 V7), (a8, ai E 12 V8), (a9, aj E 4 (en [a10, a12, a13, a14])), (a10, al E 60 V10), (a11, ai E 4 V11), (a12, al E 60 V12), (a13, al E 60 V13), (a14, al E 60 V14)]) rfl rfl rfl rfl rfl (xrecv hK hP (q0 := 0) (ci := 11) rfl rfl) rfl hl.1 rfl (Nat.le_of_ble_eq_true rfl) dX11_copyChart_30 (fun H locs hP hD hS => ?_)
      exact ret (z30.1, z30.2, V5, V10, V12, V13, V14) hf nzi hP hS dX11_copyChart_33
  · have hf := it_t c8 hf
    refine lv_aload_n hx hb dX11_copyChart_11 rfl (lv_at hl 0 rfl) ?_
    refine lv_iconst (v := 1) hx hb dX11_copyChart_12 rfl ?_
    obtain ⟨z13, hz13, hf⟩ := bind_s hf
    refine xV_iu hx hb hml hown htg L11_137 (c_X11_refused l E a0 hz13 _) ⟨⟨rfl, rfl⟩, Nat.le_of_ble_eq_true rfl, Nat.le_of_ble_eq_true rfl⟩ hK hG hA hP hD hS (is := [0]) (sel := [some 0, none, none, none, none, none, none, none, none, none, none, none, none, none, none]) (ws2 := [(a0, o11 z13.2 J0_15 J0_16 a1 u0_1 u0_2 u0_3 a4 u0_5 u0_6 u0_7 u0_8 u0_9 a3 u0_12 u0_13), (a1, o9 a9 a11 a2), (a2, ai E 4 V2), (a3, o3 T3 u3_7 u3_8 u3_9 a8 a6 a7 u3_13 u3_14), (a4, o7 a5), (a5, ai E 144 V5), (a6, ai E 12 V6), (a7, ai E 12 V7), (a8, ai E 12 V8), (a9, aj E 4 (en [a10, a12, a13, a14])), (a10, al E 60 V10), (a11, ai E 4 V11), (a12, al E 60 V12), (a13, al E 60 V13), (a14, al E 60 V14)]) rfl rfl rfl rfl rfl (xrecv hK hP (q0 := 0) (ci := 11) rfl rfl) rfl hl.1 rfl (Nat.le_of_ble_eq_true rfl) dX11_copyChart_13 (fun H locs hP hD hS => ?_)
    exact ret (z13.1, z13.2, V5, V10, V12, V13, V14) hf nzi hP hS dX11_copyChart_16
theorem dX11_hear_0 : decode cX11_hear 0 = .ok (.aload_n 0, 1) := by decide +kernel
theorem dX11_hear_1 : decode cX11_hear 1 = .ok (.getfield 79, 3) := by decide +kernel
theorem dX11_hear_4 : decode cX11_hear 4 = .ok (.iload_n 1, 1) := by decide +kernel
theorem dX11_hear_5 : decode cX11_hear 5 = .ok (.invokevirtual 251, 3) := by decide +kernel
theorem dX11_hear_8 : decode cX11_hear 8 = .ok (.ifCond .ne 9, 3) := by decide +kernel
theorem dX11_hear_11 : decode cX11_hear 11 = .ok (.aload_n 0, 1) := by decide +kernel
theorem dX11_hear_12 : decode cX11_hear 12 = .ok (.iconst 2, 1) := by decide +kernel
theorem dX11_hear_13 : decode cX11_hear 13 = .ok (.invokevirtual 137, 3) := by decide +kernel
theorem dX11_hear_16 : decode cX11_hear 16 = .ok (.ireturn, 1) := by decide +kernel
theorem dX11_hear_17 : decode cX11_hear 17 = .ok (.aload_n 0, 1) := by decide +kernel
theorem dX11_hear_18 : decode cX11_hear 18 = .ok (.getfield 79, 3) := by decide +kernel
theorem dX11_hear_21 : decode cX11_hear 21 = .ok (.iload_n 1, 1) := by decide +kernel
theorem dX11_hear_22 : decode cX11_hear 22 = .ok (.iconst 1, 1) := by decide +kernel
theorem dX11_hear_23 : decode cX11_hear 23 = .ok (.invokevirtual 279, 3) := by decide +kernel
theorem dX11_hear_26 : decode cX11_hear 26 = .ok (.ifCond .eq 14, 3) := by decide +kernel
theorem dX11_hear_29 : decode cX11_hear 29 = .ok (.aload_n 0, 1) := by decide +kernel
theorem dX11_hear_30 : decode cX11_hear 30 = .ok (.aload_n 0, 1) := by decide +kernel
theorem dX11_hear_31 : decode cX11_hear 31 = .ok (.invokevirtual 217, 3) := by decide +kernel
theorem dX11_hear_34 : decode cX11_hear 34 = .ok (.invokevirtual 179, 3) := by decide +kernel
theorem dX11_hear_37 : decode cX11_hear 37 = .ok (.goto 9, 3) := by decide +kernel
theorem dX11_hear_40 : decode cX11_hear 40 = .ok (.aload_n 0, 1) := by decide +kernel
theorem dX11_hear_41 : decode cX11_hear 41 = .ok (.bipush 9, 2) := by decide +kernel
theorem dX11_hear_43 : decode cX11_hear 43 = .ok (.invokevirtual 137, 3) := by decide +kernel
theorem dX11_hear_46 : decode cX11_hear 46 = .ok (.ireturn, 1) := by decide +kernel
set_option maxRecDepth 100000 in
theorem c_X11_hear (l : Launch) (E : xE) (a0 a1 a2 a3 a4 a5 a6 : Nat) {T0 : Nat → Int32} {J0_15 : Int64} {J0_16 : Int64} {T1 : Nat → Int32} {V3 : Nat → Int32} {V4 : Nat → Int32} {V5 : Nat → Int32} {V6 : Nat → Int32} {u0_0 u0_1 u0_2 u0_3 u0_5 u0_6 u0_7 u0_8 u0_9 u0_12 u0_13 u1_7 u1_8 u1_9 u1_13 u1_14 : Nat} {x1 : Int32} {z : Int32 × (Nat → Int32) × (Nat → Int32) × (Nat → Int32)} (hf : f_X11_hear T0 T1 V3 V4 V5 V6 x1 = some z) (sz : Nat) : Met l yX11_hear (Cond.code yX11_hear cX11_hear 2 (some .int) :: gw) ({ frames := 3, cells := 0, slots := 0, locals := 69 }) (xPc E [.ref a0, .int x1] [(a0, o11 T0 J0_15 J0_16 u0_0 u0_1 u0_2 u0_3 a2 u0_5 u0_6 u0_7 u0_8 u0_9 a1 u0_12 u0_13), (a1, o3 T1 u1_7 u1_8 u1_9 a6 a4 a5 u1_13 u1_14), (a2, o7 a3), (a3, ai E 144 V3), (a4, ai E 12 V4), (a5, ai E 12 V5), (a6, ai E 12 V6)] sz) (xQi E z.1 [(a0, o11 T0 J0_15 J0_16 u0_0 u0_1 u0_2 u0_3 a2 u0_5 u0_6 u0_7 u0_8 u0_9 a1 u0_12 u0_13), (a1, o3 T1 u1_7 u1_8 u1_9 a6 a4 a5 u1_13 u1_14), (a2, o7 a3), (a3, ai E 144 V3), (a4, ai E 12 V4), (a5, ai E 12 V5), (a6, ai E 12 V6)] [(a0, o11 z.2.1 J0_15 J0_16 u0_0 u0_1 u0_2 u0_3 a2 u0_5 u0_6 u0_7 u0_8 u0_9 a1 u0_12 u0_13), (a1, o3 z.2.2.1 u1_7 u1_8 u1_9 a6 a4 a5 u1_13 u1_14), (a2, o7 a3), (a3, ai E 144 z.2.2.2), (a4, ai E 12 V4), (a5, ai E 12 V5), (a6, ai E 12 V6)] sz) 0 0 (va_A [(a0, o11 T0 J0_15 J0_16 u0_0 u0_1 u0_2 u0_3 a2 u0_5 u0_6 u0_7 u0_8 u0_9 a1 u0_12 u0_13), (a1, o3 T1 u1_7 u1_8 u1_9 a6 a4 a5 u1_13 u1_14), (a2, o7 a3), (a3, ai E 144 V3), (a4, ai E 12 V4), (a5, ai E 12 V5), (a6, ai E 12 V6)] sz) := by
  refine xM_i (by decide +kernel) (Nat.le_of_ble_eq_true rfl) ?_
  intro p e s m args below meth c A Q hx hb hml hown htg hK hG hA ret0 H locs ls hP hD hS hl
  have ret : ∀ (z' : Int32 × (Nat → Int32) × (Nat → Int32) × (Nat → Int32)) {H : Heap} {locs : List Loc} {pc : Nat} {ls : Array Slot}, some z' = some z → narrow .int (.int z'.1) = .int z'.1 → va_P E.1 vwCl [(a0, o11 z'.2.1 J0_15 J0_16 u0_0 u0_1 u0_2 u0_3 a2 u0_5 u0_6 u0_7 u0_8 u0_9 a1 u0_12 u0_13), (a1, o3 z'.2.2.1 u1_7 u1_8 u1_9 a6 a4 a5 u1_13 u1_14), (a2, o7 a3), (a3, ai E 144 z'.2.2.2), (a4, ai E 12 V4), (a5, ai E 12 V5), (a6, ai E 12 V6)] H → va_S A s.heap H locs → decode cX11_hear pc = .ok (.ireturn, 1) → W p l e ({ frames := 3, cells := 0, slots := 0, locals := 69 } : Room) s m args below meth c H locs 0 0 Q (F0 m pc ls [.int z'.1]) := by
    intro z' H locs pc ls h
    cases h
    exact ret0
  replace hl : lv_has ls 2 [(0, .ref a0), (1, .int x1)] := hl
  unfold f_X11_hear at hf
  refine lv_aload_n hx hb dX11_hear_0 rfl (lv_at hl 0 rfl) ?_
  refine G11_79 hx hb htg hown hK hP 0 rfl dX11_hear_1 ?_
  refine lv_iload_n hx hb dX11_hear_4 rfl (lv_at hl 1 rfl) ?_
  obtain ⟨z5, hz5, hf⟩ := bind_s hf
  refine xV_ir hx hb hml hown htg L11_251 (c_X3_hasTraveller l E a1 hz5 _) ⟨⟨rfl, rfl⟩, Nat.le_of_ble_eq_true rfl, Nat.le_of_ble_eq_true rfl⟩ hK hG hA hP hD hS (is := [1]) rfl rfl (xrecv hK hP (q0 := 1) (ci := 3) rfl rfl) rfl hl.1 rfl (Nat.le_of_ble_eq_true rfl) dX11_hear_5 (fun H locs hP hD hS => ?_)
  refine lv_if_ne (tgt := 17) hx hb dX11_hear_8 (by decide) (fun c8 => ?_) (fun c8 => ?_)
  · have hf := it_f c8 hf
    refine lv_aload_n hx hb dX11_hear_17 rfl (lv_at hl 0 rfl) ?_
    refine G11_79 hx hb htg hown hK hP 0 rfl dX11_hear_18 ?_
    refine lv_iload_n hx hb dX11_hear_21 rfl (lv_at hl 1 rfl) ?_
    refine lv_iconst (v := 1) hx hb dX11_hear_22 rfl ?_
    obtain ⟨z23, hz23, hf⟩ := bind_s hf
    refine xV_iu hx hb hml hown htg L11_279 (c_X3_setHeard l E a1 hz23 _) ⟨⟨rfl, rfl⟩, Nat.le_of_ble_eq_true rfl, Nat.le_of_ble_eq_true rfl⟩ hK hG hA hP hD hS (is := [1]) (sel := [none, some 0, none, none, none, none, none]) (ws2 := [(a0, o11 T0 J0_15 J0_16 u0_0 u0_1 u0_2 u0_3 a2 u0_5 u0_6 u0_7 u0_8 u0_9 a1 u0_12 u0_13), (a1, o3 z23.2 u1_7 u1_8 u1_9 a6 a4 a5 u1_13 u1_14), (a2, o7 a3), (a3, ai E 144 V3), (a4, ai E 12 V4), (a5, ai E 12 V5), (a6, ai E 12 V6)]) rfl rfl rfl rfl rfl (xrecv hK hP (q0 := 1) (ci := 3) rfl rfl) rfl hl.1 rfl (Nat.le_of_ble_eq_true rfl) dX11_hear_23 (fun H locs hP hD hS => ?_)
    refine lv_if_eq (tgt := 40) hx hb dX11_hear_26 (by decide) (fun c26 => ?_) (fun c26 => ?_)
    · have hf := it_t c26 hf
      refine lv_aload_n hx hb dX11_hear_40 rfl (lv_at hl 0 rfl) ?_
      refine lv_bipush (v := 9) hx hb dX11_hear_41 rfl ?_
      obtain ⟨z43, hz43, hf⟩ := bind_s hf
      refine xV_iu hx hb hml hown htg L11_137 (c_X11_refused l E a0 hz43 _) ⟨⟨rfl, rfl⟩, Nat.le_of_ble_eq_true rfl, Nat.le_of_ble_eq_true rfl⟩ hK hG hA hP hD hS (is := [0]) (sel := [some 0, none, none, none, none, none, none]) (ws2 := [(a0, o11 z43.2 J0_15 J0_16 u0_0 u0_1 u0_2 u0_3 a2 u0_5 u0_6 u0_7 u0_8 u0_9 a1 u0_12 u0_13), (a1, o3 z23.2 u1_7 u1_8 u1_9 a6 a4 a5 u1_13 u1_14), (a2, o7 a3), (a3, ai E 144 V3), (a4, ai E 12 V4), (a5, ai E 12 V5), (a6, ai E 12 V6)]) rfl rfl rfl rfl rfl (xrecv hK hP (q0 := 0) (ci := 11) rfl rfl) rfl hl.1 rfl (Nat.le_of_ble_eq_true rfl) dX11_hear_43 (fun H locs hP hD hS => ?_)
      exact ret (z43.1, z43.2, z23.2, V3) hf nzi hP hS dX11_hear_46
    · have hf := it_f c26 hf
      refine lv_aload_n hx hb dX11_hear_29 rfl (lv_at hl 0 rfl) ?_
      refine lv_aload_n hx hb dX11_hear_30 rfl (lv_at hl 0 rfl) ?_
      obtain ⟨z31, hz31, hf⟩ := bind_s hf
      refine xV_iu hx hb hml hown htg L11_217 (c_X11_knownNow l E a0 a2 a1 a3 a4 a5 a6 hz31 _) ⟨⟨rfl, rfl⟩, Nat.le_of_ble_eq_true rfl, Nat.le_of_ble_eq_true rfl⟩ hK hG hA hP hD hS (is := [0, 2, 1, 3, 4, 5, 6]) (sel := [some 0, some 2, some 1, some 3, some 4, some 5, some 6]) (ws2 := [(a0, o11 T0 J0_15 J0_16 u0_0 u0_1 u0_2 u0_3 a2 u0_5 u0_6 u0_7 u0_8 u0_9 a1 u0_12 u0_13), (a1, o3 z23.2 u1_7 u1_8 u1_9 a6 a4 a5 u1_13 u1_14), (a2, o7 a3), (a3, ai E 144 z31.2), (a4, ai E 12 V4), (a5, ai E 12 V5), (a6, ai E 12 V6)]) rfl rfl rfl rfl rfl (xrecv hK hP (q0 := 0) (ci := 11) rfl rfl) rfl hl.1 rfl (Nat.le_of_ble_eq_true rfl) dX11_hear_31 (fun H locs hP hD hS => ?_)
      obtain ⟨z34, hz34, hf⟩ := bind_s hf
      refine xV_iu hx hb hml hown htg L11_179 (c_X11_answer l E a0 hz34 _) ⟨⟨rfl, rfl⟩, Nat.le_of_ble_eq_true rfl, Nat.le_of_ble_eq_true rfl⟩ hK hG hA hP hD hS (is := [0]) (sel := [some 0, none, none, none, none, none, none]) (ws2 := [(a0, o11 z34.2 J0_15 J0_16 u0_0 u0_1 u0_2 u0_3 a2 u0_5 u0_6 u0_7 u0_8 u0_9 a1 u0_12 u0_13), (a1, o3 z23.2 u1_7 u1_8 u1_9 a6 a4 a5 u1_13 u1_14), (a2, o7 a3), (a3, ai E 144 z31.2), (a4, ai E 12 V4), (a5, ai E 12 V5), (a6, ai E 12 V6)]) rfl rfl rfl rfl rfl (xrecv hK hP (q0 := 0) (ci := 11) rfl rfl) rfl hl.1 rfl (Nat.le_of_ble_eq_true rfl) dX11_hear_34 (fun H locs hP hD hS => ?_)
      refine lv_goto (tgt := 46) hx hb dX11_hear_37 (by decide) ?_
      exact ret (z34.1, z34.2, z23.2, z31.2) hf nzi hP hS dX11_hear_46
  · have hf := it_t c8 hf
    refine lv_aload_n hx hb dX11_hear_11 rfl (lv_at hl 0 rfl) ?_
    refine lv_iconst (v := 2) hx hb dX11_hear_12 rfl ?_
    obtain ⟨z13, hz13, hf⟩ := bind_s hf
    refine xV_iu hx hb hml hown htg L11_137 (c_X11_refused l E a0 hz13 _) ⟨⟨rfl, rfl⟩, Nat.le_of_ble_eq_true rfl, Nat.le_of_ble_eq_true rfl⟩ hK hG hA hP hD hS (is := [0]) (sel := [some 0, none, none, none, none, none, none]) (ws2 := [(a0, o11 z13.2 J0_15 J0_16 u0_0 u0_1 u0_2 u0_3 a2 u0_5 u0_6 u0_7 u0_8 u0_9 a1 u0_12 u0_13), (a1, o3 T1 u1_7 u1_8 u1_9 a6 a4 a5 u1_13 u1_14), (a2, o7 a3), (a3, ai E 144 V3), (a4, ai E 12 V4), (a5, ai E 12 V5), (a6, ai E 12 V6)]) rfl rfl rfl rfl rfl (xrecv hK hP (q0 := 0) (ci := 11) rfl rfl) rfl hl.1 rfl (Nat.le_of_ble_eq_true rfl) dX11_hear_13 (fun H locs hP hD hS => ?_)
    exact ret (z13.1, z13.2, T1, V3) hf nzi hP hS dX11_hear_16
theorem dX11_forget_0 : decode cX11_forget 0 = .ok (.aload_n 0, 1) := by decide +kernel
theorem dX11_forget_1 : decode cX11_forget 1 = .ok (.getfield 79, 3) := by decide +kernel
theorem dX11_forget_4 : decode cX11_forget 4 = .ok (.iload_n 1, 1) := by decide +kernel
theorem dX11_forget_5 : decode cX11_forget 5 = .ok (.invokevirtual 251, 3) := by decide +kernel
theorem dX11_forget_8 : decode cX11_forget 8 = .ok (.ifCond .ne 9, 3) := by decide +kernel
theorem dX11_forget_11 : decode cX11_forget 11 = .ok (.aload_n 0, 1) := by decide +kernel
theorem dX11_forget_12 : decode cX11_forget 12 = .ok (.iconst 2, 1) := by decide +kernel
theorem dX11_forget_13 : decode cX11_forget 13 = .ok (.invokevirtual 137, 3) := by decide +kernel
theorem dX11_forget_16 : decode cX11_forget 16 = .ok (.ireturn, 1) := by decide +kernel
theorem dX11_forget_17 : decode cX11_forget 17 = .ok (.aload_n 0, 1) := by decide +kernel
theorem dX11_forget_18 : decode cX11_forget 18 = .ok (.getfield 79, 3) := by decide +kernel
theorem dX11_forget_21 : decode cX11_forget 21 = .ok (.iload_n 1, 1) := by decide +kernel
theorem dX11_forget_22 : decode cX11_forget 22 = .ok (.iconst 0, 1) := by decide +kernel
theorem dX11_forget_23 : decode cX11_forget 23 = .ok (.invokevirtual 279, 3) := by decide +kernel
theorem dX11_forget_26 : decode cX11_forget 26 = .ok (.ifCond .eq 14, 3) := by decide +kernel
theorem dX11_forget_29 : decode cX11_forget 29 = .ok (.aload_n 0, 1) := by decide +kernel
theorem dX11_forget_30 : decode cX11_forget 30 = .ok (.aload_n 0, 1) := by decide +kernel
theorem dX11_forget_31 : decode cX11_forget 31 = .ok (.invokevirtual 217, 3) := by decide +kernel
theorem dX11_forget_34 : decode cX11_forget 34 = .ok (.invokevirtual 179, 3) := by decide +kernel
theorem dX11_forget_37 : decode cX11_forget 37 = .ok (.goto 9, 3) := by decide +kernel
theorem dX11_forget_40 : decode cX11_forget 40 = .ok (.aload_n 0, 1) := by decide +kernel
theorem dX11_forget_41 : decode cX11_forget 41 = .ok (.bipush 9, 2) := by decide +kernel
theorem dX11_forget_43 : decode cX11_forget 43 = .ok (.invokevirtual 137, 3) := by decide +kernel
theorem dX11_forget_46 : decode cX11_forget 46 = .ok (.ireturn, 1) := by decide +kernel
set_option maxRecDepth 100000 in
theorem c_X11_forget (l : Launch) (E : xE) (a0 a1 a2 a3 a4 a5 a6 : Nat) {T0 : Nat → Int32} {J0_15 : Int64} {J0_16 : Int64} {T1 : Nat → Int32} {V3 : Nat → Int32} {V4 : Nat → Int32} {V5 : Nat → Int32} {V6 : Nat → Int32} {u0_0 u0_1 u0_2 u0_3 u0_5 u0_6 u0_7 u0_8 u0_9 u0_12 u0_13 u1_7 u1_8 u1_9 u1_13 u1_14 : Nat} {x1 : Int32} {z : Int32 × (Nat → Int32) × (Nat → Int32) × (Nat → Int32)} (hf : f_X11_forget T0 T1 V3 V4 V5 V6 x1 = some z) (sz : Nat) : Met l yX11_forget (Cond.code yX11_forget cX11_forget 2 (some .int) :: gw) ({ frames := 3, cells := 0, slots := 0, locals := 69 }) (xPc E [.ref a0, .int x1] [(a0, o11 T0 J0_15 J0_16 u0_0 u0_1 u0_2 u0_3 a2 u0_5 u0_6 u0_7 u0_8 u0_9 a1 u0_12 u0_13), (a1, o3 T1 u1_7 u1_8 u1_9 a6 a4 a5 u1_13 u1_14), (a2, o7 a3), (a3, ai E 144 V3), (a4, ai E 12 V4), (a5, ai E 12 V5), (a6, ai E 12 V6)] sz) (xQi E z.1 [(a0, o11 T0 J0_15 J0_16 u0_0 u0_1 u0_2 u0_3 a2 u0_5 u0_6 u0_7 u0_8 u0_9 a1 u0_12 u0_13), (a1, o3 T1 u1_7 u1_8 u1_9 a6 a4 a5 u1_13 u1_14), (a2, o7 a3), (a3, ai E 144 V3), (a4, ai E 12 V4), (a5, ai E 12 V5), (a6, ai E 12 V6)] [(a0, o11 z.2.1 J0_15 J0_16 u0_0 u0_1 u0_2 u0_3 a2 u0_5 u0_6 u0_7 u0_8 u0_9 a1 u0_12 u0_13), (a1, o3 z.2.2.1 u1_7 u1_8 u1_9 a6 a4 a5 u1_13 u1_14), (a2, o7 a3), (a3, ai E 144 z.2.2.2), (a4, ai E 12 V4), (a5, ai E 12 V5), (a6, ai E 12 V6)] sz) 0 0 (va_A [(a0, o11 T0 J0_15 J0_16 u0_0 u0_1 u0_2 u0_3 a2 u0_5 u0_6 u0_7 u0_8 u0_9 a1 u0_12 u0_13), (a1, o3 T1 u1_7 u1_8 u1_9 a6 a4 a5 u1_13 u1_14), (a2, o7 a3), (a3, ai E 144 V3), (a4, ai E 12 V4), (a5, ai E 12 V5), (a6, ai E 12 V6)] sz) := by
  refine xM_i (by decide +kernel) (Nat.le_of_ble_eq_true rfl) ?_
  intro p e s m args below meth c A Q hx hb hml hown htg hK hG hA ret0 H locs ls hP hD hS hl
  have ret : ∀ (z' : Int32 × (Nat → Int32) × (Nat → Int32) × (Nat → Int32)) {H : Heap} {locs : List Loc} {pc : Nat} {ls : Array Slot}, some z' = some z → narrow .int (.int z'.1) = .int z'.1 → va_P E.1 vwCl [(a0, o11 z'.2.1 J0_15 J0_16 u0_0 u0_1 u0_2 u0_3 a2 u0_5 u0_6 u0_7 u0_8 u0_9 a1 u0_12 u0_13), (a1, o3 z'.2.2.1 u1_7 u1_8 u1_9 a6 a4 a5 u1_13 u1_14), (a2, o7 a3), (a3, ai E 144 z'.2.2.2), (a4, ai E 12 V4), (a5, ai E 12 V5), (a6, ai E 12 V6)] H → va_S A s.heap H locs → decode cX11_forget pc = .ok (.ireturn, 1) → W p l e ({ frames := 3, cells := 0, slots := 0, locals := 69 } : Room) s m args below meth c H locs 0 0 Q (F0 m pc ls [.int z'.1]) := by
    intro z' H locs pc ls h
    cases h
    exact ret0
  replace hl : lv_has ls 2 [(0, .ref a0), (1, .int x1)] := hl
  unfold f_X11_forget at hf
  refine lv_aload_n hx hb dX11_forget_0 rfl (lv_at hl 0 rfl) ?_
  refine G11_79 hx hb htg hown hK hP 0 rfl dX11_forget_1 ?_
  refine lv_iload_n hx hb dX11_forget_4 rfl (lv_at hl 1 rfl) ?_
  obtain ⟨z5, hz5, hf⟩ := bind_s hf
  refine xV_ir hx hb hml hown htg L11_251 (c_X3_hasTraveller l E a1 hz5 _) ⟨⟨rfl, rfl⟩, Nat.le_of_ble_eq_true rfl, Nat.le_of_ble_eq_true rfl⟩ hK hG hA hP hD hS (is := [1]) rfl rfl (xrecv hK hP (q0 := 1) (ci := 3) rfl rfl) rfl hl.1 rfl (Nat.le_of_ble_eq_true rfl) dX11_forget_5 (fun H locs hP hD hS => ?_)
  refine lv_if_ne (tgt := 17) hx hb dX11_forget_8 (by decide) (fun c8 => ?_) (fun c8 => ?_)
  · have hf := it_f c8 hf
    refine lv_aload_n hx hb dX11_forget_17 rfl (lv_at hl 0 rfl) ?_
    refine G11_79 hx hb htg hown hK hP 0 rfl dX11_forget_18 ?_
    refine lv_iload_n hx hb dX11_forget_21 rfl (lv_at hl 1 rfl) ?_
    refine lv_iconst (v := 0) hx hb dX11_forget_22 rfl ?_
    obtain ⟨z23, hz23, hf⟩ := bind_s hf
    refine xV_iu hx hb hml hown htg L11_279 (c_X3_setHeard l E a1 hz23 _) ⟨⟨rfl, rfl⟩, Nat.le_of_ble_eq_true rfl, Nat.le_of_ble_eq_true rfl⟩ hK hG hA hP hD hS (is := [1]) (sel := [none, some 0, none, none, none, none, none]) (ws2 := [(a0, o11 T0 J0_15 J0_16 u0_0 u0_1 u0_2 u0_3 a2 u0_5 u0_6 u0_7 u0_8 u0_9 a1 u0_12 u0_13), (a1, o3 z23.2 u1_7 u1_8 u1_9 a6 a4 a5 u1_13 u1_14), (a2, o7 a3), (a3, ai E 144 V3), (a4, ai E 12 V4), (a5, ai E 12 V5), (a6, ai E 12 V6)]) rfl rfl rfl rfl rfl (xrecv hK hP (q0 := 1) (ci := 3) rfl rfl) rfl hl.1 rfl (Nat.le_of_ble_eq_true rfl) dX11_forget_23 (fun H locs hP hD hS => ?_)
    refine lv_if_eq (tgt := 40) hx hb dX11_forget_26 (by decide) (fun c26 => ?_) (fun c26 => ?_)
    · have hf := it_t c26 hf
      refine lv_aload_n hx hb dX11_forget_40 rfl (lv_at hl 0 rfl) ?_
      refine lv_bipush (v := 9) hx hb dX11_forget_41 rfl ?_
      obtain ⟨z43, hz43, hf⟩ := bind_s hf
      refine xV_iu hx hb hml hown htg L11_137 (c_X11_refused l E a0 hz43 _) ⟨⟨rfl, rfl⟩, Nat.le_of_ble_eq_true rfl, Nat.le_of_ble_eq_true rfl⟩ hK hG hA hP hD hS (is := [0]) (sel := [some 0, none, none, none, none, none, none]) (ws2 := [(a0, o11 z43.2 J0_15 J0_16 u0_0 u0_1 u0_2 u0_3 a2 u0_5 u0_6 u0_7 u0_8 u0_9 a1 u0_12 u0_13), (a1, o3 z23.2 u1_7 u1_8 u1_9 a6 a4 a5 u1_13 u1_14), (a2, o7 a3), (a3, ai E 144 V3), (a4, ai E 12 V4), (a5, ai E 12 V5), (a6, ai E 12 V6)]) rfl rfl rfl rfl rfl (xrecv hK hP (q0 := 0) (ci := 11) rfl rfl) rfl hl.1 rfl (Nat.le_of_ble_eq_true rfl) dX11_forget_43 (fun H locs hP hD hS => ?_)
      exact ret (z43.1, z43.2, z23.2, V3) hf nzi hP hS dX11_forget_46
    · have hf := it_f c26 hf
      refine lv_aload_n hx hb dX11_forget_29 rfl (lv_at hl 0 rfl) ?_
      refine lv_aload_n hx hb dX11_forget_30 rfl (lv_at hl 0 rfl) ?_
      obtain ⟨z31, hz31, hf⟩ := bind_s hf
      refine xV_iu hx hb hml hown htg L11_217 (c_X11_knownNow l E a0 a2 a1 a3 a4 a5 a6 hz31 _) ⟨⟨rfl, rfl⟩, Nat.le_of_ble_eq_true rfl, Nat.le_of_ble_eq_true rfl⟩ hK hG hA hP hD hS (is := [0, 2, 1, 3, 4, 5, 6]) (sel := [some 0, some 2, some 1, some 3, some 4, some 5, some 6]) (ws2 := [(a0, o11 T0 J0_15 J0_16 u0_0 u0_1 u0_2 u0_3 a2 u0_5 u0_6 u0_7 u0_8 u0_9 a1 u0_12 u0_13), (a1, o3 z23.2 u1_7 u1_8 u1_9 a6 a4 a5 u1_13 u1_14), (a2, o7 a3), (a3, ai E 144 z31.2), (a4, ai E 12 V4), (a5, ai E 12 V5), (a6, ai E 12 V6)]) rfl rfl rfl rfl rfl (xrecv hK hP (q0 := 0) (ci := 11) rfl rfl) rfl hl.1 rfl (Nat.le_of_ble_eq_true rfl) dX11_forget_31 (fun H locs hP hD hS => ?_)
      obtain ⟨z34, hz34, hf⟩ := bind_s hf
      refine xV_iu hx hb hml hown htg L11_179 (c_X11_answer l E a0 hz34 _) ⟨⟨rfl, rfl⟩, Nat.le_of_ble_eq_true rfl, Nat.le_of_ble_eq_true rfl⟩ hK hG hA hP hD hS (is := [0]) (sel := [some 0, none, none, none, none, none, none]) (ws2 := [(a0, o11 z34.2 J0_15 J0_16 u0_0 u0_1 u0_2 u0_3 a2 u0_5 u0_6 u0_7 u0_8 u0_9 a1 u0_12 u0_13), (a1, o3 z23.2 u1_7 u1_8 u1_9 a6 a4 a5 u1_13 u1_14), (a2, o7 a3), (a3, ai E 144 z31.2), (a4, ai E 12 V4), (a5, ai E 12 V5), (a6, ai E 12 V6)]) rfl rfl rfl rfl rfl (xrecv hK hP (q0 := 0) (ci := 11) rfl rfl) rfl hl.1 rfl (Nat.le_of_ble_eq_true rfl) dX11_forget_34 (fun H locs hP hD hS => ?_)
      refine lv_goto (tgt := 46) hx hb dX11_forget_37 (by decide) ?_
      exact ret (z34.1, z34.2, z23.2, z31.2) hf nzi hP hS dX11_forget_46
  · have hf := it_t c8 hf
    refine lv_aload_n hx hb dX11_forget_11 rfl (lv_at hl 0 rfl) ?_
    refine lv_iconst (v := 2) hx hb dX11_forget_12 rfl ?_
    obtain ⟨z13, hz13, hf⟩ := bind_s hf
    refine xV_iu hx hb hml hown htg L11_137 (c_X11_refused l E a0 hz13 _) ⟨⟨rfl, rfl⟩, Nat.le_of_ble_eq_true rfl, Nat.le_of_ble_eq_true rfl⟩ hK hG hA hP hD hS (is := [0]) (sel := [some 0, none, none, none, none, none, none]) (ws2 := [(a0, o11 z13.2 J0_15 J0_16 u0_0 u0_1 u0_2 u0_3 a2 u0_5 u0_6 u0_7 u0_8 u0_9 a1 u0_12 u0_13), (a1, o3 T1 u1_7 u1_8 u1_9 a6 a4 a5 u1_13 u1_14), (a2, o7 a3), (a3, ai E 144 V3), (a4, ai E 12 V4), (a5, ai E 12 V5), (a6, ai E 12 V6)]) rfl rfl rfl rfl rfl (xrecv hK hP (q0 := 0) (ci := 11) rfl rfl) rfl hl.1 rfl (Nat.le_of_ble_eq_true rfl) dX11_forget_13 (fun H locs hP hD hS => ?_)
    exact ret (z13.1, z13.2, T1, V3) hf nzi hP hS dX11_forget_16
theorem dX11_tell_0 : decode cX11_tell 0 = .ok (.aload_n 0, 1) := by decide +kernel
theorem dX11_tell_1 : decode cX11_tell 1 = .ok (.getfield 79, 3) := by decide +kernel
theorem dX11_tell_4 : decode cX11_tell 4 = .ok (.iload_n 1, 1) := by decide +kernel
theorem dX11_tell_5 : decode cX11_tell 5 = .ok (.invokevirtual 251, 3) := by decide +kernel
theorem dX11_tell_8 : decode cX11_tell 8 = .ok (.ifCond .eq 14, 3) := by decide +kernel
theorem dX11_tell_11 : decode cX11_tell 11 = .ok (.aload_n 0, 1) := by decide +kernel
theorem dX11_tell_12 : decode cX11_tell 12 = .ok (.getfield 79, 3) := by decide +kernel
theorem dX11_tell_15 : decode cX11_tell 15 = .ok (.iload_n 2, 1) := by decide +kernel
theorem dX11_tell_16 : decode cX11_tell 16 = .ok (.invokevirtual 227, 3) := by decide +kernel
theorem dX11_tell_19 : decode cX11_tell 19 = .ok (.ifCond .ne 9, 3) := by decide +kernel
theorem dX11_tell_22 : decode cX11_tell 22 = .ok (.aload_n 0, 1) := by decide +kernel
theorem dX11_tell_23 : decode cX11_tell 23 = .ok (.iconst 2, 1) := by decide +kernel
theorem dX11_tell_24 : decode cX11_tell 24 = .ok (.invokevirtual 137, 3) := by decide +kernel
theorem dX11_tell_27 : decode cX11_tell 27 = .ok (.ireturn, 1) := by decide +kernel
theorem dX11_tell_28 : decode cX11_tell 28 = .ok (.iload_n 3, 1) := by decide +kernel
theorem dX11_tell_29 : decode cX11_tell 29 = .ok (.invokestatic 245, 3) := by decide +kernel
theorem dX11_tell_32 : decode cX11_tell 32 = .ok (.ifCond .eq 14, 3) := by decide +kernel
theorem dX11_tell_35 : decode cX11_tell 35 = .ok (.iload 4, 2) := by decide +kernel
theorem dX11_tell_37 : decode cX11_tell 37 = .ok (.iconst 0, 1) := by decide +kernel
theorem dX11_tell_38 : decode cX11_tell 38 = .ok (.bipush 9, 2) := by decide +kernel
theorem dX11_tell_40 : decode cX11_tell 40 = .ok (.invokestatic 114, 3) := by decide +kernel
theorem dX11_tell_43 : decode cX11_tell 43 = .ok (.ifCond .ne 9, 3) := by decide +kernel
theorem dX11_tell_46 : decode cX11_tell 46 = .ok (.aload_n 0, 1) := by decide +kernel
theorem dX11_tell_47 : decode cX11_tell 47 = .ok (.iconst 5, 1) := by decide +kernel
theorem dX11_tell_48 : decode cX11_tell 48 = .ok (.invokevirtual 137, 3) := by decide +kernel
theorem dX11_tell_51 : decode cX11_tell 51 = .ok (.ireturn, 1) := by decide +kernel
theorem dX11_tell_52 : decode cX11_tell 52 = .ok (.aload_n 0, 1) := by decide +kernel
theorem dX11_tell_53 : decode cX11_tell 53 = .ok (.getfield 79, 3) := by decide +kernel
theorem dX11_tell_56 : decode cX11_tell 56 = .ok (.iload_n 1, 1) := by decide +kernel
theorem dX11_tell_57 : decode cX11_tell 57 = .ok (.iload_n 2, 1) := by decide +kernel
theorem dX11_tell_58 : decode cX11_tell 58 = .ok (.iload_n 3, 1) := by decide +kernel
theorem dX11_tell_59 : decode cX11_tell 59 = .ok (.iload 4, 2) := by decide +kernel
theorem dX11_tell_61 : decode cX11_tell 61 = .ok (.invokevirtual 283, 3) := by decide +kernel
theorem dX11_tell_64 : decode cX11_tell 64 = .ok (.ifCond .ne 10, 3) := by decide +kernel
theorem dX11_tell_67 : decode cX11_tell 67 = .ok (.aload_n 0, 1) := by decide +kernel
theorem dX11_tell_68 : decode cX11_tell 68 = .ok (.bipush 7, 2) := by decide +kernel
theorem dX11_tell_70 : decode cX11_tell 70 = .ok (.invokevirtual 137, 3) := by decide +kernel
theorem dX11_tell_73 : decode cX11_tell 73 = .ok (.ireturn, 1) := by decide +kernel
theorem dX11_tell_74 : decode cX11_tell 74 = .ok (.aload_n 0, 1) := by decide +kernel
theorem dX11_tell_75 : decode cX11_tell 75 = .ok (.aload_n 0, 1) := by decide +kernel
theorem dX11_tell_76 : decode cX11_tell 76 = .ok (.getfield 79, 3) := by decide +kernel
theorem dX11_tell_79 : decode cX11_tell 79 = .ok (.getfield 205, 3) := by decide +kernel
theorem dX11_tell_82 : decode cX11_tell 82 = .ok (.iconst 1, 1) := by decide +kernel
theorem dX11_tell_83 : decode cX11_tell 83 = .ok (.isub, 1) := by decide +kernel
theorem dX11_tell_84 : decode cX11_tell 84 = .ok (.invokevirtual 179, 3) := by decide +kernel
theorem dX11_tell_87 : decode cX11_tell 87 = .ok (.ireturn, 1) := by decide +kernel
set_option maxRecDepth 100000 in
theorem c_X11_tell (l : Launch) (E : xE) (a0 a1 a2 a3 a4 a5 : Nat) {T0 : Nat → Int32} {J0_15 : Int64} {J0_16 : Int64} {T1 : Nat → Int32} {V2 : Nat → Int32} {V3 : Nat → Int32} {V4 : Nat → Int32} {V5 : Nat → Int32} {u0_0 u0_1 u0_2 u0_3 u0_4 u0_5 u0_6 u0_7 u0_8 u0_9 u0_12 u0_13 u1_7 u1_8 u1_9 u1_14 : Nat} {x1 : Int32} {x2 : Int32} {x3 : Int32} {x4 : Int32} {z : Int32 × (Nat → Int32) × (Nat → Int32) × (Nat → Int32) × (Nat → Int32) × (Nat → Int32) × (Nat → Int32)} (hf : f_X11_tell T0 T1 V2 V3 V4 V5 x1 x2 x3 x4 = some z) (sz : Nat) : Met l yX11_tell (Cond.code yX11_tell cX11_tell 5 (some .int) :: gw) ({ frames := 2, cells := 0, slots := 0, locals := 47 }) (xPc E [.ref a0, .int x1, .int x2, .int x3, .int x4] [(a0, o11 T0 J0_15 J0_16 u0_0 u0_1 u0_2 u0_3 u0_4 u0_5 u0_6 u0_7 u0_8 u0_9 a1 u0_12 u0_13), (a1, o3 T1 u1_7 u1_8 u1_9 a3 a2 a4 a5 u1_14), (a2, ai E 12 V2), (a3, ai E 12 V3), (a4, ai E 12 V4), (a5, ai E 12 V5)] sz) (xQi E z.1 [(a0, o11 T0 J0_15 J0_16 u0_0 u0_1 u0_2 u0_3 u0_4 u0_5 u0_6 u0_7 u0_8 u0_9 a1 u0_12 u0_13), (a1, o3 T1 u1_7 u1_8 u1_9 a3 a2 a4 a5 u1_14), (a2, ai E 12 V2), (a3, ai E 12 V3), (a4, ai E 12 V4), (a5, ai E 12 V5)] [(a0, o11 z.2.1 J0_15 J0_16 u0_0 u0_1 u0_2 u0_3 u0_4 u0_5 u0_6 u0_7 u0_8 u0_9 a1 u0_12 u0_13), (a1, o3 z.2.2.1 u1_7 u1_8 u1_9 a3 a2 a4 a5 u1_14), (a2, ai E 12 z.2.2.2.1), (a3, ai E 12 z.2.2.2.2.1), (a4, ai E 12 z.2.2.2.2.2.1), (a5, ai E 12 z.2.2.2.2.2.2)] sz) 0 0 (va_A [(a0, o11 T0 J0_15 J0_16 u0_0 u0_1 u0_2 u0_3 u0_4 u0_5 u0_6 u0_7 u0_8 u0_9 a1 u0_12 u0_13), (a1, o3 T1 u1_7 u1_8 u1_9 a3 a2 a4 a5 u1_14), (a2, ai E 12 V2), (a3, ai E 12 V3), (a4, ai E 12 V4), (a5, ai E 12 V5)] sz) := by
  refine xM_i (by decide +kernel) (Nat.le_of_ble_eq_true rfl) ?_
  intro p e s m args below meth c A Q hx hb hml hown htg hK hG hA ret0 H locs ls hP hD hS hl
  have ret : ∀ (z' : Int32 × (Nat → Int32) × (Nat → Int32) × (Nat → Int32) × (Nat → Int32) × (Nat → Int32) × (Nat → Int32)) {H : Heap} {locs : List Loc} {pc : Nat} {ls : Array Slot}, some z' = some z → narrow .int (.int z'.1) = .int z'.1 → va_P E.1 vwCl [(a0, o11 z'.2.1 J0_15 J0_16 u0_0 u0_1 u0_2 u0_3 u0_4 u0_5 u0_6 u0_7 u0_8 u0_9 a1 u0_12 u0_13), (a1, o3 z'.2.2.1 u1_7 u1_8 u1_9 a3 a2 a4 a5 u1_14), (a2, ai E 12 z'.2.2.2.1), (a3, ai E 12 z'.2.2.2.2.1), (a4, ai E 12 z'.2.2.2.2.2.1), (a5, ai E 12 z'.2.2.2.2.2.2)] H → va_S A s.heap H locs → decode cX11_tell pc = .ok (.ireturn, 1) → W p l e ({ frames := 2, cells := 0, slots := 0, locals := 47 } : Room) s m args below meth c H locs 0 0 Q (F0 m pc ls [.int z'.1]) := by
    intro z' H locs pc ls h
    cases h
    exact ret0
  replace hl : lv_has ls 5 [(0, .ref a0), (1, .int x1), (2, .int x2), (3, .int x3), (4, .int x4)] := hl
  have b22 : ∀ (T0 : Nat → Int32) (T1 : Nat → Int32) (V2 : Nat → Int32) (V3 : Nat → Int32) (V4 : Nat → Int32) (V5 : Nat → Int32) (H : Heap) (locs : List Loc) (ls : Array Slot), f_X11_tell_22 x1 x2 x3 x4 T0 T1 V2 V3 V4 V5 = some z → va_P E.1 vwCl [(a0, o11 T0 J0_15 J0_16 u0_0 u0_1 u0_2 u0_3 u0_4 u0_5 u0_6 u0_7 u0_8 u0_9 a1 u0_12 u0_13), (a1, o3 T1 u1_7 u1_8 u1_9 a3 a2 a4 a5 u1_14), (a2, ai E 12 V2), (a3, ai E 12 V3), (a4, ai E 12 V4), (a5, ai E 12 V5)] H → va_D A [(a0, o11 T0 J0_15 J0_16 u0_0 u0_1 u0_2 u0_3 u0_4 u0_5 u0_6 u0_7 u0_8 u0_9 a1 u0_12 u0_13), (a1, o3 T1 u1_7 u1_8 u1_9 a3 a2 a4 a5 u1_14), (a2, ai E 12 V2), (a3, ai E 12 V3), (a4, ai E 12 V4), (a5, ai E 12 V5)] → va_S A s.heap H locs → lv_has ls 5 [(0, .ref a0)] → W p l e ({ frames := 2, cells := 0, slots := 0, locals := 47 } : Room) s m args below meth c H locs 0 0 Q (F0 m 22 ls []) := by
    intro T0 T1 V2 V3 V4 V5 H locs ls hf hP hD hS hl
    unfold f_X11_tell_22 at hf
    refine lv_aload_n hx hb dX11_tell_22 rfl (lv_at hl 0 rfl) ?_
    refine lv_iconst (v := 2) hx hb dX11_tell_23 rfl ?_
    obtain ⟨z24, hz24, hf⟩ := bind_s hf
    refine xV_iu hx hb hml hown htg L11_137 (c_X11_refused l E a0 hz24 _) ⟨⟨rfl, rfl⟩, Nat.le_of_ble_eq_true rfl, Nat.le_of_ble_eq_true rfl⟩ hK hG hA hP hD hS (is := [0]) (sel := [some 0, none, none, none, none, none]) (ws2 := [(a0, o11 z24.2 J0_15 J0_16 u0_0 u0_1 u0_2 u0_3 u0_4 u0_5 u0_6 u0_7 u0_8 u0_9 a1 u0_12 u0_13), (a1, o3 T1 u1_7 u1_8 u1_9 a3 a2 a4 a5 u1_14), (a2, ai E 12 V2), (a3, ai E 12 V3), (a4, ai E 12 V4), (a5, ai E 12 V5)]) rfl rfl rfl rfl rfl (xrecv hK hP (q0 := 0) (ci := 11) rfl rfl) rfl hl.1 rfl (Nat.le_of_ble_eq_true rfl) dX11_tell_24 (fun H locs hP hD hS => ?_)
    exact ret (z24.1, z24.2, T1, V2, V3, V4, V5) hf nzi hP hS dX11_tell_27
  have b46 : ∀ (T0 : Nat → Int32) (T1 : Nat → Int32) (V2 : Nat → Int32) (V3 : Nat → Int32) (V4 : Nat → Int32) (V5 : Nat → Int32) (H : Heap) (locs : List Loc) (ls : Array Slot), f_X11_tell_46 x1 x2 x3 x4 T0 T1 V2 V3 V4 V5 = some z → va_P E.1 vwCl [(a0, o11 T0 J0_15 J0_16 u0_0 u0_1 u0_2 u0_3 u0_4 u0_5 u0_6 u0_7 u0_8 u0_9 a1 u0_12 u0_13), (a1, o3 T1 u1_7 u1_8 u1_9 a3 a2 a4 a5 u1_14), (a2, ai E 12 V2), (a3, ai E 12 V3), (a4, ai E 12 V4), (a5, ai E 12 V5)] H → va_D A [(a0, o11 T0 J0_15 J0_16 u0_0 u0_1 u0_2 u0_3 u0_4 u0_5 u0_6 u0_7 u0_8 u0_9 a1 u0_12 u0_13), (a1, o3 T1 u1_7 u1_8 u1_9 a3 a2 a4 a5 u1_14), (a2, ai E 12 V2), (a3, ai E 12 V3), (a4, ai E 12 V4), (a5, ai E 12 V5)] → va_S A s.heap H locs → lv_has ls 5 [(0, .ref a0)] → W p l e ({ frames := 2, cells := 0, slots := 0, locals := 47 } : Room) s m args below meth c H locs 0 0 Q (F0 m 46 ls []) := by
    intro T0 T1 V2 V3 V4 V5 H locs ls hf hP hD hS hl
    unfold f_X11_tell_46 at hf
    refine lv_aload_n hx hb dX11_tell_46 rfl (lv_at hl 0 rfl) ?_
    refine lv_iconst (v := 5) hx hb dX11_tell_47 rfl ?_
    obtain ⟨z48, hz48, hf⟩ := bind_s hf
    refine xV_iu hx hb hml hown htg L11_137 (c_X11_refused l E a0 hz48 _) ⟨⟨rfl, rfl⟩, Nat.le_of_ble_eq_true rfl, Nat.le_of_ble_eq_true rfl⟩ hK hG hA hP hD hS (is := [0]) (sel := [some 0, none, none, none, none, none]) (ws2 := [(a0, o11 z48.2 J0_15 J0_16 u0_0 u0_1 u0_2 u0_3 u0_4 u0_5 u0_6 u0_7 u0_8 u0_9 a1 u0_12 u0_13), (a1, o3 T1 u1_7 u1_8 u1_9 a3 a2 a4 a5 u1_14), (a2, ai E 12 V2), (a3, ai E 12 V3), (a4, ai E 12 V4), (a5, ai E 12 V5)]) rfl rfl rfl rfl rfl (xrecv hK hP (q0 := 0) (ci := 11) rfl rfl) rfl hl.1 rfl (Nat.le_of_ble_eq_true rfl) dX11_tell_48 (fun H locs hP hD hS => ?_)
    exact ret (z48.1, z48.2, T1, V2, V3, V4, V5) hf nzi hP hS dX11_tell_51
  unfold f_X11_tell at hf
  refine lv_aload_n hx hb dX11_tell_0 rfl (lv_at hl 0 rfl) ?_
  refine G11_79 hx hb htg hown hK hP 0 rfl dX11_tell_1 ?_
  refine lv_iload_n hx hb dX11_tell_4 rfl (lv_at hl 1 rfl) ?_
  obtain ⟨z5, hz5, hf⟩ := bind_s hf
  refine xV_ir hx hb hml hown htg L11_251 (c_X3_hasTraveller l E a1 hz5 _) ⟨⟨rfl, rfl⟩, Nat.le_of_ble_eq_true rfl, Nat.le_of_ble_eq_true rfl⟩ hK hG hA hP hD hS (is := [1]) rfl rfl (xrecv hK hP (q0 := 1) (ci := 3) rfl rfl) rfl hl.1 rfl (Nat.le_of_ble_eq_true rfl) dX11_tell_5 (fun H locs hP hD hS => ?_)
  refine lv_if_eq (tgt := 22) hx hb dX11_tell_8 (by decide) (fun c8 => ?_) (fun c8 => ?_)
  · have hf := it_t c8 hf
    exact b22 T0 T1 V2 V3 V4 V5 _ _ _ hf hP hD hS (lv_sub hl [0] rfl)
  · have hf := it_f c8 hf
    refine lv_aload_n hx hb dX11_tell_11 rfl (lv_at hl 0 rfl) ?_
    refine G11_79 hx hb htg hown hK hP 0 rfl dX11_tell_12 ?_
    refine lv_iload_n hx hb dX11_tell_15 rfl (lv_at hl 2 rfl) ?_
    obtain ⟨z16, hz16, hf⟩ := bind_s hf
    refine xV_ir hx hb hml hown htg L11_227 (c_X3_hasCell l E a1 hz16 _) ⟨⟨rfl, rfl⟩, Nat.le_of_ble_eq_true rfl, Nat.le_of_ble_eq_true rfl⟩ hK hG hA hP hD hS (is := [1]) rfl rfl (xrecv hK hP (q0 := 1) (ci := 3) rfl rfl) rfl hl.1 rfl (Nat.le_of_ble_eq_true rfl) dX11_tell_16 (fun H locs hP hD hS => ?_)
    refine lv_if_ne (tgt := 28) hx hb dX11_tell_19 (by decide) (fun c19 => ?_) (fun c19 => ?_)
    · have hf := it_f c19 hf
      refine lv_iload_n hx hb dX11_tell_28 rfl (lv_at hl 3 rfl) ?_
      obtain ⟨z29, hz29, hf⟩ := bind_s hf
      refine xS_ir hx hb hml hown htg L11_245 (c_X11_isKind l E hz29 _) ⟨⟨rfl, rfl⟩, Nat.le_of_ble_eq_true rfl, Nat.le_of_ble_eq_true rfl⟩ hK hG hA hP hD hS (is := []) rfl rfl rfl hl.1 rfl (Nat.le_of_ble_eq_true rfl) dX11_tell_29 (fun H locs hP hD hS => ?_)
      refine lv_if_eq (tgt := 46) hx hb dX11_tell_32 (by decide) (fun c32 => ?_) (fun c32 => ?_)
      · have hf := it_t c32 hf
        exact b46 T0 T1 V2 V3 V4 V5 _ _ _ hf hP hD hS (lv_sub hl [0] rfl)
      · have hf := it_f c32 hf
        refine lv_iload hx hb dX11_tell_35 (lv_at hl 4 rfl) ?_
        refine lv_iconst (v := 0) hx hb dX11_tell_37 rfl ?_
        refine lv_bipush (v := 9) hx hb dX11_tell_38 rfl ?_
        obtain ⟨z40, hz40, hf⟩ := bind_s hf
        refine xS_ir hx hb hml hown htg L11_114 (c_X11_within l E hz40 _) ⟨⟨rfl, rfl⟩, Nat.le_of_ble_eq_true rfl, Nat.le_of_ble_eq_true rfl⟩ hK hG hA hP hD hS (is := []) rfl rfl rfl hl.1 rfl (Nat.le_of_ble_eq_true rfl) dX11_tell_40 (fun H locs hP hD hS => ?_)
        refine lv_if_ne (tgt := 52) hx hb dX11_tell_43 (by decide) (fun c43 => ?_) (fun c43 => ?_)
        · have hf := it_f c43 hf
          refine lv_aload_n hx hb dX11_tell_52 rfl (lv_at hl 0 rfl) ?_
          refine G11_79 hx hb htg hown hK hP 0 rfl dX11_tell_53 ?_
          refine lv_iload_n hx hb dX11_tell_56 rfl (lv_at hl 1 rfl) ?_
          refine lv_iload_n hx hb dX11_tell_57 rfl (lv_at hl 2 rfl) ?_
          refine lv_iload_n hx hb dX11_tell_58 rfl (lv_at hl 3 rfl) ?_
          refine lv_iload hx hb dX11_tell_59 (lv_at hl 4 rfl) ?_
          obtain ⟨z61, hz61, hf⟩ := bind_s hf
          refine xV_iu hx hb hml hown htg L11_283 (c_X3_addTelling l E a1 a2 a3 a4 a5 hz61 _) ⟨⟨rfl, rfl⟩, Nat.le_of_ble_eq_true rfl, Nat.le_of_ble_eq_true rfl⟩ hK hG hA hP hD hS (is := [1, 2, 3, 4, 5]) (sel := [none, some 0, some 1, some 2, some 3, some 4]) (ws2 := [(a0, o11 T0 J0_15 J0_16 u0_0 u0_1 u0_2 u0_3 u0_4 u0_5 u0_6 u0_7 u0_8 u0_9 a1 u0_12 u0_13), (a1, o3 z61.2.1 u1_7 u1_8 u1_9 a3 a2 a4 a5 u1_14), (a2, ai E 12 z61.2.2.1), (a3, ai E 12 z61.2.2.2.1), (a4, ai E 12 z61.2.2.2.2.1), (a5, ai E 12 z61.2.2.2.2.2)]) rfl rfl rfl rfl rfl (xrecv hK hP (q0 := 1) (ci := 3) rfl rfl) rfl hl.1 rfl (Nat.le_of_ble_eq_true rfl) dX11_tell_61 (fun H locs hP hD hS => ?_)
          refine lv_if_ne (tgt := 74) hx hb dX11_tell_64 (by decide) (fun c64 => ?_) (fun c64 => ?_)
          · have hf := it_f c64 hf
            refine lv_aload_n hx hb dX11_tell_74 rfl (lv_at hl 0 rfl) ?_
            refine lv_aload_n hx hb dX11_tell_75 rfl (lv_at hl 0 rfl) ?_
            refine G11_79 hx hb htg hown hK hP 0 rfl dX11_tell_76 ?_
            refine G11_205 hx hb htg hown hK hP 1 rfl dX11_tell_79 ?_
            refine lv_iconst (v := 1) hx hb dX11_tell_82 rfl ?_
            refine lv_isub hx hb dX11_tell_83 ?_
            obtain ⟨z84, hz84, hf⟩ := bind_s hf
            refine xV_iu hx hb hml hown htg L11_179 (c_X11_answer l E a0 hz84 _) ⟨⟨rfl, rfl⟩, Nat.le_of_ble_eq_true rfl, Nat.le_of_ble_eq_true rfl⟩ hK hG hA hP hD hS (is := [0]) (sel := [some 0, none, none, none, none, none]) (ws2 := [(a0, o11 z84.2 J0_15 J0_16 u0_0 u0_1 u0_2 u0_3 u0_4 u0_5 u0_6 u0_7 u0_8 u0_9 a1 u0_12 u0_13), (a1, o3 z61.2.1 u1_7 u1_8 u1_9 a3 a2 a4 a5 u1_14), (a2, ai E 12 z61.2.2.1), (a3, ai E 12 z61.2.2.2.1), (a4, ai E 12 z61.2.2.2.2.1), (a5, ai E 12 z61.2.2.2.2.2)]) rfl rfl rfl rfl rfl (xrecv hK hP (q0 := 0) (ci := 11) rfl rfl) rfl hl.1 rfl (Nat.le_of_ble_eq_true rfl) dX11_tell_84 (fun H locs hP hD hS => ?_)
            exact ret (z84.1, z84.2, z61.2.1, z61.2.2.1, z61.2.2.2.1, z61.2.2.2.2.1, z61.2.2.2.2.2) hf nzi hP hS dX11_tell_87
          · have hf := it_t c64 hf
            refine lv_aload_n hx hb dX11_tell_67 rfl (lv_at hl 0 rfl) ?_
            refine lv_bipush (v := 7) hx hb dX11_tell_68 rfl ?_
            obtain ⟨z70, hz70, hf⟩ := bind_s hf
            refine xV_iu hx hb hml hown htg L11_137 (c_X11_refused l E a0 hz70 _) ⟨⟨rfl, rfl⟩, Nat.le_of_ble_eq_true rfl, Nat.le_of_ble_eq_true rfl⟩ hK hG hA hP hD hS (is := [0]) (sel := [some 0, none, none, none, none, none]) (ws2 := [(a0, o11 z70.2 J0_15 J0_16 u0_0 u0_1 u0_2 u0_3 u0_4 u0_5 u0_6 u0_7 u0_8 u0_9 a1 u0_12 u0_13), (a1, o3 z61.2.1 u1_7 u1_8 u1_9 a3 a2 a4 a5 u1_14), (a2, ai E 12 z61.2.2.1), (a3, ai E 12 z61.2.2.2.1), (a4, ai E 12 z61.2.2.2.2.1), (a5, ai E 12 z61.2.2.2.2.2)]) rfl rfl rfl rfl rfl (xrecv hK hP (q0 := 0) (ci := 11) rfl rfl) rfl hl.1 rfl (Nat.le_of_ble_eq_true rfl) dX11_tell_70 (fun H locs hP hD hS => ?_)
            exact ret (z70.1, z70.2, z61.2.1, z61.2.2.1, z61.2.2.2.1, z61.2.2.2.2.1, z61.2.2.2.2.2) hf nzi hP hS dX11_tell_73
        · have hf := it_t c43 hf
          exact b46 T0 T1 V2 V3 V4 V5 _ _ _ hf hP hD hS (lv_sub hl [0] rfl)
    · have hf := it_t c19 hf
      exact b22 T0 T1 V2 V3 V4 V5 _ _ _ hf hP hD hS (lv_sub hl [0] rfl)
theorem dX11_come_0 : decode cX11_come 0 = .ok (.iload_n 1, 1) := by decide +kernel
theorem dX11_come_1 : decode cX11_come 1 = .ok (.iconst 0, 1) := by decide +kernel
theorem dX11_come_2 : decode cX11_come 2 = .ok (.bipush 16, 2) := by decide +kernel
theorem dX11_come_4 : decode cX11_come 4 = .ok (.invokestatic 114, 3) := by decide +kernel
theorem dX11_come_7 : decode cX11_come 7 = .ok (.ifCond .ne 9, 3) := by decide +kernel
theorem dX11_come_10 : decode cX11_come 10 = .ok (.aload_n 0, 1) := by decide +kernel
theorem dX11_come_11 : decode cX11_come 11 = .ok (.iconst 5, 1) := by decide +kernel
theorem dX11_come_12 : decode cX11_come 12 = .ok (.invokevirtual 137, 3) := by decide +kernel
theorem dX11_come_15 : decode cX11_come 15 = .ok (.ireturn, 1) := by decide +kernel
theorem dX11_come_16 : decode cX11_come 16 = .ok (.aload_n 0, 1) := by decide +kernel
theorem dX11_come_17 : decode cX11_come 17 = .ok (.getfield 79, 3) := by decide +kernel
theorem dX11_come_20 : decode cX11_come 20 = .ok (.lconst 0, 1) := by decide +kernel
theorem dX11_come_21 : decode cX11_come 21 = .ok (.iload_n 1, 1) := by decide +kernel
theorem dX11_come_22 : decode cX11_come 22 = .ok (.iconst 0, 1) := by decide +kernel
theorem dX11_come_23 : decode cX11_come 23 = .ok (.invokevirtual 287, 3) := by decide +kernel
theorem dX11_come_26 : decode cX11_come 26 = .ok (.ifCond .ne 10, 3) := by decide +kernel
theorem dX11_come_29 : decode cX11_come 29 = .ok (.aload_n 0, 1) := by decide +kernel
theorem dX11_come_30 : decode cX11_come 30 = .ok (.bipush 7, 2) := by decide +kernel
theorem dX11_come_32 : decode cX11_come 32 = .ok (.invokevirtual 137, 3) := by decide +kernel
theorem dX11_come_35 : decode cX11_come 35 = .ok (.ireturn, 1) := by decide +kernel
theorem dX11_come_36 : decode cX11_come 36 = .ok (.aload_n 0, 1) := by decide +kernel
theorem dX11_come_37 : decode cX11_come 37 = .ok (.aload_n 0, 1) := by decide +kernel
theorem dX11_come_38 : decode cX11_come 38 = .ok (.getfield 79, 3) := by decide +kernel
theorem dX11_come_41 : decode cX11_come 41 = .ok (.getfield 202, 3) := by decide +kernel
theorem dX11_come_44 : decode cX11_come 44 = .ok (.iconst 1, 1) := by decide +kernel
theorem dX11_come_45 : decode cX11_come 45 = .ok (.isub, 1) := by decide +kernel
theorem dX11_come_46 : decode cX11_come 46 = .ok (.invokevirtual 179, 3) := by decide +kernel
theorem dX11_come_49 : decode cX11_come 49 = .ok (.ireturn, 1) := by decide +kernel
set_option maxRecDepth 100000 in
theorem c_X11_come (l : Launch) (E : xE) (a0 a1 a2 a3 : Nat) {T0 : Nat → Int32} {J0_15 : Int64} {J0_16 : Int64} {T1 : Nat → Int32} {V2 : Nat → Int64} {V3 : Nat → Int32} {u0_0 u0_1 u0_2 u0_3 u0_4 u0_5 u0_6 u0_7 u0_8 u0_9 u0_12 u0_13 u1_7 u1_10 u1_11 u1_12 u1_13 u1_14 : Nat} {x1 : Int32} {z : Int32 × (Nat → Int32) × (Nat → Int32) × (Nat → Int64) × (Nat → Int32)} (hf : f_X11_come T0 T1 V2 V3 x1 = some z) (sz : Nat) : Met l yX11_come (Cond.code yX11_come cX11_come 2 (some .int) :: gw) ({ frames := 1, cells := 0, slots := 0, locals := 24 }) (xPc E [.ref a0, .int x1] [(a0, o11 T0 J0_15 J0_16 u0_0 u0_1 u0_2 u0_3 u0_4 u0_5 u0_6 u0_7 u0_8 u0_9 a1 u0_12 u0_13), (a1, o3 T1 u1_7 a3 a2 u1_10 u1_11 u1_12 u1_13 u1_14), (a2, al E 5 V2), (a3, ai E 5 V3)] sz) (xQi E z.1 [(a0, o11 T0 J0_15 J0_16 u0_0 u0_1 u0_2 u0_3 u0_4 u0_5 u0_6 u0_7 u0_8 u0_9 a1 u0_12 u0_13), (a1, o3 T1 u1_7 a3 a2 u1_10 u1_11 u1_12 u1_13 u1_14), (a2, al E 5 V2), (a3, ai E 5 V3)] [(a0, o11 z.2.1 J0_15 J0_16 u0_0 u0_1 u0_2 u0_3 u0_4 u0_5 u0_6 u0_7 u0_8 u0_9 a1 u0_12 u0_13), (a1, o3 z.2.2.1 u1_7 a3 a2 u1_10 u1_11 u1_12 u1_13 u1_14), (a2, al E 5 z.2.2.2.1), (a3, ai E 5 z.2.2.2.2)] sz) 0 0 (va_A [(a0, o11 T0 J0_15 J0_16 u0_0 u0_1 u0_2 u0_3 u0_4 u0_5 u0_6 u0_7 u0_8 u0_9 a1 u0_12 u0_13), (a1, o3 T1 u1_7 a3 a2 u1_10 u1_11 u1_12 u1_13 u1_14), (a2, al E 5 V2), (a3, ai E 5 V3)] sz) := by
  refine xM_i (by decide +kernel) (Nat.le_of_ble_eq_true rfl) ?_
  intro p e s m args below meth c A Q hx hb hml hown htg hK hG hA ret0 H locs ls hP hD hS hl
  have ret : ∀ (z' : Int32 × (Nat → Int32) × (Nat → Int32) × (Nat → Int64) × (Nat → Int32)) {H : Heap} {locs : List Loc} {pc : Nat} {ls : Array Slot}, some z' = some z → narrow .int (.int z'.1) = .int z'.1 → va_P E.1 vwCl [(a0, o11 z'.2.1 J0_15 J0_16 u0_0 u0_1 u0_2 u0_3 u0_4 u0_5 u0_6 u0_7 u0_8 u0_9 a1 u0_12 u0_13), (a1, o3 z'.2.2.1 u1_7 a3 a2 u1_10 u1_11 u1_12 u1_13 u1_14), (a2, al E 5 z'.2.2.2.1), (a3, ai E 5 z'.2.2.2.2)] H → va_S A s.heap H locs → decode cX11_come pc = .ok (.ireturn, 1) → W p l e ({ frames := 1, cells := 0, slots := 0, locals := 24 } : Room) s m args below meth c H locs 0 0 Q (F0 m pc ls [.int z'.1]) := by
    intro z' H locs pc ls h
    cases h
    exact ret0
  replace hl : lv_has ls 2 [(0, .ref a0), (1, .int x1)] := hl
  unfold f_X11_come at hf
  refine lv_iload_n hx hb dX11_come_0 rfl (lv_at hl 1 rfl) ?_
  refine lv_iconst (v := 0) hx hb dX11_come_1 rfl ?_
  refine lv_bipush (v := 16) hx hb dX11_come_2 rfl ?_
  obtain ⟨z4, hz4, hf⟩ := bind_s hf
  refine xS_ir hx hb hml hown htg L11_114 (c_X11_within l E hz4 _) ⟨⟨rfl, rfl⟩, Nat.le_of_ble_eq_true rfl, Nat.le_of_ble_eq_true rfl⟩ hK hG hA hP hD hS (is := []) rfl rfl rfl hl.1 rfl (Nat.le_of_ble_eq_true rfl) dX11_come_4 (fun H locs hP hD hS => ?_)
  refine lv_if_ne (tgt := 16) hx hb dX11_come_7 (by decide) (fun c7 => ?_) (fun c7 => ?_)
  · have hf := it_f c7 hf
    refine lv_aload_n hx hb dX11_come_16 rfl (lv_at hl 0 rfl) ?_
    refine G11_79 hx hb htg hown hK hP 0 rfl dX11_come_17 ?_
    refine lv_lconst (v := 0) hx hb dX11_come_20 rfl ?_
    refine lv_iload_n hx hb dX11_come_21 rfl (lv_at hl 1 rfl) ?_
    refine lv_iconst (v := 0) hx hb dX11_come_22 rfl ?_
    obtain ⟨z23, hz23, hf⟩ := bind_s hf
    refine xV_iu hx hb hml hown htg L11_287 (c_X3_addTraveller l E a1 a2 a3 hz23 _) ⟨⟨rfl, rfl⟩, Nat.le_of_ble_eq_true rfl, Nat.le_of_ble_eq_true rfl⟩ hK hG hA hP hD hS (is := [1, 2, 3]) (sel := [none, some 0, some 1, some 2]) (ws2 := [(a0, o11 T0 J0_15 J0_16 u0_0 u0_1 u0_2 u0_3 u0_4 u0_5 u0_6 u0_7 u0_8 u0_9 a1 u0_12 u0_13), (a1, o3 z23.2.1 u1_7 a3 a2 u1_10 u1_11 u1_12 u1_13 u1_14), (a2, al E 5 z23.2.2.1), (a3, ai E 5 z23.2.2.2)]) rfl rfl rfl rfl rfl (xrecv hK hP (q0 := 1) (ci := 3) rfl rfl) rfl hl.1 rfl (Nat.le_of_ble_eq_true rfl) dX11_come_23 (fun H locs hP hD hS => ?_)
    refine lv_if_ne (tgt := 36) hx hb dX11_come_26 (by decide) (fun c26 => ?_) (fun c26 => ?_)
    · have hf := it_f c26 hf
      refine lv_aload_n hx hb dX11_come_36 rfl (lv_at hl 0 rfl) ?_
      refine lv_aload_n hx hb dX11_come_37 rfl (lv_at hl 0 rfl) ?_
      refine G11_79 hx hb htg hown hK hP 0 rfl dX11_come_38 ?_
      refine G11_202 hx hb htg hown hK hP 1 rfl dX11_come_41 ?_
      refine lv_iconst (v := 1) hx hb dX11_come_44 rfl ?_
      refine lv_isub hx hb dX11_come_45 ?_
      obtain ⟨z46, hz46, hf⟩ := bind_s hf
      refine xV_iu hx hb hml hown htg L11_179 (c_X11_answer l E a0 hz46 _) ⟨⟨rfl, rfl⟩, Nat.le_of_ble_eq_true rfl, Nat.le_of_ble_eq_true rfl⟩ hK hG hA hP hD hS (is := [0]) (sel := [some 0, none, none, none]) (ws2 := [(a0, o11 z46.2 J0_15 J0_16 u0_0 u0_1 u0_2 u0_3 u0_4 u0_5 u0_6 u0_7 u0_8 u0_9 a1 u0_12 u0_13), (a1, o3 z23.2.1 u1_7 a3 a2 u1_10 u1_11 u1_12 u1_13 u1_14), (a2, al E 5 z23.2.2.1), (a3, ai E 5 z23.2.2.2)]) rfl rfl rfl rfl rfl (xrecv hK hP (q0 := 0) (ci := 11) rfl rfl) rfl hl.1 rfl (Nat.le_of_ble_eq_true rfl) dX11_come_46 (fun H locs hP hD hS => ?_)
      exact ret (z46.1, z46.2, z23.2.1, z23.2.2.1, z23.2.2.2) hf nzi hP hS dX11_come_49
    · have hf := it_t c26 hf
      refine lv_aload_n hx hb dX11_come_29 rfl (lv_at hl 0 rfl) ?_
      refine lv_bipush (v := 7) hx hb dX11_come_30 rfl ?_
      obtain ⟨z32, hz32, hf⟩ := bind_s hf
      refine xV_iu hx hb hml hown htg L11_137 (c_X11_refused l E a0 hz32 _) ⟨⟨rfl, rfl⟩, Nat.le_of_ble_eq_true rfl, Nat.le_of_ble_eq_true rfl⟩ hK hG hA hP hD hS (is := [0]) (sel := [some 0, none, none, none]) (ws2 := [(a0, o11 z32.2 J0_15 J0_16 u0_0 u0_1 u0_2 u0_3 u0_4 u0_5 u0_6 u0_7 u0_8 u0_9 a1 u0_12 u0_13), (a1, o3 z23.2.1 u1_7 a3 a2 u1_10 u1_11 u1_12 u1_13 u1_14), (a2, al E 5 z23.2.2.1), (a3, ai E 5 z23.2.2.2)]) rfl rfl rfl rfl rfl (xrecv hK hP (q0 := 0) (ci := 11) rfl rfl) rfl hl.1 rfl (Nat.le_of_ble_eq_true rfl) dX11_come_32 (fun H locs hP hD hS => ?_)
      exact ret (z32.1, z32.2, z23.2.1, z23.2.2.1, z23.2.2.2) hf nzi hP hS dX11_come_35
  · have hf := it_t c7 hf
    refine lv_aload_n hx hb dX11_come_10 rfl (lv_at hl 0 rfl) ?_
    refine lv_iconst (v := 5) hx hb dX11_come_11 rfl ?_
    obtain ⟨z12, hz12, hf⟩ := bind_s hf
    refine xV_iu hx hb hml hown htg L11_137 (c_X11_refused l E a0 hz12 _) ⟨⟨rfl, rfl⟩, Nat.le_of_ble_eq_true rfl, Nat.le_of_ble_eq_true rfl⟩ hK hG hA hP hD hS (is := [0]) (sel := [some 0, none, none, none]) (ws2 := [(a0, o11 z12.2 J0_15 J0_16 u0_0 u0_1 u0_2 u0_3 u0_4 u0_5 u0_6 u0_7 u0_8 u0_9 a1 u0_12 u0_13), (a1, o3 T1 u1_7 a3 a2 u1_10 u1_11 u1_12 u1_13 u1_14), (a2, al E 5 V2), (a3, ai E 5 V3)]) rfl rfl rfl rfl rfl (xrecv hK hP (q0 := 0) (ci := 11) rfl rfl) rfl hl.1 rfl (Nat.le_of_ble_eq_true rfl) dX11_come_12 (fun H locs hP hD hS => ?_)
    exact ret (z12.1, z12.2, T1, V2, V3) hf nzi hP hS dX11_come_15
theorem dX11_change_0 : decode cX11_change 0 = .ok (.aload_n 0, 1) := by decide +kernel
theorem dX11_change_1 : decode cX11_change 1 = .ok (.getfield 79, 3) := by decide +kernel
theorem dX11_change_4 : decode cX11_change 4 = .ok (.iload_n 1, 1) := by decide +kernel
theorem dX11_change_5 : decode cX11_change 5 = .ok (.invokevirtual 227, 3) := by decide +kernel
theorem dX11_change_8 : decode cX11_change 8 = .ok (.ifCond .ne 9, 3) := by decide +kernel
theorem dX11_change_11 : decode cX11_change 11 = .ok (.aload_n 0, 1) := by decide +kernel
theorem dX11_change_12 : decode cX11_change 12 = .ok (.iconst 2, 1) := by decide +kernel
theorem dX11_change_13 : decode cX11_change 13 = .ok (.invokevirtual 137, 3) := by decide +kernel
theorem dX11_change_16 : decode cX11_change 16 = .ok (.ireturn, 1) := by decide +kernel
theorem dX11_change_17 : decode cX11_change 17 = .ok (.iload_n 2, 1) := by decide +kernel
theorem dX11_change_18 : decode cX11_change 18 = .ok (.invokestatic 245, 3) := by decide +kernel
theorem dX11_change_21 : decode cX11_change 21 = .ok (.ifCond .ne 9, 3) := by decide +kernel
theorem dX11_change_24 : decode cX11_change 24 = .ok (.aload_n 0, 1) := by decide +kernel
theorem dX11_change_25 : decode cX11_change 25 = .ok (.iconst 5, 1) := by decide +kernel
theorem dX11_change_26 : decode cX11_change 26 = .ok (.invokevirtual 137, 3) := by decide +kernel
theorem dX11_change_29 : decode cX11_change 29 = .ok (.ireturn, 1) := by decide +kernel
theorem dX11_change_30 : decode cX11_change 30 = .ok (.aload_n 0, 1) := by decide +kernel
theorem dX11_change_31 : decode cX11_change 31 = .ok (.getfield 79, 3) := by decide +kernel
theorem dX11_change_34 : decode cX11_change 34 = .ok (.getfield 291, 3) := by decide +kernel
theorem dX11_change_37 : decode cX11_change 37 = .ok (.iload_n 1, 1) := by decide +kernel
theorem dX11_change_38 : decode cX11_change 38 = .ok (.iaload, 1) := by decide +kernel
theorem dX11_change_39 : decode cX11_change 39 = .ok (.istore_n 3, 1) := by decide +kernel
theorem dX11_change_40 : decode cX11_change 40 = .ok (.aload_n 0, 1) := by decide +kernel
theorem dX11_change_41 : decode cX11_change 41 = .ok (.getfield 79, 3) := by decide +kernel
theorem dX11_change_44 : decode cX11_change 44 = .ok (.getfield 291, 3) := by decide +kernel
theorem dX11_change_47 : decode cX11_change 47 = .ok (.iload_n 1, 1) := by decide +kernel
theorem dX11_change_48 : decode cX11_change 48 = .ok (.iload_n 2, 1) := by decide +kernel
theorem dX11_change_49 : decode cX11_change 49 = .ok (.iastore, 1) := by decide +kernel
theorem dX11_change_50 : decode cX11_change 50 = .ok (.aload_n 0, 1) := by decide +kernel
theorem dX11_change_51 : decode cX11_change 51 = .ok (.iload_n 3, 1) := by decide +kernel
theorem dX11_change_52 : decode cX11_change 52 = .ok (.invokevirtual 179, 3) := by decide +kernel
theorem dX11_change_55 : decode cX11_change 55 = .ok (.ireturn, 1) := by decide +kernel
set_option maxRecDepth 100000 in
theorem c_X11_change (l : Launch) (E : xE) (a0 a1 a2 : Nat) {T0 : Nat → Int32} {J0_15 : Int64} {J0_16 : Int64} {T1 : Nat → Int32} {V2 : Nat → Int32} {u0_0 u0_1 u0_2 u0_3 u0_4 u0_5 u0_6 u0_7 u0_8 u0_9 u0_12 u0_13 u1_8 u1_9 u1_10 u1_11 u1_12 u1_13 u1_14 : Nat} {x1 : Int32} {x2 : Int32} {z : Int32 × (Nat → Int32) × (Nat → Int32)} (hf : f_X11_change T0 T1 V2 x1 x2 = some z) (sz : Nat) : Met l yX11_change (Cond.code yX11_change cX11_change 4 (some .int) :: gw) ({ frames := 2, cells := 0, slots := 0, locals := 43 }) (xPc E [.ref a0, .int x1, .int x2] [(a0, o11 T0 J0_15 J0_16 u0_0 u0_1 u0_2 u0_3 u0_4 u0_5 u0_6 u0_7 u0_8 u0_9 a1 u0_12 u0_13), (a1, o3 T1 a2 u1_8 u1_9 u1_10 u1_11 u1_12 u1_13 u1_14), (a2, ai E 36 V2)] sz) (xQi E z.1 [(a0, o11 T0 J0_15 J0_16 u0_0 u0_1 u0_2 u0_3 u0_4 u0_5 u0_6 u0_7 u0_8 u0_9 a1 u0_12 u0_13), (a1, o3 T1 a2 u1_8 u1_9 u1_10 u1_11 u1_12 u1_13 u1_14), (a2, ai E 36 V2)] [(a0, o11 z.2.1 J0_15 J0_16 u0_0 u0_1 u0_2 u0_3 u0_4 u0_5 u0_6 u0_7 u0_8 u0_9 a1 u0_12 u0_13), (a1, o3 T1 a2 u1_8 u1_9 u1_10 u1_11 u1_12 u1_13 u1_14), (a2, ai E 36 z.2.2)] sz) 0 0 (va_A [(a0, o11 T0 J0_15 J0_16 u0_0 u0_1 u0_2 u0_3 u0_4 u0_5 u0_6 u0_7 u0_8 u0_9 a1 u0_12 u0_13), (a1, o3 T1 a2 u1_8 u1_9 u1_10 u1_11 u1_12 u1_13 u1_14), (a2, ai E 36 V2)] sz) := by
  refine xM_i (by decide +kernel) (Nat.le_of_ble_eq_true rfl) ?_
  intro p e s m args below meth c A Q hx hb hml hown htg hK hG hA ret0 H locs ls hP hD hS hl
  have ret : ∀ (z' : Int32 × (Nat → Int32) × (Nat → Int32)) {H : Heap} {locs : List Loc} {pc : Nat} {ls : Array Slot}, some z' = some z → narrow .int (.int z'.1) = .int z'.1 → va_P E.1 vwCl [(a0, o11 z'.2.1 J0_15 J0_16 u0_0 u0_1 u0_2 u0_3 u0_4 u0_5 u0_6 u0_7 u0_8 u0_9 a1 u0_12 u0_13), (a1, o3 T1 a2 u1_8 u1_9 u1_10 u1_11 u1_12 u1_13 u1_14), (a2, ai E 36 z'.2.2)] H → va_S A s.heap H locs → decode cX11_change pc = .ok (.ireturn, 1) → W p l e ({ frames := 2, cells := 0, slots := 0, locals := 43 } : Room) s m args below meth c H locs 0 0 Q (F0 m pc ls [.int z'.1]) := by
    intro z' H locs pc ls h
    cases h
    exact ret0
  replace hl : lv_has ls 4 [(0, .ref a0), (1, .int x1), (2, .int x2)] := hl
  unfold f_X11_change at hf
  refine lv_aload_n hx hb dX11_change_0 rfl (lv_at hl 0 rfl) ?_
  refine G11_79 hx hb htg hown hK hP 0 rfl dX11_change_1 ?_
  refine lv_iload_n hx hb dX11_change_4 rfl (lv_at hl 1 rfl) ?_
  obtain ⟨z5, hz5, hf⟩ := bind_s hf
  refine xV_ir hx hb hml hown htg L11_227 (c_X3_hasCell l E a1 hz5 _) ⟨⟨rfl, rfl⟩, Nat.le_of_ble_eq_true rfl, Nat.le_of_ble_eq_true rfl⟩ hK hG hA hP hD hS (is := [1]) rfl rfl (xrecv hK hP (q0 := 1) (ci := 3) rfl rfl) rfl hl.1 rfl (Nat.le_of_ble_eq_true rfl) dX11_change_5 (fun H locs hP hD hS => ?_)
  refine lv_if_ne (tgt := 17) hx hb dX11_change_8 (by decide) (fun c8 => ?_) (fun c8 => ?_)
  · have hf := it_f c8 hf
    refine lv_iload_n hx hb dX11_change_17 rfl (lv_at hl 2 rfl) ?_
    obtain ⟨z18, hz18, hf⟩ := bind_s hf
    refine xS_ir hx hb hml hown htg L11_245 (c_X11_isKind l E hz18 _) ⟨⟨rfl, rfl⟩, Nat.le_of_ble_eq_true rfl, Nat.le_of_ble_eq_true rfl⟩ hK hG hA hP hD hS (is := []) rfl rfl rfl hl.1 rfl (Nat.le_of_ble_eq_true rfl) dX11_change_18 (fun H locs hP hD hS => ?_)
    refine lv_if_ne (tgt := 30) hx hb dX11_change_21 (by decide) (fun c21 => ?_) (fun c21 => ?_)
    · have hf := it_f c21 hf
      refine lv_aload_n hx hb dX11_change_30 rfl (lv_at hl 0 rfl) ?_
      refine G11_79 hx hb htg hown hK hP 0 rfl dX11_change_31 ?_
      refine G11_291 hx hb htg hown hK hP 1 rfl dX11_change_34 ?_
      refine lv_iload_n hx hb dX11_change_37 rfl (lv_at hl 1 rfl) ?_
      obtain ⟨g38, hf⟩ := ck_s hf
      refine xiald hx hb hK hP 2 rfl g38 dX11_change_38 ?_
      refine lv_istore_n (lv' := [(3, .int (V2 (Int32.toNatClampNeg x1))), (0, .ref a0), (1, .int x1), (2, .int x2)]) hx hb dX11_change_39 rfl hl (by decide) rfl (fun ls hl => ?_)
      refine lv_aload_n hx hb dX11_change_40 rfl (lv_at hl 1 rfl) ?_
      refine G11_79 hx hb htg hown hK hP 0 rfl dX11_change_41 ?_
      refine G11_291 hx hb htg hown hK hP 1 rfl dX11_change_44 ?_
      refine lv_iload_n hx hb dX11_change_47 rfl (lv_at hl 2 rfl) ?_
      refine lv_iload_n hx hb dX11_change_48 rfl (lv_at hl 3 rfl) ?_
      obtain ⟨g49, hf⟩ := ck_s hf
      refine xiast hx hb hK hP hD hS 2 rfl g49 dX11_change_49 (fun H locs hP hD hS => ?_)
      refine lv_aload_n hx hb dX11_change_50 rfl (lv_at hl 1 rfl) ?_
      refine lv_iload_n hx hb dX11_change_51 rfl (lv_at hl 0 rfl) ?_
      obtain ⟨z52, hz52, hf⟩ := bind_s hf
      refine xV_iu hx hb hml hown htg L11_179 (c_X11_answer l E a0 hz52 _) ⟨⟨rfl, rfl⟩, Nat.le_of_ble_eq_true rfl, Nat.le_of_ble_eq_true rfl⟩ hK hG hA hP hD hS (is := [0]) (sel := [some 0, none, none]) (ws2 := [(a0, o11 z52.2 J0_15 J0_16 u0_0 u0_1 u0_2 u0_3 u0_4 u0_5 u0_6 u0_7 u0_8 u0_9 a1 u0_12 u0_13), (a1, o3 T1 a2 u1_8 u1_9 u1_10 u1_11 u1_12 u1_13 u1_14), (a2, ai E 36 (upd V2 (Int32.toNatClampNeg x1) x2))]) rfl rfl rfl rfl rfl (xrecv hK hP (q0 := 0) (ci := 11) rfl rfl) rfl hl.1 rfl (Nat.le_of_ble_eq_true rfl) dX11_change_52 (fun H locs hP hD hS => ?_)
      exact ret (z52.1, z52.2, upd V2 (Int32.toNatClampNeg x1) x2) hf nzi hP hS dX11_change_55
    · have hf := it_t c21 hf
      refine lv_aload_n hx hb dX11_change_24 rfl (lv_at hl 0 rfl) ?_
      refine lv_iconst (v := 5) hx hb dX11_change_25 rfl ?_
      obtain ⟨z26, hz26, hf⟩ := bind_s hf
      refine xV_iu hx hb hml hown htg L11_137 (c_X11_refused l E a0 hz26 _) ⟨⟨rfl, rfl⟩, Nat.le_of_ble_eq_true rfl, Nat.le_of_ble_eq_true rfl⟩ hK hG hA hP hD hS (is := [0]) (sel := [some 0, none, none]) (ws2 := [(a0, o11 z26.2 J0_15 J0_16 u0_0 u0_1 u0_2 u0_3 u0_4 u0_5 u0_6 u0_7 u0_8 u0_9 a1 u0_12 u0_13), (a1, o3 T1 a2 u1_8 u1_9 u1_10 u1_11 u1_12 u1_13 u1_14), (a2, ai E 36 V2)]) rfl rfl rfl rfl rfl (xrecv hK hP (q0 := 0) (ci := 11) rfl rfl) rfl hl.1 rfl (Nat.le_of_ble_eq_true rfl) dX11_change_26 (fun H locs hP hD hS => ?_)
      exact ret (z26.1, z26.2, V2) hf nzi hP hS dX11_change_29
  · have hf := it_t c8 hf
    refine lv_aload_n hx hb dX11_change_11 rfl (lv_at hl 0 rfl) ?_
    refine lv_iconst (v := 2) hx hb dX11_change_12 rfl ?_
    obtain ⟨z13, hz13, hf⟩ := bind_s hf
    refine xV_iu hx hb hml hown htg L11_137 (c_X11_refused l E a0 hz13 _) ⟨⟨rfl, rfl⟩, Nat.le_of_ble_eq_true rfl, Nat.le_of_ble_eq_true rfl⟩ hK hG hA hP hD hS (is := [0]) (sel := [some 0, none, none]) (ws2 := [(a0, o11 z13.2 J0_15 J0_16 u0_0 u0_1 u0_2 u0_3 u0_4 u0_5 u0_6 u0_7 u0_8 u0_9 a1 u0_12 u0_13), (a1, o3 T1 a2 u1_8 u1_9 u1_10 u1_11 u1_12 u1_13 u1_14), (a2, ai E 36 V2)]) rfl rfl rfl rfl rfl (xrecv hK hP (q0 := 0) (ci := 11) rfl rfl) rfl hl.1 rfl (Nat.le_of_ble_eq_true rfl) dX11_change_13 (fun H locs hP hD hS => ?_)
    exact ret (z13.1, z13.2, V2) hf nzi hP hS dX11_change_16
theorem dX11_trust_0 : decode cX11_trust 0 = .ok (.aload_n 0, 1) := by decide +kernel
theorem dX11_trust_1 : decode cX11_trust 1 = .ok (.getfield 79, 3) := by decide +kernel
theorem dX11_trust_4 : decode cX11_trust 4 = .ok (.iload_n 1, 1) := by decide +kernel
theorem dX11_trust_5 : decode cX11_trust 5 = .ok (.invokevirtual 251, 3) := by decide +kernel
theorem dX11_trust_8 : decode cX11_trust 8 = .ok (.ifCond .ne 9, 3) := by decide +kernel
theorem dX11_trust_11 : decode cX11_trust 11 = .ok (.aload_n 0, 1) := by decide +kernel
theorem dX11_trust_12 : decode cX11_trust 12 = .ok (.iconst 2, 1) := by decide +kernel
theorem dX11_trust_13 : decode cX11_trust 13 = .ok (.invokevirtual 137, 3) := by decide +kernel
theorem dX11_trust_16 : decode cX11_trust 16 = .ok (.ireturn, 1) := by decide +kernel
theorem dX11_trust_17 : decode cX11_trust 17 = .ok (.iload_n 2, 1) := by decide +kernel
theorem dX11_trust_18 : decode cX11_trust 18 = .ok (.iconst 0, 1) := by decide +kernel
theorem dX11_trust_19 : decode cX11_trust 19 = .ok (.bipush 16, 2) := by decide +kernel
theorem dX11_trust_21 : decode cX11_trust 21 = .ok (.invokestatic 114, 3) := by decide +kernel
theorem dX11_trust_24 : decode cX11_trust 24 = .ok (.ifCond .ne 9, 3) := by decide +kernel
theorem dX11_trust_27 : decode cX11_trust 27 = .ok (.aload_n 0, 1) := by decide +kernel
theorem dX11_trust_28 : decode cX11_trust 28 = .ok (.iconst 5, 1) := by decide +kernel
theorem dX11_trust_29 : decode cX11_trust 29 = .ok (.invokevirtual 137, 3) := by decide +kernel
theorem dX11_trust_32 : decode cX11_trust 32 = .ok (.ireturn, 1) := by decide +kernel
theorem dX11_trust_33 : decode cX11_trust 33 = .ok (.aload_n 0, 1) := by decide +kernel
theorem dX11_trust_34 : decode cX11_trust 34 = .ok (.getfield 79, 3) := by decide +kernel
theorem dX11_trust_37 : decode cX11_trust 37 = .ok (.getfield 254, 3) := by decide +kernel
theorem dX11_trust_40 : decode cX11_trust 40 = .ok (.iload_n 1, 1) := by decide +kernel
theorem dX11_trust_41 : decode cX11_trust 41 = .ok (.iaload, 1) := by decide +kernel
theorem dX11_trust_42 : decode cX11_trust 42 = .ok (.istore_n 3, 1) := by decide +kernel
theorem dX11_trust_43 : decode cX11_trust 43 = .ok (.aload_n 0, 1) := by decide +kernel
theorem dX11_trust_44 : decode cX11_trust 44 = .ok (.getfield 79, 3) := by decide +kernel
theorem dX11_trust_47 : decode cX11_trust 47 = .ok (.getfield 254, 3) := by decide +kernel
theorem dX11_trust_50 : decode cX11_trust 50 = .ok (.iload_n 1, 1) := by decide +kernel
theorem dX11_trust_51 : decode cX11_trust 51 = .ok (.iload_n 2, 1) := by decide +kernel
theorem dX11_trust_52 : decode cX11_trust 52 = .ok (.iastore, 1) := by decide +kernel
theorem dX11_trust_53 : decode cX11_trust 53 = .ok (.aload_n 0, 1) := by decide +kernel
theorem dX11_trust_54 : decode cX11_trust 54 = .ok (.iload_n 3, 1) := by decide +kernel
theorem dX11_trust_55 : decode cX11_trust 55 = .ok (.invokevirtual 179, 3) := by decide +kernel
theorem dX11_trust_58 : decode cX11_trust 58 = .ok (.ireturn, 1) := by decide +kernel
set_option maxRecDepth 100000 in
theorem c_X11_trust (l : Launch) (E : xE) (a0 a1 a2 : Nat) {T0 : Nat → Int32} {J0_15 : Int64} {J0_16 : Int64} {T1 : Nat → Int32} {V2 : Nat → Int32} {u0_0 u0_1 u0_2 u0_3 u0_4 u0_5 u0_6 u0_7 u0_8 u0_9 u0_12 u0_13 u1_7 u1_9 u1_10 u1_11 u1_12 u1_13 u1_14 : Nat} {x1 : Int32} {x2 : Int32} {z : Int32 × (Nat → Int32) × (Nat → Int32)} (hf : f_X11_trust T0 T1 V2 x1 x2 = some z) (sz : Nat) : Met l yX11_trust (Cond.code yX11_trust cX11_trust 4 (some .int) :: gw) ({ frames := 2, cells := 0, slots := 0, locals := 43 }) (xPc E [.ref a0, .int x1, .int x2] [(a0, o11 T0 J0_15 J0_16 u0_0 u0_1 u0_2 u0_3 u0_4 u0_5 u0_6 u0_7 u0_8 u0_9 a1 u0_12 u0_13), (a1, o3 T1 u1_7 a2 u1_9 u1_10 u1_11 u1_12 u1_13 u1_14), (a2, ai E 5 V2)] sz) (xQi E z.1 [(a0, o11 T0 J0_15 J0_16 u0_0 u0_1 u0_2 u0_3 u0_4 u0_5 u0_6 u0_7 u0_8 u0_9 a1 u0_12 u0_13), (a1, o3 T1 u1_7 a2 u1_9 u1_10 u1_11 u1_12 u1_13 u1_14), (a2, ai E 5 V2)] [(a0, o11 z.2.1 J0_15 J0_16 u0_0 u0_1 u0_2 u0_3 u0_4 u0_5 u0_6 u0_7 u0_8 u0_9 a1 u0_12 u0_13), (a1, o3 T1 u1_7 a2 u1_9 u1_10 u1_11 u1_12 u1_13 u1_14), (a2, ai E 5 z.2.2)] sz) 0 0 (va_A [(a0, o11 T0 J0_15 J0_16 u0_0 u0_1 u0_2 u0_3 u0_4 u0_5 u0_6 u0_7 u0_8 u0_9 a1 u0_12 u0_13), (a1, o3 T1 u1_7 a2 u1_9 u1_10 u1_11 u1_12 u1_13 u1_14), (a2, ai E 5 V2)] sz) := by
  refine xM_i (by decide +kernel) (Nat.le_of_ble_eq_true rfl) ?_
  intro p e s m args below meth c A Q hx hb hml hown htg hK hG hA ret0 H locs ls hP hD hS hl
  have ret : ∀ (z' : Int32 × (Nat → Int32) × (Nat → Int32)) {H : Heap} {locs : List Loc} {pc : Nat} {ls : Array Slot}, some z' = some z → narrow .int (.int z'.1) = .int z'.1 → va_P E.1 vwCl [(a0, o11 z'.2.1 J0_15 J0_16 u0_0 u0_1 u0_2 u0_3 u0_4 u0_5 u0_6 u0_7 u0_8 u0_9 a1 u0_12 u0_13), (a1, o3 T1 u1_7 a2 u1_9 u1_10 u1_11 u1_12 u1_13 u1_14), (a2, ai E 5 z'.2.2)] H → va_S A s.heap H locs → decode cX11_trust pc = .ok (.ireturn, 1) → W p l e ({ frames := 2, cells := 0, slots := 0, locals := 43 } : Room) s m args below meth c H locs 0 0 Q (F0 m pc ls [.int z'.1]) := by
    intro z' H locs pc ls h
    cases h
    exact ret0
  replace hl : lv_has ls 4 [(0, .ref a0), (1, .int x1), (2, .int x2)] := hl
  unfold f_X11_trust at hf
  refine lv_aload_n hx hb dX11_trust_0 rfl (lv_at hl 0 rfl) ?_
  refine G11_79 hx hb htg hown hK hP 0 rfl dX11_trust_1 ?_
  refine lv_iload_n hx hb dX11_trust_4 rfl (lv_at hl 1 rfl) ?_
  obtain ⟨z5, hz5, hf⟩ := bind_s hf
  refine xV_ir hx hb hml hown htg L11_251 (c_X3_hasTraveller l E a1 hz5 _) ⟨⟨rfl, rfl⟩, Nat.le_of_ble_eq_true rfl, Nat.le_of_ble_eq_true rfl⟩ hK hG hA hP hD hS (is := [1]) rfl rfl (xrecv hK hP (q0 := 1) (ci := 3) rfl rfl) rfl hl.1 rfl (Nat.le_of_ble_eq_true rfl) dX11_trust_5 (fun H locs hP hD hS => ?_)
  refine lv_if_ne (tgt := 17) hx hb dX11_trust_8 (by decide) (fun c8 => ?_) (fun c8 => ?_)
  · have hf := it_f c8 hf
    refine lv_iload_n hx hb dX11_trust_17 rfl (lv_at hl 2 rfl) ?_
    refine lv_iconst (v := 0) hx hb dX11_trust_18 rfl ?_
    refine lv_bipush (v := 16) hx hb dX11_trust_19 rfl ?_
    obtain ⟨z21, hz21, hf⟩ := bind_s hf
    refine xS_ir hx hb hml hown htg L11_114 (c_X11_within l E hz21 _) ⟨⟨rfl, rfl⟩, Nat.le_of_ble_eq_true rfl, Nat.le_of_ble_eq_true rfl⟩ hK hG hA hP hD hS (is := []) rfl rfl rfl hl.1 rfl (Nat.le_of_ble_eq_true rfl) dX11_trust_21 (fun H locs hP hD hS => ?_)
    refine lv_if_ne (tgt := 33) hx hb dX11_trust_24 (by decide) (fun c24 => ?_) (fun c24 => ?_)
    · have hf := it_f c24 hf
      refine lv_aload_n hx hb dX11_trust_33 rfl (lv_at hl 0 rfl) ?_
      refine G11_79 hx hb htg hown hK hP 0 rfl dX11_trust_34 ?_
      refine G11_254 hx hb htg hown hK hP 1 rfl dX11_trust_37 ?_
      refine lv_iload_n hx hb dX11_trust_40 rfl (lv_at hl 1 rfl) ?_
      obtain ⟨g41, hf⟩ := ck_s hf
      refine xiald hx hb hK hP 2 rfl g41 dX11_trust_41 ?_
      refine lv_istore_n (lv' := [(3, .int (V2 (Int32.toNatClampNeg x1))), (0, .ref a0), (1, .int x1), (2, .int x2)]) hx hb dX11_trust_42 rfl hl (by decide) rfl (fun ls hl => ?_)
      refine lv_aload_n hx hb dX11_trust_43 rfl (lv_at hl 1 rfl) ?_
      refine G11_79 hx hb htg hown hK hP 0 rfl dX11_trust_44 ?_
      refine G11_254 hx hb htg hown hK hP 1 rfl dX11_trust_47 ?_
      refine lv_iload_n hx hb dX11_trust_50 rfl (lv_at hl 2 rfl) ?_
      refine lv_iload_n hx hb dX11_trust_51 rfl (lv_at hl 3 rfl) ?_
      obtain ⟨g52, hf⟩ := ck_s hf
      refine xiast hx hb hK hP hD hS 2 rfl g52 dX11_trust_52 (fun H locs hP hD hS => ?_)
      refine lv_aload_n hx hb dX11_trust_53 rfl (lv_at hl 1 rfl) ?_
      refine lv_iload_n hx hb dX11_trust_54 rfl (lv_at hl 0 rfl) ?_
      obtain ⟨z55, hz55, hf⟩ := bind_s hf
      refine xV_iu hx hb hml hown htg L11_179 (c_X11_answer l E a0 hz55 _) ⟨⟨rfl, rfl⟩, Nat.le_of_ble_eq_true rfl, Nat.le_of_ble_eq_true rfl⟩ hK hG hA hP hD hS (is := [0]) (sel := [some 0, none, none]) (ws2 := [(a0, o11 z55.2 J0_15 J0_16 u0_0 u0_1 u0_2 u0_3 u0_4 u0_5 u0_6 u0_7 u0_8 u0_9 a1 u0_12 u0_13), (a1, o3 T1 u1_7 a2 u1_9 u1_10 u1_11 u1_12 u1_13 u1_14), (a2, ai E 5 (upd V2 (Int32.toNatClampNeg x1) x2))]) rfl rfl rfl rfl rfl (xrecv hK hP (q0 := 0) (ci := 11) rfl rfl) rfl hl.1 rfl (Nat.le_of_ble_eq_true rfl) dX11_trust_55 (fun H locs hP hD hS => ?_)
      exact ret (z55.1, z55.2, upd V2 (Int32.toNatClampNeg x1) x2) hf nzi hP hS dX11_trust_58
    · have hf := it_t c24 hf
      refine lv_aload_n hx hb dX11_trust_27 rfl (lv_at hl 0 rfl) ?_
      refine lv_iconst (v := 5) hx hb dX11_trust_28 rfl ?_
      obtain ⟨z29, hz29, hf⟩ := bind_s hf
      refine xV_iu hx hb hml hown htg L11_137 (c_X11_refused l E a0 hz29 _) ⟨⟨rfl, rfl⟩, Nat.le_of_ble_eq_true rfl, Nat.le_of_ble_eq_true rfl⟩ hK hG hA hP hD hS (is := [0]) (sel := [some 0, none, none]) (ws2 := [(a0, o11 z29.2 J0_15 J0_16 u0_0 u0_1 u0_2 u0_3 u0_4 u0_5 u0_6 u0_7 u0_8 u0_9 a1 u0_12 u0_13), (a1, o3 T1 u1_7 a2 u1_9 u1_10 u1_11 u1_12 u1_13 u1_14), (a2, ai E 5 V2)]) rfl rfl rfl rfl rfl (xrecv hK hP (q0 := 0) (ci := 11) rfl rfl) rfl hl.1 rfl (Nat.le_of_ble_eq_true rfl) dX11_trust_29 (fun H locs hP hD hS => ?_)
      exact ret (z29.1, z29.2, V2) hf nzi hP hS dX11_trust_32
  · have hf := it_t c8 hf
    refine lv_aload_n hx hb dX11_trust_11 rfl (lv_at hl 0 rfl) ?_
    refine lv_iconst (v := 2) hx hb dX11_trust_12 rfl ?_
    obtain ⟨z13, hz13, hf⟩ := bind_s hf
    refine xV_iu hx hb hml hown htg L11_137 (c_X11_refused l E a0 hz13 _) ⟨⟨rfl, rfl⟩, Nat.le_of_ble_eq_true rfl, Nat.le_of_ble_eq_true rfl⟩ hK hG hA hP hD hS (is := [0]) (sel := [some 0, none, none]) (ws2 := [(a0, o11 z13.2 J0_15 J0_16 u0_0 u0_1 u0_2 u0_3 u0_4 u0_5 u0_6 u0_7 u0_8 u0_9 a1 u0_12 u0_13), (a1, o3 T1 u1_7 a2 u1_9 u1_10 u1_11 u1_12 u1_13 u1_14), (a2, ai E 5 V2)]) rfl rfl rfl rfl rfl (xrecv hK hP (q0 := 0) (ci := 11) rfl rfl) rfl hl.1 rfl (Nat.le_of_ble_eq_true rfl) dX11_trust_13 (fun H locs hP hD hS => ?_)
    exact ret (z13.1, z13.2, V2) hf nzi hP hS dX11_trust_16
theorem dX11_moor_0 : decode cX11_moor 0 = .ok (.aload_n 0, 1) := by decide +kernel
theorem dX11_moor_1 : decode cX11_moor 1 = .ok (.getfield 79, 3) := by decide +kernel
theorem dX11_moor_4 : decode cX11_moor 4 = .ok (.iload_n 1, 1) := by decide +kernel
theorem dX11_moor_5 : decode cX11_moor 5 = .ok (.invokevirtual 227, 3) := by decide +kernel
theorem dX11_moor_8 : decode cX11_moor 8 = .ok (.ifCond .ne 9, 3) := by decide +kernel
theorem dX11_moor_11 : decode cX11_moor 11 = .ok (.aload_n 0, 1) := by decide +kernel
theorem dX11_moor_12 : decode cX11_moor 12 = .ok (.iconst 2, 1) := by decide +kernel
theorem dX11_moor_13 : decode cX11_moor 13 = .ok (.invokevirtual 137, 3) := by decide +kernel
theorem dX11_moor_16 : decode cX11_moor 16 = .ok (.ireturn, 1) := by decide +kernel
theorem dX11_moor_17 : decode cX11_moor 17 = .ok (.aload_n 0, 1) := by decide +kernel
theorem dX11_moor_18 : decode cX11_moor 18 = .ok (.getfield 79, 3) := by decide +kernel
theorem dX11_moor_21 : decode cX11_moor 21 = .ok (.getfield 211, 3) := by decide +kernel
theorem dX11_moor_24 : decode cX11_moor 24 = .ok (.istore_n 2, 1) := by decide +kernel
theorem dX11_moor_25 : decode cX11_moor 25 = .ok (.aload_n 0, 1) := by decide +kernel
theorem dX11_moor_26 : decode cX11_moor 26 = .ok (.getfield 79, 3) := by decide +kernel
theorem dX11_moor_29 : decode cX11_moor 29 = .ok (.iload_n 1, 1) := by decide +kernel
theorem dX11_moor_30 : decode cX11_moor 30 = .ok (.putfield 211, 3) := by decide +kernel
theorem dX11_moor_33 : decode cX11_moor 33 = .ok (.aload_n 0, 1) := by decide +kernel
theorem dX11_moor_34 : decode cX11_moor 34 = .ok (.iload_n 2, 1) := by decide +kernel
theorem dX11_moor_35 : decode cX11_moor 35 = .ok (.invokevirtual 179, 3) := by decide +kernel
theorem dX11_moor_38 : decode cX11_moor 38 = .ok (.ireturn, 1) := by decide +kernel
set_option maxRecDepth 100000 in
theorem c_X11_moor (l : Launch) (E : xE) (a0 a1 : Nat) {T0 : Nat → Int32} {J0_15 : Int64} {J0_16 : Int64} {T1 : Nat → Int32} {u0_0 u0_1 u0_2 u0_3 u0_4 u0_5 u0_6 u0_7 u0_8 u0_9 u0_12 u0_13 u1_7 u1_8 u1_9 u1_10 u1_11 u1_12 u1_13 u1_14 : Nat} {x1 : Int32} {z : Int32 × (Nat → Int32) × (Nat → Int32)} (hf : f_X11_moor T0 T1 x1 = some z) (sz : Nat) : Met l yX11_moor (Cond.code yX11_moor cX11_moor 3 (some .int) :: gw) ({ frames := 2, cells := 0, slots := 0, locals := 43 }) (xPc E [.ref a0, .int x1] [(a0, o11 T0 J0_15 J0_16 u0_0 u0_1 u0_2 u0_3 u0_4 u0_5 u0_6 u0_7 u0_8 u0_9 a1 u0_12 u0_13), (a1, o3 T1 u1_7 u1_8 u1_9 u1_10 u1_11 u1_12 u1_13 u1_14)] sz) (xQi E z.1 [(a0, o11 T0 J0_15 J0_16 u0_0 u0_1 u0_2 u0_3 u0_4 u0_5 u0_6 u0_7 u0_8 u0_9 a1 u0_12 u0_13), (a1, o3 T1 u1_7 u1_8 u1_9 u1_10 u1_11 u1_12 u1_13 u1_14)] [(a0, o11 z.2.1 J0_15 J0_16 u0_0 u0_1 u0_2 u0_3 u0_4 u0_5 u0_6 u0_7 u0_8 u0_9 a1 u0_12 u0_13), (a1, o3 z.2.2 u1_7 u1_8 u1_9 u1_10 u1_11 u1_12 u1_13 u1_14)] sz) 0 0 (va_A [(a0, o11 T0 J0_15 J0_16 u0_0 u0_1 u0_2 u0_3 u0_4 u0_5 u0_6 u0_7 u0_8 u0_9 a1 u0_12 u0_13), (a1, o3 T1 u1_7 u1_8 u1_9 u1_10 u1_11 u1_12 u1_13 u1_14)] sz) := by
  refine xM_i (by decide +kernel) (Nat.le_of_ble_eq_true rfl) ?_
  intro p e s m args below meth c A Q hx hb hml hown htg hK hG hA ret0 H locs ls hP hD hS hl
  have ret : ∀ (z' : Int32 × (Nat → Int32) × (Nat → Int32)) {H : Heap} {locs : List Loc} {pc : Nat} {ls : Array Slot}, some z' = some z → narrow .int (.int z'.1) = .int z'.1 → va_P E.1 vwCl [(a0, o11 z'.2.1 J0_15 J0_16 u0_0 u0_1 u0_2 u0_3 u0_4 u0_5 u0_6 u0_7 u0_8 u0_9 a1 u0_12 u0_13), (a1, o3 z'.2.2 u1_7 u1_8 u1_9 u1_10 u1_11 u1_12 u1_13 u1_14)] H → va_S A s.heap H locs → decode cX11_moor pc = .ok (.ireturn, 1) → W p l e ({ frames := 2, cells := 0, slots := 0, locals := 43 } : Room) s m args below meth c H locs 0 0 Q (F0 m pc ls [.int z'.1]) := by
    intro z' H locs pc ls h
    cases h
    exact ret0
  replace hl : lv_has ls 3 [(0, .ref a0), (1, .int x1)] := hl
  unfold f_X11_moor at hf
  refine lv_aload_n hx hb dX11_moor_0 rfl (lv_at hl 0 rfl) ?_
  refine G11_79 hx hb htg hown hK hP 0 rfl dX11_moor_1 ?_
  refine lv_iload_n hx hb dX11_moor_4 rfl (lv_at hl 1 rfl) ?_
  obtain ⟨z5, hz5, hf⟩ := bind_s hf
  refine xV_ir hx hb hml hown htg L11_227 (c_X3_hasCell l E a1 hz5 _) ⟨⟨rfl, rfl⟩, Nat.le_of_ble_eq_true rfl, Nat.le_of_ble_eq_true rfl⟩ hK hG hA hP hD hS (is := [1]) rfl rfl (xrecv hK hP (q0 := 1) (ci := 3) rfl rfl) rfl hl.1 rfl (Nat.le_of_ble_eq_true rfl) dX11_moor_5 (fun H locs hP hD hS => ?_)
  refine lv_if_ne (tgt := 17) hx hb dX11_moor_8 (by decide) (fun c8 => ?_) (fun c8 => ?_)
  · have hf := it_f c8 hf
    refine lv_aload_n hx hb dX11_moor_17 rfl (lv_at hl 0 rfl) ?_
    refine G11_79 hx hb htg hown hK hP 0 rfl dX11_moor_18 ?_
    refine G11_211 hx hb htg hown hK hP 1 rfl dX11_moor_21 ?_
    refine lv_istore_n (lv' := [(2, .int (T1 3)), (0, .ref a0), (1, .int x1)]) hx hb dX11_moor_24 rfl hl (by decide) rfl (fun ls hl => ?_)
    refine lv_aload_n hx hb dX11_moor_25 rfl (lv_at hl 1 rfl) ?_
    refine G11_79 hx hb htg hown hK hP 0 rfl dX11_moor_26 ?_
    refine lv_iload_n hx hb dX11_moor_29 rfl (lv_at hl 2 rfl) ?_
    refine P11_211 hx hb htg hown hK hP hD hS 1 rfl dX11_moor_30 (fun H locs hP hD hS => ?_)
    refine lv_aload_n hx hb dX11_moor_33 rfl (lv_at hl 1 rfl) ?_
    refine lv_iload_n hx hb dX11_moor_34 rfl (lv_at hl 0 rfl) ?_
    obtain ⟨z35, hz35, hf⟩ := bind_s hf
    refine xV_iu hx hb hml hown htg L11_179 (c_X11_answer l E a0 hz35 _) ⟨⟨rfl, rfl⟩, Nat.le_of_ble_eq_true rfl, Nat.le_of_ble_eq_true rfl⟩ hK hG hA hP hD hS (is := [0]) (sel := [some 0, none]) (ws2 := [(a0, o11 z35.2 J0_15 J0_16 u0_0 u0_1 u0_2 u0_3 u0_4 u0_5 u0_6 u0_7 u0_8 u0_9 a1 u0_12 u0_13), (a1, o3 (upd T1 3 x1) u1_7 u1_8 u1_9 u1_10 u1_11 u1_12 u1_13 u1_14)]) rfl rfl rfl rfl rfl (xrecv hK hP (q0 := 0) (ci := 11) rfl rfl) rfl hl.1 rfl (Nat.le_of_ble_eq_true rfl) dX11_moor_35 (fun H locs hP hD hS => ?_)
    exact ret (z35.1, z35.2, upd T1 3 x1) hf nzi hP hS dX11_moor_38
  · have hf := it_t c8 hf
    refine lv_aload_n hx hb dX11_moor_11 rfl (lv_at hl 0 rfl) ?_
    refine lv_iconst (v := 2) hx hb dX11_moor_12 rfl ?_
    obtain ⟨z13, hz13, hf⟩ := bind_s hf
    refine xV_iu hx hb hml hown htg L11_137 (c_X11_refused l E a0 hz13 _) ⟨⟨rfl, rfl⟩, Nat.le_of_ble_eq_true rfl, Nat.le_of_ble_eq_true rfl⟩ hK hG hA hP hD hS (is := [0]) (sel := [some 0, none]) (ws2 := [(a0, o11 z13.2 J0_15 J0_16 u0_0 u0_1 u0_2 u0_3 u0_4 u0_5 u0_6 u0_7 u0_8 u0_9 a1 u0_12 u0_13), (a1, o3 T1 u1_7 u1_8 u1_9 u1_10 u1_11 u1_12 u1_13 u1_14)]) rfl rfl rfl rfl rfl (xrecv hK hP (q0 := 0) (ci := 11) rfl rfl) rfl hl.1 rfl (Nat.le_of_ble_eq_true rfl) dX11_moor_13 (fun H locs hP hD hS => ?_)
    exact ret (z13.1, z13.2, T1) hf nzi hP hS dX11_moor_16
theorem dX11_rule_0 : decode cX11_rule 0 = .ok (.iload_n 1, 1) := by decide +kernel
theorem dX11_rule_1 : decode cX11_rule 1 = .ok (.iconst 0, 1) := by decide +kernel
theorem dX11_rule_2 : decode cX11_rule 2 = .ok (.bipush 16, 2) := by decide +kernel
theorem dX11_rule_4 : decode cX11_rule 4 = .ok (.invokestatic 114, 3) := by decide +kernel
theorem dX11_rule_7 : decode cX11_rule 7 = .ok (.ifCond .ne 9, 3) := by decide +kernel
theorem dX11_rule_10 : decode cX11_rule 10 = .ok (.aload_n 0, 1) := by decide +kernel
theorem dX11_rule_11 : decode cX11_rule 11 = .ok (.iconst 5, 1) := by decide +kernel
theorem dX11_rule_12 : decode cX11_rule 12 = .ok (.invokevirtual 118, 3) := by decide +kernel
theorem dX11_rule_15 : decode cX11_rule 15 = .ok (.ireturn, 1) := by decide +kernel
theorem dX11_rule_16 : decode cX11_rule 16 = .ok (.aload_n 0, 1) := by decide +kernel
theorem dX11_rule_17 : decode cX11_rule 17 = .ok (.getfield 79, 3) := by decide +kernel
theorem dX11_rule_20 : decode cX11_rule 20 = .ok (.iload_n 1, 1) := by decide +kernel
theorem dX11_rule_21 : decode cX11_rule 21 = .ok (.putfield 208, 3) := by decide +kernel
theorem dX11_rule_24 : decode cX11_rule 24 = .ok (.aload_n 0, 1) := by decide +kernel
theorem dX11_rule_25 : decode cX11_rule 25 = .ok (.invokevirtual 125, 3) := by decide +kernel
theorem dX11_rule_28 : decode cX11_rule 28 = .ok (.ireturn, 1) := by decide +kernel
set_option maxRecDepth 100000 in
theorem c_X11_rule (l : Launch) (E : xE) (a0 a1 : Nat) {T0 : Nat → Int32} {J0_15 : Int64} {J0_16 : Int64} {T1 : Nat → Int32} {u0_0 u0_1 u0_2 u0_3 u0_4 u0_5 u0_6 u0_7 u0_8 u0_9 u0_12 u0_13 u1_7 u1_8 u1_9 u1_10 u1_11 u1_12 u1_13 u1_14 : Nat} {x1 : Int32} {z : Int32 × (Nat → Int32) × (Nat → Int32)} (hf : f_X11_rule T0 T1 x1 = some z) (sz : Nat) : Met l yX11_rule (Cond.code yX11_rule cX11_rule 2 (some .boolean) :: gw) ({ frames := 1, cells := 0, slots := 0, locals := 22 }) (xPc E [.ref a0, .int x1] [(a0, o11 T0 J0_15 J0_16 u0_0 u0_1 u0_2 u0_3 u0_4 u0_5 u0_6 u0_7 u0_8 u0_9 a1 u0_12 u0_13), (a1, o3 T1 u1_7 u1_8 u1_9 u1_10 u1_11 u1_12 u1_13 u1_14)] sz) (xQi E z.1 [(a0, o11 T0 J0_15 J0_16 u0_0 u0_1 u0_2 u0_3 u0_4 u0_5 u0_6 u0_7 u0_8 u0_9 a1 u0_12 u0_13), (a1, o3 T1 u1_7 u1_8 u1_9 u1_10 u1_11 u1_12 u1_13 u1_14)] [(a0, o11 z.2.1 J0_15 J0_16 u0_0 u0_1 u0_2 u0_3 u0_4 u0_5 u0_6 u0_7 u0_8 u0_9 a1 u0_12 u0_13), (a1, o3 z.2.2 u1_7 u1_8 u1_9 u1_10 u1_11 u1_12 u1_13 u1_14)] sz) 0 0 (va_A [(a0, o11 T0 J0_15 J0_16 u0_0 u0_1 u0_2 u0_3 u0_4 u0_5 u0_6 u0_7 u0_8 u0_9 a1 u0_12 u0_13), (a1, o3 T1 u1_7 u1_8 u1_9 u1_10 u1_11 u1_12 u1_13 u1_14)] sz) := by
  refine xM_i (by decide +kernel) (Nat.le_of_ble_eq_true rfl) ?_
  intro p e s m args below meth c A Q hx hb hml hown htg hK hG hA ret0 H locs ls hP hD hS hl
  have ret : ∀ (z' : Int32 × (Nat → Int32) × (Nat → Int32)) {H : Heap} {locs : List Loc} {pc : Nat} {ls : Array Slot}, some z' = some z → narrow .boolean (.int z'.1) = .int z'.1 → va_P E.1 vwCl [(a0, o11 z'.2.1 J0_15 J0_16 u0_0 u0_1 u0_2 u0_3 u0_4 u0_5 u0_6 u0_7 u0_8 u0_9 a1 u0_12 u0_13), (a1, o3 z'.2.2 u1_7 u1_8 u1_9 u1_10 u1_11 u1_12 u1_13 u1_14)] H → va_S A s.heap H locs → decode cX11_rule pc = .ok (.ireturn, 1) → W p l e ({ frames := 1, cells := 0, slots := 0, locals := 22 } : Room) s m args below meth c H locs 0 0 Q (F0 m pc ls [.int z'.1]) := by
    intro z' H locs pc ls h
    cases h
    exact ret0
  replace hl : lv_has ls 2 [(0, .ref a0), (1, .int x1)] := hl
  unfold f_X11_rule at hf
  refine lv_iload_n hx hb dX11_rule_0 rfl (lv_at hl 1 rfl) ?_
  refine lv_iconst (v := 0) hx hb dX11_rule_1 rfl ?_
  refine lv_bipush (v := 16) hx hb dX11_rule_2 rfl ?_
  obtain ⟨z4, hz4, hf⟩ := bind_s hf
  refine xS_ir hx hb hml hown htg L11_114 (c_X11_within l E hz4 _) ⟨⟨rfl, rfl⟩, Nat.le_of_ble_eq_true rfl, Nat.le_of_ble_eq_true rfl⟩ hK hG hA hP hD hS (is := []) rfl rfl rfl hl.1 rfl (Nat.le_of_ble_eq_true rfl) dX11_rule_4 (fun H locs hP hD hS => ?_)
  refine lv_if_ne (tgt := 16) hx hb dX11_rule_7 (by decide) (fun c7 => ?_) (fun c7 => ?_)
  · have hf := it_f c7 hf
    refine lv_aload_n hx hb dX11_rule_16 rfl (lv_at hl 0 rfl) ?_
    refine G11_79 hx hb htg hown hK hP 0 rfl dX11_rule_17 ?_
    refine lv_iload_n hx hb dX11_rule_20 rfl (lv_at hl 1 rfl) ?_
    refine P11_208 hx hb htg hown hK hP hD hS 1 rfl dX11_rule_21 (fun H locs hP hD hS => ?_)
    refine lv_aload_n hx hb dX11_rule_24 rfl (lv_at hl 0 rfl) ?_
    obtain ⟨z25, hz25, hf⟩ := bind_s hf
    refine xV_iu hx hb hml hown htg L11_125 (c_X11_done l E a0 hz25 _) ⟨⟨rfl, rfl⟩, Nat.le_of_ble_eq_true rfl, Nat.le_of_ble_eq_true rfl⟩ hK hG hA hP hD hS (is := [0]) (sel := [some 0, none]) (ws2 := [(a0, o11 z25.2 J0_15 J0_16 u0_0 u0_1 u0_2 u0_3 u0_4 u0_5 u0_6 u0_7 u0_8 u0_9 a1 u0_12 u0_13), (a1, o3 (upd T1 2 x1) u1_7 u1_8 u1_9 u1_10 u1_11 u1_12 u1_13 u1_14)]) rfl rfl rfl rfl rfl (xrecv hK hP (q0 := 0) (ci := 11) rfl rfl) rfl hl.1 rfl (Nat.le_of_ble_eq_true rfl) dX11_rule_25 (fun H locs hP hD hS => ?_)
    obtain ⟨g28, hf⟩ := ck_s hf
    exact ret (z25.1, z25.2, upd T1 2 x1) hf (bz_n g28).1 hP hS dX11_rule_28
  · have hf := it_t c7 hf
    refine lv_aload_n hx hb dX11_rule_10 rfl (lv_at hl 0 rfl) ?_
    refine lv_iconst (v := 5) hx hb dX11_rule_11 rfl ?_
    obtain ⟨z12, hz12, hf⟩ := bind_s hf
    refine xV_iu hx hb hml hown htg L11_118 (c_X11_denied l E a0 hz12 _) ⟨⟨rfl, rfl⟩, Nat.le_of_ble_eq_true rfl, Nat.le_of_ble_eq_true rfl⟩ hK hG hA hP hD hS (is := [0]) (sel := [some 0, none]) (ws2 := [(a0, o11 z12.2 J0_15 J0_16 u0_0 u0_1 u0_2 u0_3 u0_4 u0_5 u0_6 u0_7 u0_8 u0_9 a1 u0_12 u0_13), (a1, o3 T1 u1_7 u1_8 u1_9 u1_10 u1_11 u1_12 u1_13 u1_14)]) rfl rfl rfl rfl rfl (xrecv hK hP (q0 := 0) (ci := 11) rfl rfl) rfl hl.1 rfl (Nat.le_of_ble_eq_true rfl) dX11_rule_12 (fun H locs hP hD hS => ?_)
    obtain ⟨g15, hf⟩ := ck_s hf
    exact ret (z12.1, z12.2, T1) hf (bz_n g15).1 hP hS dX11_rule_15
theorem dX11_toldFraction_0 : decode cX11_toldFraction 0 = .ok (.lload_n 1, 1) := by decide +kernel
theorem dX11_toldFraction_1 : decode cX11_toldFraction 1 = .ok (.lload_n 3, 1) := by decide +kernel
theorem dX11_toldFraction_2 : decode cX11_toldFraction 2 = .ok (.invokestatic 392, 3) := by decide +kernel
theorem dX11_toldFraction_5 : decode cX11_toldFraction 5 = .ok (.lstore 5, 2) := by decide +kernel
theorem dX11_toldFraction_7 : decode cX11_toldFraction 7 = .ok (.lload 5, 2) := by decide +kernel
theorem dX11_toldFraction_9 : decode cX11_toldFraction 9 = .ok (.lconst 0, 1) := by decide +kernel
theorem dX11_toldFraction_10 : decode cX11_toldFraction 10 = .ok (.lcmp, 1) := by decide +kernel
theorem dX11_toldFraction_11 : decode cX11_toldFraction 11 = .ok (.ifCond .le 19, 3) := by decide +kernel
theorem dX11_toldFraction_14 : decode cX11_toldFraction 14 = .ok (.aload_n 0, 1) := by decide +kernel
theorem dX11_toldFraction_15 : decode cX11_toldFraction 15 = .ok (.lload_n 1, 1) := by decide +kernel
theorem dX11_toldFraction_16 : decode cX11_toldFraction 16 = .ok (.lload 5, 2) := by decide +kernel
theorem dX11_toldFraction_18 : decode cX11_toldFraction 18 = .ok (.ldiv, 1) := by decide +kernel
theorem dX11_toldFraction_19 : decode cX11_toldFraction 19 = .ok (.putfield 107, 3) := by decide +kernel
theorem dX11_toldFraction_22 : decode cX11_toldFraction 22 = .ok (.aload_n 0, 1) := by decide +kernel
theorem dX11_toldFraction_23 : decode cX11_toldFraction 23 = .ok (.lload_n 3, 1) := by decide +kernel
theorem dX11_toldFraction_24 : decode cX11_toldFraction 24 = .ok (.lload 5, 2) := by decide +kernel
theorem dX11_toldFraction_26 : decode cX11_toldFraction 26 = .ok (.ldiv, 1) := by decide +kernel
theorem dX11_toldFraction_27 : decode cX11_toldFraction 27 = .ok (.putfield 93, 3) := by decide +kernel
theorem dX11_toldFraction_30 : decode cX11_toldFraction 30 = .ok (.aload_n 0, 1) := by decide +kernel
theorem dX11_toldFraction_31 : decode cX11_toldFraction 31 = .ok (.invokevirtual 125, 3) := by decide +kernel
theorem dX11_toldFraction_34 : decode cX11_toldFraction 34 = .ok (.ireturn, 1) := by decide +kernel
set_option maxRecDepth 100000 in
theorem c_X11_toldFraction (l : Launch) (E : xE) (a0 : Nat) {T0 : Nat → Int32} {J0_15 : Int64} {J0_16 : Int64} {u0_0 u0_1 u0_2 u0_3 u0_4 u0_5 u0_6 u0_7 u0_8 u0_9 u0_11 u0_12 u0_13 : Nat} {x1 : Int64} {x3 : Int64} {z : Int32 × (Nat → Int32) × Int64 × Int64} (hf : f_X11_toldFraction T0 J0_15 J0_16 x1 x3 = some z) (sz : Nat) : Met l yX11_toldFraction (Cond.code yX11_toldFraction cX11_toldFraction 7 (some .boolean) :: gw) ({ frames := 1, cells := 0, slots := 0, locals := 30 }) (xPc E [.ref a0, .long x1, .long x3] [(a0, o11 T0 J0_15 J0_16 u0_0 u0_1 u0_2 u0_3 u0_4 u0_5 u0_6 u0_7 u0_8 u0_9 u0_11 u0_12 u0_13)] sz) (xQi E z.1 [(a0, o11 T0 J0_15 J0_16 u0_0 u0_1 u0_2 u0_3 u0_4 u0_5 u0_6 u0_7 u0_8 u0_9 u0_11 u0_12 u0_13)] [(a0, o11 z.2.1 z.2.2.1 z.2.2.2 u0_0 u0_1 u0_2 u0_3 u0_4 u0_5 u0_6 u0_7 u0_8 u0_9 u0_11 u0_12 u0_13)] sz) 0 0 (va_A [(a0, o11 T0 J0_15 J0_16 u0_0 u0_1 u0_2 u0_3 u0_4 u0_5 u0_6 u0_7 u0_8 u0_9 u0_11 u0_12 u0_13)] sz) := by
  refine xM_i (by decide +kernel) (Nat.le_of_ble_eq_true rfl) ?_
  intro p e s m args below meth c A Q hx hb hml hown htg hK hG hA ret0 H locs ls hP hD hS hl
  have ret : ∀ (z' : Int32 × (Nat → Int32) × Int64 × Int64) {H : Heap} {locs : List Loc} {pc : Nat} {ls : Array Slot}, some z' = some z → narrow .boolean (.int z'.1) = .int z'.1 → va_P E.1 vwCl [(a0, o11 z'.2.1 z'.2.2.1 z'.2.2.2 u0_0 u0_1 u0_2 u0_3 u0_4 u0_5 u0_6 u0_7 u0_8 u0_9 u0_11 u0_12 u0_13)] H → va_S A s.heap H locs → decode cX11_toldFraction pc = .ok (.ireturn, 1) → W p l e ({ frames := 1, cells := 0, slots := 0, locals := 30 } : Room) s m args below meth c H locs 0 0 Q (F0 m pc ls [.int z'.1]) := by
    intro z' H locs pc ls h
    cases h
    exact ret0
  replace hl : lv_has ls 7 [(0, .ref a0), (1, .long x1), (3, .long x3)] := hl
  have b30 : ∀ (T0 : Nat → Int32) (J0_15 : Int64) (J0_16 : Int64) (H : Heap) (locs : List Loc) (ls : Array Slot), f_X11_toldFraction_30 x1 x3 T0 J0_15 J0_16 = some z → va_P E.1 vwCl [(a0, o11 T0 J0_15 J0_16 u0_0 u0_1 u0_2 u0_3 u0_4 u0_5 u0_6 u0_7 u0_8 u0_9 u0_11 u0_12 u0_13)] H → va_D A [(a0, o11 T0 J0_15 J0_16 u0_0 u0_1 u0_2 u0_3 u0_4 u0_5 u0_6 u0_7 u0_8 u0_9 u0_11 u0_12 u0_13)] → va_S A s.heap H locs → lv_has ls 7 [(0, .ref a0)] → W p l e ({ frames := 1, cells := 0, slots := 0, locals := 30 } : Room) s m args below meth c H locs 0 0 Q (F0 m 30 ls []) := by
    intro T0 J0_15 J0_16 H locs ls hf hP hD hS hl
    unfold f_X11_toldFraction_30 at hf
    refine lv_aload_n hx hb dX11_toldFraction_30 rfl (lv_at hl 0 rfl) ?_
    obtain ⟨z31, hz31, hf⟩ := bind_s hf
    refine xV_iu hx hb hml hown htg L11_125 (c_X11_done l E a0 hz31 _) ⟨⟨rfl, rfl⟩, Nat.le_of_ble_eq_true rfl, Nat.le_of_ble_eq_true rfl⟩ hK hG hA hP hD hS (is := [0]) (sel := [some 0]) (ws2 := [(a0, o11 z31.2 J0_15 J0_16 u0_0 u0_1 u0_2 u0_3 u0_4 u0_5 u0_6 u0_7 u0_8 u0_9 u0_11 u0_12 u0_13)]) rfl rfl rfl rfl rfl (xrecv hK hP (q0 := 0) (ci := 11) rfl rfl) rfl hl.1 rfl (Nat.le_of_ble_eq_true rfl) dX11_toldFraction_31 (fun H locs hP hD hS => ?_)
    obtain ⟨g34, hf⟩ := ck_s hf
    exact ret (z31.1, z31.2, J0_15, J0_16) hf (bz_n g34).1 hP hS dX11_toldFraction_34
  unfold f_X11_toldFraction at hf
  refine lv_lload_n hx hb dX11_toldFraction_0 rfl (lv_at hl 1 rfl) ?_
  refine lv_lload_n hx hb dX11_toldFraction_1 rfl (lv_at hl 2 rfl) ?_
  obtain ⟨z2, hz2, hf⟩ := bind_s hf
  refine xS_lr hx hb hml hown htg L11_392 (c_X11_commonDivisor l E hz2 _) ⟨⟨rfl, rfl⟩, Nat.le_of_ble_eq_true rfl, Nat.le_of_ble_eq_true rfl⟩ hK hG hA hP hD hS (is := []) rfl rfl rfl hl.1 rfl (Nat.le_of_ble_eq_true rfl) dX11_toldFraction_2 (fun H locs hP hD hS => ?_)
  refine lv_lstore (lv' := [(5, .long z2), (0, .ref a0), (1, .long x1), (3, .long x3)]) hx hb dX11_toldFraction_5 hl (by decide) rfl (fun ls hl => ?_)
  refine lv_lload hx hb dX11_toldFraction_7 (lv_at hl 0 rfl) ?_
  refine lv_lconst (v := 0) hx hb dX11_toldFraction_9 rfl ?_
  refine W.lcmp hx hb dX11_toldFraction_10 ?_
  refine lv_if_le (tgt := 30) hx hb dX11_toldFraction_11 (by decide) (fun c11 => ?_) (fun c11 => ?_)
  · have hf := it_t c11 hf
    exact b30 T0 J0_15 J0_16 _ _ _ hf hP hD hS (lv_sub hl [1] rfl)
  · have hf := it_f c11 hf
    refine lv_aload_n hx hb dX11_toldFraction_14 rfl (lv_at hl 1 rfl) ?_
    refine lv_lload_n hx hb dX11_toldFraction_15 rfl (lv_at hl 2 rfl) ?_
    refine lv_lload hx hb dX11_toldFraction_16 (lv_at hl 0 rfl) ?_
    obtain ⟨g18, hf⟩ := ck_s hf
    refine lv_ldiv hx hb dX11_toldFraction_18 (of_decide_eq_true g18) ?_
    refine P11_107 hx hb htg hown hK hP hD hS 0 rfl dX11_toldFraction_19 (fun H locs hP hD hS => ?_)
    refine lv_aload_n hx hb dX11_toldFraction_22 rfl (lv_at hl 1 rfl) ?_
    refine lv_lload_n hx hb dX11_toldFraction_23 rfl (lv_at hl 3 rfl) ?_
    refine lv_lload hx hb dX11_toldFraction_24 (lv_at hl 0 rfl) ?_
    obtain ⟨g26, hf⟩ := ck_s hf
    refine lv_ldiv hx hb dX11_toldFraction_26 (of_decide_eq_true g26) ?_
    refine P11_93 hx hb htg hown hK hP hD hS 0 rfl dX11_toldFraction_27 (fun H locs hP hD hS => ?_)
    exact b30 T0 (x1 / z2) (x3 / z2) _ _ _ hf hP hD hS (lv_sub hl [1] rfl)
theorem dX11_oddsThat_0 : decode cX11_oddsThat 0 = .ok (.aload_n 0, 1) := by decide +kernel
theorem dX11_oddsThat_1 : decode cX11_oddsThat 1 = .ok (.getfield 79, 3) := by decide +kernel
theorem dX11_oddsThat_4 : decode cX11_oddsThat 4 = .ok (.iload_n 1, 1) := by decide +kernel
theorem dX11_oddsThat_5 : decode cX11_oddsThat 5 = .ok (.invokevirtual 227, 3) := by decide +kernel
theorem dX11_oddsThat_8 : decode cX11_oddsThat 8 = .ok (.ifCond .ne 9, 3) := by decide +kernel
theorem dX11_oddsThat_11 : decode cX11_oddsThat 11 = .ok (.aload_n 0, 1) := by decide +kernel
theorem dX11_oddsThat_12 : decode cX11_oddsThat 12 = .ok (.iconst 2, 1) := by decide +kernel
theorem dX11_oddsThat_13 : decode cX11_oddsThat 13 = .ok (.invokevirtual 118, 3) := by decide +kernel
theorem dX11_oddsThat_16 : decode cX11_oddsThat 16 = .ok (.ireturn, 1) := by decide +kernel
theorem dX11_oddsThat_17 : decode cX11_oddsThat 17 = .ok (.iload_n 2, 1) := by decide +kernel
theorem dX11_oddsThat_18 : decode cX11_oddsThat 18 = .ok (.invokestatic 245, 3) := by decide +kernel
theorem dX11_oddsThat_21 : decode cX11_oddsThat 21 = .ok (.ifCond .ne 9, 3) := by decide +kernel
theorem dX11_oddsThat_24 : decode cX11_oddsThat 24 = .ok (.aload_n 0, 1) := by decide +kernel
theorem dX11_oddsThat_25 : decode cX11_oddsThat 25 = .ok (.iconst 5, 1) := by decide +kernel
theorem dX11_oddsThat_26 : decode cX11_oddsThat 26 = .ok (.invokevirtual 118, 3) := by decide +kernel
theorem dX11_oddsThat_29 : decode cX11_oddsThat 29 = .ok (.ireturn, 1) := by decide +kernel
theorem dX11_oddsThat_30 : decode cX11_oddsThat 30 = .ok (.aload_n 0, 1) := by decide +kernel
theorem dX11_oddsThat_31 : decode cX11_oddsThat 31 = .ok (.getfield 54, 3) := by decide +kernel
theorem dX11_oddsThat_34 : decode cX11_oddsThat 34 = .ok (.aload_n 0, 1) := by decide +kernel
theorem dX11_oddsThat_35 : decode cX11_oddsThat 35 = .ok (.getfield 79, 3) := by decide +kernel
theorem dX11_oddsThat_38 : decode cX11_oddsThat 38 = .ok (.iload_n 1, 1) := by decide +kernel
theorem dX11_oddsThat_39 : decode cX11_oddsThat 39 = .ok (.invokevirtual 294, 3) := by decide +kernel
theorem dX11_oddsThat_42 : decode cX11_oddsThat 42 = .ok (.aload_n 0, 1) := by decide +kernel
theorem dX11_oddsThat_43 : decode cX11_oddsThat 43 = .ok (.getfield 54, 3) := by decide +kernel
theorem dX11_oddsThat_46 : decode cX11_oddsThat 46 = .ok (.invokevirtual 297, 3) := by decide +kernel
theorem dX11_oddsThat_49 : decode cX11_oddsThat 49 = .ok (.lconst 0, 1) := by decide +kernel
theorem dX11_oddsThat_50 : decode cX11_oddsThat 50 = .ok (.lcmp, 1) := by decide +kernel
theorem dX11_oddsThat_51 : decode cX11_oddsThat 51 = .ok (.ifCond .ne 10, 3) := by decide +kernel
theorem dX11_oddsThat_54 : decode cX11_oddsThat 54 = .ok (.aload_n 0, 1) := by decide +kernel
theorem dX11_oddsThat_55 : decode cX11_oddsThat 55 = .ok (.bipush 9, 2) := by decide +kernel
theorem dX11_oddsThat_57 : decode cX11_oddsThat 57 = .ok (.invokevirtual 118, 3) := by decide +kernel
theorem dX11_oddsThat_60 : decode cX11_oddsThat 60 = .ok (.ireturn, 1) := by decide +kernel
theorem dX11_oddsThat_61 : decode cX11_oddsThat 61 = .ok (.aload_n 0, 1) := by decide +kernel
theorem dX11_oddsThat_62 : decode cX11_oddsThat 62 = .ok (.aload_n 0, 1) := by decide +kernel
theorem dX11_oddsThat_63 : decode cX11_oddsThat 63 = .ok (.getfield 54, 3) := by decide +kernel
theorem dX11_oddsThat_66 : decode cX11_oddsThat 66 = .ok (.iload_n 2, 1) := by decide +kernel
theorem dX11_oddsThat_67 : decode cX11_oddsThat 67 = .ok (.invokevirtual 301, 3) := by decide +kernel
theorem dX11_oddsThat_70 : decode cX11_oddsThat 70 = .ok (.aload_n 0, 1) := by decide +kernel
theorem dX11_oddsThat_71 : decode cX11_oddsThat 71 = .ok (.getfield 54, 3) := by decide +kernel
theorem dX11_oddsThat_74 : decode cX11_oddsThat 74 = .ok (.invokevirtual 297, 3) := by decide +kernel
theorem dX11_oddsThat_77 : decode cX11_oddsThat 77 = .ok (.invokevirtual 305, 3) := by decide +kernel
theorem dX11_oddsThat_80 : decode cX11_oddsThat 80 = .ok (.ireturn, 1) := by decide +kernel
set_option maxRecDepth 100000 in
theorem c_X11_oddsThat (l : Launch) (E : xE) (a0 a1 a2 a3 a4 a5 a6 a7 : Nat) {T0 : Nat → Int32} {J0_15 : Int64} {J0_16 : Int64} {T1 : Nat → Int32} {V3 : Nat → Int64} {V4 : Nat → Int32} {V5 : Nat → Int32} {V6 : Nat → Int32} {V7 : Nat → Int32} {u0_0 u0_1 u0_2 u0_3 u0_4 u0_5 u0_7 u0_8 u0_9 u0_12 u0_13 u1_7 u1_9 u1_13 u1_14 u2_1 : Nat} {x1 : Int32} {x2 : Int32} {z : Int32 × (Nat → Int32) × Int64 × Int64 × (Nat → Int64)} (hf : f_X11_oddsThat T0 J0_15 J0_16 T1 V3 V4 V5 V6 V7 x1 x2 = some z) (sz : Nat) : Met l yX11_oddsThat (Cond.code yX11_oddsThat cX11_oddsThat 3 (some .boolean) :: gw) ({ frames := 3, cells := 0, slots := 0, locals := 69 }) (xPc E [.ref a0, .int x1, .int x2] [(a0, o11 T0 J0_15 J0_16 u0_0 u0_1 u0_2 u0_3 u0_4 u0_5 a2 u0_7 u0_8 u0_9 a1 u0_12 u0_13), (a1, o3 T1 u1_7 a6 u1_9 a4 a5 a7 u1_13 u1_14), (a2, o1 a3 u2_1), (a3, al E 4 V3), (a4, ai E 12 V4), (a5, ai E 12 V5), (a6, ai E 5 V6), (a7, ai E 12 V7)] sz) (xQi E z.1 [(a0, o11 T0 J0_15 J0_16 u0_0 u0_1 u0_2 u0_3 u0_4 u0_5 a2 u0_7 u0_8 u0_9 a1 u0_12 u0_13), (a1, o3 T1 u1_7 a6 u1_9 a4 a5 a7 u1_13 u1_14), (a2, o1 a3 u2_1), (a3, al E 4 V3), (a4, ai E 12 V4), (a5, ai E 12 V5), (a6, ai E 5 V6), (a7, ai E 12 V7)] [(a0, o11 z.2.1 z.2.2.1 z.2.2.2.1 u0_0 u0_1 u0_2 u0_3 u0_4 u0_5 a2 u0_7 u0_8 u0_9 a1 u0_12 u0_13), (a1, o3 T1 u1_7 a6 u1_9 a4 a5 a7 u1_13 u1_14), (a2, o1 a3 u2_1), (a3, al E 4 z.2.2.2.2), (a4, ai E 12 V4), (a5, ai E 12 V5), (a6, ai E 5 V6), (a7, ai E 12 V7)] sz) 0 0 (va_A [(a0, o11 T0 J0_15 J0_16 u0_0 u0_1 u0_2 u0_3 u0_4 u0_5 a2 u0_7 u0_8 u0_9 a1 u0_12 u0_13), (a1, o3 T1 u1_7 a6 u1_9 a4 a5 a7 u1_13 u1_14), (a2, o1 a3 u2_1), (a3, al E 4 V3), (a4, ai E 12 V4), (a5, ai E 12 V5), (a6, ai E 5 V6), (a7, ai E 12 V7)] sz) := by
  refine xM_i (by decide +kernel) (Nat.le_of_ble_eq_true rfl) ?_
  intro p e s m args below meth c A Q hx hb hml hown htg hK hG hA ret0 H locs ls hP hD hS hl
  have ret : ∀ (z' : Int32 × (Nat → Int32) × Int64 × Int64 × (Nat → Int64)) {H : Heap} {locs : List Loc} {pc : Nat} {ls : Array Slot}, some z' = some z → narrow .boolean (.int z'.1) = .int z'.1 → va_P E.1 vwCl [(a0, o11 z'.2.1 z'.2.2.1 z'.2.2.2.1 u0_0 u0_1 u0_2 u0_3 u0_4 u0_5 a2 u0_7 u0_8 u0_9 a1 u0_12 u0_13), (a1, o3 T1 u1_7 a6 u1_9 a4 a5 a7 u1_13 u1_14), (a2, o1 a3 u2_1), (a3, al E 4 z'.2.2.2.2), (a4, ai E 12 V4), (a5, ai E 12 V5), (a6, ai E 5 V6), (a7, ai E 12 V7)] H → va_S A s.heap H locs → decode cX11_oddsThat pc = .ok (.ireturn, 1) → W p l e ({ frames := 3, cells := 0, slots := 0, locals := 69 } : Room) s m args below meth c H locs 0 0 Q (F0 m pc ls [.int z'.1]) := by
    intro z' H locs pc ls h
    cases h
    exact ret0
  replace hl : lv_has ls 3 [(0, .ref a0), (1, .int x1), (2, .int x2)] := hl
  unfold f_X11_oddsThat at hf
  refine lv_aload_n hx hb dX11_oddsThat_0 rfl (lv_at hl 0 rfl) ?_
  refine G11_79 hx hb htg hown hK hP 0 rfl dX11_oddsThat_1 ?_
  refine lv_iload_n hx hb dX11_oddsThat_4 rfl (lv_at hl 1 rfl) ?_
  obtain ⟨z5, hz5, hf⟩ := bind_s hf
  refine xV_ir hx hb hml hown htg L11_227 (c_X3_hasCell l E a1 hz5 _) ⟨⟨rfl, rfl⟩, Nat.le_of_ble_eq_true rfl, Nat.le_of_ble_eq_true rfl⟩ hK hG hA hP hD hS (is := [1]) rfl rfl (xrecv hK hP (q0 := 1) (ci := 3) rfl rfl) rfl hl.1 rfl (Nat.le_of_ble_eq_true rfl) dX11_oddsThat_5 (fun H locs hP hD hS => ?_)
  refine lv_if_ne (tgt := 17) hx hb dX11_oddsThat_8 (by decide) (fun c8 => ?_) (fun c8 => ?_)
  · have hf := it_f c8 hf
    refine lv_iload_n hx hb dX11_oddsThat_17 rfl (lv_at hl 2 rfl) ?_
    obtain ⟨z18, hz18, hf⟩ := bind_s hf
    refine xS_ir hx hb hml hown htg L11_245 (c_X11_isKind l E hz18 _) ⟨⟨rfl, rfl⟩, Nat.le_of_ble_eq_true rfl, Nat.le_of_ble_eq_true rfl⟩ hK hG hA hP hD hS (is := []) rfl rfl rfl hl.1 rfl (Nat.le_of_ble_eq_true rfl) dX11_oddsThat_18 (fun H locs hP hD hS => ?_)
    refine lv_if_ne (tgt := 30) hx hb dX11_oddsThat_21 (by decide) (fun c21 => ?_) (fun c21 => ?_)
    · have hf := it_f c21 hf
      refine lv_aload_n hx hb dX11_oddsThat_30 rfl (lv_at hl 0 rfl) ?_
      refine G11_54 hx hb htg hown hK hP 0 rfl dX11_oddsThat_31 ?_
      refine lv_aload_n hx hb dX11_oddsThat_34 rfl (lv_at hl 0 rfl) ?_
      refine G11_79 hx hb htg hown hK hP 0 rfl dX11_oddsThat_35 ?_
      refine lv_iload_n hx hb dX11_oddsThat_38 rfl (lv_at hl 1 rfl) ?_
      obtain ⟨z39, hz39, hf⟩ := bind_s hf
      refine xV_vu hx hb hml hown htg L11_294 (c_X1_weigh l E a2 a1 a3 a4 a5 a6 a7 hz39 _) ⟨⟨rfl, rfl⟩, Nat.le_of_ble_eq_true rfl, Nat.le_of_ble_eq_true rfl⟩ hK hG hA hP hD hS (is := [2, 1, 3, 4, 5, 6, 7]) (sel := [none, some 1, some 0, some 2, some 3, some 4, some 5, some 6]) (ws2 := [(a0, o11 T0 J0_15 J0_16 u0_0 u0_1 u0_2 u0_3 u0_4 u0_5 a2 u0_7 u0_8 u0_9 a1 u0_12 u0_13), (a1, o3 T1 u1_7 a6 u1_9 a4 a5 a7 u1_13 u1_14), (a2, o1 a3 u2_1), (a3, al E 4 z39), (a4, ai E 12 V4), (a5, ai E 12 V5), (a6, ai E 5 V6), (a7, ai E 12 V7)]) rfl rfl rfl rfl rfl (xrecv hK hP (q0 := 2) (ci := 1) rfl rfl) rfl hl.1 rfl (Nat.le_of_ble_eq_true rfl) dX11_oddsThat_39 (fun H locs hP hD hS => ?_)
      refine lv_aload_n hx hb dX11_oddsThat_42 rfl (lv_at hl 0 rfl) ?_
      refine G11_54 hx hb htg hown hK hP 0 rfl dX11_oddsThat_43 ?_
      obtain ⟨z46, hz46, hf⟩ := bind_s hf
      refine xV_lr hx hb hml hown htg L11_297 (c_X1_sum l E a2 a3 hz46 _) ⟨⟨rfl, rfl⟩, Nat.le_of_ble_eq_true rfl, Nat.le_of_ble_eq_true rfl⟩ hK hG hA hP hD hS (is := [2, 3]) rfl rfl (xrecv hK hP (q0 := 2) (ci := 1) rfl rfl) rfl hl.1 rfl (Nat.le_of_ble_eq_true rfl) dX11_oddsThat_46 (fun H locs hP hD hS => ?_)
      refine lv_lconst (v := 0) hx hb dX11_oddsThat_49 rfl ?_
      refine W.lcmp hx hb dX11_oddsThat_50 ?_
      refine lv_if_ne (tgt := 61) hx hb dX11_oddsThat_51 (by decide) (fun c51 => ?_) (fun c51 => ?_)
      · have hf := it_f c51 hf
        refine lv_aload_n hx hb dX11_oddsThat_61 rfl (lv_at hl 0 rfl) ?_
        refine lv_aload_n hx hb dX11_oddsThat_62 rfl (lv_at hl 0 rfl) ?_
        refine G11_54 hx hb htg hown hK hP 0 rfl dX11_oddsThat_63 ?_
        refine lv_iload_n hx hb dX11_oddsThat_66 rfl (lv_at hl 2 rfl) ?_
        obtain ⟨z67, hz67, hf⟩ := bind_s hf
        refine xV_lr hx hb hml hown htg L11_301 (c_X1_weightOf l E a2 a3 hz67 _) ⟨⟨rfl, rfl⟩, Nat.le_of_ble_eq_true rfl, Nat.le_of_ble_eq_true rfl⟩ hK hG hA hP hD hS (is := [2, 3]) rfl rfl (xrecv hK hP (q0 := 2) (ci := 1) rfl rfl) rfl hl.1 rfl (Nat.le_of_ble_eq_true rfl) dX11_oddsThat_67 (fun H locs hP hD hS => ?_)
        refine lv_aload_n hx hb dX11_oddsThat_70 rfl (lv_at hl 0 rfl) ?_
        refine G11_54 hx hb htg hown hK hP 0 rfl dX11_oddsThat_71 ?_
        obtain ⟨z74, hz74, hf⟩ := bind_s hf
        refine xV_lr hx hb hml hown htg L11_297 (c_X1_sum l E a2 a3 hz74 _) ⟨⟨rfl, rfl⟩, Nat.le_of_ble_eq_true rfl, Nat.le_of_ble_eq_true rfl⟩ hK hG hA hP hD hS (is := [2, 3]) rfl rfl (xrecv hK hP (q0 := 2) (ci := 1) rfl rfl) rfl hl.1 rfl (Nat.le_of_ble_eq_true rfl) dX11_oddsThat_74 (fun H locs hP hD hS => ?_)
        obtain ⟨z77, hz77, hf⟩ := bind_s hf
        refine xV_iu hx hb hml hown htg L11_305 (c_X11_toldFraction l E a0 hz77 _) ⟨⟨rfl, rfl⟩, Nat.le_of_ble_eq_true rfl, Nat.le_of_ble_eq_true rfl⟩ hK hG hA hP hD hS (is := [0]) (sel := [some 0, none, none, none, none, none, none, none]) (ws2 := [(a0, o11 z77.2.1 z77.2.2.1 z77.2.2.2 u0_0 u0_1 u0_2 u0_3 u0_4 u0_5 a2 u0_7 u0_8 u0_9 a1 u0_12 u0_13), (a1, o3 T1 u1_7 a6 u1_9 a4 a5 a7 u1_13 u1_14), (a2, o1 a3 u2_1), (a3, al E 4 z39), (a4, ai E 12 V4), (a5, ai E 12 V5), (a6, ai E 5 V6), (a7, ai E 12 V7)]) rfl rfl rfl rfl rfl (xrecv hK hP (q0 := 0) (ci := 11) rfl rfl) rfl hl.1 rfl (Nat.le_of_ble_eq_true rfl) dX11_oddsThat_77 (fun H locs hP hD hS => ?_)
        obtain ⟨g80, hf⟩ := ck_s hf
        exact ret (z77.1, z77.2.1, z77.2.2.1, z77.2.2.2, z39) hf (bz_n g80).1 hP hS dX11_oddsThat_80
      · have hf := it_t c51 hf
        refine lv_aload_n hx hb dX11_oddsThat_54 rfl (lv_at hl 0 rfl) ?_
        refine lv_bipush (v := 9) hx hb dX11_oddsThat_55 rfl ?_
        obtain ⟨z57, hz57, hf⟩ := bind_s hf
        refine xV_iu hx hb hml hown htg L11_118 (c_X11_denied l E a0 hz57 _) ⟨⟨rfl, rfl⟩, Nat.le_of_ble_eq_true rfl, Nat.le_of_ble_eq_true rfl⟩ hK hG hA hP hD hS (is := [0]) (sel := [some 0, none, none, none, none, none, none, none]) (ws2 := [(a0, o11 z57.2 J0_15 J0_16 u0_0 u0_1 u0_2 u0_3 u0_4 u0_5 a2 u0_7 u0_8 u0_9 a1 u0_12 u0_13), (a1, o3 T1 u1_7 a6 u1_9 a4 a5 a7 u1_13 u1_14), (a2, o1 a3 u2_1), (a3, al E 4 z39), (a4, ai E 12 V4), (a5, ai E 12 V5), (a6, ai E 5 V6), (a7, ai E 12 V7)]) rfl rfl rfl rfl rfl (xrecv hK hP (q0 := 0) (ci := 11) rfl rfl) rfl hl.1 rfl (Nat.le_of_ble_eq_true rfl) dX11_oddsThat_57 (fun H locs hP hD hS => ?_)
        obtain ⟨g60, hf⟩ := ck_s hf
        exact ret (z57.1, z57.2, J0_15, J0_16, z39) hf (bz_n g60).1 hP hS dX11_oddsThat_60
    · have hf := it_t c21 hf
      refine lv_aload_n hx hb dX11_oddsThat_24 rfl (lv_at hl 0 rfl) ?_
      refine lv_iconst (v := 5) hx hb dX11_oddsThat_25 rfl ?_
      obtain ⟨z26, hz26, hf⟩ := bind_s hf
      refine xV_iu hx hb hml hown htg L11_118 (c_X11_denied l E a0 hz26 _) ⟨⟨rfl, rfl⟩, Nat.le_of_ble_eq_true rfl, Nat.le_of_ble_eq_true rfl⟩ hK hG hA hP hD hS (is := [0]) (sel := [some 0, none, none, none, none, none, none, none]) (ws2 := [(a0, o11 z26.2 J0_15 J0_16 u0_0 u0_1 u0_2 u0_3 u0_4 u0_5 a2 u0_7 u0_8 u0_9 a1 u0_12 u0_13), (a1, o3 T1 u1_7 a6 u1_9 a4 a5 a7 u1_13 u1_14), (a2, o1 a3 u2_1), (a3, al E 4 V3), (a4, ai E 12 V4), (a5, ai E 12 V5), (a6, ai E 5 V6), (a7, ai E 12 V7)]) rfl rfl rfl rfl rfl (xrecv hK hP (q0 := 0) (ci := 11) rfl rfl) rfl hl.1 rfl (Nat.le_of_ble_eq_true rfl) dX11_oddsThat_26 (fun H locs hP hD hS => ?_)
      obtain ⟨g29, hf⟩ := ck_s hf
      exact ret (z26.1, z26.2, J0_15, J0_16, V3) hf (bz_n g29).1 hP hS dX11_oddsThat_29
  · have hf := it_t c8 hf
    refine lv_aload_n hx hb dX11_oddsThat_11 rfl (lv_at hl 0 rfl) ?_
    refine lv_iconst (v := 2) hx hb dX11_oddsThat_12 rfl ?_
    obtain ⟨z13, hz13, hf⟩ := bind_s hf
    refine xV_iu hx hb hml hown htg L11_118 (c_X11_denied l E a0 hz13 _) ⟨⟨rfl, rfl⟩, Nat.le_of_ble_eq_true rfl, Nat.le_of_ble_eq_true rfl⟩ hK hG hA hP hD hS (is := [0]) (sel := [some 0, none, none, none, none, none, none, none]) (ws2 := [(a0, o11 z13.2 J0_15 J0_16 u0_0 u0_1 u0_2 u0_3 u0_4 u0_5 a2 u0_7 u0_8 u0_9 a1 u0_12 u0_13), (a1, o3 T1 u1_7 a6 u1_9 a4 a5 a7 u1_13 u1_14), (a2, o1 a3 u2_1), (a3, al E 4 V3), (a4, ai E 12 V4), (a5, ai E 12 V5), (a6, ai E 5 V6), (a7, ai E 12 V7)]) rfl rfl rfl rfl rfl (xrecv hK hP (q0 := 0) (ci := 11) rfl rfl) rfl hl.1 rfl (Nat.le_of_ble_eq_true rfl) dX11_oddsThat_13 (fun H locs hP hD hS => ?_)
    obtain ⟨g16, hf⟩ := ck_s hf
    exact ret (z13.1, z13.2, J0_15, J0_16, V3) hf (bz_n g16).1 hP hS dX11_oddsThat_16
theorem dX11_likeliest_0 : decode cX11_likeliest 0 = .ok (.aload_n 0, 1) := by decide +kernel
theorem dX11_likeliest_1 : decode cX11_likeliest 1 = .ok (.getfield 79, 3) := by decide +kernel
theorem dX11_likeliest_4 : decode cX11_likeliest 4 = .ok (.iload_n 1, 1) := by decide +kernel
theorem dX11_likeliest_5 : decode cX11_likeliest 5 = .ok (.invokevirtual 227, 3) := by decide +kernel
theorem dX11_likeliest_8 : decode cX11_likeliest 8 = .ok (.ifCond .ne 9, 3) := by decide +kernel
theorem dX11_likeliest_11 : decode cX11_likeliest 11 = .ok (.aload_n 0, 1) := by decide +kernel
theorem dX11_likeliest_12 : decode cX11_likeliest 12 = .ok (.iconst 2, 1) := by decide +kernel
theorem dX11_likeliest_13 : decode cX11_likeliest 13 = .ok (.invokevirtual 137, 3) := by decide +kernel
theorem dX11_likeliest_16 : decode cX11_likeliest 16 = .ok (.ireturn, 1) := by decide +kernel
theorem dX11_likeliest_17 : decode cX11_likeliest 17 = .ok (.aload_n 0, 1) := by decide +kernel
theorem dX11_likeliest_18 : decode cX11_likeliest 18 = .ok (.getfield 54, 3) := by decide +kernel
theorem dX11_likeliest_21 : decode cX11_likeliest 21 = .ok (.aload_n 0, 1) := by decide +kernel
theorem dX11_likeliest_22 : decode cX11_likeliest 22 = .ok (.getfield 79, 3) := by decide +kernel
theorem dX11_likeliest_25 : decode cX11_likeliest 25 = .ok (.iload_n 1, 1) := by decide +kernel
theorem dX11_likeliest_26 : decode cX11_likeliest 26 = .ok (.invokevirtual 294, 3) := by decide +kernel
theorem dX11_likeliest_29 : decode cX11_likeliest 29 = .ok (.aload_n 0, 1) := by decide +kernel
theorem dX11_likeliest_30 : decode cX11_likeliest 30 = .ok (.getfield 54, 3) := by decide +kernel
theorem dX11_likeliest_33 : decode cX11_likeliest 33 = .ok (.invokevirtual 297, 3) := by decide +kernel
theorem dX11_likeliest_36 : decode cX11_likeliest 36 = .ok (.lconst 0, 1) := by decide +kernel
theorem dX11_likeliest_37 : decode cX11_likeliest 37 = .ok (.lcmp, 1) := by decide +kernel
theorem dX11_likeliest_38 : decode cX11_likeliest 38 = .ok (.ifCond .ne 12, 3) := by decide +kernel
theorem dX11_likeliest_41 : decode cX11_likeliest 41 = .ok (.aload_n 0, 1) := by decide +kernel
theorem dX11_likeliest_42 : decode cX11_likeliest 42 = .ok (.bipush 9, 2) := by decide +kernel
theorem dX11_likeliest_44 : decode cX11_likeliest 44 = .ok (.invokevirtual 137, 3) := by decide +kernel
theorem dX11_likeliest_47 : decode cX11_likeliest 47 = .ok (.goto 14, 3) := by decide +kernel
theorem dX11_likeliest_50 : decode cX11_likeliest 50 = .ok (.aload_n 0, 1) := by decide +kernel
theorem dX11_likeliest_51 : decode cX11_likeliest 51 = .ok (.aload_n 0, 1) := by decide +kernel
theorem dX11_likeliest_52 : decode cX11_likeliest 52 = .ok (.getfield 54, 3) := by decide +kernel
theorem dX11_likeliest_55 : decode cX11_likeliest 55 = .ok (.invokevirtual 309, 3) := by decide +kernel
theorem dX11_likeliest_58 : decode cX11_likeliest 58 = .ok (.invokevirtual 179, 3) := by decide +kernel
theorem dX11_likeliest_61 : decode cX11_likeliest 61 = .ok (.ireturn, 1) := by decide +kernel
set_option maxRecDepth 100000 in
theorem c_X11_likeliest (l : Launch) (E : xE) (a0 a1 a2 a3 a4 a5 a6 a7 : Nat) {T0 : Nat → Int32} {J0_15 : Int64} {J0_16 : Int64} {T1 : Nat → Int32} {V3 : Nat → Int64} {V4 : Nat → Int32} {V5 : Nat → Int32} {V6 : Nat → Int32} {V7 : Nat → Int32} {u0_0 u0_1 u0_2 u0_3 u0_4 u0_5 u0_7 u0_8 u0_9 u0_12 u0_13 u1_7 u1_9 u1_13 u1_14 u2_1 : Nat} {x1 : Int32} {z : Int32 × (Nat → Int32) × (Nat → Int64)} (hf : f_X11_likeliest T0 T1 V3 V4 V5 V6 V7 x1 = some z) (sz : Nat) : Met l yX11_likeliest (Cond.code yX11_likeliest cX11_likeliest 2 (some .int) :: gw) ({ frames := 3, cells := 0, slots := 0, locals := 69 }) (xPc E [.ref a0, .int x1] [(a0, o11 T0 J0_15 J0_16 u0_0 u0_1 u0_2 u0_3 u0_4 u0_5 a2 u0_7 u0_8 u0_9 a1 u0_12 u0_13), (a1, o3 T1 u1_7 a6 u1_9 a4 a5 a7 u1_13 u1_14), (a2, o1 a3 u2_1), (a3, al E 4 V3), (a4, ai E 12 V4), (a5, ai E 12 V5), (a6, ai E 5 V6), (a7, ai E 12 V7)] sz) (xQi E z.1 [(a0, o11 T0 J0_15 J0_16 u0_0 u0_1 u0_2 u0_3 u0_4 u0_5 a2 u0_7 u0_8 u0_9 a1 u0_12 u0_13), (a1, o3 T1 u1_7 a6 u1_9 a4 a5 a7 u1_13 u1_14), (a2, o1 a3 u2_1), (a3, al E 4 V3), (a4, ai E 12 V4), (a5, ai E 12 V5), (a6, ai E 5 V6), (a7, ai E 12 V7)] [(a0, o11 z.2.1 J0_15 J0_16 u0_0 u0_1 u0_2 u0_3 u0_4 u0_5 a2 u0_7 u0_8 u0_9 a1 u0_12 u0_13), (a1, o3 T1 u1_7 a6 u1_9 a4 a5 a7 u1_13 u1_14), (a2, o1 a3 u2_1), (a3, al E 4 z.2.2), (a4, ai E 12 V4), (a5, ai E 12 V5), (a6, ai E 5 V6), (a7, ai E 12 V7)] sz) 0 0 (va_A [(a0, o11 T0 J0_15 J0_16 u0_0 u0_1 u0_2 u0_3 u0_4 u0_5 a2 u0_7 u0_8 u0_9 a1 u0_12 u0_13), (a1, o3 T1 u1_7 a6 u1_9 a4 a5 a7 u1_13 u1_14), (a2, o1 a3 u2_1), (a3, al E 4 V3), (a4, ai E 12 V4), (a5, ai E 12 V5), (a6, ai E 5 V6), (a7, ai E 12 V7)] sz) := by
  refine xM_i (by decide +kernel) (Nat.le_of_ble_eq_true rfl) ?_
  intro p e s m args below meth c A Q hx hb hml hown htg hK hG hA ret0 H locs ls hP hD hS hl
  have ret : ∀ (z' : Int32 × (Nat → Int32) × (Nat → Int64)) {H : Heap} {locs : List Loc} {pc : Nat} {ls : Array Slot}, some z' = some z → narrow .int (.int z'.1) = .int z'.1 → va_P E.1 vwCl [(a0, o11 z'.2.1 J0_15 J0_16 u0_0 u0_1 u0_2 u0_3 u0_4 u0_5 a2 u0_7 u0_8 u0_9 a1 u0_12 u0_13), (a1, o3 T1 u1_7 a6 u1_9 a4 a5 a7 u1_13 u1_14), (a2, o1 a3 u2_1), (a3, al E 4 z'.2.2), (a4, ai E 12 V4), (a5, ai E 12 V5), (a6, ai E 5 V6), (a7, ai E 12 V7)] H → va_S A s.heap H locs → decode cX11_likeliest pc = .ok (.ireturn, 1) → W p l e ({ frames := 3, cells := 0, slots := 0, locals := 69 } : Room) s m args below meth c H locs 0 0 Q (F0 m pc ls [.int z'.1]) := by
    intro z' H locs pc ls h
    cases h
    exact ret0
  replace hl : lv_has ls 2 [(0, .ref a0), (1, .int x1)] := hl
  unfold f_X11_likeliest at hf
  refine lv_aload_n hx hb dX11_likeliest_0 rfl (lv_at hl 0 rfl) ?_
  refine G11_79 hx hb htg hown hK hP 0 rfl dX11_likeliest_1 ?_
  refine lv_iload_n hx hb dX11_likeliest_4 rfl (lv_at hl 1 rfl) ?_
  obtain ⟨z5, hz5, hf⟩ := bind_s hf
  refine xV_ir hx hb hml hown htg L11_227 (c_X3_hasCell l E a1 hz5 _) ⟨⟨rfl, rfl⟩, Nat.le_of_ble_eq_true rfl, Nat.le_of_ble_eq_true rfl⟩ hK hG hA hP hD hS (is := [1]) rfl rfl (xrecv hK hP (q0 := 1) (ci := 3) rfl rfl) rfl hl.1 rfl (Nat.le_of_ble_eq_true rfl) dX11_likeliest_5 (fun H locs hP hD hS => ?_)
  refine lv_if_ne (tgt := 17) hx hb dX11_likeliest_8 (by decide) (fun c8 => ?_) (fun c8 => ?_)
  · have hf := it_f c8 hf
    refine lv_aload_n hx hb dX11_likeliest_17 rfl (lv_at hl 0 rfl) ?_
    refine G11_54 hx hb htg hown hK hP 0 rfl dX11_likeliest_18 ?_
    refine lv_aload_n hx hb dX11_likeliest_21 rfl (lv_at hl 0 rfl) ?_
    refine G11_79 hx hb htg hown hK hP 0 rfl dX11_likeliest_22 ?_
    refine lv_iload_n hx hb dX11_likeliest_25 rfl (lv_at hl 1 rfl) ?_
    obtain ⟨z26, hz26, hf⟩ := bind_s hf
    refine xV_vu hx hb hml hown htg L11_294 (c_X1_weigh l E a2 a1 a3 a4 a5 a6 a7 hz26 _) ⟨⟨rfl, rfl⟩, Nat.le_of_ble_eq_true rfl, Nat.le_of_ble_eq_true rfl⟩ hK hG hA hP hD hS (is := [2, 1, 3, 4, 5, 6, 7]) (sel := [none, some 1, some 0, some 2, some 3, some 4, some 5, some 6]) (ws2 := [(a0, o11 T0 J0_15 J0_16 u0_0 u0_1 u0_2 u0_3 u0_4 u0_5 a2 u0_7 u0_8 u0_9 a1 u0_12 u0_13), (a1, o3 T1 u1_7 a6 u1_9 a4 a5 a7 u1_13 u1_14), (a2, o1 a3 u2_1), (a3, al E 4 z26), (a4, ai E 12 V4), (a5, ai E 12 V5), (a6, ai E 5 V6), (a7, ai E 12 V7)]) rfl rfl rfl rfl rfl (xrecv hK hP (q0 := 2) (ci := 1) rfl rfl) rfl hl.1 rfl (Nat.le_of_ble_eq_true rfl) dX11_likeliest_26 (fun H locs hP hD hS => ?_)
    refine lv_aload_n hx hb dX11_likeliest_29 rfl (lv_at hl 0 rfl) ?_
    refine G11_54 hx hb htg hown hK hP 0 rfl dX11_likeliest_30 ?_
    obtain ⟨z33, hz33, hf⟩ := bind_s hf
    refine xV_lr hx hb hml hown htg L11_297 (c_X1_sum l E a2 a3 hz33 _) ⟨⟨rfl, rfl⟩, Nat.le_of_ble_eq_true rfl, Nat.le_of_ble_eq_true rfl⟩ hK hG hA hP hD hS (is := [2, 3]) rfl rfl (xrecv hK hP (q0 := 2) (ci := 1) rfl rfl) rfl hl.1 rfl (Nat.le_of_ble_eq_true rfl) dX11_likeliest_33 (fun H locs hP hD hS => ?_)
    refine lv_lconst (v := 0) hx hb dX11_likeliest_36 rfl ?_
    refine W.lcmp hx hb dX11_likeliest_37 ?_
    refine lv_if_ne (tgt := 50) hx hb dX11_likeliest_38 (by decide) (fun c38 => ?_) (fun c38 => ?_)
    · have hf := it_f c38 hf
      refine lv_aload_n hx hb dX11_likeliest_50 rfl (lv_at hl 0 rfl) ?_
      refine lv_aload_n hx hb dX11_likeliest_51 rfl (lv_at hl 0 rfl) ?_
      refine G11_54 hx hb htg hown hK hP 0 rfl dX11_likeliest_52 ?_
      obtain ⟨z55, hz55, hf⟩ := bind_s hf
      refine xV_ir hx hb hml hown htg L11_309 (c_X1_likeliestKind l E a2 a3 hz55 _) ⟨⟨rfl, rfl⟩, Nat.le_of_ble_eq_true rfl, Nat.le_of_ble_eq_true rfl⟩ hK hG hA hP hD hS (is := [2, 3]) rfl rfl (xrecv hK hP (q0 := 2) (ci := 1) rfl rfl) rfl hl.1 rfl (Nat.le_of_ble_eq_true rfl) dX11_likeliest_55 (fun H locs hP hD hS => ?_)
      obtain ⟨z58, hz58, hf⟩ := bind_s hf
      refine xV_iu hx hb hml hown htg L11_179 (c_X11_answer l E a0 hz58 _) ⟨⟨rfl, rfl⟩, Nat.le_of_ble_eq_true rfl, Nat.le_of_ble_eq_true rfl⟩ hK hG hA hP hD hS (is := [0]) (sel := [some 0, none, none, none, none, none, none, none]) (ws2 := [(a0, o11 z58.2 J0_15 J0_16 u0_0 u0_1 u0_2 u0_3 u0_4 u0_5 a2 u0_7 u0_8 u0_9 a1 u0_12 u0_13), (a1, o3 T1 u1_7 a6 u1_9 a4 a5 a7 u1_13 u1_14), (a2, o1 a3 u2_1), (a3, al E 4 z26), (a4, ai E 12 V4), (a5, ai E 12 V5), (a6, ai E 5 V6), (a7, ai E 12 V7)]) rfl rfl rfl rfl rfl (xrecv hK hP (q0 := 0) (ci := 11) rfl rfl) rfl hl.1 rfl (Nat.le_of_ble_eq_true rfl) dX11_likeliest_58 (fun H locs hP hD hS => ?_)
      exact ret (z58.1, z58.2, z26) hf nzi hP hS dX11_likeliest_61
    · have hf := it_t c38 hf
      refine lv_aload_n hx hb dX11_likeliest_41 rfl (lv_at hl 0 rfl) ?_
      refine lv_bipush (v := 9) hx hb dX11_likeliest_42 rfl ?_
      obtain ⟨z44, hz44, hf⟩ := bind_s hf
      refine xV_iu hx hb hml hown htg L11_137 (c_X11_refused l E a0 hz44 _) ⟨⟨rfl, rfl⟩, Nat.le_of_ble_eq_true rfl, Nat.le_of_ble_eq_true rfl⟩ hK hG hA hP hD hS (is := [0]) (sel := [some 0, none, none, none, none, none, none, none]) (ws2 := [(a0, o11 z44.2 J0_15 J0_16 u0_0 u0_1 u0_2 u0_3 u0_4 u0_5 a2 u0_7 u0_8 u0_9 a1 u0_12 u0_13), (a1, o3 T1 u1_7 a6 u1_9 a4 a5 a7 u1_13 u1_14), (a2, o1 a3 u2_1), (a3, al E 4 z26), (a4, ai E 12 V4), (a5, ai E 12 V5), (a6, ai E 5 V6), (a7, ai E 12 V7)]) rfl rfl rfl rfl rfl (xrecv hK hP (q0 := 0) (ci := 11) rfl rfl) rfl hl.1 rfl (Nat.le_of_ble_eq_true rfl) dX11_likeliest_44 (fun H locs hP hD hS => ?_)
      refine lv_goto (tgt := 61) hx hb dX11_likeliest_47 (by decide) ?_
      exact ret (z44.1, z44.2, z26) hf nzi hP hS dX11_likeliest_61
  · have hf := it_t c8 hf
    refine lv_aload_n hx hb dX11_likeliest_11 rfl (lv_at hl 0 rfl) ?_
    refine lv_iconst (v := 2) hx hb dX11_likeliest_12 rfl ?_
    obtain ⟨z13, hz13, hf⟩ := bind_s hf
    refine xV_iu hx hb hml hown htg L11_137 (c_X11_refused l E a0 hz13 _) ⟨⟨rfl, rfl⟩, Nat.le_of_ble_eq_true rfl, Nat.le_of_ble_eq_true rfl⟩ hK hG hA hP hD hS (is := [0]) (sel := [some 0, none, none, none, none, none, none, none]) (ws2 := [(a0, o11 z13.2 J0_15 J0_16 u0_0 u0_1 u0_2 u0_3 u0_4 u0_5 a2 u0_7 u0_8 u0_9 a1 u0_12 u0_13), (a1, o3 T1 u1_7 a6 u1_9 a4 a5 a7 u1_13 u1_14), (a2, o1 a3 u2_1), (a3, al E 4 V3), (a4, ai E 12 V4), (a5, ai E 12 V5), (a6, ai E 5 V6), (a7, ai E 12 V7)]) rfl rfl rfl rfl rfl (xrecv hK hP (q0 := 0) (ci := 11) rfl rfl) rfl hl.1 rfl (Nat.le_of_ble_eq_true rfl) dX11_likeliest_13 (fun H locs hP hD hS => ?_)
    exact ret (z13.1, z13.2, V3) hf nzi hP hS dX11_likeliest_16
theorem dX11_ask_0 : decode cX11_ask 0 = .ok (.aload_n 0, 1) := by decide +kernel
theorem dX11_ask_1 : decode cX11_ask 1 = .ok (.getfield 54, 3) := by decide +kernel
theorem dX11_ask_4 : decode cX11_ask 4 = .ok (.aload_n 0, 1) := by decide +kernel
theorem dX11_ask_5 : decode cX11_ask 5 = .ok (.getfield 79, 3) := by decide +kernel
theorem dX11_ask_8 : decode cX11_ask 8 = .ok (.invokevirtual 312, 3) := by decide +kernel
theorem dX11_ask_11 : decode cX11_ask 11 = .ok (.istore_n 1, 1) := by decide +kernel
theorem dX11_ask_12 : decode cX11_ask 12 = .ok (.iload_n 1, 1) := by decide +kernel
theorem dX11_ask_13 : decode cX11_ask 13 = .ok (.iconst (-1), 1) := by decide +kernel
theorem dX11_ask_14 : decode cX11_ask 14 = .ok (.if_icmp .ne 12, 3) := by decide +kernel
theorem dX11_ask_17 : decode cX11_ask 17 = .ok (.aload_n 0, 1) := by decide +kernel
theorem dX11_ask_18 : decode cX11_ask 18 = .ok (.bipush 8, 2) := by decide +kernel
theorem dX11_ask_20 : decode cX11_ask 20 = .ok (.invokevirtual 137, 3) := by decide +kernel
theorem dX11_ask_23 : decode cX11_ask 23 = .ok (.goto 8, 3) := by decide +kernel
theorem dX11_ask_26 : decode cX11_ask 26 = .ok (.aload_n 0, 1) := by decide +kernel
theorem dX11_ask_27 : decode cX11_ask 27 = .ok (.iload_n 1, 1) := by decide +kernel
theorem dX11_ask_28 : decode cX11_ask 28 = .ok (.invokevirtual 179, 3) := by decide +kernel
theorem dX11_ask_31 : decode cX11_ask 31 = .ok (.ireturn, 1) := by decide +kernel
set_option maxRecDepth 100000 in
theorem c_X11_ask (l : Launch) (E : xE) (a0 a1 a2 a3 a4 a5 a6 a7 : Nat) {T0 : Nat → Int32} {J0_15 : Int64} {J0_16 : Int64} {T2 : Nat → Int32} {V3 : Nat → Int64} {V4 : Nat → Int32} {V5 : Nat → Int32} {V6 : Nat → Int32} {V7 : Nat → Int32} {u0_0 u0_1 u0_2 u0_3 u0_4 u0_5 u0_7 u0_8 u0_9 u0_12 u0_13 u1_1 u2_7 u2_9 u2_13 u2_14 : Nat} {z : Int32 × (Nat → Int32) × (Nat → Int64)} (hf : f_X11_ask T0 T2 V3 V4 V5 V6 V7 = some z) (sz : Nat) : Met l yX11_ask (Cond.code yX11_ask cX11_ask 2 (some .int) :: gw) ({ frames := 4, cells := 0, slots := 0, locals := 101 }) (xPc E [.ref a0] [(a0, o11 T0 J0_15 J0_16 u0_0 u0_1 u0_2 u0_3 u0_4 u0_5 a1 u0_7 u0_8 u0_9 a2 u0_12 u0_13), (a1, o1 a3 u1_1), (a2, o3 T2 u2_7 a6 u2_9 a4 a5 a7 u2_13 u2_14), (a3, al E 4 V3), (a4, ai E 12 V4), (a5, ai E 12 V5), (a6, ai E 5 V6), (a7, ai E 12 V7)] sz) (xQi E z.1 [(a0, o11 T0 J0_15 J0_16 u0_0 u0_1 u0_2 u0_3 u0_4 u0_5 a1 u0_7 u0_8 u0_9 a2 u0_12 u0_13), (a1, o1 a3 u1_1), (a2, o3 T2 u2_7 a6 u2_9 a4 a5 a7 u2_13 u2_14), (a3, al E 4 V3), (a4, ai E 12 V4), (a5, ai E 12 V5), (a6, ai E 5 V6), (a7, ai E 12 V7)] [(a0, o11 z.2.1 J0_15 J0_16 u0_0 u0_1 u0_2 u0_3 u0_4 u0_5 a1 u0_7 u0_8 u0_9 a2 u0_12 u0_13), (a1, o1 a3 u1_1), (a2, o3 T2 u2_7 a6 u2_9 a4 a5 a7 u2_13 u2_14), (a3, al E 4 z.2.2), (a4, ai E 12 V4), (a5, ai E 12 V5), (a6, ai E 5 V6), (a7, ai E 12 V7)] sz) 0 0 (va_A [(a0, o11 T0 J0_15 J0_16 u0_0 u0_1 u0_2 u0_3 u0_4 u0_5 a1 u0_7 u0_8 u0_9 a2 u0_12 u0_13), (a1, o1 a3 u1_1), (a2, o3 T2 u2_7 a6 u2_9 a4 a5 a7 u2_13 u2_14), (a3, al E 4 V3), (a4, ai E 12 V4), (a5, ai E 12 V5), (a6, ai E 5 V6), (a7, ai E 12 V7)] sz) := by
  refine xM_i (by decide +kernel) (Nat.le_of_ble_eq_true rfl) ?_
  intro p e s m args below meth c A Q hx hb hml hown htg hK hG hA ret0 H locs ls hP hD hS hl
  have ret : ∀ (z' : Int32 × (Nat → Int32) × (Nat → Int64)) {H : Heap} {locs : List Loc} {pc : Nat} {ls : Array Slot}, some z' = some z → narrow .int (.int z'.1) = .int z'.1 → va_P E.1 vwCl [(a0, o11 z'.2.1 J0_15 J0_16 u0_0 u0_1 u0_2 u0_3 u0_4 u0_5 a1 u0_7 u0_8 u0_9 a2 u0_12 u0_13), (a1, o1 a3 u1_1), (a2, o3 T2 u2_7 a6 u2_9 a4 a5 a7 u2_13 u2_14), (a3, al E 4 z'.2.2), (a4, ai E 12 V4), (a5, ai E 12 V5), (a6, ai E 5 V6), (a7, ai E 12 V7)] H → va_S A s.heap H locs → decode cX11_ask pc = .ok (.ireturn, 1) → W p l e ({ frames := 4, cells := 0, slots := 0, locals := 101 } : Room) s m args below meth c H locs 0 0 Q (F0 m pc ls [.int z'.1]) := by
    intro z' H locs pc ls h
    cases h
    exact ret0
  replace hl : lv_has ls 2 [(0, .ref a0)] := hl
  unfold f_X11_ask at hf
  refine lv_aload_n hx hb dX11_ask_0 rfl (lv_at hl 0 rfl) ?_
  refine G11_54 hx hb htg hown hK hP 0 rfl dX11_ask_1 ?_
  refine lv_aload_n hx hb dX11_ask_4 rfl (lv_at hl 0 rfl) ?_
  refine G11_79 hx hb htg hown hK hP 0 rfl dX11_ask_5 ?_
  obtain ⟨z8, hz8, hf⟩ := bind_s hf
  refine xV_iu hx hb hml hown htg L11_312 (c_X1_leastSureCell l E a1 a2 a3 a4 a5 a6 a7 hz8 _) ⟨⟨rfl, rfl⟩, Nat.le_of_ble_eq_true rfl, Nat.le_of_ble_eq_true rfl⟩ hK hG hA hP hD hS (is := [1, 2, 3, 4, 5, 6, 7]) (sel := [none, some 0, some 1, some 2, some 3, some 4, some 5, some 6]) (ws2 := [(a0, o11 T0 J0_15 J0_16 u0_0 u0_1 u0_2 u0_3 u0_4 u0_5 a1 u0_7 u0_8 u0_9 a2 u0_12 u0_13), (a1, o1 a3 u1_1), (a2, o3 T2 u2_7 a6 u2_9 a4 a5 a7 u2_13 u2_14), (a3, al E 4 z8.2), (a4, ai E 12 V4), (a5, ai E 12 V5), (a6, ai E 5 V6), (a7, ai E 12 V7)]) rfl rfl rfl rfl rfl (xrecv hK hP (q0 := 1) (ci := 1) rfl rfl) rfl hl.1 rfl (Nat.le_of_ble_eq_true rfl) dX11_ask_8 (fun H locs hP hD hS => ?_)
  refine lv_istore_n (lv' := [(1, .int z8.1), (0, .ref a0)]) hx hb dX11_ask_11 rfl hl (by decide) rfl (fun ls hl => ?_)
  refine lv_iload_n hx hb dX11_ask_12 rfl (lv_at hl 0 rfl) ?_
  refine lv_iconst (v := (-1)) hx hb dX11_ask_13 rfl ?_
  refine lv_icmp_ne (tgt := 26) hx hb dX11_ask_14 (by decide) (fun c14 => ?_) (fun c14 => ?_)
  · have hf := it_f c14 hf
    refine lv_aload_n hx hb dX11_ask_26 rfl (lv_at hl 1 rfl) ?_
    refine lv_iload_n hx hb dX11_ask_27 rfl (lv_at hl 0 rfl) ?_
    obtain ⟨z28, hz28, hf⟩ := bind_s hf
    refine xV_iu hx hb hml hown htg L11_179 (c_X11_answer l E a0 hz28 _) ⟨⟨rfl, rfl⟩, Nat.le_of_ble_eq_true rfl, Nat.le_of_ble_eq_true rfl⟩ hK hG hA hP hD hS (is := [0]) (sel := [some 0, none, none, none, none, none, none, none]) (ws2 := [(a0, o11 z28.2 J0_15 J0_16 u0_0 u0_1 u0_2 u0_3 u0_4 u0_5 a1 u0_7 u0_8 u0_9 a2 u0_12 u0_13), (a1, o1 a3 u1_1), (a2, o3 T2 u2_7 a6 u2_9 a4 a5 a7 u2_13 u2_14), (a3, al E 4 z8.2), (a4, ai E 12 V4), (a5, ai E 12 V5), (a6, ai E 5 V6), (a7, ai E 12 V7)]) rfl rfl rfl rfl rfl (xrecv hK hP (q0 := 0) (ci := 11) rfl rfl) rfl hl.1 rfl (Nat.le_of_ble_eq_true rfl) dX11_ask_28 (fun H locs hP hD hS => ?_)
    exact ret (z28.1, z28.2, z8.2) hf nzi hP hS dX11_ask_31
  · have hf := it_t c14 hf
    refine lv_aload_n hx hb dX11_ask_17 rfl (lv_at hl 1 rfl) ?_
    refine lv_bipush (v := 8) hx hb dX11_ask_18 rfl ?_
    obtain ⟨z20, hz20, hf⟩ := bind_s hf
    refine xV_iu hx hb hml hown htg L11_137 (c_X11_refused l E a0 hz20 _) ⟨⟨rfl, rfl⟩, Nat.le_of_ble_eq_true rfl, Nat.le_of_ble_eq_true rfl⟩ hK hG hA hP hD hS (is := [0]) (sel := [some 0, none, none, none, none, none, none, none]) (ws2 := [(a0, o11 z20.2 J0_15 J0_16 u0_0 u0_1 u0_2 u0_3 u0_4 u0_5 a1 u0_7 u0_8 u0_9 a2 u0_12 u0_13), (a1, o1 a3 u1_1), (a2, o3 T2 u2_7 a6 u2_9 a4 a5 a7 u2_13 u2_14), (a3, al E 4 z8.2), (a4, ai E 12 V4), (a5, ai E 12 V5), (a6, ai E 5 V6), (a7, ai E 12 V7)]) rfl rfl rfl rfl rfl (xrecv hK hP (q0 := 0) (ci := 11) rfl rfl) rfl hl.1 rfl (Nat.le_of_ble_eq_true rfl) dX11_ask_20 (fun H locs hP hD hS => ?_)
    refine lv_goto (tgt := 31) hx hb dX11_ask_23 (by decide) ?_
    exact ret (z20.1, z20.2, z8.2) hf nzi hP hS dX11_ask_31
theorem dX11_liars_0 : decode cX11_liars 0 = .ok (.aload_n 0, 1) := by decide +kernel
theorem dX11_liars_1 : decode cX11_liars 1 = .ok (.aload_n 0, 1) := by decide +kernel
theorem dX11_liars_2 : decode cX11_liars 2 = .ok (.getfield 79, 3) := by decide +kernel
theorem dX11_liars_5 : decode cX11_liars 5 = .ok (.invokevirtual 315, 3) := by decide +kernel
theorem dX11_liars_8 : decode cX11_liars 8 = .ok (.invokestatic 318, 3) := by decide +kernel
theorem dX11_liars_11 : decode cX11_liars 11 = .ok (.invokevirtual 179, 3) := by decide +kernel
theorem dX11_liars_14 : decode cX11_liars 14 = .ok (.ireturn, 1) := by decide +kernel
set_option maxRecDepth 100000 in
theorem c_X11_liars (l : Launch) (E : xE) (a0 a1 a2 a3 a4 : Nat) {T0 : Nat → Int32} {J0_15 : Int64} {J0_16 : Int64} {T1 : Nat → Int32} {V2 : Nat → Int32} {V3 : Nat → Int32} {V4 : Nat → Int32} {u0_0 u0_1 u0_2 u0_3 u0_4 u0_5 u0_6 u0_7 u0_8 u0_9 u0_12 u0_13 u1_7 u1_8 u1_9 u1_13 u1_14 : Nat} {z : Int32 × (Nat → Int32)} (hf : f_X11_liars T0 T1 V2 V3 V4 = some z) (sz : Nat) : Met l yX11_liars (Cond.code yX11_liars cX11_liars 1 (some .int) :: gw) ({ frames := 3, cells := 0, slots := 0, locals := 69 }) (xPc E [.ref a0] [(a0, o11 T0 J0_15 J0_16 u0_0 u0_1 u0_2 u0_3 u0_4 u0_5 u0_6 u0_7 u0_8 u0_9 a1 u0_12 u0_13), (a1, o3 T1 u1_7 u1_8 u1_9 a4 a2 a3 u1_13 u1_14), (a2, ai E 12 V2), (a3, ai E 12 V3), (a4, ai E 12 V4)] sz) (xQi E z.1 [(a0, o11 T0 J0_15 J0_16 u0_0 u0_1 u0_2 u0_3 u0_4 u0_5 u0_6 u0_7 u0_8 u0_9 a1 u0_12 u0_13), (a1, o3 T1 u1_7 u1_8 u1_9 a4 a2 a3 u1_13 u1_14), (a2, ai E 12 V2), (a3, ai E 12 V3), (a4, ai E 12 V4)] [(a0, o11 z.2 J0_15 J0_16 u0_0 u0_1 u0_2 u0_3 u0_4 u0_5 u0_6 u0_7 u0_8 u0_9 a1 u0_12 u0_13), (a1, o3 T1 u1_7 u1_8 u1_9 a4 a2 a3 u1_13 u1_14), (a2, ai E 12 V2), (a3, ai E 12 V3), (a4, ai E 12 V4)] sz) 0 0 (va_A [(a0, o11 T0 J0_15 J0_16 u0_0 u0_1 u0_2 u0_3 u0_4 u0_5 u0_6 u0_7 u0_8 u0_9 a1 u0_12 u0_13), (a1, o3 T1 u1_7 u1_8 u1_9 a4 a2 a3 u1_13 u1_14), (a2, ai E 12 V2), (a3, ai E 12 V3), (a4, ai E 12 V4)] sz) := by
  refine xM_i (by decide +kernel) (Nat.le_of_ble_eq_true rfl) ?_
  intro p e s m args below meth c A Q hx hb hml hown htg hK hG hA ret0 H locs ls hP hD hS hl
  have ret : ∀ (z' : Int32 × (Nat → Int32)) {H : Heap} {locs : List Loc} {pc : Nat} {ls : Array Slot}, some z' = some z → narrow .int (.int z'.1) = .int z'.1 → va_P E.1 vwCl [(a0, o11 z'.2 J0_15 J0_16 u0_0 u0_1 u0_2 u0_3 u0_4 u0_5 u0_6 u0_7 u0_8 u0_9 a1 u0_12 u0_13), (a1, o3 T1 u1_7 u1_8 u1_9 a4 a2 a3 u1_13 u1_14), (a2, ai E 12 V2), (a3, ai E 12 V3), (a4, ai E 12 V4)] H → va_S A s.heap H locs → decode cX11_liars pc = .ok (.ireturn, 1) → W p l e ({ frames := 3, cells := 0, slots := 0, locals := 69 } : Room) s m args below meth c H locs 0 0 Q (F0 m pc ls [.int z'.1]) := by
    intro z' H locs pc ls h
    cases h
    exact ret0
  replace hl : lv_has ls 1 [(0, .ref a0)] := hl
  unfold f_X11_liars at hf
  refine lv_aload_n hx hb dX11_liars_0 rfl (lv_at hl 0 rfl) ?_
  refine lv_aload_n hx hb dX11_liars_1 rfl (lv_at hl 0 rfl) ?_
  refine G11_79 hx hb htg hown hK hP 0 rfl dX11_liars_2 ?_
  obtain ⟨z5, hz5, hf⟩ := bind_s hf
  refine xV_ir hx hb hml hown htg L11_315 (c_X3_fewestLiars l E a1 a2 a3 a4 hz5 _) ⟨⟨rfl, rfl⟩, Nat.le_of_ble_eq_true rfl, Nat.le_of_ble_eq_true rfl⟩ hK hG hA hP hD hS (is := [1, 2, 3, 4]) rfl rfl (xrecv hK hP (q0 := 1) (ci := 3) rfl rfl) rfl hl.1 rfl (Nat.le_of_ble_eq_true rfl) dX11_liars_5 (fun H locs hP hD hS => ?_)
  obtain ⟨z8, hz8, hf⟩ := bind_s hf
  refine xS_ir hx hb hml hown htg L11_318 (c_J6_bitCount_0f7a4 l E hz8 _) ⟨⟨rfl, rfl⟩, Nat.le_of_ble_eq_true rfl, Nat.le_of_ble_eq_true rfl⟩ hK hG hA hP hD hS (is := []) rfl rfl rfl hl.1 rfl (Nat.le_of_ble_eq_true rfl) dX11_liars_8 (fun H locs hP hD hS => ?_)
  obtain ⟨z11, hz11, hf⟩ := bind_s hf
  refine xV_iu hx hb hml hown htg L11_179 (c_X11_answer l E a0 hz11 _) ⟨⟨rfl, rfl⟩, Nat.le_of_ble_eq_true rfl, Nat.le_of_ble_eq_true rfl⟩ hK hG hA hP hD hS (is := [0]) (sel := [some 0, none, none, none, none]) (ws2 := [(a0, o11 z11.2 J0_15 J0_16 u0_0 u0_1 u0_2 u0_3 u0_4 u0_5 u0_6 u0_7 u0_8 u0_9 a1 u0_12 u0_13), (a1, o3 T1 u1_7 u1_8 u1_9 a4 a2 a3 u1_13 u1_14), (a2, ai E 12 V2), (a3, ai E 12 V3), (a4, ai E 12 V4)]) rfl rfl rfl rfl rfl (xrecv hK hP (q0 := 0) (ci := 11) rfl rfl) rfl hl.1 rfl (Nat.le_of_ble_eq_true rfl) dX11_liars_11 (fun H locs hP hD hS => ?_)
  exact ret (z11.1, z11.2) hf nzi hP hS dX11_liars_14
theorem dX11_liarSet_0 : decode cX11_liarSet 0 = .ok (.aload_n 0, 1) := by decide +kernel
theorem dX11_liarSet_1 : decode cX11_liarSet 1 = .ok (.aload_n 0, 1) := by decide +kernel
theorem dX11_liarSet_2 : decode cX11_liarSet 2 = .ok (.getfield 79, 3) := by decide +kernel
theorem dX11_liarSet_5 : decode cX11_liarSet 5 = .ok (.invokevirtual 315, 3) := by decide +kernel
theorem dX11_liarSet_8 : decode cX11_liarSet 8 = .ok (.invokevirtual 179, 3) := by decide +kernel
theorem dX11_liarSet_11 : decode cX11_liarSet 11 = .ok (.ireturn, 1) := by decide +kernel
set_option maxRecDepth 100000 in
theorem c_X11_liarSet (l : Launch) (E : xE) (a0 a1 a2 a3 a4 : Nat) {T0 : Nat → Int32} {J0_15 : Int64} {J0_16 : Int64} {T1 : Nat → Int32} {V2 : Nat → Int32} {V3 : Nat → Int32} {V4 : Nat → Int32} {u0_0 u0_1 u0_2 u0_3 u0_4 u0_5 u0_6 u0_7 u0_8 u0_9 u0_12 u0_13 u1_7 u1_8 u1_9 u1_13 u1_14 : Nat} {z : Int32 × (Nat → Int32)} (hf : f_X11_liarSet T0 T1 V2 V3 V4 = some z) (sz : Nat) : Met l yX11_liarSet (Cond.code yX11_liarSet cX11_liarSet 1 (some .int) :: gw) ({ frames := 3, cells := 0, slots := 0, locals := 69 }) (xPc E [.ref a0] [(a0, o11 T0 J0_15 J0_16 u0_0 u0_1 u0_2 u0_3 u0_4 u0_5 u0_6 u0_7 u0_8 u0_9 a1 u0_12 u0_13), (a1, o3 T1 u1_7 u1_8 u1_9 a4 a2 a3 u1_13 u1_14), (a2, ai E 12 V2), (a3, ai E 12 V3), (a4, ai E 12 V4)] sz) (xQi E z.1 [(a0, o11 T0 J0_15 J0_16 u0_0 u0_1 u0_2 u0_3 u0_4 u0_5 u0_6 u0_7 u0_8 u0_9 a1 u0_12 u0_13), (a1, o3 T1 u1_7 u1_8 u1_9 a4 a2 a3 u1_13 u1_14), (a2, ai E 12 V2), (a3, ai E 12 V3), (a4, ai E 12 V4)] [(a0, o11 z.2 J0_15 J0_16 u0_0 u0_1 u0_2 u0_3 u0_4 u0_5 u0_6 u0_7 u0_8 u0_9 a1 u0_12 u0_13), (a1, o3 T1 u1_7 u1_8 u1_9 a4 a2 a3 u1_13 u1_14), (a2, ai E 12 V2), (a3, ai E 12 V3), (a4, ai E 12 V4)] sz) 0 0 (va_A [(a0, o11 T0 J0_15 J0_16 u0_0 u0_1 u0_2 u0_3 u0_4 u0_5 u0_6 u0_7 u0_8 u0_9 a1 u0_12 u0_13), (a1, o3 T1 u1_7 u1_8 u1_9 a4 a2 a3 u1_13 u1_14), (a2, ai E 12 V2), (a3, ai E 12 V3), (a4, ai E 12 V4)] sz) := by
  refine xM_i (by decide +kernel) (Nat.le_of_ble_eq_true rfl) ?_
  intro p e s m args below meth c A Q hx hb hml hown htg hK hG hA ret0 H locs ls hP hD hS hl
  have ret : ∀ (z' : Int32 × (Nat → Int32)) {H : Heap} {locs : List Loc} {pc : Nat} {ls : Array Slot}, some z' = some z → narrow .int (.int z'.1) = .int z'.1 → va_P E.1 vwCl [(a0, o11 z'.2 J0_15 J0_16 u0_0 u0_1 u0_2 u0_3 u0_4 u0_5 u0_6 u0_7 u0_8 u0_9 a1 u0_12 u0_13), (a1, o3 T1 u1_7 u1_8 u1_9 a4 a2 a3 u1_13 u1_14), (a2, ai E 12 V2), (a3, ai E 12 V3), (a4, ai E 12 V4)] H → va_S A s.heap H locs → decode cX11_liarSet pc = .ok (.ireturn, 1) → W p l e ({ frames := 3, cells := 0, slots := 0, locals := 69 } : Room) s m args below meth c H locs 0 0 Q (F0 m pc ls [.int z'.1]) := by
    intro z' H locs pc ls h
    cases h
    exact ret0
  replace hl : lv_has ls 1 [(0, .ref a0)] := hl
  unfold f_X11_liarSet at hf
  refine lv_aload_n hx hb dX11_liarSet_0 rfl (lv_at hl 0 rfl) ?_
  refine lv_aload_n hx hb dX11_liarSet_1 rfl (lv_at hl 0 rfl) ?_
  refine G11_79 hx hb htg hown hK hP 0 rfl dX11_liarSet_2 ?_
  obtain ⟨z5, hz5, hf⟩ := bind_s hf
  refine xV_ir hx hb hml hown htg L11_315 (c_X3_fewestLiars l E a1 a2 a3 a4 hz5 _) ⟨⟨rfl, rfl⟩, Nat.le_of_ble_eq_true rfl, Nat.le_of_ble_eq_true rfl⟩ hK hG hA hP hD hS (is := [1, 2, 3, 4]) rfl rfl (xrecv hK hP (q0 := 1) (ci := 3) rfl rfl) rfl hl.1 rfl (Nat.le_of_ble_eq_true rfl) dX11_liarSet_5 (fun H locs hP hD hS => ?_)
  obtain ⟨z8, hz8, hf⟩ := bind_s hf
  refine xV_iu hx hb hml hown htg L11_179 (c_X11_answer l E a0 hz8 _) ⟨⟨rfl, rfl⟩, Nat.le_of_ble_eq_true rfl, Nat.le_of_ble_eq_true rfl⟩ hK hG hA hP hD hS (is := [0]) (sel := [some 0, none, none, none, none]) (ws2 := [(a0, o11 z8.2 J0_15 J0_16 u0_0 u0_1 u0_2 u0_3 u0_4 u0_5 u0_6 u0_7 u0_8 u0_9 a1 u0_12 u0_13), (a1, o3 T1 u1_7 u1_8 u1_9 a4 a2 a3 u1_13 u1_14), (a2, ai E 12 V2), (a3, ai E 12 V3), (a4, ai E 12 V4)]) rfl rfl rfl rfl rfl (xrecv hK hP (q0 := 0) (ci := 11) rfl rfl) rfl hl.1 rfl (Nat.le_of_ble_eq_true rfl) dX11_liarSet_8 (fun H locs hP hD hS => ?_)
  exact ret (z8.1, z8.2) hf nzi hP hS dX11_liarSet_11
theorem dX11_clashes_0 : decode cX11_clashes 0 = .ok (.aload_n 0, 1) := by decide +kernel
theorem dX11_clashes_1 : decode cX11_clashes 1 = .ok (.aload_n 0, 1) := by decide +kernel
theorem dX11_clashes_2 : decode cX11_clashes 2 = .ok (.getfield 79, 3) := by decide +kernel
theorem dX11_clashes_5 : decode cX11_clashes 5 = .ok (.iconst 0, 1) := by decide +kernel
theorem dX11_clashes_6 : decode cX11_clashes 6 = .ok (.invokevirtual 323, 3) := by decide +kernel
theorem dX11_clashes_9 : decode cX11_clashes 9 = .ok (.invokevirtual 179, 3) := by decide +kernel
theorem dX11_clashes_12 : decode cX11_clashes 12 = .ok (.ireturn, 1) := by decide +kernel
set_option maxRecDepth 100000 in
theorem c_X11_clashes (l : Launch) (E : xE) (a0 a1 a2 a3 a4 : Nat) {T0 : Nat → Int32} {J0_15 : Int64} {J0_16 : Int64} {T1 : Nat → Int32} {V2 : Nat → Int32} {V3 : Nat → Int32} {V4 : Nat → Int32} {u0_0 u0_1 u0_2 u0_3 u0_4 u0_5 u0_6 u0_7 u0_8 u0_9 u0_12 u0_13 u1_7 u1_8 u1_9 u1_13 u1_14 : Nat} {z : Int32 × (Nat → Int32)} (hf : f_X11_clashes T0 T1 V2 V3 V4 = some z) (sz : Nat) : Met l yX11_clashes (Cond.code yX11_clashes cX11_clashes 1 (some .int) :: gw) ({ frames := 2, cells := 0, slots := 0, locals := 46 }) (xPc E [.ref a0] [(a0, o11 T0 J0_15 J0_16 u0_0 u0_1 u0_2 u0_3 u0_4 u0_5 u0_6 u0_7 u0_8 u0_9 a1 u0_12 u0_13), (a1, o3 T1 u1_7 u1_8 u1_9 a4 a2 a3 u1_13 u1_14), (a2, ai E 12 V2), (a3, ai E 12 V3), (a4, ai E 12 V4)] sz) (xQi E z.1 [(a0, o11 T0 J0_15 J0_16 u0_0 u0_1 u0_2 u0_3 u0_4 u0_5 u0_6 u0_7 u0_8 u0_9 a1 u0_12 u0_13), (a1, o3 T1 u1_7 u1_8 u1_9 a4 a2 a3 u1_13 u1_14), (a2, ai E 12 V2), (a3, ai E 12 V3), (a4, ai E 12 V4)] [(a0, o11 z.2 J0_15 J0_16 u0_0 u0_1 u0_2 u0_3 u0_4 u0_5 u0_6 u0_7 u0_8 u0_9 a1 u0_12 u0_13), (a1, o3 T1 u1_7 u1_8 u1_9 a4 a2 a3 u1_13 u1_14), (a2, ai E 12 V2), (a3, ai E 12 V3), (a4, ai E 12 V4)] sz) 0 0 (va_A [(a0, o11 T0 J0_15 J0_16 u0_0 u0_1 u0_2 u0_3 u0_4 u0_5 u0_6 u0_7 u0_8 u0_9 a1 u0_12 u0_13), (a1, o3 T1 u1_7 u1_8 u1_9 a4 a2 a3 u1_13 u1_14), (a2, ai E 12 V2), (a3, ai E 12 V3), (a4, ai E 12 V4)] sz) := by
  refine xM_i (by decide +kernel) (Nat.le_of_ble_eq_true rfl) ?_
  intro p e s m args below meth c A Q hx hb hml hown htg hK hG hA ret0 H locs ls hP hD hS hl
  have ret : ∀ (z' : Int32 × (Nat → Int32)) {H : Heap} {locs : List Loc} {pc : Nat} {ls : Array Slot}, some z' = some z → narrow .int (.int z'.1) = .int z'.1 → va_P E.1 vwCl [(a0, o11 z'.2 J0_15 J0_16 u0_0 u0_1 u0_2 u0_3 u0_4 u0_5 u0_6 u0_7 u0_8 u0_9 a1 u0_12 u0_13), (a1, o3 T1 u1_7 u1_8 u1_9 a4 a2 a3 u1_13 u1_14), (a2, ai E 12 V2), (a3, ai E 12 V3), (a4, ai E 12 V4)] H → va_S A s.heap H locs → decode cX11_clashes pc = .ok (.ireturn, 1) → W p l e ({ frames := 2, cells := 0, slots := 0, locals := 46 } : Room) s m args below meth c H locs 0 0 Q (F0 m pc ls [.int z'.1]) := by
    intro z' H locs pc ls h
    cases h
    exact ret0
  replace hl : lv_has ls 1 [(0, .ref a0)] := hl
  unfold f_X11_clashes at hf
  refine lv_aload_n hx hb dX11_clashes_0 rfl (lv_at hl 0 rfl) ?_
  refine lv_aload_n hx hb dX11_clashes_1 rfl (lv_at hl 0 rfl) ?_
  refine G11_79 hx hb htg hown hK hP 0 rfl dX11_clashes_2 ?_
  refine lv_iconst (v := 0) hx hb dX11_clashes_5 rfl ?_
  obtain ⟨z6, hz6, hf⟩ := bind_s hf
  refine xV_ir hx hb hml hown htg L11_323 (c_X3_clashesWithout l E a1 a2 a3 a4 hz6 _) ⟨⟨rfl, rfl⟩, Nat.le_of_ble_eq_true rfl, Nat.le_of_ble_eq_true rfl⟩ hK hG hA hP hD hS (is := [1, 2, 3, 4]) rfl rfl (xrecv hK hP (q0 := 1) (ci := 3) rfl rfl) rfl hl.1 rfl (Nat.le_of_ble_eq_true rfl) dX11_clashes_6 (fun H locs hP hD hS => ?_)
  obtain ⟨z9, hz9, hf⟩ := bind_s hf
  refine xV_iu hx hb hml hown htg L11_179 (c_X11_answer l E a0 hz9 _) ⟨⟨rfl, rfl⟩, Nat.le_of_ble_eq_true rfl, Nat.le_of_ble_eq_true rfl⟩ hK hG hA hP hD hS (is := [0]) (sel := [some 0, none, none, none, none]) (ws2 := [(a0, o11 z9.2 J0_15 J0_16 u0_0 u0_1 u0_2 u0_3 u0_4 u0_5 u0_6 u0_7 u0_8 u0_9 a1 u0_12 u0_13), (a1, o3 T1 u1_7 u1_8 u1_9 a4 a2 a3 u1_13 u1_14), (a2, ai E 12 V2), (a3, ai E 12 V3), (a4, ai E 12 V4)]) rfl rfl rfl rfl rfl (xrecv hK hP (q0 := 0) (ci := 11) rfl rfl) rfl hl.1 rfl (Nat.le_of_ble_eq_true rfl) dX11_clashes_9 (fun H locs hP hD hS => ?_)
  exact ret (z9.1, z9.2) hf nzi hP hS dX11_clashes_12
theorem dX11_whyNoWay_0 : decode cX11_whyNoWay 0 = .ok (.aload_n 0, 1) := by decide +kernel
theorem dX11_whyNoWay_1 : decode cX11_whyNoWay 1 = .ok (.getfield 79, 3) := by decide +kernel
theorem dX11_whyNoWay_4 : decode cX11_whyNoWay 4 = .ok (.iload_n 1, 1) := by decide +kernel
theorem dX11_whyNoWay_5 : decode cX11_whyNoWay 5 = .ok (.invokevirtual 227, 3) := by decide +kernel
theorem dX11_whyNoWay_8 : decode cX11_whyNoWay 8 = .ok (.ifCond .ne 5, 3) := by decide +kernel
theorem dX11_whyNoWay_11 : decode cX11_whyNoWay 11 = .ok (.iconst 2, 1) := by decide +kernel
theorem dX11_whyNoWay_12 : decode cX11_whyNoWay 12 = .ok (.ireturn, 1) := by decide +kernel
theorem dX11_whyNoWay_13 : decode cX11_whyNoWay 13 = .ok (.aload_n 0, 1) := by decide +kernel
theorem dX11_whyNoWay_14 : decode cX11_whyNoWay 14 = .ok (.getfield 40, 3) := by decide +kernel
theorem dX11_whyNoWay_17 : decode cX11_whyNoWay 17 = .ok (.aload_n 0, 1) := by decide +kernel
theorem dX11_whyNoWay_18 : decode cX11_whyNoWay 18 = .ok (.getfield 79, 3) := by decide +kernel
theorem dX11_whyNoWay_21 : decode cX11_whyNoWay 21 = .ok (.aload_n 0, 1) := by decide +kernel
theorem dX11_whyNoWay_22 : decode cX11_whyNoWay 22 = .ok (.getfield 79, 3) := by decide +kernel
theorem dX11_whyNoWay_25 : decode cX11_whyNoWay 25 = .ok (.getfield 214, 3) := by decide +kernel
theorem dX11_whyNoWay_28 : decode cX11_whyNoWay 28 = .ok (.invokevirtual 220, 3) := by decide +kernel
theorem dX11_whyNoWay_31 : decode cX11_whyNoWay 31 = .ok (.aload_n 0, 1) := by decide +kernel
theorem dX11_whyNoWay_32 : decode cX11_whyNoWay 32 = .ok (.getfield 47, 3) := by decide +kernel
theorem dX11_whyNoWay_35 : decode cX11_whyNoWay 35 = .ok (.aload_n 0, 1) := by decide +kernel
theorem dX11_whyNoWay_36 : decode cX11_whyNoWay 36 = .ok (.getfield 79, 3) := by decide +kernel
theorem dX11_whyNoWay_39 : decode cX11_whyNoWay 39 = .ok (.aload_n 0, 1) := by decide +kernel
theorem dX11_whyNoWay_40 : decode cX11_whyNoWay 40 = .ok (.getfield 40, 3) := by decide +kernel
theorem dX11_whyNoWay_43 : decode cX11_whyNoWay 43 = .ok (.iload_n 1, 1) := by decide +kernel
theorem dX11_whyNoWay_44 : decode cX11_whyNoWay 44 = .ok (.invokevirtual 408, 3) := by decide +kernel
theorem dX11_whyNoWay_47 : decode cX11_whyNoWay 47 = .ok (.ifCond .eq 7, 3) := by decide +kernel
theorem dX11_whyNoWay_50 : decode cX11_whyNoWay 50 = .ok (.iconst 0, 1) := by decide +kernel
theorem dX11_whyNoWay_51 : decode cX11_whyNoWay 51 = .ok (.goto 5, 3) := by decide +kernel
theorem dX11_whyNoWay_54 : decode cX11_whyNoWay 54 = .ok (.bipush 8, 2) := by decide +kernel
theorem dX11_whyNoWay_56 : decode cX11_whyNoWay 56 = .ok (.ireturn, 1) := by decide +kernel
set_option maxRecDepth 100000 in
theorem c_X11_whyNoWay (l : Launch) (E : xE) (a0 a1 a2 a3 a4 a5 a6 a7 a8 a9 a10 : Nat) {T0 : Nat → Int32} {J0_15 : Int64} {J0_16 : Int64} {T1 : Nat → Int32} {V3 : Nat → Int32} {V4 : Nat → Int32} {V5 : Nat → Int32} {V6 : Nat → Int32} {T7 : Nat → Int32} {V8 : Nat → Int32} {V9 : Nat → Int32} {V10 : Nat → Int32} {u0_0 u0_1 u0_2 u0_3 u0_6 u0_7 u0_8 u0_9 u0_12 u0_13 u1_7 u1_8 u1_9 u1_13 u1_14 : Nat} {x1 : Int32} {z : Int32 × (Nat → Int32) × (Nat → Int32) × (Nat → Int32) × (Nat → Int32) × (Nat → Int32)} (hf : f_X11_whyNoWay T1 V3 V4 V5 V6 T7 V8 V9 V10 x1 = some z) (sz : Nat) : Met l yX11_whyNoWay (Cond.code yX11_whyNoWay cX11_whyNoWay 2 (some .int) :: gw) ({ frames := 3, cells := 0, slots := 0, locals := 76 }) (xPc E [.ref a0, .int x1] [(a0, o11 T0 J0_15 J0_16 u0_0 u0_1 u0_2 u0_3 a2 a7 u0_6 u0_7 u0_8 u0_9 a1 u0_12 u0_13), (a1, o3 T1 u1_7 u1_8 u1_9 a6 a4 a5 u1_13 u1_14), (a2, o7 a3), (a3, ai E 144 V3), (a4, ai E 12 V4), (a5, ai E 12 V5), (a6, ai E 12 V6), (a7, o6 T7 a10 a9 a8), (a8, ai E 37 V8), (a9, ai E 36 V9), (a10, ai E 36 V10)] sz) (xQi E z.1 [(a0, o11 T0 J0_15 J0_16 u0_0 u0_1 u0_2 u0_3 a2 a7 u0_6 u0_7 u0_8 u0_9 a1 u0_12 u0_13), (a1, o3 T1 u1_7 u1_8 u1_9 a6 a4 a5 u1_13 u1_14), (a2, o7 a3), (a3, ai E 144 V3), (a4, ai E 12 V4), (a5, ai E 12 V5), (a6, ai E 12 V6), (a7, o6 T7 a10 a9 a8), (a8, ai E 37 V8), (a9, ai E 36 V9), (a10, ai E 36 V10)] [(a0, o11 T0 J0_15 J0_16 u0_0 u0_1 u0_2 u0_3 a2 a7 u0_6 u0_7 u0_8 u0_9 a1 u0_12 u0_13), (a1, o3 T1 u1_7 u1_8 u1_9 a6 a4 a5 u1_13 u1_14), (a2, o7 a3), (a3, ai E 144 z.2.1), (a4, ai E 12 V4), (a5, ai E 12 V5), (a6, ai E 12 V6), (a7, o6 z.2.2.1 a10 a9 a8), (a8, ai E 37 z.2.2.2.1), (a9, ai E 36 z.2.2.2.2.1), (a10, ai E 36 z.2.2.2.2.2)] sz) 0 0 (va_A [(a0, o11 T0 J0_15 J0_16 u0_0 u0_1 u0_2 u0_3 a2 a7 u0_6 u0_7 u0_8 u0_9 a1 u0_12 u0_13), (a1, o3 T1 u1_7 u1_8 u1_9 a6 a4 a5 u1_13 u1_14), (a2, o7 a3), (a3, ai E 144 V3), (a4, ai E 12 V4), (a5, ai E 12 V5), (a6, ai E 12 V6), (a7, o6 T7 a10 a9 a8), (a8, ai E 37 V8), (a9, ai E 36 V9), (a10, ai E 36 V10)] sz) := by
  refine xM_i (by decide +kernel) (Nat.le_of_ble_eq_true rfl) ?_
  intro p e s m args below meth c A Q hx hb hml hown htg hK hG hA ret0 H locs ls hP hD hS hl
  have ret : ∀ (z' : Int32 × (Nat → Int32) × (Nat → Int32) × (Nat → Int32) × (Nat → Int32) × (Nat → Int32)) {H : Heap} {locs : List Loc} {pc : Nat} {ls : Array Slot}, some z' = some z → narrow .int (.int z'.1) = .int z'.1 → va_P E.1 vwCl [(a0, o11 T0 J0_15 J0_16 u0_0 u0_1 u0_2 u0_3 a2 a7 u0_6 u0_7 u0_8 u0_9 a1 u0_12 u0_13), (a1, o3 T1 u1_7 u1_8 u1_9 a6 a4 a5 u1_13 u1_14), (a2, o7 a3), (a3, ai E 144 z'.2.1), (a4, ai E 12 V4), (a5, ai E 12 V5), (a6, ai E 12 V6), (a7, o6 z'.2.2.1 a10 a9 a8), (a8, ai E 37 z'.2.2.2.1), (a9, ai E 36 z'.2.2.2.2.1), (a10, ai E 36 z'.2.2.2.2.2)] H → va_S A s.heap H locs → decode cX11_whyNoWay pc = .ok (.ireturn, 1) → W p l e ({ frames := 3, cells := 0, slots := 0, locals := 76 } : Room) s m args below meth c H locs 0 0 Q (F0 m pc ls [.int z'.1]) := by
    intro z' H locs pc ls h
    cases h
    exact ret0
  replace hl : lv_has ls 2 [(0, .ref a0), (1, .int x1)] := hl
  unfold f_X11_whyNoWay at hf
  refine lv_aload_n hx hb dX11_whyNoWay_0 rfl (lv_at hl 0 rfl) ?_
  refine G11_79 hx hb htg hown hK hP 0 rfl dX11_whyNoWay_1 ?_
  refine lv_iload_n hx hb dX11_whyNoWay_4 rfl (lv_at hl 1 rfl) ?_
  obtain ⟨z5, hz5, hf⟩ := bind_s hf
  refine xV_ir hx hb hml hown htg L11_227 (c_X3_hasCell l E a1 hz5 _) ⟨⟨rfl, rfl⟩, Nat.le_of_ble_eq_true rfl, Nat.le_of_ble_eq_true rfl⟩ hK hG hA hP hD hS (is := [1]) rfl rfl (xrecv hK hP (q0 := 1) (ci := 3) rfl rfl) rfl hl.1 rfl (Nat.le_of_ble_eq_true rfl) dX11_whyNoWay_5 (fun H locs hP hD hS => ?_)
  refine lv_if_ne (tgt := 13) hx hb dX11_whyNoWay_8 (by decide) (fun c8 => ?_) (fun c8 => ?_)
  · have hf := it_f c8 hf
    refine lv_aload_n hx hb dX11_whyNoWay_13 rfl (lv_at hl 0 rfl) ?_
    refine G11_40 hx hb htg hown hK hP 0 rfl dX11_whyNoWay_14 ?_
    refine lv_aload_n hx hb dX11_whyNoWay_17 rfl (lv_at hl 0 rfl) ?_
    refine G11_79 hx hb htg hown hK hP 0 rfl dX11_whyNoWay_18 ?_
    refine lv_aload_n hx hb dX11_whyNoWay_21 rfl (lv_at hl 0 rfl) ?_
    refine G11_79 hx hb htg hown hK hP 0 rfl dX11_whyNoWay_22 ?_
    refine G11_214 hx hb htg hown hK hP 1 rfl dX11_whyNoWay_25 ?_
    obtain ⟨z28, hz28, hf⟩ := bind_s hf
    refine xV_vu hx hb hml hown htg L11_220 (c_X7_take l E a2 a1 a3 a4 a5 a6 hz28 _) ⟨⟨rfl, rfl⟩, Nat.le_of_ble_eq_true rfl, Nat.le_of_ble_eq_true rfl⟩ hK hG hA hP hD hS (is := [2, 1, 3, 4, 5, 6]) (sel := [none, some 1, some 0, some 2, some 3, some 4, some 5, none, none, none, none]) (ws2 := [(a0, o11 T0 J0_15 J0_16 u0_0 u0_1 u0_2 u0_3 a2 a7 u0_6 u0_7 u0_8 u0_9 a1 u0_12 u0_13), (a1, o3 T1 u1_7 u1_8 u1_9 a6 a4 a5 u1_13 u1_14), (a2, o7 a3), (a3, ai E 144 z28), (a4, ai E 12 V4), (a5, ai E 12 V5), (a6, ai E 12 V6), (a7, o6 T7 a10 a9 a8), (a8, ai E 37 V8), (a9, ai E 36 V9), (a10, ai E 36 V10)]) rfl rfl rfl rfl rfl (xrecv hK hP (q0 := 2) (ci := 7) rfl rfl) rfl hl.1 rfl (Nat.le_of_ble_eq_true rfl) dX11_whyNoWay_28 (fun H locs hP hD hS => ?_)
    refine lv_aload_n hx hb dX11_whyNoWay_31 rfl (lv_at hl 0 rfl) ?_
    refine G11_47 hx hb htg hown hK hP 0 rfl dX11_whyNoWay_32 ?_
    refine lv_aload_n hx hb dX11_whyNoWay_35 rfl (lv_at hl 0 rfl) ?_
    refine G11_79 hx hb htg hown hK hP 0 rfl dX11_whyNoWay_36 ?_
    refine lv_aload_n hx hb dX11_whyNoWay_39 rfl (lv_at hl 0 rfl) ?_
    refine G11_40 hx hb htg hown hK hP 0 rfl dX11_whyNoWay_40 ?_
    refine lv_iload_n hx hb dX11_whyNoWay_43 rfl (lv_at hl 1 rfl) ?_
    obtain ⟨z44, hz44, hf⟩ := bind_s hf
    refine xV_iu hx hb hml hown htg L11_408 (c_X6_find l E a7 a1 a2 a8 a9 a3 a10 hz44 _) ⟨⟨rfl, rfl⟩, Nat.le_of_ble_eq_true rfl, Nat.le_of_ble_eq_true rfl⟩ hK hG hA hP hD hS (is := [7, 1, 2, 8, 9, 3, 10]) (sel := [none, some 1, some 2, some 5, none, none, none, some 0, some 3, some 4, some 6]) (ws2 := [(a0, o11 T0 J0_15 J0_16 u0_0 u0_1 u0_2 u0_3 a2 a7 u0_6 u0_7 u0_8 u0_9 a1 u0_12 u0_13), (a1, o3 T1 u1_7 u1_8 u1_9 a6 a4 a5 u1_13 u1_14), (a2, o7 a3), (a3, ai E 144 z28), (a4, ai E 12 V4), (a5, ai E 12 V5), (a6, ai E 12 V6), (a7, o6 z44.2.1 a10 a9 a8), (a8, ai E 37 z44.2.2.1), (a9, ai E 36 z44.2.2.2.1), (a10, ai E 36 z44.2.2.2.2)]) rfl rfl rfl rfl rfl (xrecv hK hP (q0 := 7) (ci := 6) rfl rfl) rfl hl.1 rfl (Nat.le_of_ble_eq_true rfl) dX11_whyNoWay_44 (fun H locs hP hD hS => ?_)
    refine lv_if_eq (tgt := 54) hx hb dX11_whyNoWay_47 (by decide) (fun c47 => ?_) (fun c47 => ?_)
    · have hf := it_t c47 hf
      refine lv_bipush (v := 8) hx hb dX11_whyNoWay_54 rfl ?_
      exact ret (8, z28, z44.2.1, z44.2.2.1, z44.2.2.2.1, z44.2.2.2.2) hf nzi hP hS dX11_whyNoWay_56
    · have hf := it_f c47 hf
      refine lv_iconst (v := 0) hx hb dX11_whyNoWay_50 rfl ?_
      refine lv_goto (tgt := 56) hx hb dX11_whyNoWay_51 (by decide) ?_
      exact ret (0, z28, z44.2.1, z44.2.2.1, z44.2.2.2.1, z44.2.2.2.2) hf nzi hP hS dX11_whyNoWay_56
  · have hf := it_t c8 hf
    refine lv_iconst (v := 2) hx hb dX11_whyNoWay_11 rfl ?_
    exact ret (2, V3, T7, V8, V9, V10) hf nzi hP hS dX11_whyNoWay_12
theorem dX11_way_0 : decode cX11_way 0 = .ok (.aload_n 0, 1) := by decide +kernel
theorem dX11_way_1 : decode cX11_way 1 = .ok (.iload_n 1, 1) := by decide +kernel
theorem dX11_way_2 : decode cX11_way 2 = .ok (.invokevirtual 326, 3) := by decide +kernel
theorem dX11_way_5 : decode cX11_way 5 = .ok (.istore_n 2, 1) := by decide +kernel
theorem dX11_way_6 : decode cX11_way 6 = .ok (.iload_n 2, 1) := by decide +kernel
theorem dX11_way_7 : decode cX11_way 7 = .ok (.ifCond .ne 17, 3) := by decide +kernel
theorem dX11_way_10 : decode cX11_way 10 = .ok (.aload_n 0, 1) := by decide +kernel
theorem dX11_way_11 : decode cX11_way 11 = .ok (.aload_n 0, 1) := by decide +kernel
theorem dX11_way_12 : decode cX11_way 12 = .ok (.getfield 47, 3) := by decide +kernel
theorem dX11_way_15 : decode cX11_way 15 = .ok (.invokevirtual 329, 3) := by decide +kernel
theorem dX11_way_18 : decode cX11_way 18 = .ok (.invokevirtual 179, 3) := by decide +kernel
theorem dX11_way_21 : decode cX11_way 21 = .ok (.goto 8, 3) := by decide +kernel
theorem dX11_way_24 : decode cX11_way 24 = .ok (.aload_n 0, 1) := by decide +kernel
theorem dX11_way_25 : decode cX11_way 25 = .ok (.iload_n 2, 1) := by decide +kernel
theorem dX11_way_26 : decode cX11_way 26 = .ok (.invokevirtual 137, 3) := by decide +kernel
theorem dX11_way_29 : decode cX11_way 29 = .ok (.ireturn, 1) := by decide +kernel
set_option maxRecDepth 100000 in
theorem c_X11_way (l : Launch) (E : xE) (a0 a1 a2 a3 a4 a5 a6 a7 a8 a9 a10 : Nat) {T0 : Nat → Int32} {J0_15 : Int64} {J0_16 : Int64} {T1 : Nat → Int32} {V3 : Nat → Int32} {V4 : Nat → Int32} {V5 : Nat → Int32} {V6 : Nat → Int32} {T7 : Nat → Int32} {V8 : Nat → Int32} {V9 : Nat → Int32} {V10 : Nat → Int32} {u0_0 u0_1 u0_2 u0_3 u0_6 u0_7 u0_8 u0_9 u0_12 u0_13 u1_7 u1_8 u1_9 u1_13 u1_14 : Nat} {x1 : Int32} {z : Int32 × (Nat → Int32) × (Nat → Int32) × (Nat → Int32) × (Nat → Int32) × (Nat → Int32) × (Nat → Int32)} (hf : f_X11_way T0 T1 V3 V4 V5 V6 T7 V8 V9 V10 x1 = some z) (sz : Nat) : Met l yX11_way (Cond.code yX11_way cX11_way 3 (some .int) :: gw) ({ frames := 4, cells := 0, slots := 0, locals := 97 }) (xPc E [.ref a0, .int x1] [(a0, o11 T0 J0_15 J0_16 u0_0 u0_1 u0_2 u0_3 a2 a7 u0_6 u0_7 u0_8 u0_9 a1 u0_12 u0_13), (a1, o3 T1 u1_7 u1_8 u1_9 a6 a4 a5 u1_13 u1_14), (a2, o7 a3), (a3, ai E 144 V3), (a4, ai E 12 V4), (a5, ai E 12 V5), (a6, ai E 12 V6), (a7, o6 T7 a10 a9 a8), (a8, ai E 37 V8), (a9, ai E 36 V9), (a10, ai E 36 V10)] sz) (xQi E z.1 [(a0, o11 T0 J0_15 J0_16 u0_0 u0_1 u0_2 u0_3 a2 a7 u0_6 u0_7 u0_8 u0_9 a1 u0_12 u0_13), (a1, o3 T1 u1_7 u1_8 u1_9 a6 a4 a5 u1_13 u1_14), (a2, o7 a3), (a3, ai E 144 V3), (a4, ai E 12 V4), (a5, ai E 12 V5), (a6, ai E 12 V6), (a7, o6 T7 a10 a9 a8), (a8, ai E 37 V8), (a9, ai E 36 V9), (a10, ai E 36 V10)] [(a0, o11 z.2.1 J0_15 J0_16 u0_0 u0_1 u0_2 u0_3 a2 a7 u0_6 u0_7 u0_8 u0_9 a1 u0_12 u0_13), (a1, o3 T1 u1_7 u1_8 u1_9 a6 a4 a5 u1_13 u1_14), (a2, o7 a3), (a3, ai E 144 z.2.2.1), (a4, ai E 12 V4), (a5, ai E 12 V5), (a6, ai E 12 V6), (a7, o6 z.2.2.2.1 a10 a9 a8), (a8, ai E 37 z.2.2.2.2.1), (a9, ai E 36 z.2.2.2.2.2.1), (a10, ai E 36 z.2.2.2.2.2.2)] sz) 0 0 (va_A [(a0, o11 T0 J0_15 J0_16 u0_0 u0_1 u0_2 u0_3 a2 a7 u0_6 u0_7 u0_8 u0_9 a1 u0_12 u0_13), (a1, o3 T1 u1_7 u1_8 u1_9 a6 a4 a5 u1_13 u1_14), (a2, o7 a3), (a3, ai E 144 V3), (a4, ai E 12 V4), (a5, ai E 12 V5), (a6, ai E 12 V6), (a7, o6 T7 a10 a9 a8), (a8, ai E 37 V8), (a9, ai E 36 V9), (a10, ai E 36 V10)] sz) := by
  refine xM_i (by decide +kernel) (Nat.le_of_ble_eq_true rfl) ?_
  intro p e s m args below meth c A Q hx hb hml hown htg hK hG hA ret0 H locs ls hP hD hS hl
  have ret : ∀ (z' : Int32 × (Nat → Int32) × (Nat → Int32) × (Nat → Int32) × (Nat → Int32) × (Nat → Int32) × (Nat → Int32)) {H : Heap} {locs : List Loc} {pc : Nat} {ls : Array Slot}, some z' = some z → narrow .int (.int z'.1) = .int z'.1 → va_P E.1 vwCl [(a0, o11 z'.2.1 J0_15 J0_16 u0_0 u0_1 u0_2 u0_3 a2 a7 u0_6 u0_7 u0_8 u0_9 a1 u0_12 u0_13), (a1, o3 T1 u1_7 u1_8 u1_9 a6 a4 a5 u1_13 u1_14), (a2, o7 a3), (a3, ai E 144 z'.2.2.1), (a4, ai E 12 V4), (a5, ai E 12 V5), (a6, ai E 12 V6), (a7, o6 z'.2.2.2.1 a10 a9 a8), (a8, ai E 37 z'.2.2.2.2.1), (a9, ai E 36 z'.2.2.2.2.2.1), (a10, ai E 36 z'.2.2.2.2.2.2)] H → va_S A s.heap H locs → decode cX11_way pc = .ok (.ireturn, 1) → W p l e ({ frames := 4, cells := 0, slots := 0, locals := 97 } : Room) s m args below meth c H locs 0 0 Q (F0 m pc ls [.int z'.1]) := by
    intro z' H locs pc ls h
    cases h
    exact ret0
  replace hl : lv_has ls 3 [(0, .ref a0), (1, .int x1)] := hl
  unfold f_X11_way at hf
  refine lv_aload_n hx hb dX11_way_0 rfl (lv_at hl 0 rfl) ?_
  refine lv_iload_n hx hb dX11_way_1 rfl (lv_at hl 1 rfl) ?_
  obtain ⟨z2, hz2, hf⟩ := bind_s hf
  refine xV_iu hx hb hml hown htg L11_326 (c_X11_whyNoWay l E a0 a1 a2 a3 a4 a5 a6 a7 a8 a9 a10 hz2 _) ⟨⟨rfl, rfl⟩, Nat.le_of_ble_eq_true rfl, Nat.le_of_ble_eq_true rfl⟩ hK hG hA hP hD hS (is := [0, 1, 2, 3, 4, 5, 6, 7, 8, 9, 10]) (sel := [some 0, some 1, some 2, some 3, some 4, some 5, some 6, some 7, some 8, some 9, some 10]) (ws2 := [(a0, o11 T0 J0_15 J0_16 u0_0 u0_1 u0_2 u0_3 a2 a7 u0_6 u0_7 u0_8 u0_9 a1 u0_12 u0_13), (a1, o3 T1 u1_7 u1_8 u1_9 a6 a4 a5 u1_13 u1_14), (a2, o7 a3), (a3, ai E 144 z2.2.1), (a4, ai E 12 V4), (a5, ai E 12 V5), (a6, ai E 12 V6), (a7, o6 z2.2.2.1 a10 a9 a8), (a8, ai E 37 z2.2.2.2.1), (a9, ai E 36 z2.2.2.2.2.1), (a10, ai E 36 z2.2.2.2.2.2)]) rfl rfl rfl rfl rfl (xrecv hK hP (q0 := 0) (ci := 11) rfl rfl) rfl hl.1 rfl (Nat.le_of_ble_eq_true rfl) dX11_way_2 (fun H locs hP hD hS => ?_)
  refine lv_istore_n (lv' := [(2, .int z2.1), (0, .ref a0), (1, .int x1)]) hx hb dX11_way_5 rfl hl (by decide) rfl (fun ls hl => ?_)
  refine lv_iload_n hx hb dX11_way_6 rfl (lv_at hl 0 rfl) ?_
  refine lv_if_ne (tgt := 24) hx hb dX11_way_7 (by decide) (fun c7 => ?_) (fun c7 => ?_)
  · have hf := it_f c7 hf
    refine lv_aload_n hx hb dX11_way_24 rfl (lv_at hl 1 rfl) ?_
    refine lv_iload_n hx hb dX11_way_25 rfl (lv_at hl 0 rfl) ?_
    obtain ⟨z26, hz26, hf⟩ := bind_s hf
    refine xV_iu hx hb hml hown htg L11_137 (c_X11_refused l E a0 hz26 _) ⟨⟨rfl, rfl⟩, Nat.le_of_ble_eq_true rfl, Nat.le_of_ble_eq_true rfl⟩ hK hG hA hP hD hS (is := [0]) (sel := [some 0, none, none, none, none, none, none, none, none, none, none]) (ws2 := [(a0, o11 z26.2 J0_15 J0_16 u0_0 u0_1 u0_2 u0_3 a2 a7 u0_6 u0_7 u0_8 u0_9 a1 u0_12 u0_13), (a1, o3 T1 u1_7 u1_8 u1_9 a6 a4 a5 u1_13 u1_14), (a2, o7 a3), (a3, ai E 144 z2.2.1), (a4, ai E 12 V4), (a5, ai E 12 V5), (a6, ai E 12 V6), (a7, o6 z2.2.2.1 a10 a9 a8), (a8, ai E 37 z2.2.2.2.1), (a9, ai E 36 z2.2.2.2.2.1), (a10, ai E 36 z2.2.2.2.2.2)]) rfl rfl rfl rfl rfl (xrecv hK hP (q0 := 0) (ci := 11) rfl rfl) rfl hl.1 rfl (Nat.le_of_ble_eq_true rfl) dX11_way_26 (fun H locs hP hD hS => ?_)
    exact ret (z26.1, z26.2, z2.2.1, z2.2.2.1, z2.2.2.2.1, z2.2.2.2.2.1, z2.2.2.2.2.2) hf nzi hP hS dX11_way_29
  · have hf := it_t c7 hf
    refine lv_aload_n hx hb dX11_way_10 rfl (lv_at hl 1 rfl) ?_
    refine lv_aload_n hx hb dX11_way_11 rfl (lv_at hl 1 rfl) ?_
    refine G11_47 hx hb htg hown hK hP 0 rfl dX11_way_12 ?_
    obtain ⟨z15, hz15, hf⟩ := bind_s hf
    refine xV_ir hx hb hml hown htg L11_329 (c_X6_risk l E a7 a8 a9 hz15 _) ⟨⟨rfl, rfl⟩, Nat.le_of_ble_eq_true rfl, Nat.le_of_ble_eq_true rfl⟩ hK hG hA hP hD hS (is := [7, 8, 9]) rfl rfl (xrecv hK hP (q0 := 7) (ci := 6) rfl rfl) rfl hl.1 rfl (Nat.le_of_ble_eq_true rfl) dX11_way_15 (fun H locs hP hD hS => ?_)
    obtain ⟨z18, hz18, hf⟩ := bind_s hf
    refine xV_iu hx hb hml hown htg L11_179 (c_X11_answer l E a0 hz18 _) ⟨⟨rfl, rfl⟩, Nat.le_of_ble_eq_true rfl, Nat.le_of_ble_eq_true rfl⟩ hK hG hA hP hD hS (is := [0]) (sel := [some 0, none, none, none, none, none, none, none, none, none, none]) (ws2 := [(a0, o11 z18.2 J0_15 J0_16 u0_0 u0_1 u0_2 u0_3 a2 a7 u0_6 u0_7 u0_8 u0_9 a1 u0_12 u0_13), (a1, o3 T1 u1_7 u1_8 u1_9 a6 a4 a5 u1_13 u1_14), (a2, o7 a3), (a3, ai E 144 z2.2.1), (a4, ai E 12 V4), (a5, ai E 12 V5), (a6, ai E 12 V6), (a7, o6 z2.2.2.1 a10 a9 a8), (a8, ai E 37 z2.2.2.2.1), (a9, ai E 36 z2.2.2.2.2.1), (a10, ai E 36 z2.2.2.2.2.2)]) rfl rfl rfl rfl rfl (xrecv hK hP (q0 := 0) (ci := 11) rfl rfl) rfl hl.1 rfl (Nat.le_of_ble_eq_true rfl) dX11_way_18 (fun H locs hP hD hS => ?_)
    refine lv_goto (tgt := 29) hx hb dX11_way_21 (by decide) ?_
    exact ret (z18.1, z18.2, z2.2.1, z2.2.2.1, z2.2.2.2.1, z2.2.2.2.2.1, z2.2.2.2.2.2) hf nzi hP hS dX11_way_29
theorem dX11_wayLong_0 : decode cX11_wayLong 0 = .ok (.aload_n 0, 1) := by decide +kernel
theorem dX11_wayLong_1 : decode cX11_wayLong 1 = .ok (.iload_n 1, 1) := by decide +kernel
theorem dX11_wayLong_2 : decode cX11_wayLong 2 = .ok (.invokevirtual 326, 3) := by decide +kernel
theorem dX11_wayLong_5 : decode cX11_wayLong 5 = .ok (.istore_n 2, 1) := by decide +kernel
theorem dX11_wayLong_6 : decode cX11_wayLong 6 = .ok (.iload_n 2, 1) := by decide +kernel
theorem dX11_wayLong_7 : decode cX11_wayLong 7 = .ok (.ifCond .ne 17, 3) := by decide +kernel
theorem dX11_wayLong_10 : decode cX11_wayLong 10 = .ok (.aload_n 0, 1) := by decide +kernel
theorem dX11_wayLong_11 : decode cX11_wayLong 11 = .ok (.aload_n 0, 1) := by decide +kernel
theorem dX11_wayLong_12 : decode cX11_wayLong 12 = .ok (.getfield 47, 3) := by decide +kernel
theorem dX11_wayLong_15 : decode cX11_wayLong 15 = .ok (.invokevirtual 332, 3) := by decide +kernel
theorem dX11_wayLong_18 : decode cX11_wayLong 18 = .ok (.invokevirtual 179, 3) := by decide +kernel
theorem dX11_wayLong_21 : decode cX11_wayLong 21 = .ok (.goto 8, 3) := by decide +kernel
theorem dX11_wayLong_24 : decode cX11_wayLong 24 = .ok (.aload_n 0, 1) := by decide +kernel
theorem dX11_wayLong_25 : decode cX11_wayLong 25 = .ok (.iload_n 2, 1) := by decide +kernel
theorem dX11_wayLong_26 : decode cX11_wayLong 26 = .ok (.invokevirtual 137, 3) := by decide +kernel
theorem dX11_wayLong_29 : decode cX11_wayLong 29 = .ok (.ireturn, 1) := by decide +kernel
set_option maxRecDepth 100000 in
theorem c_X11_wayLong (l : Launch) (E : xE) (a0 a1 a2 a3 a4 a5 a6 a7 a8 a9 a10 : Nat) {T0 : Nat → Int32} {J0_15 : Int64} {J0_16 : Int64} {T1 : Nat → Int32} {V3 : Nat → Int32} {V4 : Nat → Int32} {V5 : Nat → Int32} {V6 : Nat → Int32} {T7 : Nat → Int32} {V8 : Nat → Int32} {V9 : Nat → Int32} {V10 : Nat → Int32} {u0_0 u0_1 u0_2 u0_3 u0_6 u0_7 u0_8 u0_9 u0_12 u0_13 u1_7 u1_8 u1_9 u1_13 u1_14 : Nat} {x1 : Int32} {z : Int32 × (Nat → Int32) × (Nat → Int32) × (Nat → Int32) × (Nat → Int32) × (Nat → Int32) × (Nat → Int32)} (hf : f_X11_wayLong T0 T1 V3 V4 V5 V6 T7 V8 V9 V10 x1 = some z) (sz : Nat) : Met l yX11_wayLong (Cond.code yX11_wayLong cX11_wayLong 3 (some .int) :: gw) ({ frames := 4, cells := 0, slots := 0, locals := 97 }) (xPc E [.ref a0, .int x1] [(a0, o11 T0 J0_15 J0_16 u0_0 u0_1 u0_2 u0_3 a2 a7 u0_6 u0_7 u0_8 u0_9 a1 u0_12 u0_13), (a1, o3 T1 u1_7 u1_8 u1_9 a6 a4 a5 u1_13 u1_14), (a2, o7 a3), (a3, ai E 144 V3), (a4, ai E 12 V4), (a5, ai E 12 V5), (a6, ai E 12 V6), (a7, o6 T7 a10 a9 a8), (a8, ai E 37 V8), (a9, ai E 36 V9), (a10, ai E 36 V10)] sz) (xQi E z.1 [(a0, o11 T0 J0_15 J0_16 u0_0 u0_1 u0_2 u0_3 a2 a7 u0_6 u0_7 u0_8 u0_9 a1 u0_12 u0_13), (a1, o3 T1 u1_7 u1_8 u1_9 a6 a4 a5 u1_13 u1_14), (a2, o7 a3), (a3, ai E 144 V3), (a4, ai E 12 V4), (a5, ai E 12 V5), (a6, ai E 12 V6), (a7, o6 T7 a10 a9 a8), (a8, ai E 37 V8), (a9, ai E 36 V9), (a10, ai E 36 V10)] [(a0, o11 z.2.1 J0_15 J0_16 u0_0 u0_1 u0_2 u0_3 a2 a7 u0_6 u0_7 u0_8 u0_9 a1 u0_12 u0_13), (a1, o3 T1 u1_7 u1_8 u1_9 a6 a4 a5 u1_13 u1_14), (a2, o7 a3), (a3, ai E 144 z.2.2.1), (a4, ai E 12 V4), (a5, ai E 12 V5), (a6, ai E 12 V6), (a7, o6 z.2.2.2.1 a10 a9 a8), (a8, ai E 37 z.2.2.2.2.1), (a9, ai E 36 z.2.2.2.2.2.1), (a10, ai E 36 z.2.2.2.2.2.2)] sz) 0 0 (va_A [(a0, o11 T0 J0_15 J0_16 u0_0 u0_1 u0_2 u0_3 a2 a7 u0_6 u0_7 u0_8 u0_9 a1 u0_12 u0_13), (a1, o3 T1 u1_7 u1_8 u1_9 a6 a4 a5 u1_13 u1_14), (a2, o7 a3), (a3, ai E 144 V3), (a4, ai E 12 V4), (a5, ai E 12 V5), (a6, ai E 12 V6), (a7, o6 T7 a10 a9 a8), (a8, ai E 37 V8), (a9, ai E 36 V9), (a10, ai E 36 V10)] sz) := by
  refine xM_i (by decide +kernel) (Nat.le_of_ble_eq_true rfl) ?_
  intro p e s m args below meth c A Q hx hb hml hown htg hK hG hA ret0 H locs ls hP hD hS hl
  have ret : ∀ (z' : Int32 × (Nat → Int32) × (Nat → Int32) × (Nat → Int32) × (Nat → Int32) × (Nat → Int32) × (Nat → Int32)) {H : Heap} {locs : List Loc} {pc : Nat} {ls : Array Slot}, some z' = some z → narrow .int (.int z'.1) = .int z'.1 → va_P E.1 vwCl [(a0, o11 z'.2.1 J0_15 J0_16 u0_0 u0_1 u0_2 u0_3 a2 a7 u0_6 u0_7 u0_8 u0_9 a1 u0_12 u0_13), (a1, o3 T1 u1_7 u1_8 u1_9 a6 a4 a5 u1_13 u1_14), (a2, o7 a3), (a3, ai E 144 z'.2.2.1), (a4, ai E 12 V4), (a5, ai E 12 V5), (a6, ai E 12 V6), (a7, o6 z'.2.2.2.1 a10 a9 a8), (a8, ai E 37 z'.2.2.2.2.1), (a9, ai E 36 z'.2.2.2.2.2.1), (a10, ai E 36 z'.2.2.2.2.2.2)] H → va_S A s.heap H locs → decode cX11_wayLong pc = .ok (.ireturn, 1) → W p l e ({ frames := 4, cells := 0, slots := 0, locals := 97 } : Room) s m args below meth c H locs 0 0 Q (F0 m pc ls [.int z'.1]) := by
    intro z' H locs pc ls h
    cases h
    exact ret0
  replace hl : lv_has ls 3 [(0, .ref a0), (1, .int x1)] := hl
  unfold f_X11_wayLong at hf
  refine lv_aload_n hx hb dX11_wayLong_0 rfl (lv_at hl 0 rfl) ?_
  refine lv_iload_n hx hb dX11_wayLong_1 rfl (lv_at hl 1 rfl) ?_
  obtain ⟨z2, hz2, hf⟩ := bind_s hf
  refine xV_iu hx hb hml hown htg L11_326 (c_X11_whyNoWay l E a0 a1 a2 a3 a4 a5 a6 a7 a8 a9 a10 hz2 _) ⟨⟨rfl, rfl⟩, Nat.le_of_ble_eq_true rfl, Nat.le_of_ble_eq_true rfl⟩ hK hG hA hP hD hS (is := [0, 1, 2, 3, 4, 5, 6, 7, 8, 9, 10]) (sel := [some 0, some 1, some 2, some 3, some 4, some 5, some 6, some 7, some 8, some 9, some 10]) (ws2 := [(a0, o11 T0 J0_15 J0_16 u0_0 u0_1 u0_2 u0_3 a2 a7 u0_6 u0_7 u0_8 u0_9 a1 u0_12 u0_13), (a1, o3 T1 u1_7 u1_8 u1_9 a6 a4 a5 u1_13 u1_14), (a2, o7 a3), (a3, ai E 144 z2.2.1), (a4, ai E 12 V4), (a5, ai E 12 V5), (a6, ai E 12 V6), (a7, o6 z2.2.2.1 a10 a9 a8), (a8, ai E 37 z2.2.2.2.1), (a9, ai E 36 z2.2.2.2.2.1), (a10, ai E 36 z2.2.2.2.2.2)]) rfl rfl rfl rfl rfl (xrecv hK hP (q0 := 0) (ci := 11) rfl rfl) rfl hl.1 rfl (Nat.le_of_ble_eq_true rfl) dX11_wayLong_2 (fun H locs hP hD hS => ?_)
  refine lv_istore_n (lv' := [(2, .int z2.1), (0, .ref a0), (1, .int x1)]) hx hb dX11_wayLong_5 rfl hl (by decide) rfl (fun ls hl => ?_)
  refine lv_iload_n hx hb dX11_wayLong_6 rfl (lv_at hl 0 rfl) ?_
  refine lv_if_ne (tgt := 24) hx hb dX11_wayLong_7 (by decide) (fun c7 => ?_) (fun c7 => ?_)
  · have hf := it_f c7 hf
    refine lv_aload_n hx hb dX11_wayLong_24 rfl (lv_at hl 1 rfl) ?_
    refine lv_iload_n hx hb dX11_wayLong_25 rfl (lv_at hl 0 rfl) ?_
    obtain ⟨z26, hz26, hf⟩ := bind_s hf
    refine xV_iu hx hb hml hown htg L11_137 (c_X11_refused l E a0 hz26 _) ⟨⟨rfl, rfl⟩, Nat.le_of_ble_eq_true rfl, Nat.le_of_ble_eq_true rfl⟩ hK hG hA hP hD hS (is := [0]) (sel := [some 0, none, none, none, none, none, none, none, none, none, none]) (ws2 := [(a0, o11 z26.2 J0_15 J0_16 u0_0 u0_1 u0_2 u0_3 a2 a7 u0_6 u0_7 u0_8 u0_9 a1 u0_12 u0_13), (a1, o3 T1 u1_7 u1_8 u1_9 a6 a4 a5 u1_13 u1_14), (a2, o7 a3), (a3, ai E 144 z2.2.1), (a4, ai E 12 V4), (a5, ai E 12 V5), (a6, ai E 12 V6), (a7, o6 z2.2.2.1 a10 a9 a8), (a8, ai E 37 z2.2.2.2.1), (a9, ai E 36 z2.2.2.2.2.1), (a10, ai E 36 z2.2.2.2.2.2)]) rfl rfl rfl rfl rfl (xrecv hK hP (q0 := 0) (ci := 11) rfl rfl) rfl hl.1 rfl (Nat.le_of_ble_eq_true rfl) dX11_wayLong_26 (fun H locs hP hD hS => ?_)
    exact ret (z26.1, z26.2, z2.2.1, z2.2.2.1, z2.2.2.2.1, z2.2.2.2.2.1, z2.2.2.2.2.2) hf nzi hP hS dX11_wayLong_29
  · have hf := it_t c7 hf
    refine lv_aload_n hx hb dX11_wayLong_10 rfl (lv_at hl 1 rfl) ?_
    refine lv_aload_n hx hb dX11_wayLong_11 rfl (lv_at hl 1 rfl) ?_
    refine G11_47 hx hb htg hown hK hP 0 rfl dX11_wayLong_12 ?_
    obtain ⟨z15, hz15, hf⟩ := bind_s hf
    refine xV_ir hx hb hml hown htg L11_332 (c_X6_cells l E a7 hz15 _) ⟨⟨rfl, rfl⟩, Nat.le_of_ble_eq_true rfl, Nat.le_of_ble_eq_true rfl⟩ hK hG hA hP hD hS (is := [7]) rfl rfl (xrecv hK hP (q0 := 7) (ci := 6) rfl rfl) rfl hl.1 rfl (Nat.le_of_ble_eq_true rfl) dX11_wayLong_15 (fun H locs hP hD hS => ?_)
    obtain ⟨z18, hz18, hf⟩ := bind_s hf
    refine xV_iu hx hb hml hown htg L11_179 (c_X11_answer l E a0 hz18 _) ⟨⟨rfl, rfl⟩, Nat.le_of_ble_eq_true rfl, Nat.le_of_ble_eq_true rfl⟩ hK hG hA hP hD hS (is := [0]) (sel := [some 0, none, none, none, none, none, none, none, none, none, none]) (ws2 := [(a0, o11 z18.2 J0_15 J0_16 u0_0 u0_1 u0_2 u0_3 a2 a7 u0_6 u0_7 u0_8 u0_9 a1 u0_12 u0_13), (a1, o3 T1 u1_7 u1_8 u1_9 a6 a4 a5 u1_13 u1_14), (a2, o7 a3), (a3, ai E 144 z2.2.1), (a4, ai E 12 V4), (a5, ai E 12 V5), (a6, ai E 12 V6), (a7, o6 z2.2.2.1 a10 a9 a8), (a8, ai E 37 z2.2.2.2.1), (a9, ai E 36 z2.2.2.2.2.1), (a10, ai E 36 z2.2.2.2.2.2)]) rfl rfl rfl rfl rfl (xrecv hK hP (q0 := 0) (ci := 11) rfl rfl) rfl hl.1 rfl (Nat.le_of_ble_eq_true rfl) dX11_wayLong_18 (fun H locs hP hD hS => ?_)
    refine lv_goto (tgt := 29) hx hb dX11_wayLong_21 (by decide) ?_
    exact ret (z18.1, z18.2, z2.2.1, z2.2.2.1, z2.2.2.2.1, z2.2.2.2.2.1, z2.2.2.2.2.2) hf nzi hP hS dX11_wayLong_29
theorem dX11_wayAt_0 : decode cX11_wayAt 0 = .ok (.aload_n 0, 1) := by decide +kernel
theorem dX11_wayAt_1 : decode cX11_wayAt 1 = .ok (.iload_n 1, 1) := by decide +kernel
theorem dX11_wayAt_2 : decode cX11_wayAt 2 = .ok (.invokevirtual 326, 3) := by decide +kernel
theorem dX11_wayAt_5 : decode cX11_wayAt 5 = .ok (.istore_n 3, 1) := by decide +kernel
theorem dX11_wayAt_6 : decode cX11_wayAt 6 = .ok (.iload_n 3, 1) := by decide +kernel
theorem dX11_wayAt_7 : decode cX11_wayAt 7 = .ok (.ifCond .eq 9, 3) := by decide +kernel
theorem dX11_wayAt_10 : decode cX11_wayAt 10 = .ok (.aload_n 0, 1) := by decide +kernel
theorem dX11_wayAt_11 : decode cX11_wayAt 11 = .ok (.iload_n 3, 1) := by decide +kernel
theorem dX11_wayAt_12 : decode cX11_wayAt 12 = .ok (.invokevirtual 137, 3) := by decide +kernel
theorem dX11_wayAt_15 : decode cX11_wayAt 15 = .ok (.ireturn, 1) := by decide +kernel
theorem dX11_wayAt_16 : decode cX11_wayAt 16 = .ok (.iload_n 2, 1) := by decide +kernel
theorem dX11_wayAt_17 : decode cX11_wayAt 17 = .ok (.iconst 0, 1) := by decide +kernel
theorem dX11_wayAt_18 : decode cX11_wayAt 18 = .ok (.aload_n 0, 1) := by decide +kernel
theorem dX11_wayAt_19 : decode cX11_wayAt 19 = .ok (.getfield 47, 3) := by decide +kernel
theorem dX11_wayAt_22 : decode cX11_wayAt 22 = .ok (.invokevirtual 332, 3) := by decide +kernel
theorem dX11_wayAt_25 : decode cX11_wayAt 25 = .ok (.invokestatic 114, 3) := by decide +kernel
theorem dX11_wayAt_28 : decode cX11_wayAt 28 = .ok (.ifCond .eq 18, 3) := by decide +kernel
theorem dX11_wayAt_31 : decode cX11_wayAt 31 = .ok (.aload_n 0, 1) := by decide +kernel
theorem dX11_wayAt_32 : decode cX11_wayAt 32 = .ok (.aload_n 0, 1) := by decide +kernel
theorem dX11_wayAt_33 : decode cX11_wayAt 33 = .ok (.getfield 47, 3) := by decide +kernel
theorem dX11_wayAt_36 : decode cX11_wayAt 36 = .ok (.iload_n 2, 1) := by decide +kernel
theorem dX11_wayAt_37 : decode cX11_wayAt 37 = .ok (.invokevirtual 335, 3) := by decide +kernel
theorem dX11_wayAt_40 : decode cX11_wayAt 40 = .ok (.invokevirtual 179, 3) := by decide +kernel
theorem dX11_wayAt_43 : decode cX11_wayAt 43 = .ok (.goto 9, 3) := by decide +kernel
theorem dX11_wayAt_46 : decode cX11_wayAt 46 = .ok (.aload_n 0, 1) := by decide +kernel
theorem dX11_wayAt_47 : decode cX11_wayAt 47 = .ok (.bipush 8, 2) := by decide +kernel
theorem dX11_wayAt_49 : decode cX11_wayAt 49 = .ok (.invokevirtual 137, 3) := by decide +kernel
theorem dX11_wayAt_52 : decode cX11_wayAt 52 = .ok (.ireturn, 1) := by decide +kernel
set_option maxRecDepth 100000 in
theorem c_X11_wayAt (l : Launch) (E : xE) (a0 a1 a2 a3 a4 a5 a6 a7 a8 a9 a10 : Nat) {T0 : Nat → Int32} {J0_15 : Int64} {J0_16 : Int64} {T1 : Nat → Int32} {V3 : Nat → Int32} {V4 : Nat → Int32} {V5 : Nat → Int32} {V6 : Nat → Int32} {T7 : Nat → Int32} {V8 : Nat → Int32} {V9 : Nat → Int32} {V10 : Nat → Int32} {u0_0 u0_1 u0_2 u0_3 u0_6 u0_7 u0_8 u0_9 u0_12 u0_13 u1_7 u1_8 u1_9 u1_13 u1_14 : Nat} {x1 : Int32} {x2 : Int32} {z : Int32 × (Nat → Int32) × (Nat → Int32) × (Nat → Int32) × (Nat → Int32) × (Nat → Int32) × (Nat → Int32)} (hf : f_X11_wayAt T0 T1 V3 V4 V5 V6 T7 V8 V9 V10 x1 x2 = some z) (sz : Nat) : Met l yX11_wayAt (Cond.code yX11_wayAt cX11_wayAt 4 (some .int) :: gw) ({ frames := 4, cells := 0, slots := 0, locals := 97 }) (xPc E [.ref a0, .int x1, .int x2] [(a0, o11 T0 J0_15 J0_16 u0_0 u0_1 u0_2 u0_3 a2 a7 u0_6 u0_7 u0_8 u0_9 a1 u0_12 u0_13), (a1, o3 T1 u1_7 u1_8 u1_9 a6 a4 a5 u1_13 u1_14), (a2, o7 a3), (a3, ai E 144 V3), (a4, ai E 12 V4), (a5, ai E 12 V5), (a6, ai E 12 V6), (a7, o6 T7 a10 a9 a8), (a8, ai E 37 V8), (a9, ai E 36 V9), (a10, ai E 36 V10)] sz) (xQi E z.1 [(a0, o11 T0 J0_15 J0_16 u0_0 u0_1 u0_2 u0_3 a2 a7 u0_6 u0_7 u0_8 u0_9 a1 u0_12 u0_13), (a1, o3 T1 u1_7 u1_8 u1_9 a6 a4 a5 u1_13 u1_14), (a2, o7 a3), (a3, ai E 144 V3), (a4, ai E 12 V4), (a5, ai E 12 V5), (a6, ai E 12 V6), (a7, o6 T7 a10 a9 a8), (a8, ai E 37 V8), (a9, ai E 36 V9), (a10, ai E 36 V10)] [(a0, o11 z.2.1 J0_15 J0_16 u0_0 u0_1 u0_2 u0_3 a2 a7 u0_6 u0_7 u0_8 u0_9 a1 u0_12 u0_13), (a1, o3 T1 u1_7 u1_8 u1_9 a6 a4 a5 u1_13 u1_14), (a2, o7 a3), (a3, ai E 144 z.2.2.1), (a4, ai E 12 V4), (a5, ai E 12 V5), (a6, ai E 12 V6), (a7, o6 z.2.2.2.1 a10 a9 a8), (a8, ai E 37 z.2.2.2.2.1), (a9, ai E 36 z.2.2.2.2.2.1), (a10, ai E 36 z.2.2.2.2.2.2)] sz) 0 0 (va_A [(a0, o11 T0 J0_15 J0_16 u0_0 u0_1 u0_2 u0_3 a2 a7 u0_6 u0_7 u0_8 u0_9 a1 u0_12 u0_13), (a1, o3 T1 u1_7 u1_8 u1_9 a6 a4 a5 u1_13 u1_14), (a2, o7 a3), (a3, ai E 144 V3), (a4, ai E 12 V4), (a5, ai E 12 V5), (a6, ai E 12 V6), (a7, o6 T7 a10 a9 a8), (a8, ai E 37 V8), (a9, ai E 36 V9), (a10, ai E 36 V10)] sz) := by
  refine xM_i (by decide +kernel) (Nat.le_of_ble_eq_true rfl) ?_
  intro p e s m args below meth c A Q hx hb hml hown htg hK hG hA ret0 H locs ls hP hD hS hl
  have ret : ∀ (z' : Int32 × (Nat → Int32) × (Nat → Int32) × (Nat → Int32) × (Nat → Int32) × (Nat → Int32) × (Nat → Int32)) {H : Heap} {locs : List Loc} {pc : Nat} {ls : Array Slot}, some z' = some z → narrow .int (.int z'.1) = .int z'.1 → va_P E.1 vwCl [(a0, o11 z'.2.1 J0_15 J0_16 u0_0 u0_1 u0_2 u0_3 a2 a7 u0_6 u0_7 u0_8 u0_9 a1 u0_12 u0_13), (a1, o3 T1 u1_7 u1_8 u1_9 a6 a4 a5 u1_13 u1_14), (a2, o7 a3), (a3, ai E 144 z'.2.2.1), (a4, ai E 12 V4), (a5, ai E 12 V5), (a6, ai E 12 V6), (a7, o6 z'.2.2.2.1 a10 a9 a8), (a8, ai E 37 z'.2.2.2.2.1), (a9, ai E 36 z'.2.2.2.2.2.1), (a10, ai E 36 z'.2.2.2.2.2.2)] H → va_S A s.heap H locs → decode cX11_wayAt pc = .ok (.ireturn, 1) → W p l e ({ frames := 4, cells := 0, slots := 0, locals := 97 } : Room) s m args below meth c H locs 0 0 Q (F0 m pc ls [.int z'.1]) := by
    intro z' H locs pc ls h
    cases h
    exact ret0
  replace hl : lv_has ls 4 [(0, .ref a0), (1, .int x1), (2, .int x2)] := hl
  unfold f_X11_wayAt at hf
  refine lv_aload_n hx hb dX11_wayAt_0 rfl (lv_at hl 0 rfl) ?_
  refine lv_iload_n hx hb dX11_wayAt_1 rfl (lv_at hl 1 rfl) ?_
  obtain ⟨z2, hz2, hf⟩ := bind_s hf
  refine xV_iu hx hb hml hown htg L11_326 (c_X11_whyNoWay l E a0 a1 a2 a3 a4 a5 a6 a7 a8 a9 a10 hz2 _) ⟨⟨rfl, rfl⟩, Nat.le_of_ble_eq_true rfl, Nat.le_of_ble_eq_true rfl⟩ hK hG hA hP hD hS (is := [0, 1, 2, 3, 4, 5, 6, 7, 8, 9, 10]) (sel := [some 0, some 1, some 2, some 3, some 4, some 5, some 6, some 7, some 8, some 9, some 10]) (ws2 := [(a0, o11 T0 J0_15 J0_16 u0_0 u0_1 u0_2 u0_3 a2 a7 u0_6 u0_7 u0_8 u0_9 a1 u0_12 u0_13), (a1, o3 T1 u1_7 u1_8 u1_9 a6 a4 a5 u1_13 u1_14), (a2, o7 a3), (a3, ai E 144 z2.2.1), (a4, ai E 12 V4), (a5, ai E 12 V5), (a6, ai E 12 V6), (a7, o6 z2.2.2.1 a10 a9 a8), (a8, ai E 37 z2.2.2.2.1), (a9, ai E 36 z2.2.2.2.2.1), (a10, ai E 36 z2.2.2.2.2.2)]) rfl rfl rfl rfl rfl (xrecv hK hP (q0 := 0) (ci := 11) rfl rfl) rfl hl.1 rfl (Nat.le_of_ble_eq_true rfl) dX11_wayAt_2 (fun H locs hP hD hS => ?_)
  refine lv_istore_n (lv' := [(3, .int z2.1), (0, .ref a0), (1, .int x1), (2, .int x2)]) hx hb dX11_wayAt_5 rfl hl (by decide) rfl (fun ls hl => ?_)
  refine lv_iload_n hx hb dX11_wayAt_6 rfl (lv_at hl 0 rfl) ?_
  refine lv_if_eq (tgt := 16) hx hb dX11_wayAt_7 (by decide) (fun c7 => ?_) (fun c7 => ?_)
  · have hf := it_t c7 hf
    refine lv_iload_n hx hb dX11_wayAt_16 rfl (lv_at hl 3 rfl) ?_
    refine lv_iconst (v := 0) hx hb dX11_wayAt_17 rfl ?_
    refine lv_aload_n hx hb dX11_wayAt_18 rfl (lv_at hl 1 rfl) ?_
    refine G11_47 hx hb htg hown hK hP 0 rfl dX11_wayAt_19 ?_
    obtain ⟨z22, hz22, hf⟩ := bind_s hf
    refine xV_ir hx hb hml hown htg L11_332 (c_X6_cells l E a7 hz22 _) ⟨⟨rfl, rfl⟩, Nat.le_of_ble_eq_true rfl, Nat.le_of_ble_eq_true rfl⟩ hK hG hA hP hD hS (is := [7]) rfl rfl (xrecv hK hP (q0 := 7) (ci := 6) rfl rfl) rfl hl.1 rfl (Nat.le_of_ble_eq_true rfl) dX11_wayAt_22 (fun H locs hP hD hS => ?_)
    obtain ⟨z25, hz25, hf⟩ := bind_s hf
    refine xS_ir hx hb hml hown htg L11_114 (c_X11_within l E hz25 _) ⟨⟨rfl, rfl⟩, Nat.le_of_ble_eq_true rfl, Nat.le_of_ble_eq_true rfl⟩ hK hG hA hP hD hS (is := []) rfl rfl rfl hl.1 rfl (Nat.le_of_ble_eq_true rfl) dX11_wayAt_25 (fun H locs hP hD hS => ?_)
    refine lv_if_eq (tgt := 46) hx hb dX11_wayAt_28 (by decide) (fun c28 => ?_) (fun c28 => ?_)
    · have hf := it_t c28 hf
      refine lv_aload_n hx hb dX11_wayAt_46 rfl (lv_at hl 1 rfl) ?_
      refine lv_bipush (v := 8) hx hb dX11_wayAt_47 rfl ?_
      obtain ⟨z49, hz49, hf⟩ := bind_s hf
      refine xV_iu hx hb hml hown htg L11_137 (c_X11_refused l E a0 hz49 _) ⟨⟨rfl, rfl⟩, Nat.le_of_ble_eq_true rfl, Nat.le_of_ble_eq_true rfl⟩ hK hG hA hP hD hS (is := [0]) (sel := [some 0, none, none, none, none, none, none, none, none, none, none]) (ws2 := [(a0, o11 z49.2 J0_15 J0_16 u0_0 u0_1 u0_2 u0_3 a2 a7 u0_6 u0_7 u0_8 u0_9 a1 u0_12 u0_13), (a1, o3 T1 u1_7 u1_8 u1_9 a6 a4 a5 u1_13 u1_14), (a2, o7 a3), (a3, ai E 144 z2.2.1), (a4, ai E 12 V4), (a5, ai E 12 V5), (a6, ai E 12 V6), (a7, o6 z2.2.2.1 a10 a9 a8), (a8, ai E 37 z2.2.2.2.1), (a9, ai E 36 z2.2.2.2.2.1), (a10, ai E 36 z2.2.2.2.2.2)]) rfl rfl rfl rfl rfl (xrecv hK hP (q0 := 0) (ci := 11) rfl rfl) rfl hl.1 rfl (Nat.le_of_ble_eq_true rfl) dX11_wayAt_49 (fun H locs hP hD hS => ?_)
      exact ret (z49.1, z49.2, z2.2.1, z2.2.2.1, z2.2.2.2.1, z2.2.2.2.2.1, z2.2.2.2.2.2) hf nzi hP hS dX11_wayAt_52
    · have hf := it_f c28 hf
      refine lv_aload_n hx hb dX11_wayAt_31 rfl (lv_at hl 1 rfl) ?_
      refine lv_aload_n hx hb dX11_wayAt_32 rfl (lv_at hl 1 rfl) ?_
      refine G11_47 hx hb htg hown hK hP 0 rfl dX11_wayAt_33 ?_
      refine lv_iload_n hx hb dX11_wayAt_36 rfl (lv_at hl 3 rfl) ?_
      obtain ⟨z37, hz37, hf⟩ := bind_s hf
      refine xV_ir hx hb hml hown htg L11_335 (c_X6_cellAt l E a7 a8 hz37 _) ⟨⟨rfl, rfl⟩, Nat.le_of_ble_eq_true rfl, Nat.le_of_ble_eq_true rfl⟩ hK hG hA hP hD hS (is := [7, 8]) rfl rfl (xrecv hK hP (q0 := 7) (ci := 6) rfl rfl) rfl hl.1 rfl (Nat.le_of_ble_eq_true rfl) dX11_wayAt_37 (fun H locs hP hD hS => ?_)
      obtain ⟨z40, hz40, hf⟩ := bind_s hf
      refine xV_iu hx hb hml hown htg L11_179 (c_X11_answer l E a0 hz40 _) ⟨⟨rfl, rfl⟩, Nat.le_of_ble_eq_true rfl, Nat.le_of_ble_eq_true rfl⟩ hK hG hA hP hD hS (is := [0]) (sel := [some 0, none, none, none, none, none, none, none, none, none, none]) (ws2 := [(a0, o11 z40.2 J0_15 J0_16 u0_0 u0_1 u0_2 u0_3 a2 a7 u0_6 u0_7 u0_8 u0_9 a1 u0_12 u0_13), (a1, o3 T1 u1_7 u1_8 u1_9 a6 a4 a5 u1_13 u1_14), (a2, o7 a3), (a3, ai E 144 z2.2.1), (a4, ai E 12 V4), (a5, ai E 12 V5), (a6, ai E 12 V6), (a7, o6 z2.2.2.1 a10 a9 a8), (a8, ai E 37 z2.2.2.2.1), (a9, ai E 36 z2.2.2.2.2.1), (a10, ai E 36 z2.2.2.2.2.2)]) rfl rfl rfl rfl rfl (xrecv hK hP (q0 := 0) (ci := 11) rfl rfl) rfl hl.1 rfl (Nat.le_of_ble_eq_true rfl) dX11_wayAt_40 (fun H locs hP hD hS => ?_)
      refine lv_goto (tgt := 52) hx hb dX11_wayAt_43 (by decide) ?_
      exact ret (z40.1, z40.2, z2.2.1, z2.2.2.1, z2.2.2.2.1, z2.2.2.2.2.1, z2.2.2.2.2.2) hf nzi hP hS dX11_wayAt_52
  · have hf := it_f c7 hf
    refine lv_aload_n hx hb dX11_wayAt_10 rfl (lv_at hl 1 rfl) ?_
    refine lv_iload_n hx hb dX11_wayAt_11 rfl (lv_at hl 0 rfl) ?_
    obtain ⟨z12, hz12, hf⟩ := bind_s hf
    refine xV_iu hx hb hml hown htg L11_137 (c_X11_refused l E a0 hz12 _) ⟨⟨rfl, rfl⟩, Nat.le_of_ble_eq_true rfl, Nat.le_of_ble_eq_true rfl⟩ hK hG hA hP hD hS (is := [0]) (sel := [some 0, none, none, none, none, none, none, none, none, none, none]) (ws2 := [(a0, o11 z12.2 J0_15 J0_16 u0_0 u0_1 u0_2 u0_3 a2 a7 u0_6 u0_7 u0_8 u0_9 a1 u0_12 u0_13), (a1, o3 T1 u1_7 u1_8 u1_9 a6 a4 a5 u1_13 u1_14), (a2, o7 a3), (a3, ai E 144 z2.2.1), (a4, ai E 12 V4), (a5, ai E 12 V5), (a6, ai E 12 V6), (a7, o6 z2.2.2.1 a10 a9 a8), (a8, ai E 37 z2.2.2.2.1), (a9, ai E 36 z2.2.2.2.2.1), (a10, ai E 36 z2.2.2.2.2.2)]) rfl rfl rfl rfl rfl (xrecv hK hP (q0 := 0) (ci := 11) rfl rfl) rfl hl.1 rfl (Nat.le_of_ble_eq_true rfl) dX11_wayAt_12 (fun H locs hP hD hS => ?_)
    exact ret (z12.1, z12.2, z2.2.1, z2.2.2.1, z2.2.2.2.1, z2.2.2.2.2.1, z2.2.2.2.2.2) hf nzi hP hS dX11_wayAt_15
theorem dX11_comesIn_0 : decode cX11_comesIn 0 = .ok (.aload_n 0, 1) := by decide +kernel
theorem dX11_comesIn_1 : decode cX11_comesIn 1 = .ok (.iload_n 1, 1) := by decide +kernel
theorem dX11_comesIn_2 : decode cX11_comesIn 2 = .ok (.invokevirtual 326, 3) := by decide +kernel
theorem dX11_comesIn_5 : decode cX11_comesIn 5 = .ok (.istore_n 2, 1) := by decide +kernel
theorem dX11_comesIn_6 : decode cX11_comesIn 6 = .ok (.iload_n 2, 1) := by decide +kernel
theorem dX11_comesIn_7 : decode cX11_comesIn 7 = .ok (.ifCond .eq 9, 3) := by decide +kernel
theorem dX11_comesIn_10 : decode cX11_comesIn 10 = .ok (.aload_n 0, 1) := by decide +kernel
theorem dX11_comesIn_11 : decode cX11_comesIn 11 = .ok (.iload_n 2, 1) := by decide +kernel
theorem dX11_comesIn_12 : decode cX11_comesIn 12 = .ok (.invokevirtual 118, 3) := by decide +kernel
theorem dX11_comesIn_15 : decode cX11_comesIn 15 = .ok (.ireturn, 1) := by decide +kernel
theorem dX11_comesIn_16 : decode cX11_comesIn 16 = .ok (.aload_n 0, 1) := by decide +kernel
theorem dX11_comesIn_17 : decode cX11_comesIn 17 = .ok (.getfield 47, 3) := by decide +kernel
theorem dX11_comesIn_20 : decode cX11_comesIn 20 = .ok (.invokevirtual 332, 3) := by decide +kernel
theorem dX11_comesIn_23 : decode cX11_comesIn 23 = .ok (.bipush 15, 2) := by decide +kernel
theorem dX11_comesIn_25 : decode cX11_comesIn 25 = .ok (.if_icmp .le 10, 3) := by decide +kernel
theorem dX11_comesIn_28 : decode cX11_comesIn 28 = .ok (.aload_n 0, 1) := by decide +kernel
theorem dX11_comesIn_29 : decode cX11_comesIn 29 = .ok (.bipush 9, 2) := by decide +kernel
theorem dX11_comesIn_31 : decode cX11_comesIn 31 = .ok (.invokevirtual 118, 3) := by decide +kernel
theorem dX11_comesIn_34 : decode cX11_comesIn 34 = .ok (.ireturn, 1) := by decide +kernel
theorem dX11_comesIn_35 : decode cX11_comesIn 35 = .ok (.lconst 1, 1) := by decide +kernel
theorem dX11_comesIn_36 : decode cX11_comesIn 36 = .ok (.lstore_n 3, 1) := by decide +kernel
theorem dX11_comesIn_37 : decode cX11_comesIn 37 = .ok (.lconst 1, 1) := by decide +kernel
theorem dX11_comesIn_38 : decode cX11_comesIn 38 = .ok (.lstore 5, 2) := by decide +kernel
theorem dX11_comesIn_40 : decode cX11_comesIn 40 = .ok (.iconst 1, 1) := by decide +kernel
theorem dX11_comesIn_41 : decode cX11_comesIn 41 = .ok (.istore 7, 2) := by decide +kernel
theorem dX11_comesIn_43 : decode cX11_comesIn 43 = .ok (.iload 7, 2) := by decide +kernel
theorem dX11_comesIn_45 : decode cX11_comesIn 45 = .ok (.aload_n 0, 1) := by decide +kernel
theorem dX11_comesIn_46 : decode cX11_comesIn 46 = .ok (.getfield 47, 3) := by decide +kernel
theorem dX11_comesIn_49 : decode cX11_comesIn 49 = .ok (.invokevirtual 332, 3) := by decide +kernel
theorem dX11_comesIn_52 : decode cX11_comesIn 52 = .ok (.if_icmp .gt 40, 3) := by decide +kernel
theorem dX11_comesIn_55 : decode cX11_comesIn 55 = .ok (.lload_n 3, 1) := by decide +kernel
theorem dX11_comesIn_56 : decode cX11_comesIn 56 = .ok (.bipush 16, 2) := by decide +kernel
theorem dX11_comesIn_58 : decode cX11_comesIn 58 = .ok (.aload_n 0, 1) := by decide +kernel
theorem dX11_comesIn_59 : decode cX11_comesIn 59 = .ok (.getfield 40, 3) := by decide +kernel
theorem dX11_comesIn_62 : decode cX11_comesIn 62 = .ok (.aload_n 0, 1) := by decide +kernel
theorem dX11_comesIn_63 : decode cX11_comesIn 63 = .ok (.getfield 47, 3) := by decide +kernel
theorem dX11_comesIn_66 : decode cX11_comesIn 66 = .ok (.iload 7, 2) := by decide +kernel
theorem dX11_comesIn_68 : decode cX11_comesIn 68 = .ok (.invokevirtual 335, 3) := by decide +kernel
theorem dX11_comesIn_71 : decode cX11_comesIn 71 = .ok (.invokevirtual 236, 3) := by decide +kernel
theorem dX11_comesIn_74 : decode cX11_comesIn 74 = .ok (.isub, 1) := by decide +kernel
theorem dX11_comesIn_75 : decode cX11_comesIn 75 = .ok (.i2l, 1) := by decide +kernel
theorem dX11_comesIn_76 : decode cX11_comesIn 76 = .ok (.lmul, 1) := by decide +kernel
theorem dX11_comesIn_77 : decode cX11_comesIn 77 = .ok (.lstore_n 3, 1) := by decide +kernel
theorem dX11_comesIn_78 : decode cX11_comesIn 78 = .ok (.lload 5, 2) := by decide +kernel
theorem dX11_comesIn_80 : decode cX11_comesIn 80 = .ok (.ldc2_w 338, 3) := by decide +kernel
theorem dX11_comesIn_83 : decode cX11_comesIn 83 = .ok (.lmul, 1) := by decide +kernel
theorem dX11_comesIn_84 : decode cX11_comesIn 84 = .ok (.lstore 5, 2) := by decide +kernel
theorem dX11_comesIn_86 : decode cX11_comesIn 86 = .ok (.iinc 7 1, 3) := by decide +kernel
theorem dX11_comesIn_89 : decode cX11_comesIn 89 = .ok (.goto (-46), 3) := by decide +kernel
theorem dX11_comesIn_92 : decode cX11_comesIn 92 = .ok (.aload_n 0, 1) := by decide +kernel
theorem dX11_comesIn_93 : decode cX11_comesIn 93 = .ok (.lload_n 3, 1) := by decide +kernel
theorem dX11_comesIn_94 : decode cX11_comesIn 94 = .ok (.lload 5, 2) := by decide +kernel
theorem dX11_comesIn_96 : decode cX11_comesIn 96 = .ok (.invokevirtual 305, 3) := by decide +kernel
theorem dX11_comesIn_99 : decode cX11_comesIn 99 = .ok (.ireturn, 1) := by decide +kernel
set_option maxRecDepth 100000 in
theorem c_X11_comesIn (l : Launch) (E : xE) (a0 a1 a2 a3 a4 a5 a6 a7 a8 a9 a10 : Nat) {T0 : Nat → Int32} {J0_15 : Int64} {J0_16 : Int64} {T1 : Nat → Int32} {V3 : Nat → Int32} {V4 : Nat → Int32} {V5 : Nat → Int32} {V6 : Nat → Int32} {T7 : Nat → Int32} {V8 : Nat → Int32} {V9 : Nat → Int32} {V10 : Nat → Int32} {u0_0 u0_1 u0_2 u0_3 u0_6 u0_7 u0_8 u0_9 u0_12 u0_13 u1_7 u1_8 u1_9 u1_13 u1_14 : Nat} {x1 : Int32} {z : Int32 × (Nat → Int32) × Int64 × Int64 × (Nat → Int32) × (Nat → Int32) × (Nat → Int32) × (Nat → Int32) × (Nat → Int32)} (hf : f_X11_comesIn T0 J0_15 J0_16 T1 V3 V4 V5 V6 T7 V8 V9 V10 x1 = some z) (sz : Nat) : Met l yX11_comesIn (Cond.code yX11_comesIn cX11_comesIn 8 (some .boolean) :: gw) ({ frames := 4, cells := 0, slots := 0, locals := 97 }) (xPc E [.ref a0, .int x1] [(a0, o11 T0 J0_15 J0_16 u0_0 u0_1 u0_2 u0_3 a2 a7 u0_6 u0_7 u0_8 u0_9 a1 u0_12 u0_13), (a1, o3 T1 u1_7 u1_8 u1_9 a6 a4 a5 u1_13 u1_14), (a2, o7 a3), (a3, ai E 144 V3), (a4, ai E 12 V4), (a5, ai E 12 V5), (a6, ai E 12 V6), (a7, o6 T7 a10 a9 a8), (a8, ai E 37 V8), (a9, ai E 36 V9), (a10, ai E 36 V10)] sz) (xQi E z.1 [(a0, o11 T0 J0_15 J0_16 u0_0 u0_1 u0_2 u0_3 a2 a7 u0_6 u0_7 u0_8 u0_9 a1 u0_12 u0_13), (a1, o3 T1 u1_7 u1_8 u1_9 a6 a4 a5 u1_13 u1_14), (a2, o7 a3), (a3, ai E 144 V3), (a4, ai E 12 V4), (a5, ai E 12 V5), (a6, ai E 12 V6), (a7, o6 T7 a10 a9 a8), (a8, ai E 37 V8), (a9, ai E 36 V9), (a10, ai E 36 V10)] [(a0, o11 z.2.1 z.2.2.1 z.2.2.2.1 u0_0 u0_1 u0_2 u0_3 a2 a7 u0_6 u0_7 u0_8 u0_9 a1 u0_12 u0_13), (a1, o3 T1 u1_7 u1_8 u1_9 a6 a4 a5 u1_13 u1_14), (a2, o7 a3), (a3, ai E 144 z.2.2.2.2.1), (a4, ai E 12 V4), (a5, ai E 12 V5), (a6, ai E 12 V6), (a7, o6 z.2.2.2.2.2.1 a10 a9 a8), (a8, ai E 37 z.2.2.2.2.2.2.1), (a9, ai E 36 z.2.2.2.2.2.2.2.1), (a10, ai E 36 z.2.2.2.2.2.2.2.2)] sz) 0 0 (va_A [(a0, o11 T0 J0_15 J0_16 u0_0 u0_1 u0_2 u0_3 a2 a7 u0_6 u0_7 u0_8 u0_9 a1 u0_12 u0_13), (a1, o3 T1 u1_7 u1_8 u1_9 a6 a4 a5 u1_13 u1_14), (a2, o7 a3), (a3, ai E 144 V3), (a4, ai E 12 V4), (a5, ai E 12 V5), (a6, ai E 12 V6), (a7, o6 T7 a10 a9 a8), (a8, ai E 37 V8), (a9, ai E 36 V9), (a10, ai E 36 V10)] sz) := by
  refine xM_i (by decide +kernel) (Nat.le_of_ble_eq_true rfl) ?_
  intro p e s m args below meth c A Q hx hb hml hown htg hK hG hA ret0 H locs ls hP hD hS hl
  have ret : ∀ (z' : Int32 × (Nat → Int32) × Int64 × Int64 × (Nat → Int32) × (Nat → Int32) × (Nat → Int32) × (Nat → Int32) × (Nat → Int32)) {H : Heap} {locs : List Loc} {pc : Nat} {ls : Array Slot}, some z' = some z → narrow .boolean (.int z'.1) = .int z'.1 → va_P E.1 vwCl [(a0, o11 z'.2.1 z'.2.2.1 z'.2.2.2.1 u0_0 u0_1 u0_2 u0_3 a2 a7 u0_6 u0_7 u0_8 u0_9 a1 u0_12 u0_13), (a1, o3 T1 u1_7 u1_8 u1_9 a6 a4 a5 u1_13 u1_14), (a2, o7 a3), (a3, ai E 144 z'.2.2.2.2.1), (a4, ai E 12 V4), (a5, ai E 12 V5), (a6, ai E 12 V6), (a7, o6 z'.2.2.2.2.2.1 a10 a9 a8), (a8, ai E 37 z'.2.2.2.2.2.2.1), (a9, ai E 36 z'.2.2.2.2.2.2.2.1), (a10, ai E 36 z'.2.2.2.2.2.2.2.2)] H → va_S A s.heap H locs → decode cX11_comesIn pc = .ok (.ireturn, 1) → W p l e ({ frames := 4, cells := 0, slots := 0, locals := 97 } : Room) s m args below meth c H locs 0 0 Q (F0 m pc ls [.int z'.1]) := by
    intro z' H locs pc ls h
    cases h
    exact ret0
  replace hl : lv_has ls 8 [(0, .ref a0), (1, .int x1)] := hl
  have b43 : ∀ (n : Nat) (x3 : Int64) (x5 : Int64) (x7 : Int32) (T0 : Nat → Int32) (J0_15 : Int64) (J0_16 : Int64) (V3 : Nat → Int32) (T7 : Nat → Int32) (V8 : Nat → Int32) (V9 : Nat → Int32) (V10 : Nat → Int32) (H : Heap) (locs : List Loc) (ls : Array Slot), f_X11_comesIn_43 T1 V4 V5 V6 x1 n x3 x5 x7 T0 J0_15 J0_16 V3 T7 V8 V9 V10 = some z → va_P E.1 vwCl [(a0, o11 T0 J0_15 J0_16 u0_0 u0_1 u0_2 u0_3 a2 a7 u0_6 u0_7 u0_8 u0_9 a1 u0_12 u0_13), (a1, o3 T1 u1_7 u1_8 u1_9 a6 a4 a5 u1_13 u1_14), (a2, o7 a3), (a3, ai E 144 V3), (a4, ai E 12 V4), (a5, ai E 12 V5), (a6, ai E 12 V6), (a7, o6 T7 a10 a9 a8), (a8, ai E 37 V8), (a9, ai E 36 V9), (a10, ai E 36 V10)] H → va_D A [(a0, o11 T0 J0_15 J0_16 u0_0 u0_1 u0_2 u0_3 a2 a7 u0_6 u0_7 u0_8 u0_9 a1 u0_12 u0_13), (a1, o3 T1 u1_7 u1_8 u1_9 a6 a4 a5 u1_13 u1_14), (a2, o7 a3), (a3, ai E 144 V3), (a4, ai E 12 V4), (a5, ai E 12 V5), (a6, ai E 12 V6), (a7, o6 T7 a10 a9 a8), (a8, ai E 37 V8), (a9, ai E 36 V9), (a10, ai E 36 V10)] → va_S A s.heap H locs → lv_has ls 8 [(0, .ref a0), (3, .long x3), (5, .long x5), (7, .int x7)] → W p l e ({ frames := 4, cells := 0, slots := 0, locals := 97 } : Room) s m args below meth c H locs 0 0 Q (F0 m 43 ls []) := by
    intro n
    induction n with
    | zero => intro x3 x5 x7 T0 J0_15 J0_16 V3 T7 V8 V9 V10 H locs ls hf; exact (nn_s hf).elim
    | succ n ih43 =>
      obtain ⟨k43, ek43⟩ : ∃ k, k = f_X11_comesIn_43 T1 V4 V5 V6 x1 n := ⟨_, rfl⟩
      rw [← ek43] at ih43
      intro x3 x5 x7 T0 J0_15 J0_16 V3 T7 V8 V9 V10 H locs ls hf hP hD hS hl
      replace hf : g_X11_comesIn_43 T1 V4 V5 V6 x1 k43 x3 x5 x7 T0 J0_15 J0_16 V3 T7 V8 V9 V10 = some z := by rw [ek43]; exact hf
      unfold g_X11_comesIn_43 at hf
      refine lv_iload hx hb dX11_comesIn_43 (lv_at hl 3 rfl) ?_
      refine lv_aload_n hx hb dX11_comesIn_45 rfl (lv_at hl 0 rfl) ?_
      refine G11_47 hx hb htg hown hK hP 0 rfl dX11_comesIn_46 ?_
      obtain ⟨z49, hz49, hf⟩ := bind_s hf
      refine xV_ir hx hb hml hown htg L11_332 (c_X6_cells l E a7 hz49 _) ⟨⟨rfl, rfl⟩, Nat.le_of_ble_eq_true rfl, Nat.le_of_ble_eq_true rfl⟩ hK hG hA hP hD hS (is := [7]) rfl rfl (xrecv hK hP (q0 := 7) (ci := 6) rfl rfl) rfl hl.1 rfl (Nat.le_of_ble_eq_true rfl) dX11_comesIn_49 (fun H locs hP hD hS => ?_)
      refine lv_icmp_gt (tgt := 92) hx hb dX11_comesIn_52 (by decide) (fun c52 => ?_) (fun c52 => ?_)
      · have hf := it_t c52 hf
        refine lv_aload_n hx hb dX11_comesIn_92 rfl (lv_at hl 0 rfl) ?_
        refine lv_lload_n hx hb dX11_comesIn_93 rfl (lv_at hl 1 rfl) ?_
        refine lv_lload hx hb dX11_comesIn_94 (lv_at hl 2 rfl) ?_
        obtain ⟨z96, hz96, hf⟩ := bind_s hf
        refine xV_iu hx hb hml hown htg L11_305 (c_X11_toldFraction l E a0 hz96 _) ⟨⟨rfl, rfl⟩, Nat.le_of_ble_eq_true rfl, Nat.le_of_ble_eq_true rfl⟩ hK hG hA hP hD hS (is := [0]) (sel := [some 0, none, none, none, none, none, none, none, none, none, none]) (ws2 := [(a0, o11 z96.2.1 z96.2.2.1 z96.2.2.2 u0_0 u0_1 u0_2 u0_3 a2 a7 u0_6 u0_7 u0_8 u0_9 a1 u0_12 u0_13), (a1, o3 T1 u1_7 u1_8 u1_9 a6 a4 a5 u1_13 u1_14), (a2, o7 a3), (a3, ai E 144 V3), (a4, ai E 12 V4), (a5, ai E 12 V5), (a6, ai E 12 V6), (a7, o6 T7 a10 a9 a8), (a8, ai E 37 V8), (a9, ai E 36 V9), (a10, ai E 36 V10)]) rfl rfl rfl rfl rfl (xrecv hK hP (q0 := 0) (ci := 11) rfl rfl) rfl hl.1 rfl (Nat.le_of_ble_eq_true rfl) dX11_comesIn_96 (fun H locs hP hD hS => ?_)
        obtain ⟨g99, hf⟩ := ck_s hf
        exact ret (z96.1, z96.2.1, z96.2.2.1, z96.2.2.2, V3, T7, V8, V9, V10) hf (bz_n g99).1 hP hS dX11_comesIn_99
      · have hf := it_f c52 hf
        refine lv_lload_n hx hb dX11_comesIn_55 rfl (lv_at hl 1 rfl) ?_
        refine lv_bipush (v := 16) hx hb dX11_comesIn_56 rfl ?_
        refine lv_aload_n hx hb dX11_comesIn_58 rfl (lv_at hl 0 rfl) ?_
        refine G11_40 hx hb htg hown hK hP 0 rfl dX11_comesIn_59 ?_
        refine lv_aload_n hx hb dX11_comesIn_62 rfl (lv_at hl 0 rfl) ?_
        refine G11_47 hx hb htg hown hK hP 0 rfl dX11_comesIn_63 ?_
        refine lv_iload hx hb dX11_comesIn_66 (lv_at hl 3 rfl) ?_
        obtain ⟨z68, hz68, hf⟩ := bind_s hf
        refine xV_ir hx hb hml hown htg L11_335 (c_X6_cellAt l E a7 a8 hz68 _) ⟨⟨rfl, rfl⟩, Nat.le_of_ble_eq_true rfl, Nat.le_of_ble_eq_true rfl⟩ hK hG hA hP hD hS (is := [7, 8]) rfl rfl (xrecv hK hP (q0 := 7) (ci := 6) rfl rfl) rfl hl.1 rfl (Nat.le_of_ble_eq_true rfl) dX11_comesIn_68 (fun H locs hP hD hS => ?_)
        obtain ⟨z71, hz71, hf⟩ := bind_s hf
        refine xV_ir hx hb hml hown htg L11_236 (c_X7_riskOf l E a2 a3 hz71 _) ⟨⟨rfl, rfl⟩, Nat.le_of_ble_eq_true rfl, Nat.le_of_ble_eq_true rfl⟩ hK hG hA hP hD hS (is := [2, 3]) rfl rfl (xrecv hK hP (q0 := 2) (ci := 7) rfl rfl) rfl hl.1 rfl (Nat.le_of_ble_eq_true rfl) dX11_comesIn_71 (fun H locs hP hD hS => ?_)
        refine lv_isub hx hb dX11_comesIn_74 ?_
        refine lv_i2l hx hb dX11_comesIn_75 rfl ?_
        refine lv_lmul hx hb dX11_comesIn_76 ?_
        refine lv_lstore_n (lv' := [(3, .long (x3 * (Int32.toInt64 (16 - z71)))), (0, .ref a0), (5, .long x5), (7, .int x7)]) hx hb dX11_comesIn_77 rfl hl (by decide) rfl (fun ls hl => ?_)
        refine lv_lload hx hb dX11_comesIn_78 (lv_at hl 2 rfl) ?_
        refine lv_ldc2 hx hb hown (htg _ (gw_t (tb5 209 rfl) rfl)) dX11_comesIn_80 ?_
        refine lv_lmul hx hb dX11_comesIn_83 ?_
        refine lv_lstore (lv' := [(5, .long (x5 * 16)), (3, .long (x3 * (Int32.toInt64 (16 - z71)))), (0, .ref a0), (7, .int x7)]) hx hb dX11_comesIn_84 hl (by decide) rfl (fun ls hl => ?_)
        refine lv_iinc (v := x7 + 1) (lv' := [(7, .int (x7 + 1)), (5, .long (x5 * 16)), (3, .long (x3 * (Int32.toInt64 (16 - z71)))), (0, .ref a0)]) hx hb dX11_comesIn_86 hl (k := 3) rfl rfl (by decide) rfl (fun ls hl => ?_)
        refine lv_goto (tgt := 43) hx hb dX11_comesIn_89 (by decide) ?_
        exact ih43 (x3 * (Int32.toInt64 (16 - z71))) (x5 * 16) (x7 + 1) T0 J0_15 J0_16 V3 T7 V8 V9 V10 _ _ _ hf hP hD hS (lv_sub hl [3, 2, 1, 0] rfl)
  unfold f_X11_comesIn at hf
  refine lv_aload_n hx hb dX11_comesIn_0 rfl (lv_at hl 0 rfl) ?_
  refine lv_iload_n hx hb dX11_comesIn_1 rfl (lv_at hl 1 rfl) ?_
  obtain ⟨z2, hz2, hf⟩ := bind_s hf
  refine xV_iu hx hb hml hown htg L11_326 (c_X11_whyNoWay l E a0 a1 a2 a3 a4 a5 a6 a7 a8 a9 a10 hz2 _) ⟨⟨rfl, rfl⟩, Nat.le_of_ble_eq_true rfl, Nat.le_of_ble_eq_true rfl⟩ hK hG hA hP hD hS (is := [0, 1, 2, 3, 4, 5, 6, 7, 8, 9, 10]) (sel := [some 0, some 1, some 2, some 3, some 4, some 5, some 6, some 7, some 8, some 9, some 10]) (ws2 := [(a0, o11 T0 J0_15 J0_16 u0_0 u0_1 u0_2 u0_3 a2 a7 u0_6 u0_7 u0_8 u0_9 a1 u0_12 u0_13), (a1, o3 T1 u1_7 u1_8 u1_9 a6 a4 a5 u1_13 u1_14), (a2, o7 a3), (a3, ai E 144 z2.2.1), (a4, ai E 12 V4), (a5, ai E 12 V5), (a6, ai E 12 V6), (a7, o6 z2.2.2.1 a10 a9 a8), (a8, ai E 37 z2.2.2.2.1), (a9, ai E 36 z2.2.2.2.2.1), (a10, ai E 36 z2.2.2.2.2.2)]) rfl rfl rfl rfl rfl (xrecv hK hP (q0 := 0) (ci := 11) rfl rfl) rfl hl.1 rfl (Nat.le_of_ble_eq_true rfl) dX11_comesIn_2 (fun H locs hP hD hS => ?_)
  refine lv_istore_n (lv' := [(2, .int z2.1), (0, .ref a0), (1, .int x1)]) hx hb dX11_comesIn_5 rfl hl (by decide) rfl (fun ls hl => ?_)
  refine lv_iload_n hx hb dX11_comesIn_6 rfl (lv_at hl 0 rfl) ?_
  refine lv_if_eq (tgt := 16) hx hb dX11_comesIn_7 (by decide) (fun c7 => ?_) (fun c7 => ?_)
  · have hf := it_t c7 hf
    refine lv_aload_n hx hb dX11_comesIn_16 rfl (lv_at hl 1 rfl) ?_
    refine G11_47 hx hb htg hown hK hP 0 rfl dX11_comesIn_17 ?_
    obtain ⟨z20, hz20, hf⟩ := bind_s hf
    refine xV_ir hx hb hml hown htg L11_332 (c_X6_cells l E a7 hz20 _) ⟨⟨rfl, rfl⟩, Nat.le_of_ble_eq_true rfl, Nat.le_of_ble_eq_true rfl⟩ hK hG hA hP hD hS (is := [7]) rfl rfl (xrecv hK hP (q0 := 7) (ci := 6) rfl rfl) rfl hl.1 rfl (Nat.le_of_ble_eq_true rfl) dX11_comesIn_20 (fun H locs hP hD hS => ?_)
    refine lv_bipush (v := 15) hx hb dX11_comesIn_23 rfl ?_
    refine lv_icmp_le (tgt := 35) hx hb dX11_comesIn_25 (by decide) (fun c25 => ?_) (fun c25 => ?_)
    · have hf := it_t c25 hf
      refine lv_lconst (v := 1) hx hb dX11_comesIn_35 rfl ?_
      refine lv_lstore_n (lv' := [(3, .long 1), (2, .int z2.1), (0, .ref a0), (1, .int x1)]) hx hb dX11_comesIn_36 rfl hl (by decide) rfl (fun ls hl => ?_)
      refine lv_lconst (v := 1) hx hb dX11_comesIn_37 rfl ?_
      refine lv_lstore (lv' := [(5, .long 1), (3, .long 1), (2, .int z2.1), (0, .ref a0), (1, .int x1)]) hx hb dX11_comesIn_38 hl (by decide) rfl (fun ls hl => ?_)
      refine lv_iconst (v := 1) hx hb dX11_comesIn_40 rfl ?_
      refine lv_istore (lv' := [(7, .int 1), (5, .long 1), (3, .long 1), (2, .int z2.1), (0, .ref a0), (1, .int x1)]) hx hb dX11_comesIn_41 hl (by decide) rfl (fun ls hl => ?_)
      exact b43 xF 1 1 1 T0 J0_15 J0_16 z2.2.1 z2.2.2.1 z2.2.2.2.1 z2.2.2.2.2.1 z2.2.2.2.2.2 _ _ _ hf hP hD hS (lv_sub hl [4, 2, 1, 0] rfl)
    · have hf := it_f c25 hf
      refine lv_aload_n hx hb dX11_comesIn_28 rfl (lv_at hl 1 rfl) ?_
      refine lv_bipush (v := 9) hx hb dX11_comesIn_29 rfl ?_
      obtain ⟨z31, hz31, hf⟩ := bind_s hf
      refine xV_iu hx hb hml hown htg L11_118 (c_X11_denied l E a0 hz31 _) ⟨⟨rfl, rfl⟩, Nat.le_of_ble_eq_true rfl, Nat.le_of_ble_eq_true rfl⟩ hK hG hA hP hD hS (is := [0]) (sel := [some 0, none, none, none, none, none, none, none, none, none, none]) (ws2 := [(a0, o11 z31.2 J0_15 J0_16 u0_0 u0_1 u0_2 u0_3 a2 a7 u0_6 u0_7 u0_8 u0_9 a1 u0_12 u0_13), (a1, o3 T1 u1_7 u1_8 u1_9 a6 a4 a5 u1_13 u1_14), (a2, o7 a3), (a3, ai E 144 z2.2.1), (a4, ai E 12 V4), (a5, ai E 12 V5), (a6, ai E 12 V6), (a7, o6 z2.2.2.1 a10 a9 a8), (a8, ai E 37 z2.2.2.2.1), (a9, ai E 36 z2.2.2.2.2.1), (a10, ai E 36 z2.2.2.2.2.2)]) rfl rfl rfl rfl rfl (xrecv hK hP (q0 := 0) (ci := 11) rfl rfl) rfl hl.1 rfl (Nat.le_of_ble_eq_true rfl) dX11_comesIn_31 (fun H locs hP hD hS => ?_)
      obtain ⟨g34, hf⟩ := ck_s hf
      exact ret (z31.1, z31.2, J0_15, J0_16, z2.2.1, z2.2.2.1, z2.2.2.2.1, z2.2.2.2.2.1, z2.2.2.2.2.2) hf (bz_n g34).1 hP hS dX11_comesIn_34
  · have hf := it_f c7 hf
    refine lv_aload_n hx hb dX11_comesIn_10 rfl (lv_at hl 1 rfl) ?_
    refine lv_iload_n hx hb dX11_comesIn_11 rfl (lv_at hl 0 rfl) ?_
    obtain ⟨z12, hz12, hf⟩ := bind_s hf
    refine xV_iu hx hb hml hown htg L11_118 (c_X11_denied l E a0 hz12 _) ⟨⟨rfl, rfl⟩, Nat.le_of_ble_eq_true rfl, Nat.le_of_ble_eq_true rfl⟩ hK hG hA hP hD hS (is := [0]) (sel := [some 0, none, none, none, none, none, none, none, none, none, none]) (ws2 := [(a0, o11 z12.2 J0_15 J0_16 u0_0 u0_1 u0_2 u0_3 a2 a7 u0_6 u0_7 u0_8 u0_9 a1 u0_12 u0_13), (a1, o3 T1 u1_7 u1_8 u1_9 a6 a4 a5 u1_13 u1_14), (a2, o7 a3), (a3, ai E 144 z2.2.1), (a4, ai E 12 V4), (a5, ai E 12 V5), (a6, ai E 12 V6), (a7, o6 z2.2.2.1 a10 a9 a8), (a8, ai E 37 z2.2.2.2.1), (a9, ai E 36 z2.2.2.2.2.1), (a10, ai E 36 z2.2.2.2.2.2)]) rfl rfl rfl rfl rfl (xrecv hK hP (q0 := 0) (ci := 11) rfl rfl) rfl hl.1 rfl (Nat.le_of_ble_eq_true rfl) dX11_comesIn_12 (fun H locs hP hD hS => ?_)
    obtain ⟨g15, hf⟩ := ck_s hf
    exact ret (z12.1, z12.2, J0_15, J0_16, z2.2.1, z2.2.2.1, z2.2.2.2.1, z2.2.2.2.2.1, z2.2.2.2.2.2) hf (bz_n g15).1 hP hS dX11_comesIn_15
theorem dX11_sail_0 : decode cX11_sail 0 = .ok (.aload_n 0, 1) := by decide +kernel
theorem dX11_sail_1 : decode cX11_sail 1 = .ok (.iload_n 1, 1) := by decide +kernel
theorem dX11_sail_2 : decode cX11_sail 2 = .ok (.invokevirtual 326, 3) := by decide +kernel
theorem dX11_sail_5 : decode cX11_sail 5 = .ok (.istore_n 2, 1) := by decide +kernel
theorem dX11_sail_6 : decode cX11_sail 6 = .ok (.iload_n 2, 1) := by decide +kernel
theorem dX11_sail_7 : decode cX11_sail 7 = .ok (.ifCond .ne 21, 3) := by decide +kernel
theorem dX11_sail_10 : decode cX11_sail 10 = .ok (.aload_n 0, 1) := by decide +kernel
theorem dX11_sail_11 : decode cX11_sail 11 = .ok (.aload_n 0, 1) := by decide +kernel
theorem dX11_sail_12 : decode cX11_sail 12 = .ok (.getfield 47, 3) := by decide +kernel
theorem dX11_sail_15 : decode cX11_sail 15 = .ok (.aload_n 0, 1) := by decide +kernel
theorem dX11_sail_16 : decode cX11_sail 16 = .ok (.getfield 79, 3) := by decide +kernel
theorem dX11_sail_19 : decode cX11_sail 19 = .ok (.invokevirtual 340, 3) := by decide +kernel
theorem dX11_sail_22 : decode cX11_sail 22 = .ok (.invokevirtual 179, 3) := by decide +kernel
theorem dX11_sail_25 : decode cX11_sail 25 = .ok (.goto 8, 3) := by decide +kernel
theorem dX11_sail_28 : decode cX11_sail 28 = .ok (.aload_n 0, 1) := by decide +kernel
theorem dX11_sail_29 : decode cX11_sail 29 = .ok (.iload_n 2, 1) := by decide +kernel
theorem dX11_sail_30 : decode cX11_sail 30 = .ok (.invokevirtual 137, 3) := by decide +kernel
theorem dX11_sail_33 : decode cX11_sail 33 = .ok (.ireturn, 1) := by decide +kernel
set_option maxRecDepth 100000 in
theorem c_X11_sail (l : Launch) (E : xE) (a0 a1 a2 a3 a4 a5 a6 a7 a8 a9 a10 a11 : Nat) {T0 : Nat → Int32} {J0_15 : Int64} {J0_16 : Int64} {T1 : Nat → Int32} {V3 : Nat → Int32} {V4 : Nat → Int32} {V5 : Nat → Int32} {V6 : Nat → Int32} {T7 : Nat → Int32} {V8 : Nat → Int32} {V9 : Nat → Int32} {V10 : Nat → Int32} {V11 : Nat → Int32} {u0_0 u0_1 u0_2 u0_3 u0_6 u0_7 u0_8 u0_9 u0_12 u0_13 u1_8 u1_9 u1_13 u1_14 : Nat} {x1 : Int32} {z : Int32 × (Nat → Int32) × (Nat → Int32) × (Nat → Int32) × (Nat → Int32) × (Nat → Int32) × (Nat → Int32)} (hf : f_X11_sail T0 T1 V3 V4 V5 V6 T7 V8 V9 V10 V11 x1 = some z) (sz : Nat) : Met l yX11_sail (Cond.code yX11_sail cX11_sail 3 (some .int) :: gw) ({ frames := 4, cells := 0, slots := 0, locals := 97 }) (xPc E [.ref a0, .int x1] [(a0, o11 T0 J0_15 J0_16 u0_0 u0_1 u0_2 u0_3 a2 a7 u0_6 u0_7 u0_8 u0_9 a1 u0_12 u0_13), (a1, o3 T1 a11 u1_8 u1_9 a6 a4 a5 u1_13 u1_14), (a2, o7 a3), (a3, ai E 144 V3), (a4, ai E 12 V4), (a5, ai E 12 V5), (a6, ai E 12 V6), (a7, o6 T7 a10 a9 a8), (a8, ai E 37 V8), (a9, ai E 36 V9), (a10, ai E 36 V10), (a11, ai E 36 V11)] sz) (xQi E z.1 [(a0, o11 T0 J0_15 J0_16 u0_0 u0_1 u0_2 u0_3 a2 a7 u0_6 u0_7 u0_8 u0_9 a1 u0_12 u0_13), (a1, o3 T1 a11 u1_8 u1_9 a6 a4 a5 u1_13 u1_14), (a2, o7 a3), (a3, ai E 144 V3), (a4, ai E 12 V4), (a5, ai E 12 V5), (a6, ai E 12 V6), (a7, o6 T7 a10 a9 a8), (a8, ai E 37 V8), (a9, ai E 36 V9), (a10, ai E 36 V10), (a11, ai E 36 V11)] [(a0, o11 z.2.1 J0_15 J0_16 u0_0 u0_1 u0_2 u0_3 a2 a7 u0_6 u0_7 u0_8 u0_9 a1 u0_12 u0_13), (a1, o3 T1 a11 u1_8 u1_9 a6 a4 a5 u1_13 u1_14), (a2, o7 a3), (a3, ai E 144 z.2.2.1), (a4, ai E 12 V4), (a5, ai E 12 V5), (a6, ai E 12 V6), (a7, o6 z.2.2.2.1 a10 a9 a8), (a8, ai E 37 z.2.2.2.2.1), (a9, ai E 36 z.2.2.2.2.2.1), (a10, ai E 36 z.2.2.2.2.2.2), (a11, ai E 36 V11)] sz) 0 0 (va_A [(a0, o11 T0 J0_15 J0_16 u0_0 u0_1 u0_2 u0_3 a2 a7 u0_6 u0_7 u0_8 u0_9 a1 u0_12 u0_13), (a1, o3 T1 a11 u1_8 u1_9 a6 a4 a5 u1_13 u1_14), (a2, o7 a3), (a3, ai E 144 V3), (a4, ai E 12 V4), (a5, ai E 12 V5), (a6, ai E 12 V6), (a7, o6 T7 a10 a9 a8), (a8, ai E 37 V8), (a9, ai E 36 V9), (a10, ai E 36 V10), (a11, ai E 36 V11)] sz) := by
  refine xM_i (by decide +kernel) (Nat.le_of_ble_eq_true rfl) ?_
  intro p e s m args below meth c A Q hx hb hml hown htg hK hG hA ret0 H locs ls hP hD hS hl
  have ret : ∀ (z' : Int32 × (Nat → Int32) × (Nat → Int32) × (Nat → Int32) × (Nat → Int32) × (Nat → Int32) × (Nat → Int32)) {H : Heap} {locs : List Loc} {pc : Nat} {ls : Array Slot}, some z' = some z → narrow .int (.int z'.1) = .int z'.1 → va_P E.1 vwCl [(a0, o11 z'.2.1 J0_15 J0_16 u0_0 u0_1 u0_2 u0_3 a2 a7 u0_6 u0_7 u0_8 u0_9 a1 u0_12 u0_13), (a1, o3 T1 a11 u1_8 u1_9 a6 a4 a5 u1_13 u1_14), (a2, o7 a3), (a3, ai E 144 z'.2.2.1), (a4, ai E 12 V4), (a5, ai E 12 V5), (a6, ai E 12 V6), (a7, o6 z'.2.2.2.1 a10 a9 a8), (a8, ai E 37 z'.2.2.2.2.1), (a9, ai E 36 z'.2.2.2.2.2.1), (a10, ai E 36 z'.2.2.2.2.2.2), (a11, ai E 36 V11)] H → va_S A s.heap H locs → decode cX11_sail pc = .ok (.ireturn, 1) → W p l e ({ frames := 4, cells := 0, slots := 0, locals := 97 } : Room) s m args below meth c H locs 0 0 Q (F0 m pc ls [.int z'.1]) := by
    intro z' H locs pc ls h
    cases h
    exact ret0
  replace hl : lv_has ls 3 [(0, .ref a0), (1, .int x1)] := hl
  unfold f_X11_sail at hf
  refine lv_aload_n hx hb dX11_sail_0 rfl (lv_at hl 0 rfl) ?_
  refine lv_iload_n hx hb dX11_sail_1 rfl (lv_at hl 1 rfl) ?_
  obtain ⟨z2, hz2, hf⟩ := bind_s hf
  refine xV_iu hx hb hml hown htg L11_326 (c_X11_whyNoWay l E a0 a1 a2 a3 a4 a5 a6 a7 a8 a9 a10 hz2 _) ⟨⟨rfl, rfl⟩, Nat.le_of_ble_eq_true rfl, Nat.le_of_ble_eq_true rfl⟩ hK hG hA hP hD hS (is := [0, 1, 2, 3, 4, 5, 6, 7, 8, 9, 10]) (sel := [some 0, some 1, some 2, some 3, some 4, some 5, some 6, some 7, some 8, some 9, some 10, none]) (ws2 := [(a0, o11 T0 J0_15 J0_16 u0_0 u0_1 u0_2 u0_3 a2 a7 u0_6 u0_7 u0_8 u0_9 a1 u0_12 u0_13), (a1, o3 T1 a11 u1_8 u1_9 a6 a4 a5 u1_13 u1_14), (a2, o7 a3), (a3, ai E 144 z2.2.1), (a4, ai E 12 V4), (a5, ai E 12 V5), (a6, ai E 12 V6), (a7, o6 z2.2.2.1 a10 a9 a8), (a8, ai E 37 z2.2.2.2.1), (a9, ai E 36 z2.2.2.2.2.1), (a10, ai E 36 z2.2.2.2.2.2), (a11, ai E 36 V11)]) rfl rfl rfl rfl rfl (xrecv hK hP (q0 := 0) (ci := 11) rfl rfl) rfl hl.1 rfl (Nat.le_of_ble_eq_true rfl) dX11_sail_2 (fun H locs hP hD hS => ?_)
  refine lv_istore_n (lv' := [(2, .int z2.1), (0, .ref a0), (1, .int x1)]) hx hb dX11_sail_5 rfl hl (by decide) rfl (fun ls hl => ?_)
  refine lv_iload_n hx hb dX11_sail_6 rfl (lv_at hl 0 rfl) ?_
  refine lv_if_ne (tgt := 28) hx hb dX11_sail_7 (by decide) (fun c7 => ?_) (fun c7 => ?_)
  · have hf := it_f c7 hf
    refine lv_aload_n hx hb dX11_sail_28 rfl (lv_at hl 1 rfl) ?_
    refine lv_iload_n hx hb dX11_sail_29 rfl (lv_at hl 0 rfl) ?_
    obtain ⟨z30, hz30, hf⟩ := bind_s hf
    refine xV_iu hx hb hml hown htg L11_137 (c_X11_refused l E a0 hz30 _) ⟨⟨rfl, rfl⟩, Nat.le_of_ble_eq_true rfl, Nat.le_of_ble_eq_true rfl⟩ hK hG hA hP hD hS (is := [0]) (sel := [some 0, none, none, none, none, none, none, none, none, none, none, none]) (ws2 := [(a0, o11 z30.2 J0_15 J0_16 u0_0 u0_1 u0_2 u0_3 a2 a7 u0_6 u0_7 u0_8 u0_9 a1 u0_12 u0_13), (a1, o3 T1 a11 u1_8 u1_9 a6 a4 a5 u1_13 u1_14), (a2, o7 a3), (a3, ai E 144 z2.2.1), (a4, ai E 12 V4), (a5, ai E 12 V5), (a6, ai E 12 V6), (a7, o6 z2.2.2.1 a10 a9 a8), (a8, ai E 37 z2.2.2.2.1), (a9, ai E 36 z2.2.2.2.2.1), (a10, ai E 36 z2.2.2.2.2.2), (a11, ai E 36 V11)]) rfl rfl rfl rfl rfl (xrecv hK hP (q0 := 0) (ci := 11) rfl rfl) rfl hl.1 rfl (Nat.le_of_ble_eq_true rfl) dX11_sail_30 (fun H locs hP hD hS => ?_)
    exact ret (z30.1, z30.2, z2.2.1, z2.2.2.1, z2.2.2.2.1, z2.2.2.2.2.1, z2.2.2.2.2.2) hf nzi hP hS dX11_sail_33
  · have hf := it_t c7 hf
    refine lv_aload_n hx hb dX11_sail_10 rfl (lv_at hl 1 rfl) ?_
    refine lv_aload_n hx hb dX11_sail_11 rfl (lv_at hl 1 rfl) ?_
    refine G11_47 hx hb htg hown hK hP 0 rfl dX11_sail_12 ?_
    refine lv_aload_n hx hb dX11_sail_15 rfl (lv_at hl 1 rfl) ?_
    refine G11_79 hx hb htg hown hK hP 0 rfl dX11_sail_16 ?_
    obtain ⟨z19, hz19, hf⟩ := bind_s hf
    refine xV_ir hx hb hml hown htg L11_340 (c_X6_sailedTo l E a7 a1 a8 a11 hz19 _) ⟨⟨rfl, rfl⟩, Nat.le_of_ble_eq_true rfl, Nat.le_of_ble_eq_true rfl⟩ hK hG hA hP hD hS (is := [7, 1, 8, 11]) rfl rfl (xrecv hK hP (q0 := 7) (ci := 6) rfl rfl) rfl hl.1 rfl (Nat.le_of_ble_eq_true rfl) dX11_sail_19 (fun H locs hP hD hS => ?_)
    obtain ⟨z22, hz22, hf⟩ := bind_s hf
    refine xV_iu hx hb hml hown htg L11_179 (c_X11_answer l E a0 hz22 _) ⟨⟨rfl, rfl⟩, Nat.le_of_ble_eq_true rfl, Nat.le_of_ble_eq_true rfl⟩ hK hG hA hP hD hS (is := [0]) (sel := [some 0, none, none, none, none, none, none, none, none, none, none, none]) (ws2 := [(a0, o11 z22.2 J0_15 J0_16 u0_0 u0_1 u0_2 u0_3 a2 a7 u0_6 u0_7 u0_8 u0_9 a1 u0_12 u0_13), (a1, o3 T1 a11 u1_8 u1_9 a6 a4 a5 u1_13 u1_14), (a2, o7 a3), (a3, ai E 144 z2.2.1), (a4, ai E 12 V4), (a5, ai E 12 V5), (a6, ai E 12 V6), (a7, o6 z2.2.2.1 a10 a9 a8), (a8, ai E 37 z2.2.2.2.1), (a9, ai E 36 z2.2.2.2.2.1), (a10, ai E 36 z2.2.2.2.2.2), (a11, ai E 36 V11)]) rfl rfl rfl rfl rfl (xrecv hK hP (q0 := 0) (ci := 11) rfl rfl) rfl hl.1 rfl (Nat.le_of_ble_eq_true rfl) dX11_sail_22 (fun H locs hP hD hS => ?_)
    refine lv_goto (tgt := 33) hx hb dX11_sail_25 (by decide) ?_
    exact ret (z22.1, z22.2, z2.2.1, z2.2.2.1, z2.2.2.2.1, z2.2.2.2.2.1, z2.2.2.2.2.2) hf nzi hP hS dX11_sail_33
theorem dX11_plan_0 : decode cX11_plan 0 = .ok (.iload_n 1, 1) := by decide +kernel
theorem dX11_plan_1 : decode cX11_plan 1 = .ok (.iconst 0, 1) := by decide +kernel
theorem dX11_plan_2 : decode cX11_plan 2 = .ok (.bipush 60, 2) := by decide +kernel
theorem dX11_plan_4 : decode cX11_plan 4 = .ok (.invokestatic 114, 3) := by decide +kernel
theorem dX11_plan_7 : decode cX11_plan 7 = .ok (.ifCond .ne 9, 3) := by decide +kernel
theorem dX11_plan_10 : decode cX11_plan 10 = .ok (.aload_n 0, 1) := by decide +kernel
theorem dX11_plan_11 : decode cX11_plan 11 = .ok (.iconst 5, 1) := by decide +kernel
theorem dX11_plan_12 : decode cX11_plan 12 = .ok (.invokevirtual 137, 3) := by decide +kernel
theorem dX11_plan_15 : decode cX11_plan 15 = .ok (.ireturn, 1) := by decide +kernel
theorem dX11_plan_16 : decode cX11_plan 16 = .ok (.aload_n 0, 1) := by decide +kernel
theorem dX11_plan_17 : decode cX11_plan 17 = .ok (.getfield 61, 3) := by decide +kernel
theorem dX11_plan_20 : decode cX11_plan 20 = .ok (.aload_n 0, 1) := by decide +kernel
theorem dX11_plan_21 : decode cX11_plan 21 = .ok (.getfield 79, 3) := by decide +kernel
theorem dX11_plan_24 : decode cX11_plan 24 = .ok (.aload_n 0, 1) := by decide +kernel
theorem dX11_plan_25 : decode cX11_plan 25 = .ok (.getfield 40, 3) := by decide +kernel
theorem dX11_plan_28 : decode cX11_plan 28 = .ok (.invokevirtual 343, 3) := by decide +kernel
theorem dX11_plan_31 : decode cX11_plan 31 = .ok (.aload_n 0, 1) := by decide +kernel
theorem dX11_plan_32 : decode cX11_plan 32 = .ok (.getfield 61, 3) := by decide +kernel
theorem dX11_plan_35 : decode cX11_plan 35 = .ok (.aload_n 0, 1) := by decide +kernel
theorem dX11_plan_36 : decode cX11_plan 36 = .ok (.getfield 79, 3) := by decide +kernel
theorem dX11_plan_39 : decode cX11_plan 39 = .ok (.iload_n 1, 1) := by decide +kernel
theorem dX11_plan_40 : decode cX11_plan 40 = .ok (.invokevirtual 346, 3) := by decide +kernel
theorem dX11_plan_43 : decode cX11_plan 43 = .ok (.istore_n 2, 1) := by decide +kernel
theorem dX11_plan_44 : decode cX11_plan 44 = .ok (.aload_n 0, 1) := by decide +kernel
theorem dX11_plan_45 : decode cX11_plan 45 = .ok (.aload_n 0, 1) := by decide +kernel
theorem dX11_plan_46 : decode cX11_plan 46 = .ok (.getfield 79, 3) := by decide +kernel
theorem dX11_plan_49 : decode cX11_plan 49 = .ok (.invokevirtual 176, 3) := by decide +kernel
theorem dX11_plan_52 : decode cX11_plan 52 = .ok (.aload_n 0, 1) := by decide +kernel
theorem dX11_plan_53 : decode cX11_plan 53 = .ok (.getfield 61, 3) := by decide +kernel
theorem dX11_plan_56 : decode cX11_plan 56 = .ok (.aload_n 0, 1) := by decide +kernel
theorem dX11_plan_57 : decode cX11_plan 57 = .ok (.getfield 79, 3) := by decide +kernel
theorem dX11_plan_60 : decode cX11_plan 60 = .ok (.getfield 214, 3) := by decide +kernel
theorem dX11_plan_63 : decode cX11_plan 63 = .ok (.iload_n 2, 1) := by decide +kernel
theorem dX11_plan_64 : decode cX11_plan 64 = .ok (.ior, 1) := by decide +kernel
theorem dX11_plan_65 : decode cX11_plan 65 = .ok (.invokevirtual 350, 3) := by decide +kernel
theorem dX11_plan_68 : decode cX11_plan 68 = .ok (.isub, 1) := by decide +kernel
theorem dX11_plan_69 : decode cX11_plan 69 = .ok (.invokevirtual 179, 3) := by decide +kernel
theorem dX11_plan_72 : decode cX11_plan 72 = .ok (.ireturn, 1) := by decide +kernel
set_option maxRecDepth 100000 in
theorem c_X11_plan (l : Launch) (E : xE) (a0 a1 a2 a3 a4 a5 a6 a7 a8 : Nat) {T0 : Nat → Int32} {J0_15 : Int64} {J0_16 : Int64} {T2 : Nat → Int32} {V4 : Nat → Int32} {V5 : Nat → Int32} {V6 : Nat → Int32} {V7 : Nat → Int32} {V8 : Nat → Int32} {u0_0 u0_1 u0_2 u0_3 u0_5 u0_6 u0_8 u0_9 u0_12 u0_13 u1_1 u2_7 u2_8 u2_9 u2_13 u2_14 : Nat} {x1 : Int32} {z : Int32 × (Nat → Int32) × (Nat → Int32) × (Nat → Int32)} (hf : f_X11_plan T0 T2 V4 V5 V6 V7 V8 x1 = some z) (sz : Nat) : Met l yX11_plan (Cond.code yX11_plan cX11_plan 3 (some .int) :: gw) ({ frames := 3, cells := 0, slots := 0, locals := 72 }) (xPc E [.ref a0, .int x1] [(a0, o11 T0 J0_15 J0_16 u0_0 u0_1 u0_2 u0_3 a3 u0_5 u0_6 a1 u0_8 u0_9 a2 u0_12 u0_13), (a1, o2 a8 u1_1), (a2, o3 T2 u2_7 u2_8 u2_9 a7 a5 a6 u2_13 u2_14), (a3, o7 a4), (a4, ai E 144 V4), (a5, ai E 12 V5), (a6, ai E 12 V6), (a7, ai E 12 V7), (a8, ai E 32 V8)] sz) (xQi E z.1 [(a0, o11 T0 J0_15 J0_16 u0_0 u0_1 u0_2 u0_3 a3 u0_5 u0_6 a1 u0_8 u0_9 a2 u0_12 u0_13), (a1, o2 a8 u1_1), (a2, o3 T2 u2_7 u2_8 u2_9 a7 a5 a6 u2_13 u2_14), (a3, o7 a4), (a4, ai E 144 V4), (a5, ai E 12 V5), (a6, ai E 12 V6), (a7, ai E 12 V7), (a8, ai E 32 V8)] [(a0, o11 z.2.1 J0_15 J0_16 u0_0 u0_1 u0_2 u0_3 a3 u0_5 u0_6 a1 u0_8 u0_9 a2 u0_12 u0_13), (a1, o2 a8 u1_1), (a2, o3 T2 u2_7 u2_8 u2_9 a7 a5 a6 u2_13 u2_14), (a3, o7 a4), (a4, ai E 144 z.2.2.1), (a5, ai E 12 V5), (a6, ai E 12 V6), (a7, ai E 12 V7), (a8, ai E 32 z.2.2.2)] sz) 0 0 (va_A [(a0, o11 T0 J0_15 J0_16 u0_0 u0_1 u0_2 u0_3 a3 u0_5 u0_6 a1 u0_8 u0_9 a2 u0_12 u0_13), (a1, o2 a8 u1_1), (a2, o3 T2 u2_7 u2_8 u2_9 a7 a5 a6 u2_13 u2_14), (a3, o7 a4), (a4, ai E 144 V4), (a5, ai E 12 V5), (a6, ai E 12 V6), (a7, ai E 12 V7), (a8, ai E 32 V8)] sz) := by
  refine xM_i (by decide +kernel) (Nat.le_of_ble_eq_true rfl) ?_
  intro p e s m args below meth c A Q hx hb hml hown htg hK hG hA ret0 H locs ls hP hD hS hl
  have ret : ∀ (z' : Int32 × (Nat → Int32) × (Nat → Int32) × (Nat → Int32)) {H : Heap} {locs : List Loc} {pc : Nat} {ls : Array Slot}, some z' = some z → narrow .int (.int z'.1) = .int z'.1 → va_P E.1 vwCl [(a0, o11 z'.2.1 J0_15 J0_16 u0_0 u0_1 u0_2 u0_3 a3 u0_5 u0_6 a1 u0_8 u0_9 a2 u0_12 u0_13), (a1, o2 a8 u1_1), (a2, o3 T2 u2_7 u2_8 u2_9 a7 a5 a6 u2_13 u2_14), (a3, o7 a4), (a4, ai E 144 z'.2.2.1), (a5, ai E 12 V5), (a6, ai E 12 V6), (a7, ai E 12 V7), (a8, ai E 32 z'.2.2.2)] H → va_S A s.heap H locs → decode cX11_plan pc = .ok (.ireturn, 1) → W p l e ({ frames := 3, cells := 0, slots := 0, locals := 72 } : Room) s m args below meth c H locs 0 0 Q (F0 m pc ls [.int z'.1]) := by
    intro z' H locs pc ls h
    cases h
    exact ret0
  replace hl : lv_has ls 3 [(0, .ref a0), (1, .int x1)] := hl
  unfold f_X11_plan at hf
  refine lv_iload_n hx hb dX11_plan_0 rfl (lv_at hl 1 rfl) ?_
  refine lv_iconst (v := 0) hx hb dX11_plan_1 rfl ?_
  refine lv_bipush (v := 60) hx hb dX11_plan_2 rfl ?_
  obtain ⟨z4, hz4, hf⟩ := bind_s hf
  refine xS_ir hx hb hml hown htg L11_114 (c_X11_within l E hz4 _) ⟨⟨rfl, rfl⟩, Nat.le_of_ble_eq_true rfl, Nat.le_of_ble_eq_true rfl⟩ hK hG hA hP hD hS (is := []) rfl rfl rfl hl.1 rfl (Nat.le_of_ble_eq_true rfl) dX11_plan_4 (fun H locs hP hD hS => ?_)
  refine lv_if_ne (tgt := 16) hx hb dX11_plan_7 (by decide) (fun c7 => ?_) (fun c7 => ?_)
  · have hf := it_f c7 hf
    refine lv_aload_n hx hb dX11_plan_16 rfl (lv_at hl 0 rfl) ?_
    refine G11_61 hx hb htg hown hK hP 0 rfl dX11_plan_17 ?_
    refine lv_aload_n hx hb dX11_plan_20 rfl (lv_at hl 0 rfl) ?_
    refine G11_79 hx hb htg hown hK hP 0 rfl dX11_plan_21 ?_
    refine lv_aload_n hx hb dX11_plan_24 rfl (lv_at hl 0 rfl) ?_
    refine G11_40 hx hb htg hown hK hP 0 rfl dX11_plan_25 ?_
    obtain ⟨z28, hz28, hf⟩ := bind_s hf
    refine xV_vu hx hb hml hown htg L11_343 (c_X2_weigh l E a1 a2 a3 a4 a5 a6 a7 a8 hz28 _) ⟨⟨rfl, rfl⟩, Nat.le_of_ble_eq_true rfl, Nat.le_of_ble_eq_true rfl⟩ hK hG hA hP hD hS (is := [1, 2, 3, 4, 5, 6, 7, 8]) (sel := [none, some 0, some 1, some 2, some 3, some 4, some 5, some 6, some 7]) (ws2 := [(a0, o11 T0 J0_15 J0_16 u0_0 u0_1 u0_2 u0_3 a3 u0_5 u0_6 a1 u0_8 u0_9 a2 u0_12 u0_13), (a1, o2 a8 u1_1), (a2, o3 T2 u2_7 u2_8 u2_9 a7 a5 a6 u2_13 u2_14), (a3, o7 a4), (a4, ai E 144 z28.1), (a5, ai E 12 V5), (a6, ai E 12 V6), (a7, ai E 12 V7), (a8, ai E 32 z28.2)]) rfl rfl rfl rfl rfl (xrecv hK hP (q0 := 1) (ci := 2) rfl rfl) rfl hl.1 rfl (Nat.le_of_ble_eq_true rfl) dX11_plan_28 (fun H locs hP hD hS => ?_)
    refine lv_aload_n hx hb dX11_plan_31 rfl (lv_at hl 0 rfl) ?_
    refine G11_61 hx hb htg hown hK hP 0 rfl dX11_plan_32 ?_
    refine lv_aload_n hx hb dX11_plan_35 rfl (lv_at hl 0 rfl) ?_
    refine G11_79 hx hb htg hown hK hP 0 rfl dX11_plan_36 ?_
    refine lv_iload_n hx hb dX11_plan_39 rfl (lv_at hl 1 rfl) ?_
    obtain ⟨z40, hz40, hf⟩ := bind_s hf
    refine xV_ir hx hb hml hown htg L11_346 (c_X2_bestSet l E a1 a2 a7 a8 hz40 _) ⟨⟨rfl, rfl⟩, Nat.le_of_ble_eq_true rfl, Nat.le_of_ble_eq_true rfl⟩ hK hG hA hP hD hS (is := [1, 2, 7, 8]) rfl rfl (xrecv hK hP (q0 := 1) (ci := 2) rfl rfl) rfl hl.1 rfl (Nat.le_of_ble_eq_true rfl) dX11_plan_40 (fun H locs hP hD hS => ?_)
    refine lv_istore_n (lv' := [(2, .int z40), (0, .ref a0), (1, .int x1)]) hx hb dX11_plan_43 rfl hl (by decide) rfl (fun ls hl => ?_)
    refine lv_aload_n hx hb dX11_plan_44 rfl (lv_at hl 1 rfl) ?_
    refine lv_aload_n hx hb dX11_plan_45 rfl (lv_at hl 1 rfl) ?_
    refine G11_79 hx hb htg hown hK hP 0 rfl dX11_plan_46 ?_
    obtain ⟨z49, hz49, hf⟩ := bind_s hf
    refine xV_ir hx hb hml hown htg L11_176 (c_X3_cellCount l E a2 hz49 _) ⟨⟨rfl, rfl⟩, Nat.le_of_ble_eq_true rfl, Nat.le_of_ble_eq_true rfl⟩ hK hG hA hP hD hS (is := [2]) rfl rfl (xrecv hK hP (q0 := 2) (ci := 3) rfl rfl) rfl hl.1 rfl (Nat.le_of_ble_eq_true rfl) dX11_plan_49 (fun H locs hP hD hS => ?_)
    refine lv_aload_n hx hb dX11_plan_52 rfl (lv_at hl 1 rfl) ?_
    refine G11_61 hx hb htg hown hK hP 0 rfl dX11_plan_53 ?_
    refine lv_aload_n hx hb dX11_plan_56 rfl (lv_at hl 1 rfl) ?_
    refine G11_79 hx hb htg hown hK hP 0 rfl dX11_plan_57 ?_
    refine G11_214 hx hb htg hown hK hP 2 rfl dX11_plan_60 ?_
    refine lv_iload_n hx hb dX11_plan_63 rfl (lv_at hl 0 rfl) ?_
    refine lv_ior hx hb dX11_plan_64 ?_
    obtain ⟨z65, hz65, hf⟩ := bind_s hf
    refine xV_ir hx hb hml hown htg L11_350 (c_X2_knownBy l E a1 a8 hz65 _) ⟨⟨rfl, rfl⟩, Nat.le_of_ble_eq_true rfl, Nat.le_of_ble_eq_true rfl⟩ hK hG hA hP hD hS (is := [1, 8]) rfl rfl (xrecv hK hP (q0 := 1) (ci := 2) rfl rfl) rfl hl.1 rfl (Nat.le_of_ble_eq_true rfl) dX11_plan_65 (fun H locs hP hD hS => ?_)
    refine lv_isub hx hb dX11_plan_68 ?_
    obtain ⟨z69, hz69, hf⟩ := bind_s hf
    refine xV_iu hx hb hml hown htg L11_179 (c_X11_answer l E a0 hz69 _) ⟨⟨rfl, rfl⟩, Nat.le_of_ble_eq_true rfl, Nat.le_of_ble_eq_true rfl⟩ hK hG hA hP hD hS (is := [0]) (sel := [some 0, none, none, none, none, none, none, none, none]) (ws2 := [(a0, o11 z69.2 J0_15 J0_16 u0_0 u0_1 u0_2 u0_3 a3 u0_5 u0_6 a1 u0_8 u0_9 a2 u0_12 u0_13), (a1, o2 a8 u1_1), (a2, o3 T2 u2_7 u2_8 u2_9 a7 a5 a6 u2_13 u2_14), (a3, o7 a4), (a4, ai E 144 z28.1), (a5, ai E 12 V5), (a6, ai E 12 V6), (a7, ai E 12 V7), (a8, ai E 32 z28.2)]) rfl rfl rfl rfl rfl (xrecv hK hP (q0 := 0) (ci := 11) rfl rfl) rfl hl.1 rfl (Nat.le_of_ble_eq_true rfl) dX11_plan_69 (fun H locs hP hD hS => ?_)
    exact ret (z69.1, z69.2, z28.1, z28.2) hf nzi hP hS dX11_plan_72
  · have hf := it_t c7 hf
    refine lv_aload_n hx hb dX11_plan_10 rfl (lv_at hl 0 rfl) ?_
    refine lv_iconst (v := 5) hx hb dX11_plan_11 rfl ?_
    obtain ⟨z12, hz12, hf⟩ := bind_s hf
    refine xV_iu hx hb hml hown htg L11_137 (c_X11_refused l E a0 hz12 _) ⟨⟨rfl, rfl⟩, Nat.le_of_ble_eq_true rfl, Nat.le_of_ble_eq_true rfl⟩ hK hG hA hP hD hS (is := [0]) (sel := [some 0, none, none, none, none, none, none, none, none]) (ws2 := [(a0, o11 z12.2 J0_15 J0_16 u0_0 u0_1 u0_2 u0_3 a3 u0_5 u0_6 a1 u0_8 u0_9 a2 u0_12 u0_13), (a1, o2 a8 u1_1), (a2, o3 T2 u2_7 u2_8 u2_9 a7 a5 a6 u2_13 u2_14), (a3, o7 a4), (a4, ai E 144 V4), (a5, ai E 12 V5), (a6, ai E 12 V6), (a7, ai E 12 V7), (a8, ai E 32 V8)]) rfl rfl rfl rfl rfl (xrecv hK hP (q0 := 0) (ci := 11) rfl rfl) rfl hl.1 rfl (Nat.le_of_ble_eq_true rfl) dX11_plan_12 (fun H locs hP hD hS => ?_)
    exact ret (z12.1, z12.2, V4, V8) hf nzi hP hS dX11_plan_15
theorem dX11_planSet_0 : decode cX11_planSet 0 = .ok (.iload_n 1, 1) := by decide +kernel
theorem dX11_planSet_1 : decode cX11_planSet 1 = .ok (.iconst 0, 1) := by decide +kernel
theorem dX11_planSet_2 : decode cX11_planSet 2 = .ok (.bipush 60, 2) := by decide +kernel
theorem dX11_planSet_4 : decode cX11_planSet 4 = .ok (.invokestatic 114, 3) := by decide +kernel
theorem dX11_planSet_7 : decode cX11_planSet 7 = .ok (.ifCond .ne 9, 3) := by decide +kernel
theorem dX11_planSet_10 : decode cX11_planSet 10 = .ok (.aload_n 0, 1) := by decide +kernel
theorem dX11_planSet_11 : decode cX11_planSet 11 = .ok (.iconst 5, 1) := by decide +kernel
theorem dX11_planSet_12 : decode cX11_planSet 12 = .ok (.invokevirtual 137, 3) := by decide +kernel
theorem dX11_planSet_15 : decode cX11_planSet 15 = .ok (.ireturn, 1) := by decide +kernel
theorem dX11_planSet_16 : decode cX11_planSet 16 = .ok (.aload_n 0, 1) := by decide +kernel
theorem dX11_planSet_17 : decode cX11_planSet 17 = .ok (.getfield 61, 3) := by decide +kernel
theorem dX11_planSet_20 : decode cX11_planSet 20 = .ok (.aload_n 0, 1) := by decide +kernel
theorem dX11_planSet_21 : decode cX11_planSet 21 = .ok (.getfield 79, 3) := by decide +kernel
theorem dX11_planSet_24 : decode cX11_planSet 24 = .ok (.aload_n 0, 1) := by decide +kernel
theorem dX11_planSet_25 : decode cX11_planSet 25 = .ok (.getfield 40, 3) := by decide +kernel
theorem dX11_planSet_28 : decode cX11_planSet 28 = .ok (.invokevirtual 343, 3) := by decide +kernel
theorem dX11_planSet_31 : decode cX11_planSet 31 = .ok (.aload_n 0, 1) := by decide +kernel
theorem dX11_planSet_32 : decode cX11_planSet 32 = .ok (.aload_n 0, 1) := by decide +kernel
theorem dX11_planSet_33 : decode cX11_planSet 33 = .ok (.getfield 61, 3) := by decide +kernel
theorem dX11_planSet_36 : decode cX11_planSet 36 = .ok (.aload_n 0, 1) := by decide +kernel
theorem dX11_planSet_37 : decode cX11_planSet 37 = .ok (.getfield 79, 3) := by decide +kernel
theorem dX11_planSet_40 : decode cX11_planSet 40 = .ok (.iload_n 1, 1) := by decide +kernel
theorem dX11_planSet_41 : decode cX11_planSet 41 = .ok (.invokevirtual 346, 3) := by decide +kernel
theorem dX11_planSet_44 : decode cX11_planSet 44 = .ok (.invokevirtual 179, 3) := by decide +kernel
theorem dX11_planSet_47 : decode cX11_planSet 47 = .ok (.ireturn, 1) := by decide +kernel
set_option maxRecDepth 100000 in
theorem c_X11_planSet (l : Launch) (E : xE) (a0 a1 a2 a3 a4 a5 a6 a7 a8 : Nat) {T0 : Nat → Int32} {J0_15 : Int64} {J0_16 : Int64} {T2 : Nat → Int32} {V4 : Nat → Int32} {V5 : Nat → Int32} {V6 : Nat → Int32} {V7 : Nat → Int32} {V8 : Nat → Int32} {u0_0 u0_1 u0_2 u0_3 u0_5 u0_6 u0_8 u0_9 u0_12 u0_13 u1_1 u2_7 u2_8 u2_9 u2_13 u2_14 : Nat} {x1 : Int32} {z : Int32 × (Nat → Int32) × (Nat → Int32) × (Nat → Int32)} (hf : f_X11_planSet T0 T2 V4 V5 V6 V7 V8 x1 = some z) (sz : Nat) : Met l yX11_planSet (Cond.code yX11_planSet cX11_planSet 2 (some .int) :: gw) ({ frames := 3, cells := 0, slots := 0, locals := 72 }) (xPc E [.ref a0, .int x1] [(a0, o11 T0 J0_15 J0_16 u0_0 u0_1 u0_2 u0_3 a3 u0_5 u0_6 a1 u0_8 u0_9 a2 u0_12 u0_13), (a1, o2 a8 u1_1), (a2, o3 T2 u2_7 u2_8 u2_9 a7 a5 a6 u2_13 u2_14), (a3, o7 a4), (a4, ai E 144 V4), (a5, ai E 12 V5), (a6, ai E 12 V6), (a7, ai E 12 V7), (a8, ai E 32 V8)] sz) (xQi E z.1 [(a0, o11 T0 J0_15 J0_16 u0_0 u0_1 u0_2 u0_3 a3 u0_5 u0_6 a1 u0_8 u0_9 a2 u0_12 u0_13), (a1, o2 a8 u1_1), (a2, o3 T2 u2_7 u2_8 u2_9 a7 a5 a6 u2_13 u2_14), (a3, o7 a4), (a4, ai E 144 V4), (a5, ai E 12 V5), (a6, ai E 12 V6), (a7, ai E 12 V7), (a8, ai E 32 V8)] [(a0, o11 z.2.1 J0_15 J0_16 u0_0 u0_1 u0_2 u0_3 a3 u0_5 u0_6 a1 u0_8 u0_9 a2 u0_12 u0_13), (a1, o2 a8 u1_1), (a2, o3 T2 u2_7 u2_8 u2_9 a7 a5 a6 u2_13 u2_14), (a3, o7 a4), (a4, ai E 144 z.2.2.1), (a5, ai E 12 V5), (a6, ai E 12 V6), (a7, ai E 12 V7), (a8, ai E 32 z.2.2.2)] sz) 0 0 (va_A [(a0, o11 T0 J0_15 J0_16 u0_0 u0_1 u0_2 u0_3 a3 u0_5 u0_6 a1 u0_8 u0_9 a2 u0_12 u0_13), (a1, o2 a8 u1_1), (a2, o3 T2 u2_7 u2_8 u2_9 a7 a5 a6 u2_13 u2_14), (a3, o7 a4), (a4, ai E 144 V4), (a5, ai E 12 V5), (a6, ai E 12 V6), (a7, ai E 12 V7), (a8, ai E 32 V8)] sz) := by
  refine xM_i (by decide +kernel) (Nat.le_of_ble_eq_true rfl) ?_
  intro p e s m args below meth c A Q hx hb hml hown htg hK hG hA ret0 H locs ls hP hD hS hl
  have ret : ∀ (z' : Int32 × (Nat → Int32) × (Nat → Int32) × (Nat → Int32)) {H : Heap} {locs : List Loc} {pc : Nat} {ls : Array Slot}, some z' = some z → narrow .int (.int z'.1) = .int z'.1 → va_P E.1 vwCl [(a0, o11 z'.2.1 J0_15 J0_16 u0_0 u0_1 u0_2 u0_3 a3 u0_5 u0_6 a1 u0_8 u0_9 a2 u0_12 u0_13), (a1, o2 a8 u1_1), (a2, o3 T2 u2_7 u2_8 u2_9 a7 a5 a6 u2_13 u2_14), (a3, o7 a4), (a4, ai E 144 z'.2.2.1), (a5, ai E 12 V5), (a6, ai E 12 V6), (a7, ai E 12 V7), (a8, ai E 32 z'.2.2.2)] H → va_S A s.heap H locs → decode cX11_planSet pc = .ok (.ireturn, 1) → W p l e ({ frames := 3, cells := 0, slots := 0, locals := 72 } : Room) s m args below meth c H locs 0 0 Q (F0 m pc ls [.int z'.1]) := by
    intro z' H locs pc ls h
    cases h
    exact ret0
  replace hl : lv_has ls 2 [(0, .ref a0), (1, .int x1)] := hl
  unfold f_X11_planSet at hf
  refine lv_iload_n hx hb dX11_planSet_0 rfl (lv_at hl 1 rfl) ?_
  refine lv_iconst (v := 0) hx hb dX11_planSet_1 rfl ?_
  refine lv_bipush (v := 60) hx hb dX11_planSet_2 rfl ?_
  obtain ⟨z4, hz4, hf⟩ := bind_s hf
  refine xS_ir hx hb hml hown htg L11_114 (c_X11_within l E hz4 _) ⟨⟨rfl, rfl⟩, Nat.le_of_ble_eq_true rfl, Nat.le_of_ble_eq_true rfl⟩ hK hG hA hP hD hS (is := []) rfl rfl rfl hl.1 rfl (Nat.le_of_ble_eq_true rfl) dX11_planSet_4 (fun H locs hP hD hS => ?_)
  refine lv_if_ne (tgt := 16) hx hb dX11_planSet_7 (by decide) (fun c7 => ?_) (fun c7 => ?_)
  · have hf := it_f c7 hf
    refine lv_aload_n hx hb dX11_planSet_16 rfl (lv_at hl 0 rfl) ?_
    refine G11_61 hx hb htg hown hK hP 0 rfl dX11_planSet_17 ?_
    refine lv_aload_n hx hb dX11_planSet_20 rfl (lv_at hl 0 rfl) ?_
    refine G11_79 hx hb htg hown hK hP 0 rfl dX11_planSet_21 ?_
    refine lv_aload_n hx hb dX11_planSet_24 rfl (lv_at hl 0 rfl) ?_
    refine G11_40 hx hb htg hown hK hP 0 rfl dX11_planSet_25 ?_
    obtain ⟨z28, hz28, hf⟩ := bind_s hf
    refine xV_vu hx hb hml hown htg L11_343 (c_X2_weigh l E a1 a2 a3 a4 a5 a6 a7 a8 hz28 _) ⟨⟨rfl, rfl⟩, Nat.le_of_ble_eq_true rfl, Nat.le_of_ble_eq_true rfl⟩ hK hG hA hP hD hS (is := [1, 2, 3, 4, 5, 6, 7, 8]) (sel := [none, some 0, some 1, some 2, some 3, some 4, some 5, some 6, some 7]) (ws2 := [(a0, o11 T0 J0_15 J0_16 u0_0 u0_1 u0_2 u0_3 a3 u0_5 u0_6 a1 u0_8 u0_9 a2 u0_12 u0_13), (a1, o2 a8 u1_1), (a2, o3 T2 u2_7 u2_8 u2_9 a7 a5 a6 u2_13 u2_14), (a3, o7 a4), (a4, ai E 144 z28.1), (a5, ai E 12 V5), (a6, ai E 12 V6), (a7, ai E 12 V7), (a8, ai E 32 z28.2)]) rfl rfl rfl rfl rfl (xrecv hK hP (q0 := 1) (ci := 2) rfl rfl) rfl hl.1 rfl (Nat.le_of_ble_eq_true rfl) dX11_planSet_28 (fun H locs hP hD hS => ?_)
    refine lv_aload_n hx hb dX11_planSet_31 rfl (lv_at hl 0 rfl) ?_
    refine lv_aload_n hx hb dX11_planSet_32 rfl (lv_at hl 0 rfl) ?_
    refine G11_61 hx hb htg hown hK hP 0 rfl dX11_planSet_33 ?_
    refine lv_aload_n hx hb dX11_planSet_36 rfl (lv_at hl 0 rfl) ?_
    refine G11_79 hx hb htg hown hK hP 0 rfl dX11_planSet_37 ?_
    refine lv_iload_n hx hb dX11_planSet_40 rfl (lv_at hl 1 rfl) ?_
    obtain ⟨z41, hz41, hf⟩ := bind_s hf
    refine xV_ir hx hb hml hown htg L11_346 (c_X2_bestSet l E a1 a2 a7 a8 hz41 _) ⟨⟨rfl, rfl⟩, Nat.le_of_ble_eq_true rfl, Nat.le_of_ble_eq_true rfl⟩ hK hG hA hP hD hS (is := [1, 2, 7, 8]) rfl rfl (xrecv hK hP (q0 := 1) (ci := 2) rfl rfl) rfl hl.1 rfl (Nat.le_of_ble_eq_true rfl) dX11_planSet_41 (fun H locs hP hD hS => ?_)
    obtain ⟨z44, hz44, hf⟩ := bind_s hf
    refine xV_iu hx hb hml hown htg L11_179 (c_X11_answer l E a0 hz44 _) ⟨⟨rfl, rfl⟩, Nat.le_of_ble_eq_true rfl, Nat.le_of_ble_eq_true rfl⟩ hK hG hA hP hD hS (is := [0]) (sel := [some 0, none, none, none, none, none, none, none, none]) (ws2 := [(a0, o11 z44.2 J0_15 J0_16 u0_0 u0_1 u0_2 u0_3 a3 u0_5 u0_6 a1 u0_8 u0_9 a2 u0_12 u0_13), (a1, o2 a8 u1_1), (a2, o3 T2 u2_7 u2_8 u2_9 a7 a5 a6 u2_13 u2_14), (a3, o7 a4), (a4, ai E 144 z28.1), (a5, ai E 12 V5), (a6, ai E 12 V6), (a7, ai E 12 V7), (a8, ai E 32 z28.2)]) rfl rfl rfl rfl rfl (xrecv hK hP (q0 := 0) (ci := 11) rfl rfl) rfl hl.1 rfl (Nat.le_of_ble_eq_true rfl) dX11_planSet_44 (fun H locs hP hD hS => ?_)
    exact ret (z44.1, z44.2, z28.1, z28.2) hf nzi hP hS dX11_planSet_47
  · have hf := it_t c7 hf
    refine lv_aload_n hx hb dX11_planSet_10 rfl (lv_at hl 0 rfl) ?_
    refine lv_iconst (v := 5) hx hb dX11_planSet_11 rfl ?_
    obtain ⟨z12, hz12, hf⟩ := bind_s hf
    refine xV_iu hx hb hml hown htg L11_137 (c_X11_refused l E a0 hz12 _) ⟨⟨rfl, rfl⟩, Nat.le_of_ble_eq_true rfl, Nat.le_of_ble_eq_true rfl⟩ hK hG hA hP hD hS (is := [0]) (sel := [some 0, none, none, none, none, none, none, none, none]) (ws2 := [(a0, o11 z12.2 J0_15 J0_16 u0_0 u0_1 u0_2 u0_3 a3 u0_5 u0_6 a1 u0_8 u0_9 a2 u0_12 u0_13), (a1, o2 a8 u1_1), (a2, o3 T2 u2_7 u2_8 u2_9 a7 a5 a6 u2_13 u2_14), (a3, o7 a4), (a4, ai E 144 V4), (a5, ai E 12 V5), (a6, ai E 12 V6), (a7, ai E 12 V7), (a8, ai E 32 V8)]) rfl rfl rfl rfl rfl (xrecv hK hP (q0 := 0) (ci := 11) rfl rfl) rfl hl.1 rfl (Nat.le_of_ble_eq_true rfl) dX11_planSet_12 (fun H locs hP hD hS => ?_)
    exact ret (z12.1, z12.2, V4, V8) hf nzi hP hS dX11_planSet_15
theorem dX11_game_0 : decode cX11_game 0 = .ok (.iload_n 1, 1) := by decide +kernel
theorem dX11_game_1 : decode cX11_game 1 = .ok (.iconst 0, 1) := by decide +kernel
theorem dX11_game_2 : decode cX11_game 2 = .ok (.iconst 4, 1) := by decide +kernel
theorem dX11_game_3 : decode cX11_game 3 = .ok (.invokestatic 114, 3) := by decide +kernel
theorem dX11_game_6 : decode cX11_game 6 = .ok (.ifCond .ne 9, 3) := by decide +kernel
theorem dX11_game_9 : decode cX11_game 9 = .ok (.aload_n 0, 1) := by decide +kernel
theorem dX11_game_10 : decode cX11_game 10 = .ok (.iconst 5, 1) := by decide +kernel
theorem dX11_game_11 : decode cX11_game 11 = .ok (.invokevirtual 137, 3) := by decide +kernel
theorem dX11_game_14 : decode cX11_game 14 = .ok (.ireturn, 1) := by decide +kernel
theorem dX11_game_15 : decode cX11_game 15 = .ok (.aload_n 0, 1) := by decide +kernel
theorem dX11_game_16 : decode cX11_game 16 = .ok (.getfield 61, 3) := by decide +kernel
theorem dX11_game_19 : decode cX11_game 19 = .ok (.aload_n 0, 1) := by decide +kernel
theorem dX11_game_20 : decode cX11_game 20 = .ok (.getfield 79, 3) := by decide +kernel
theorem dX11_game_23 : decode cX11_game 23 = .ok (.aload_n 0, 1) := by decide +kernel
theorem dX11_game_24 : decode cX11_game 24 = .ok (.getfield 40, 3) := by decide +kernel
theorem dX11_game_27 : decode cX11_game 27 = .ok (.invokevirtual 343, 3) := by decide +kernel
theorem dX11_game_30 : decode cX11_game 30 = .ok (.aload_n 0, 1) := by decide +kernel
theorem dX11_game_31 : decode cX11_game 31 = .ok (.getfield 61, 3) := by decide +kernel
theorem dX11_game_34 : decode cX11_game 34 = .ok (.aload_n 0, 1) := by decide +kernel
theorem dX11_game_35 : decode cX11_game 35 = .ok (.getfield 79, 3) := by decide +kernel
theorem dX11_game_38 : decode cX11_game 38 = .ok (.iload_n 1, 1) := by decide +kernel
theorem dX11_game_39 : decode cX11_game 39 = .ok (.invokevirtual 353, 3) := by decide +kernel
theorem dX11_game_42 : decode cX11_game 42 = .ok (.aload_n 0, 1) := by decide +kernel
theorem dX11_game_43 : decode cX11_game 43 = .ok (.aload_n 0, 1) := by decide +kernel
theorem dX11_game_44 : decode cX11_game 44 = .ok (.getfield 61, 3) := by decide +kernel
theorem dX11_game_47 : decode cX11_game 47 = .ok (.aload_n 0, 1) := by decide +kernel
theorem dX11_game_48 : decode cX11_game 48 = .ok (.getfield 79, 3) := by decide +kernel
theorem dX11_game_51 : decode cX11_game 51 = .ok (.getfield 214, 3) := by decide +kernel
theorem dX11_game_54 : decode cX11_game 54 = .ok (.invokevirtual 356, 3) := by decide +kernel
theorem dX11_game_57 : decode cX11_game 57 = .ok (.invokevirtual 179, 3) := by decide +kernel
theorem dX11_game_60 : decode cX11_game 60 = .ok (.ireturn, 1) := by decide +kernel
set_option maxRecDepth 100000 in
theorem c_X11_game (l : Launch) (E : xE) (a0 a1 a2 a3 a4 a5 a6 a7 a8 a9 : Nat) {T0 : Nat → Int32} {J0_15 : Int64} {J0_16 : Int64} {T2 : Nat → Int32} {V4 : Nat → Int32} {V5 : Nat → Int32} {V6 : Nat → Int32} {V7 : Nat → Int32} {V8 : Nat → Int32} {V9 : Nat → Int32} {u0_0 u0_1 u0_2 u0_3 u0_5 u0_6 u0_8 u0_9 u0_12 u0_13 u2_7 u2_8 u2_9 u2_13 u2_14 : Nat} {x1 : Int32} {z : Int32 × (Nat → Int32) × (Nat → Int32) × (Nat → Int32) × (Nat → Int32)} (hf : f_X11_game T0 T2 V4 V5 V6 V7 V8 V9 x1 = some z) (sz : Nat) : Met l yX11_game (Cond.code yX11_game cX11_game 2 (some .int) :: gw) ({ frames := 5, cells := 0, slots := 0, locals := 114 }) (xPc E [.ref a0, .int x1] [(a0, o11 T0 J0_15 J0_16 u0_0 u0_1 u0_2 u0_3 a3 u0_5 u0_6 a1 u0_8 u0_9 a2 u0_12 u0_13), (a1, o2 a8 a9), (a2, o3 T2 u2_7 u2_8 u2_9 a7 a5 a6 u2_13 u2_14), (a3, o7 a4), (a4, ai E 144 V4), (a5, ai E 12 V5), (a6, ai E 12 V6), (a7, ai E 12 V7), (a8, ai E 32 V8), (a9, ai E 32 V9)] sz) (xQi E z.1 [(a0, o11 T0 J0_15 J0_16 u0_0 u0_1 u0_2 u0_3 a3 u0_5 u0_6 a1 u0_8 u0_9 a2 u0_12 u0_13), (a1, o2 a8 a9), (a2, o3 T2 u2_7 u2_8 u2_9 a7 a5 a6 u2_13 u2_14), (a3, o7 a4), (a4, ai E 144 V4), (a5, ai E 12 V5), (a6, ai E 12 V6), (a7, ai E 12 V7), (a8, ai E 32 V8), (a9, ai E 32 V9)] [(a0, o11 z.2.1 J0_15 J0_16 u0_0 u0_1 u0_2 u0_3 a3 u0_5 u0_6 a1 u0_8 u0_9 a2 u0_12 u0_13), (a1, o2 a8 a9), (a2, o3 T2 u2_7 u2_8 u2_9 a7 a5 a6 u2_13 u2_14), (a3, o7 a4), (a4, ai E 144 z.2.2.1), (a5, ai E 12 V5), (a6, ai E 12 V6), (a7, ai E 12 V7), (a8, ai E 32 z.2.2.2.1), (a9, ai E 32 z.2.2.2.2)] sz) 0 0 (va_A [(a0, o11 T0 J0_15 J0_16 u0_0 u0_1 u0_2 u0_3 a3 u0_5 u0_6 a1 u0_8 u0_9 a2 u0_12 u0_13), (a1, o2 a8 a9), (a2, o3 T2 u2_7 u2_8 u2_9 a7 a5 a6 u2_13 u2_14), (a3, o7 a4), (a4, ai E 144 V4), (a5, ai E 12 V5), (a6, ai E 12 V6), (a7, ai E 12 V7), (a8, ai E 32 V8), (a9, ai E 32 V9)] sz) := by
  refine xM_i (by decide +kernel) (Nat.le_of_ble_eq_true rfl) ?_
  intro p e s m args below meth c A Q hx hb hml hown htg hK hG hA ret0 H locs ls hP hD hS hl
  have ret : ∀ (z' : Int32 × (Nat → Int32) × (Nat → Int32) × (Nat → Int32) × (Nat → Int32)) {H : Heap} {locs : List Loc} {pc : Nat} {ls : Array Slot}, some z' = some z → narrow .int (.int z'.1) = .int z'.1 → va_P E.1 vwCl [(a0, o11 z'.2.1 J0_15 J0_16 u0_0 u0_1 u0_2 u0_3 a3 u0_5 u0_6 a1 u0_8 u0_9 a2 u0_12 u0_13), (a1, o2 a8 a9), (a2, o3 T2 u2_7 u2_8 u2_9 a7 a5 a6 u2_13 u2_14), (a3, o7 a4), (a4, ai E 144 z'.2.2.1), (a5, ai E 12 V5), (a6, ai E 12 V6), (a7, ai E 12 V7), (a8, ai E 32 z'.2.2.2.1), (a9, ai E 32 z'.2.2.2.2)] H → va_S A s.heap H locs → decode cX11_game pc = .ok (.ireturn, 1) → W p l e ({ frames := 5, cells := 0, slots := 0, locals := 114 } : Room) s m args below meth c H locs 0 0 Q (F0 m pc ls [.int z'.1]) := by
    intro z' H locs pc ls h
    cases h
    exact ret0
  replace hl : lv_has ls 2 [(0, .ref a0), (1, .int x1)] := hl
  unfold f_X11_game at hf
  refine lv_iload_n hx hb dX11_game_0 rfl (lv_at hl 1 rfl) ?_
  refine lv_iconst (v := 0) hx hb dX11_game_1 rfl ?_
  refine lv_iconst (v := 4) hx hb dX11_game_2 rfl ?_
  obtain ⟨z3, hz3, hf⟩ := bind_s hf
  refine xS_ir hx hb hml hown htg L11_114 (c_X11_within l E hz3 _) ⟨⟨rfl, rfl⟩, Nat.le_of_ble_eq_true rfl, Nat.le_of_ble_eq_true rfl⟩ hK hG hA hP hD hS (is := []) rfl rfl rfl hl.1 rfl (Nat.le_of_ble_eq_true rfl) dX11_game_3 (fun H locs hP hD hS => ?_)
  refine lv_if_ne (tgt := 15) hx hb dX11_game_6 (by decide) (fun c6 => ?_) (fun c6 => ?_)
  · have hf := it_f c6 hf
    refine lv_aload_n hx hb dX11_game_15 rfl (lv_at hl 0 rfl) ?_
    refine G11_61 hx hb htg hown hK hP 0 rfl dX11_game_16 ?_
    refine lv_aload_n hx hb dX11_game_19 rfl (lv_at hl 0 rfl) ?_
    refine G11_79 hx hb htg hown hK hP 0 rfl dX11_game_20 ?_
    refine lv_aload_n hx hb dX11_game_23 rfl (lv_at hl 0 rfl) ?_
    refine G11_40 hx hb htg hown hK hP 0 rfl dX11_game_24 ?_
    obtain ⟨z27, hz27, hf⟩ := bind_s hf
    refine xV_vu hx hb hml hown htg L11_343 (c_X2_weigh l E a1 a2 a3 a4 a5 a6 a7 a8 hz27 _) ⟨⟨rfl, rfl⟩, Nat.le_of_ble_eq_true rfl, Nat.le_of_ble_eq_true rfl⟩ hK hG hA hP hD hS (is := [1, 2, 3, 4, 5, 6, 7, 8]) (sel := [none, some 0, some 1, some 2, some 3, some 4, some 5, some 6, some 7, none]) (ws2 := [(a0, o11 T0 J0_15 J0_16 u0_0 u0_1 u0_2 u0_3 a3 u0_5 u0_6 a1 u0_8 u0_9 a2 u0_12 u0_13), (a1, o2 a8 a9), (a2, o3 T2 u2_7 u2_8 u2_9 a7 a5 a6 u2_13 u2_14), (a3, o7 a4), (a4, ai E 144 z27.1), (a5, ai E 12 V5), (a6, ai E 12 V6), (a7, ai E 12 V7), (a8, ai E 32 z27.2), (a9, ai E 32 V9)]) rfl rfl rfl rfl rfl (xrecv hK hP (q0 := 1) (ci := 2) rfl rfl) rfl hl.1 rfl (Nat.le_of_ble_eq_true rfl) dX11_game_27 (fun H locs hP hD hS => ?_)
    refine lv_aload_n hx hb dX11_game_30 rfl (lv_at hl 0 rfl) ?_
    refine G11_61 hx hb htg hown hK hP 0 rfl dX11_game_31 ?_
    refine lv_aload_n hx hb dX11_game_34 rfl (lv_at hl 0 rfl) ?_
    refine G11_79 hx hb htg hown hK hP 0 rfl dX11_game_35 ?_
    refine lv_iload_n hx hb dX11_game_38 rfl (lv_at hl 1 rfl) ?_
    obtain ⟨z39, hz39, hf⟩ := bind_s hf
    refine xV_vu hx hb hml hown htg L11_353 (c_X2_play l E a1 a2 a9 a8 hz39 _) ⟨⟨rfl, rfl⟩, Nat.le_of_ble_eq_true rfl, Nat.le_of_ble_eq_true rfl⟩ hK hG hA hP hD hS (is := [1, 2, 9, 8]) (sel := [none, some 0, some 1, none, none, none, none, none, some 3, some 2]) (ws2 := [(a0, o11 T0 J0_15 J0_16 u0_0 u0_1 u0_2 u0_3 a3 u0_5 u0_6 a1 u0_8 u0_9 a2 u0_12 u0_13), (a1, o2 a8 a9), (a2, o3 T2 u2_7 u2_8 u2_9 a7 a5 a6 u2_13 u2_14), (a3, o7 a4), (a4, ai E 144 z27.1), (a5, ai E 12 V5), (a6, ai E 12 V6), (a7, ai E 12 V7), (a8, ai E 32 z27.2), (a9, ai E 32 z39)]) rfl rfl rfl rfl rfl (xrecv hK hP (q0 := 1) (ci := 2) rfl rfl) rfl hl.1 rfl (Nat.le_of_ble_eq_true rfl) dX11_game_39 (fun H locs hP hD hS => ?_)
    refine lv_aload_n hx hb dX11_game_42 rfl (lv_at hl 0 rfl) ?_
    refine lv_aload_n hx hb dX11_game_43 rfl (lv_at hl 0 rfl) ?_
    refine G11_61 hx hb htg hown hK hP 0 rfl dX11_game_44 ?_
    refine lv_aload_n hx hb dX11_game_47 rfl (lv_at hl 0 rfl) ?_
    refine G11_79 hx hb htg hown hK hP 0 rfl dX11_game_48 ?_
    refine G11_214 hx hb htg hown hK hP 2 rfl dX11_game_51 ?_
    obtain ⟨z54, hz54, hf⟩ := bind_s hf
    refine xV_ir hx hb hml hown htg L11_356 (c_X2_creditFrom l E a1 a9 hz54 _) ⟨⟨rfl, rfl⟩, Nat.le_of_ble_eq_true rfl, Nat.le_of_ble_eq_true rfl⟩ hK hG hA hP hD hS (is := [1, 9]) rfl rfl (xrecv hK hP (q0 := 1) (ci := 2) rfl rfl) rfl hl.1 rfl (Nat.le_of_ble_eq_true rfl) dX11_game_54 (fun H locs hP hD hS => ?_)
    obtain ⟨z57, hz57, hf⟩ := bind_s hf
    refine xV_iu hx hb hml hown htg L11_179 (c_X11_answer l E a0 hz57 _) ⟨⟨rfl, rfl⟩, Nat.le_of_ble_eq_true rfl, Nat.le_of_ble_eq_true rfl⟩ hK hG hA hP hD hS (is := [0]) (sel := [some 0, none, none, none, none, none, none, none, none, none]) (ws2 := [(a0, o11 z57.2 J0_15 J0_16 u0_0 u0_1 u0_2 u0_3 a3 u0_5 u0_6 a1 u0_8 u0_9 a2 u0_12 u0_13), (a1, o2 a8 a9), (a2, o3 T2 u2_7 u2_8 u2_9 a7 a5 a6 u2_13 u2_14), (a3, o7 a4), (a4, ai E 144 z27.1), (a5, ai E 12 V5), (a6, ai E 12 V6), (a7, ai E 12 V7), (a8, ai E 32 z27.2), (a9, ai E 32 z39)]) rfl rfl rfl rfl rfl (xrecv hK hP (q0 := 0) (ci := 11) rfl rfl) rfl hl.1 rfl (Nat.le_of_ble_eq_true rfl) dX11_game_57 (fun H locs hP hD hS => ?_)
    exact ret (z57.1, z57.2, z27.1, z27.2, z39) hf nzi hP hS dX11_game_60
  · have hf := it_t c6 hf
    refine lv_aload_n hx hb dX11_game_9 rfl (lv_at hl 0 rfl) ?_
    refine lv_iconst (v := 5) hx hb dX11_game_10 rfl ?_
    obtain ⟨z11, hz11, hf⟩ := bind_s hf
    refine xV_iu hx hb hml hown htg L11_137 (c_X11_refused l E a0 hz11 _) ⟨⟨rfl, rfl⟩, Nat.le_of_ble_eq_true rfl, Nat.le_of_ble_eq_true rfl⟩ hK hG hA hP hD hS (is := [0]) (sel := [some 0, none, none, none, none, none, none, none, none, none]) (ws2 := [(a0, o11 z11.2 J0_15 J0_16 u0_0 u0_1 u0_2 u0_3 a3 u0_5 u0_6 a1 u0_8 u0_9 a2 u0_12 u0_13), (a1, o2 a8 a9), (a2, o3 T2 u2_7 u2_8 u2_9 a7 a5 a6 u2_13 u2_14), (a3, o7 a4), (a4, ai E 144 V4), (a5, ai E 12 V5), (a6, ai E 12 V6), (a7, ai E 12 V7), (a8, ai E 32 V8), (a9, ai E 32 V9)]) rfl rfl rfl rfl rfl (xrecv hK hP (q0 := 0) (ci := 11) rfl rfl) rfl hl.1 rfl (Nat.le_of_ble_eq_true rfl) dX11_game_11 (fun H locs hP hD hS => ?_)
    exact ret (z11.1, z11.2, V4, V8, V9) hf nzi hP hS dX11_game_14
theorem dX11_moveOf_0 : decode cX11_moveOf 0 = .ok (.iload_n 1, 1) := by decide +kernel
theorem dX11_moveOf_1 : decode cX11_moveOf 1 = .ok (.iconst 1, 1) := by decide +kernel
theorem dX11_moveOf_2 : decode cX11_moveOf 2 = .ok (.iconst 4, 1) := by decide +kernel
theorem dX11_moveOf_3 : decode cX11_moveOf 3 = .ok (.invokestatic 114, 3) := by decide +kernel
theorem dX11_moveOf_6 : decode cX11_moveOf 6 = .ok (.ifCond .ne 9, 3) := by decide +kernel
theorem dX11_moveOf_9 : decode cX11_moveOf 9 = .ok (.aload_n 0, 1) := by decide +kernel
theorem dX11_moveOf_10 : decode cX11_moveOf 10 = .ok (.iconst 5, 1) := by decide +kernel
theorem dX11_moveOf_11 : decode cX11_moveOf 11 = .ok (.invokevirtual 137, 3) := by decide +kernel
theorem dX11_moveOf_14 : decode cX11_moveOf 14 = .ok (.ireturn, 1) := by decide +kernel
theorem dX11_moveOf_15 : decode cX11_moveOf 15 = .ok (.aload_n 0, 1) := by decide +kernel
theorem dX11_moveOf_16 : decode cX11_moveOf 16 = .ok (.getfield 61, 3) := by decide +kernel
theorem dX11_moveOf_19 : decode cX11_moveOf 19 = .ok (.aload_n 0, 1) := by decide +kernel
theorem dX11_moveOf_20 : decode cX11_moveOf 20 = .ok (.getfield 79, 3) := by decide +kernel
theorem dX11_moveOf_23 : decode cX11_moveOf 23 = .ok (.aload_n 0, 1) := by decide +kernel
theorem dX11_moveOf_24 : decode cX11_moveOf 24 = .ok (.getfield 40, 3) := by decide +kernel
theorem dX11_moveOf_27 : decode cX11_moveOf 27 = .ok (.invokevirtual 343, 3) := by decide +kernel
theorem dX11_moveOf_30 : decode cX11_moveOf 30 = .ok (.aload_n 0, 1) := by decide +kernel
theorem dX11_moveOf_31 : decode cX11_moveOf 31 = .ok (.getfield 61, 3) := by decide +kernel
theorem dX11_moveOf_34 : decode cX11_moveOf 34 = .ok (.aload_n 0, 1) := by decide +kernel
theorem dX11_moveOf_35 : decode cX11_moveOf 35 = .ok (.getfield 79, 3) := by decide +kernel
theorem dX11_moveOf_38 : decode cX11_moveOf 38 = .ok (.iload_n 1, 1) := by decide +kernel
theorem dX11_moveOf_39 : decode cX11_moveOf 39 = .ok (.iconst 1, 1) := by decide +kernel
theorem dX11_moveOf_40 : decode cX11_moveOf 40 = .ok (.isub, 1) := by decide +kernel
theorem dX11_moveOf_41 : decode cX11_moveOf 41 = .ok (.invokevirtual 353, 3) := by decide +kernel
theorem dX11_moveOf_44 : decode cX11_moveOf 44 = .ok (.aload_n 0, 1) := by decide +kernel
theorem dX11_moveOf_45 : decode cX11_moveOf 45 = .ok (.getfield 61, 3) := by decide +kernel
theorem dX11_moveOf_48 : decode cX11_moveOf 48 = .ok (.aload_n 0, 1) := by decide +kernel
theorem dX11_moveOf_49 : decode cX11_moveOf 49 = .ok (.getfield 79, 3) := by decide +kernel
theorem dX11_moveOf_52 : decode cX11_moveOf 52 = .ok (.invokevirtual 359, 3) := by decide +kernel
theorem dX11_moveOf_55 : decode cX11_moveOf 55 = .ok (.istore_n 2, 1) := by decide +kernel
theorem dX11_moveOf_56 : decode cX11_moveOf 56 = .ok (.iload_n 2, 1) := by decide +kernel
theorem dX11_moveOf_57 : decode cX11_moveOf 57 = .ok (.iconst (-1), 1) := by decide +kernel
theorem dX11_moveOf_58 : decode cX11_moveOf 58 = .ok (.if_icmp .ne 12, 3) := by decide +kernel
theorem dX11_moveOf_61 : decode cX11_moveOf 61 = .ok (.aload_n 0, 1) := by decide +kernel
theorem dX11_moveOf_62 : decode cX11_moveOf 62 = .ok (.bipush 8, 2) := by decide +kernel
theorem dX11_moveOf_64 : decode cX11_moveOf 64 = .ok (.invokevirtual 137, 3) := by decide +kernel
theorem dX11_moveOf_67 : decode cX11_moveOf 67 = .ok (.goto 8, 3) := by decide +kernel
theorem dX11_moveOf_70 : decode cX11_moveOf 70 = .ok (.aload_n 0, 1) := by decide +kernel
theorem dX11_moveOf_71 : decode cX11_moveOf 71 = .ok (.iload_n 2, 1) := by decide +kernel
theorem dX11_moveOf_72 : decode cX11_moveOf 72 = .ok (.invokevirtual 179, 3) := by decide +kernel
theorem dX11_moveOf_75 : decode cX11_moveOf 75 = .ok (.ireturn, 1) := by decide +kernel
set_option maxRecDepth 100000 in
theorem c_X11_moveOf (l : Launch) (E : xE) (a0 a1 a2 a3 a4 a5 a6 a7 a8 a9 : Nat) {T0 : Nat → Int32} {J0_15 : Int64} {J0_16 : Int64} {T2 : Nat → Int32} {V4 : Nat → Int32} {V5 : Nat → Int32} {V6 : Nat → Int32} {V7 : Nat → Int32} {V8 : Nat → Int32} {V9 : Nat → Int32} {u0_0 u0_1 u0_2 u0_3 u0_5 u0_6 u0_8 u0_9 u0_12 u0_13 u2_7 u2_8 u2_9 u2_13 u2_14 : Nat} {x1 : Int32} {z : Int32 × (Nat → Int32) × (Nat → Int32) × (Nat → Int32) × (Nat → Int32)} (hf : f_X11_moveOf T0 T2 V4 V5 V6 V7 V8 V9 x1 = some z) (sz : Nat) : Met l yX11_moveOf (Cond.code yX11_moveOf cX11_moveOf 3 (some .int) :: gw) ({ frames := 5, cells := 0, slots := 0, locals := 114 }) (xPc E [.ref a0, .int x1] [(a0, o11 T0 J0_15 J0_16 u0_0 u0_1 u0_2 u0_3 a3 u0_5 u0_6 a1 u0_8 u0_9 a2 u0_12 u0_13), (a1, o2 a8 a9), (a2, o3 T2 u2_7 u2_8 u2_9 a7 a5 a6 u2_13 u2_14), (a3, o7 a4), (a4, ai E 144 V4), (a5, ai E 12 V5), (a6, ai E 12 V6), (a7, ai E 12 V7), (a8, ai E 32 V8), (a9, ai E 32 V9)] sz) (xQi E z.1 [(a0, o11 T0 J0_15 J0_16 u0_0 u0_1 u0_2 u0_3 a3 u0_5 u0_6 a1 u0_8 u0_9 a2 u0_12 u0_13), (a1, o2 a8 a9), (a2, o3 T2 u2_7 u2_8 u2_9 a7 a5 a6 u2_13 u2_14), (a3, o7 a4), (a4, ai E 144 V4), (a5, ai E 12 V5), (a6, ai E 12 V6), (a7, ai E 12 V7), (a8, ai E 32 V8), (a9, ai E 32 V9)] [(a0, o11 z.2.1 J0_15 J0_16 u0_0 u0_1 u0_2 u0_3 a3 u0_5 u0_6 a1 u0_8 u0_9 a2 u0_12 u0_13), (a1, o2 a8 a9), (a2, o3 T2 u2_7 u2_8 u2_9 a7 a5 a6 u2_13 u2_14), (a3, o7 a4), (a4, ai E 144 z.2.2.1), (a5, ai E 12 V5), (a6, ai E 12 V6), (a7, ai E 12 V7), (a8, ai E 32 z.2.2.2.1), (a9, ai E 32 z.2.2.2.2)] sz) 0 0 (va_A [(a0, o11 T0 J0_15 J0_16 u0_0 u0_1 u0_2 u0_3 a3 u0_5 u0_6 a1 u0_8 u0_9 a2 u0_12 u0_13), (a1, o2 a8 a9), (a2, o3 T2 u2_7 u2_8 u2_9 a7 a5 a6 u2_13 u2_14), (a3, o7 a4), (a4, ai E 144 V4), (a5, ai E 12 V5), (a6, ai E 12 V6), (a7, ai E 12 V7), (a8, ai E 32 V8), (a9, ai E 32 V9)] sz) := by
  refine xM_i (by decide +kernel) (Nat.le_of_ble_eq_true rfl) ?_
  intro p e s m args below meth c A Q hx hb hml hown htg hK hG hA ret0 H locs ls hP hD hS hl
  have ret : ∀ (z' : Int32 × (Nat → Int32) × (Nat → Int32) × (Nat → Int32) × (Nat → Int32)) {H : Heap} {locs : List Loc} {pc : Nat} {ls : Array Slot}, some z' = some z → narrow .int (.int z'.1) = .int z'.1 → va_P E.1 vwCl [(a0, o11 z'.2.1 J0_15 J0_16 u0_0 u0_1 u0_2 u0_3 a3 u0_5 u0_6 a1 u0_8 u0_9 a2 u0_12 u0_13), (a1, o2 a8 a9), (a2, o3 T2 u2_7 u2_8 u2_9 a7 a5 a6 u2_13 u2_14), (a3, o7 a4), (a4, ai E 144 z'.2.2.1), (a5, ai E 12 V5), (a6, ai E 12 V6), (a7, ai E 12 V7), (a8, ai E 32 z'.2.2.2.1), (a9, ai E 32 z'.2.2.2.2)] H → va_S A s.heap H locs → decode cX11_moveOf pc = .ok (.ireturn, 1) → W p l e ({ frames := 5, cells := 0, slots := 0, locals := 114 } : Room) s m args below meth c H locs 0 0 Q (F0 m pc ls [.int z'.1]) := by
    intro z' H locs pc ls h
    cases h
    exact ret0
  replace hl : lv_has ls 3 [(0, .ref a0), (1, .int x1)] := hl
  unfold f_X11_moveOf at hf
  refine lv_iload_n hx hb dX11_moveOf_0 rfl (lv_at hl 1 rfl) ?_
  refine lv_iconst (v := 1) hx hb dX11_moveOf_1 rfl ?_
  refine lv_iconst (v := 4) hx hb dX11_moveOf_2 rfl ?_
  obtain ⟨z3, hz3, hf⟩ := bind_s hf
  refine xS_ir hx hb hml hown htg L11_114 (c_X11_within l E hz3 _) ⟨⟨rfl, rfl⟩, Nat.le_of_ble_eq_true rfl, Nat.le_of_ble_eq_true rfl⟩ hK hG hA hP hD hS (is := []) rfl rfl rfl hl.1 rfl (Nat.le_of_ble_eq_true rfl) dX11_moveOf_3 (fun H locs hP hD hS => ?_)
  refine lv_if_ne (tgt := 15) hx hb dX11_moveOf_6 (by decide) (fun c6 => ?_) (fun c6 => ?_)
  · have hf := it_f c6 hf
    refine lv_aload_n hx hb dX11_moveOf_15 rfl (lv_at hl 0 rfl) ?_
    refine G11_61 hx hb htg hown hK hP 0 rfl dX11_moveOf_16 ?_
    refine lv_aload_n hx hb dX11_moveOf_19 rfl (lv_at hl 0 rfl) ?_
    refine G11_79 hx hb htg hown hK hP 0 rfl dX11_moveOf_20 ?_
    refine lv_aload_n hx hb dX11_moveOf_23 rfl (lv_at hl 0 rfl) ?_
    refine G11_40 hx hb htg hown hK hP 0 rfl dX11_moveOf_24 ?_
    obtain ⟨z27, hz27, hf⟩ := bind_s hf
    refine xV_vu hx hb hml hown htg L11_343 (c_X2_weigh l E a1 a2 a3 a4 a5 a6 a7 a8 hz27 _) ⟨⟨rfl, rfl⟩, Nat.le_of_ble_eq_true rfl, Nat.le_of_ble_eq_true rfl⟩ hK hG hA hP hD hS (is := [1, 2, 3, 4, 5, 6, 7, 8]) (sel := [none, some 0, some 1, some 2, some 3, some 4, some 5, some 6, some 7, none]) (ws2 := [(a0, o11 T0 J0_15 J0_16 u0_0 u0_1 u0_2 u0_3 a3 u0_5 u0_6 a1 u0_8 u0_9 a2 u0_12 u0_13), (a1, o2 a8 a9), (a2, o3 T2 u2_7 u2_8 u2_9 a7 a5 a6 u2_13 u2_14), (a3, o7 a4), (a4, ai E 144 z27.1), (a5, ai E 12 V5), (a6, ai E 12 V6), (a7, ai E 12 V7), (a8, ai E 32 z27.2), (a9, ai E 32 V9)]) rfl rfl rfl rfl rfl (xrecv hK hP (q0 := 1) (ci := 2) rfl rfl) rfl hl.1 rfl (Nat.le_of_ble_eq_true rfl) dX11_moveOf_27 (fun H locs hP hD hS => ?_)
    refine lv_aload_n hx hb dX11_moveOf_30 rfl (lv_at hl 0 rfl) ?_
    refine G11_61 hx hb htg hown hK hP 0 rfl dX11_moveOf_31 ?_
    refine lv_aload_n hx hb dX11_moveOf_34 rfl (lv_at hl 0 rfl) ?_
    refine G11_79 hx hb htg hown hK hP 0 rfl dX11_moveOf_35 ?_
    refine lv_iload_n hx hb dX11_moveOf_38 rfl (lv_at hl 1 rfl) ?_
    refine lv_iconst (v := 1) hx hb dX11_moveOf_39 rfl ?_
    refine lv_isub hx hb dX11_moveOf_40 ?_
    obtain ⟨z41, hz41, hf⟩ := bind_s hf
    refine xV_vu hx hb hml hown htg L11_353 (c_X2_play l E a1 a2 a9 a8 hz41 _) ⟨⟨rfl, rfl⟩, Nat.le_of_ble_eq_true rfl, Nat.le_of_ble_eq_true rfl⟩ hK hG hA hP hD hS (is := [1, 2, 9, 8]) (sel := [none, some 0, some 1, none, none, none, none, none, some 3, some 2]) (ws2 := [(a0, o11 T0 J0_15 J0_16 u0_0 u0_1 u0_2 u0_3 a3 u0_5 u0_6 a1 u0_8 u0_9 a2 u0_12 u0_13), (a1, o2 a8 a9), (a2, o3 T2 u2_7 u2_8 u2_9 a7 a5 a6 u2_13 u2_14), (a3, o7 a4), (a4, ai E 144 z27.1), (a5, ai E 12 V5), (a6, ai E 12 V6), (a7, ai E 12 V7), (a8, ai E 32 z27.2), (a9, ai E 32 z41)]) rfl rfl rfl rfl rfl (xrecv hK hP (q0 := 1) (ci := 2) rfl rfl) rfl hl.1 rfl (Nat.le_of_ble_eq_true rfl) dX11_moveOf_41 (fun H locs hP hD hS => ?_)
    refine lv_aload_n hx hb dX11_moveOf_44 rfl (lv_at hl 0 rfl) ?_
    refine G11_61 hx hb htg hown hK hP 0 rfl dX11_moveOf_45 ?_
    refine lv_aload_n hx hb dX11_moveOf_48 rfl (lv_at hl 0 rfl) ?_
    refine G11_79 hx hb htg hown hK hP 0 rfl dX11_moveOf_49 ?_
    obtain ⟨z52, hz52, hf⟩ := bind_s hf
    refine xV_ir hx hb hml hown htg L11_359 (c_X2_firstBestMove l E a1 a2 a9 a8 hz52 _) ⟨⟨rfl, rfl⟩, Nat.le_of_ble_eq_true rfl, Nat.le_of_ble_eq_true rfl⟩ hK hG hA hP hD hS (is := [1, 2, 9, 8]) rfl rfl (xrecv hK hP (q0 := 1) (ci := 2) rfl rfl) rfl hl.1 rfl (Nat.le_of_ble_eq_true rfl) dX11_moveOf_52 (fun H locs hP hD hS => ?_)
    refine lv_istore_n (lv' := [(2, .int z52), (0, .ref a0), (1, .int x1)]) hx hb dX11_moveOf_55 rfl hl (by decide) rfl (fun ls hl => ?_)
    refine lv_iload_n hx hb dX11_moveOf_56 rfl (lv_at hl 0 rfl) ?_
    refine lv_iconst (v := (-1)) hx hb dX11_moveOf_57 rfl ?_
    refine lv_icmp_ne (tgt := 70) hx hb dX11_moveOf_58 (by decide) (fun c58 => ?_) (fun c58 => ?_)
    · have hf := it_f c58 hf
      refine lv_aload_n hx hb dX11_moveOf_70 rfl (lv_at hl 1 rfl) ?_
      refine lv_iload_n hx hb dX11_moveOf_71 rfl (lv_at hl 0 rfl) ?_
      obtain ⟨z72, hz72, hf⟩ := bind_s hf
      refine xV_iu hx hb hml hown htg L11_179 (c_X11_answer l E a0 hz72 _) ⟨⟨rfl, rfl⟩, Nat.le_of_ble_eq_true rfl, Nat.le_of_ble_eq_true rfl⟩ hK hG hA hP hD hS (is := [0]) (sel := [some 0, none, none, none, none, none, none, none, none, none]) (ws2 := [(a0, o11 z72.2 J0_15 J0_16 u0_0 u0_1 u0_2 u0_3 a3 u0_5 u0_6 a1 u0_8 u0_9 a2 u0_12 u0_13), (a1, o2 a8 a9), (a2, o3 T2 u2_7 u2_8 u2_9 a7 a5 a6 u2_13 u2_14), (a3, o7 a4), (a4, ai E 144 z27.1), (a5, ai E 12 V5), (a6, ai E 12 V6), (a7, ai E 12 V7), (a8, ai E 32 z27.2), (a9, ai E 32 z41)]) rfl rfl rfl rfl rfl (xrecv hK hP (q0 := 0) (ci := 11) rfl rfl) rfl hl.1 rfl (Nat.le_of_ble_eq_true rfl) dX11_moveOf_72 (fun H locs hP hD hS => ?_)
      exact ret (z72.1, z72.2, z27.1, z27.2, z41) hf nzi hP hS dX11_moveOf_75
    · have hf := it_t c58 hf
      refine lv_aload_n hx hb dX11_moveOf_61 rfl (lv_at hl 1 rfl) ?_
      refine lv_bipush (v := 8) hx hb dX11_moveOf_62 rfl ?_
      obtain ⟨z64, hz64, hf⟩ := bind_s hf
      refine xV_iu hx hb hml hown htg L11_137 (c_X11_refused l E a0 hz64 _) ⟨⟨rfl, rfl⟩, Nat.le_of_ble_eq_true rfl, Nat.le_of_ble_eq_true rfl⟩ hK hG hA hP hD hS (is := [0]) (sel := [some 0, none, none, none, none, none, none, none, none, none]) (ws2 := [(a0, o11 z64.2 J0_15 J0_16 u0_0 u0_1 u0_2 u0_3 a3 u0_5 u0_6 a1 u0_8 u0_9 a2 u0_12 u0_13), (a1, o2 a8 a9), (a2, o3 T2 u2_7 u2_8 u2_9 a7 a5 a6 u2_13 u2_14), (a3, o7 a4), (a4, ai E 144 z27.1), (a5, ai E 12 V5), (a6, ai E 12 V6), (a7, ai E 12 V7), (a8, ai E 32 z27.2), (a9, ai E 32 z41)]) rfl rfl rfl rfl rfl (xrecv hK hP (q0 := 0) (ci := 11) rfl rfl) rfl hl.1 rfl (Nat.le_of_ble_eq_true rfl) dX11_moveOf_64 (fun H locs hP hD hS => ?_)
      refine lv_goto (tgt := 75) hx hb dX11_moveOf_67 (by decide) ?_
      exact ret (z64.1, z64.2, z27.1, z27.2, z41) hf nzi hP hS dX11_moveOf_75
  · have hf := it_t c6 hf
    refine lv_aload_n hx hb dX11_moveOf_9 rfl (lv_at hl 0 rfl) ?_
    refine lv_iconst (v := 5) hx hb dX11_moveOf_10 rfl ?_
    obtain ⟨z11, hz11, hf⟩ := bind_s hf
    refine xV_iu hx hb hml hown htg L11_137 (c_X11_refused l E a0 hz11 _) ⟨⟨rfl, rfl⟩, Nat.le_of_ble_eq_true rfl, Nat.le_of_ble_eq_true rfl⟩ hK hG hA hP hD hS (is := [0]) (sel := [some 0, none, none, none, none, none, none, none, none, none]) (ws2 := [(a0, o11 z11.2 J0_15 J0_16 u0_0 u0_1 u0_2 u0_3 a3 u0_5 u0_6 a1 u0_8 u0_9 a2 u0_12 u0_13), (a1, o2 a8 a9), (a2, o3 T2 u2_7 u2_8 u2_9 a7 a5 a6 u2_13 u2_14), (a3, o7 a4), (a4, ai E 144 V4), (a5, ai E 12 V5), (a6, ai E 12 V6), (a7, ai E 12 V7), (a8, ai E 32 V8), (a9, ai E 32 V9)]) rfl rfl rfl rfl rfl (xrecv hK hP (q0 := 0) (ci := 11) rfl rfl) rfl hl.1 rfl (Nat.le_of_ble_eq_true rfl) dX11_moveOf_11 (fun H locs hP hD hS => ?_)
    exact ret (z11.1, z11.2, V4, V8, V9) hf nzi hP hS dX11_moveOf_14
theorem dX11_swear_0 : decode cX11_swear 0 = .ok (.iload_n 1, 1) := by decide +kernel
theorem dX11_swear_1 : decode cX11_swear 1 = .ok (.iconst 0, 1) := by decide +kernel
theorem dX11_swear_2 : decode cX11_swear 2 = .ok (.bipush 12, 2) := by decide +kernel
theorem dX11_swear_4 : decode cX11_swear 4 = .ok (.invokestatic 114, 3) := by decide +kernel
theorem dX11_swear_7 : decode cX11_swear 7 = .ok (.ifCond .eq 13, 3) := by decide +kernel
theorem dX11_swear_10 : decode cX11_swear 10 = .ok (.iload_n 2, 1) := by decide +kernel
theorem dX11_swear_11 : decode cX11_swear 11 = .ok (.iconst 0, 1) := by decide +kernel
theorem dX11_swear_12 : decode cX11_swear 12 = .ok (.bipush 12, 2) := by decide +kernel
theorem dX11_swear_14 : decode cX11_swear 14 = .ok (.invokestatic 114, 3) := by decide +kernel
theorem dX11_swear_17 : decode cX11_swear 17 = .ok (.ifCond .ne 9, 3) := by decide +kernel
theorem dX11_swear_20 : decode cX11_swear 20 = .ok (.aload_n 0, 1) := by decide +kernel
theorem dX11_swear_21 : decode cX11_swear 21 = .ok (.iconst 5, 1) := by decide +kernel
theorem dX11_swear_22 : decode cX11_swear 22 = .ok (.invokevirtual 118, 3) := by decide +kernel
theorem dX11_swear_25 : decode cX11_swear 25 = .ok (.ireturn, 1) := by decide +kernel
theorem dX11_swear_26 : decode cX11_swear 26 = .ok (.aload_n 0, 1) := by decide +kernel
theorem dX11_swear_27 : decode cX11_swear 27 = .ok (.aload_n 0, 1) := by decide +kernel
theorem dX11_swear_28 : decode cX11_swear 28 = .ok (.getfield 54, 3) := by decide +kernel
theorem dX11_swear_31 : decode cX11_swear 31 = .ok (.iload_n 1, 1) := by decide +kernel
theorem dX11_swear_32 : decode cX11_swear 32 = .ok (.iload_n 2, 1) := by decide +kernel
theorem dX11_swear_33 : decode cX11_swear 33 = .ok (.aload_n 0, 1) := by decide +kernel
theorem dX11_swear_34 : decode cX11_swear 34 = .ok (.getfield 79, 3) := by decide +kernel
theorem dX11_swear_37 : decode cX11_swear 37 = .ok (.getfield 208, 3) := by decide +kernel
theorem dX11_swear_40 : decode cX11_swear 40 = .ok (.invokevirtual 362, 3) := by decide +kernel
theorem dX11_swear_43 : decode cX11_swear 43 = .ok (.bipush 16, 2) := by decide +kernel
theorem dX11_swear_45 : decode cX11_swear 45 = .ok (.iload_n 1, 1) := by decide +kernel
theorem dX11_swear_46 : decode cX11_swear 46 = .ok (.invokestatic 366, 3) := by decide +kernel
theorem dX11_swear_49 : decode cX11_swear 49 = .ok (.invokevirtual 305, 3) := by decide +kernel
theorem dX11_swear_52 : decode cX11_swear 52 = .ok (.ireturn, 1) := by decide +kernel
set_option maxRecDepth 100000 in
theorem c_X11_swear (l : Launch) (E : xE) (a0 a1 a2 a3 : Nat) {T0 : Nat → Int32} {J0_15 : Int64} {J0_16 : Int64} {T2 : Nat → Int32} {V3 : Nat → Int64} {u0_0 u0_1 u0_2 u0_3 u0_4 u0_5 u0_7 u0_8 u0_9 u0_12 u0_13 u1_0 u2_7 u2_8 u2_9 u2_10 u2_11 u2_12 u2_13 u2_14 : Nat} {x1 : Int32} {x2 : Int32} {z : Int32 × (Nat → Int32) × Int64 × Int64 × (Nat → Int64)} (hf : f_X11_swear T0 J0_15 J0_16 T2 V3 x1 x2 = some z) (sz : Nat) : Met l yX11_swear (Cond.code yX11_swear cX11_swear 3 (some .boolean) :: gw) ({ frames := 2, cells := 0, slots := 0, locals := 67 }) (xPc E [.ref a0, .int x1, .int x2] [(a0, o11 T0 J0_15 J0_16 u0_0 u0_1 u0_2 u0_3 u0_4 u0_5 a1 u0_7 u0_8 u0_9 a2 u0_12 u0_13), (a1, o1 u1_0 a3), (a2, o3 T2 u2_7 u2_8 u2_9 u2_10 u2_11 u2_12 u2_13 u2_14), (a3, al E 13 V3)] sz) (xQi E z.1 [(a0, o11 T0 J0_15 J0_16 u0_0 u0_1 u0_2 u0_3 u0_4 u0_5 a1 u0_7 u0_8 u0_9 a2 u0_12 u0_13), (a1, o1 u1_0 a3), (a2, o3 T2 u2_7 u2_8 u2_9 u2_10 u2_11 u2_12 u2_13 u2_14), (a3, al E 13 V3)] [(a0, o11 z.2.1 z.2.2.1 z.2.2.2.1 u0_0 u0_1 u0_2 u0_3 u0_4 u0_5 a1 u0_7 u0_8 u0_9 a2 u0_12 u0_13), (a1, o1 u1_0 a3), (a2, o3 T2 u2_7 u2_8 u2_9 u2_10 u2_11 u2_12 u2_13 u2_14), (a3, al E 13 z.2.2.2.2)] sz) 0 0 (va_A [(a0, o11 T0 J0_15 J0_16 u0_0 u0_1 u0_2 u0_3 u0_4 u0_5 a1 u0_7 u0_8 u0_9 a2 u0_12 u0_13), (a1, o1 u1_0 a3), (a2, o3 T2 u2_7 u2_8 u2_9 u2_10 u2_11 u2_12 u2_13 u2_14), (a3, al E 13 V3)] sz) := by
  refine xM_i (by decide +kernel) (Nat.le_of_ble_eq_true rfl) ?_
  intro p e s m args below meth c A Q hx hb hml hown htg hK hG hA ret0 H locs ls hP hD hS hl
  have ret : ∀ (z' : Int32 × (Nat → Int32) × Int64 × Int64 × (Nat → Int64)) {H : Heap} {locs : List Loc} {pc : Nat} {ls : Array Slot}, some z' = some z → narrow .boolean (.int z'.1) = .int z'.1 → va_P E.1 vwCl [(a0, o11 z'.2.1 z'.2.2.1 z'.2.2.2.1 u0_0 u0_1 u0_2 u0_3 u0_4 u0_5 a1 u0_7 u0_8 u0_9 a2 u0_12 u0_13), (a1, o1 u1_0 a3), (a2, o3 T2 u2_7 u2_8 u2_9 u2_10 u2_11 u2_12 u2_13 u2_14), (a3, al E 13 z'.2.2.2.2)] H → va_S A s.heap H locs → decode cX11_swear pc = .ok (.ireturn, 1) → W p l e ({ frames := 2, cells := 0, slots := 0, locals := 67 } : Room) s m args below meth c H locs 0 0 Q (F0 m pc ls [.int z'.1]) := by
    intro z' H locs pc ls h
    cases h
    exact ret0
  replace hl : lv_has ls 3 [(0, .ref a0), (1, .int x1), (2, .int x2)] := hl
  have b20 : ∀ (T0 : Nat → Int32) (J0_15 : Int64) (J0_16 : Int64) (V3 : Nat → Int64) (H : Heap) (locs : List Loc) (ls : Array Slot), f_X11_swear_20 T2 x1 x2 T0 J0_15 J0_16 V3 = some z → va_P E.1 vwCl [(a0, o11 T0 J0_15 J0_16 u0_0 u0_1 u0_2 u0_3 u0_4 u0_5 a1 u0_7 u0_8 u0_9 a2 u0_12 u0_13), (a1, o1 u1_0 a3), (a2, o3 T2 u2_7 u2_8 u2_9 u2_10 u2_11 u2_12 u2_13 u2_14), (a3, al E 13 V3)] H → va_D A [(a0, o11 T0 J0_15 J0_16 u0_0 u0_1 u0_2 u0_3 u0_4 u0_5 a1 u0_7 u0_8 u0_9 a2 u0_12 u0_13), (a1, o1 u1_0 a3), (a2, o3 T2 u2_7 u2_8 u2_9 u2_10 u2_11 u2_12 u2_13 u2_14), (a3, al E 13 V3)] → va_S A s.heap H locs → lv_has ls 3 [(0, .ref a0)] → W p l e ({ frames := 2, cells := 0, slots := 0, locals := 67 } : Room) s m args below meth c H locs 0 0 Q (F0 m 20 ls []) := by
    intro T0 J0_15 J0_16 V3 H locs ls hf hP hD hS hl
    unfold f_X11_swear_20 at hf
    refine lv_aload_n hx hb dX11_swear_20 rfl (lv_at hl 0 rfl) ?_
    refine lv_iconst (v := 5) hx hb dX11_swear_21 rfl ?_
    obtain ⟨z22, hz22, hf⟩ := bind_s hf
    refine xV_iu hx hb hml hown htg L11_118 (c_X11_denied l E a0 hz22 _) ⟨⟨rfl, rfl⟩, Nat.le_of_ble_eq_true rfl, Nat.le_of_ble_eq_true rfl⟩ hK hG hA hP hD hS (is := [0]) (sel := [some 0, none, none, none]) (ws2 := [(a0, o11 z22.2 J0_15 J0_16 u0_0 u0_1 u0_2 u0_3 u0_4 u0_5 a1 u0_7 u0_8 u0_9 a2 u0_12 u0_13), (a1, o1 u1_0 a3), (a2, o3 T2 u2_7 u2_8 u2_9 u2_10 u2_11 u2_12 u2_13 u2_14), (a3, al E 13 V3)]) rfl rfl rfl rfl rfl (xrecv hK hP (q0 := 0) (ci := 11) rfl rfl) rfl hl.1 rfl (Nat.le_of_ble_eq_true rfl) dX11_swear_22 (fun H locs hP hD hS => ?_)
    obtain ⟨g25, hf⟩ := ck_s hf
    exact ret (z22.1, z22.2, J0_15, J0_16, V3) hf (bz_n g25).1 hP hS dX11_swear_25
  unfold f_X11_swear at hf
  refine lv_iload_n hx hb dX11_swear_0 rfl (lv_at hl 1 rfl) ?_
  refine lv_iconst (v := 0) hx hb dX11_swear_1 rfl ?_
  refine lv_bipush (v := 12) hx hb dX11_swear_2 rfl ?_
  obtain ⟨z4, hz4, hf⟩ := bind_s hf
  refine xS_ir hx hb hml hown htg L11_114 (c_X11_within l E hz4 _) ⟨⟨rfl, rfl⟩, Nat.le_of_ble_eq_true rfl, Nat.le_of_ble_eq_true rfl⟩ hK hG hA hP hD hS (is := []) rfl rfl rfl hl.1 rfl (Nat.le_of_ble_eq_true rfl) dX11_swear_4 (fun H locs hP hD hS => ?_)
  refine lv_if_eq (tgt := 20) hx hb dX11_swear_7 (by decide) (fun c7 => ?_) (fun c7 => ?_)
  · have hf := it_t c7 hf
    exact b20 T0 J0_15 J0_16 V3 _ _ _ hf hP hD hS (lv_sub hl [0] rfl)
  · have hf := it_f c7 hf
    refine lv_iload_n hx hb dX11_swear_10 rfl (lv_at hl 2 rfl) ?_
    refine lv_iconst (v := 0) hx hb dX11_swear_11 rfl ?_
    refine lv_bipush (v := 12) hx hb dX11_swear_12 rfl ?_
    obtain ⟨z14, hz14, hf⟩ := bind_s hf
    refine xS_ir hx hb hml hown htg L11_114 (c_X11_within l E hz14 _) ⟨⟨rfl, rfl⟩, Nat.le_of_ble_eq_true rfl, Nat.le_of_ble_eq_true rfl⟩ hK hG hA hP hD hS (is := []) rfl rfl rfl hl.1 rfl (Nat.le_of_ble_eq_true rfl) dX11_swear_14 (fun H locs hP hD hS => ?_)
    refine lv_if_ne (tgt := 26) hx hb dX11_swear_17 (by decide) (fun c17 => ?_) (fun c17 => ?_)
    · have hf := it_f c17 hf
      refine lv_aload_n hx hb dX11_swear_26 rfl (lv_at hl 0 rfl) ?_
      refine lv_aload_n hx hb dX11_swear_27 rfl (lv_at hl 0 rfl) ?_
      refine G11_54 hx hb htg hown hK hP 0 rfl dX11_swear_28 ?_
      refine lv_iload_n hx hb dX11_swear_31 rfl (lv_at hl 1 rfl) ?_
      refine lv_iload_n hx hb dX11_swear_32 rfl (lv_at hl 2 rfl) ?_
      refine lv_aload_n hx hb dX11_swear_33 rfl (lv_at hl 0 rfl) ?_
      refine G11_79 hx hb htg hown hK hP 0 rfl dX11_swear_34 ?_
      refine G11_208 hx hb htg hown hK hP 2 rfl dX11_swear_37 ?_
      obtain ⟨z40, hz40, hf⟩ := bind_s hf
      refine xV_lu hx hb hml hown htg L11_362 (c_X1_waysToSwear l E a1 a3 hz40 _) ⟨⟨rfl, rfl⟩, Nat.le_of_ble_eq_true rfl, Nat.le_of_ble_eq_true rfl⟩ hK hG hA hP hD hS (is := [1, 3]) (sel := [none, some 0, none, some 1]) (ws2 := [(a0, o11 T0 J0_15 J0_16 u0_0 u0_1 u0_2 u0_3 u0_4 u0_5 a1 u0_7 u0_8 u0_9 a2 u0_12 u0_13), (a1, o1 u1_0 a3), (a2, o3 T2 u2_7 u2_8 u2_9 u2_10 u2_11 u2_12 u2_13 u2_14), (a3, al E 13 z40.2)]) rfl rfl rfl rfl rfl (xrecv hK hP (q0 := 1) (ci := 1) rfl rfl) rfl hl.1 rfl (Nat.le_of_ble_eq_true rfl) dX11_swear_40 (fun H locs hP hD hS => ?_)
      refine lv_bipush (v := 16) hx hb dX11_swear_43 rfl ?_
      refine lv_iload_n hx hb dX11_swear_45 rfl (lv_at hl 1 rfl) ?_
      obtain ⟨z46, hz46, hf⟩ := bind_s hf
      refine xS_lr hx hb hml hown htg L11_366 (c_X11_power l E hz46 _) ⟨⟨rfl, rfl⟩, Nat.le_of_ble_eq_true rfl, Nat.le_of_ble_eq_true rfl⟩ hK hG hA hP hD hS (is := []) rfl rfl rfl hl.1 rfl (Nat.le_of_ble_eq_true rfl) dX11_swear_46 (fun H locs hP hD hS => ?_)
      obtain ⟨z49, hz49, hf⟩ := bind_s hf
      refine xV_iu hx hb hml hown htg L11_305 (c_X11_toldFraction l E a0 hz49 _) ⟨⟨rfl, rfl⟩, Nat.le_of_ble_eq_true rfl, Nat.le_of_ble_eq_true rfl⟩ hK hG hA hP hD hS (is := [0]) (sel := [some 0, none, none, none]) (ws2 := [(a0, o11 z49.2.1 z49.2.2.1 z49.2.2.2 u0_0 u0_1 u0_2 u0_3 u0_4 u0_5 a1 u0_7 u0_8 u0_9 a2 u0_12 u0_13), (a1, o1 u1_0 a3), (a2, o3 T2 u2_7 u2_8 u2_9 u2_10 u2_11 u2_12 u2_13 u2_14), (a3, al E 13 z40.2)]) rfl rfl rfl rfl rfl (xrecv hK hP (q0 := 0) (ci := 11) rfl rfl) rfl hl.1 rfl (Nat.le_of_ble_eq_true rfl) dX11_swear_49 (fun H locs hP hD hS => ?_)
      obtain ⟨g52, hf⟩ := ck_s hf
      exact ret (z49.1, z49.2.1, z49.2.2.1, z49.2.2.2, z40.2) hf (bz_n g52).1 hP hS dX11_swear_52
    · have hf := it_t c17 hf
      exact b20 T0 J0_15 J0_16 V3 _ _ _ hf hP hD hS (lv_sub hl [0] rfl)
theorem dX11_share_0 : decode cX11_share 0 = .ok (.aload_n 0, 1) := by decide +kernel
theorem dX11_share_1 : decode cX11_share 1 = .ok (.getfield 79, 3) := by decide +kernel
theorem dX11_share_4 : decode cX11_share 4 = .ok (.iload_n 1, 1) := by decide +kernel
theorem dX11_share_5 : decode cX11_share 5 = .ok (.invokevirtual 251, 3) := by decide +kernel
theorem dX11_share_8 : decode cX11_share 8 = .ok (.ifCond .ne 9, 3) := by decide +kernel
theorem dX11_share_11 : decode cX11_share 11 = .ok (.aload_n 0, 1) := by decide +kernel
theorem dX11_share_12 : decode cX11_share 12 = .ok (.iconst 2, 1) := by decide +kernel
theorem dX11_share_13 : decode cX11_share 13 = .ok (.invokevirtual 118, 3) := by decide +kernel
theorem dX11_share_16 : decode cX11_share 16 = .ok (.ireturn, 1) := by decide +kernel
theorem dX11_share_17 : decode cX11_share 17 = .ok (.aload_n 0, 1) := by decide +kernel
theorem dX11_share_18 : decode cX11_share 18 = .ok (.getfield 79, 3) := by decide +kernel
theorem dX11_share_21 : decode cX11_share 21 = .ok (.getfield 205, 3) := by decide +kernel
theorem dX11_share_24 : decode cX11_share 24 = .ok (.ifCond .ne 10, 3) := by decide +kernel
theorem dX11_share_27 : decode cX11_share 27 = .ok (.aload_n 0, 1) := by decide +kernel
theorem dX11_share_28 : decode cX11_share 28 = .ok (.bipush 8, 2) := by decide +kernel
theorem dX11_share_30 : decode cX11_share 30 = .ok (.invokevirtual 118, 3) := by decide +kernel
theorem dX11_share_33 : decode cX11_share 33 = .ok (.ireturn, 1) := by decide +kernel
theorem dX11_share_34 : decode cX11_share 34 = .ok (.aload_n 0, 1) := by decide +kernel
theorem dX11_share_35 : decode cX11_share 35 = .ok (.aload_n 0, 1) := by decide +kernel
theorem dX11_share_36 : decode cX11_share 36 = .ok (.getfield 79, 3) := by decide +kernel
theorem dX11_share_39 : decode cX11_share 39 = .ok (.iload_n 1, 1) := by decide +kernel
theorem dX11_share_40 : decode cX11_share 40 = .ok (.invokevirtual 261, 3) := by decide +kernel
theorem dX11_share_43 : decode cX11_share 43 = .ok (.i2l, 1) := by decide +kernel
theorem dX11_share_44 : decode cX11_share 44 = .ok (.aload_n 0, 1) := by decide +kernel
theorem dX11_share_45 : decode cX11_share 45 = .ok (.getfield 79, 3) := by decide +kernel
theorem dX11_share_48 : decode cX11_share 48 = .ok (.getfield 205, 3) := by decide +kernel
theorem dX11_share_51 : decode cX11_share 51 = .ok (.i2l, 1) := by decide +kernel
theorem dX11_share_52 : decode cX11_share 52 = .ok (.invokevirtual 305, 3) := by decide +kernel
theorem dX11_share_55 : decode cX11_share 55 = .ok (.ireturn, 1) := by decide +kernel
set_option maxRecDepth 100000 in
theorem c_X11_share (l : Launch) (E : xE) (a0 a1 a2 : Nat) {T0 : Nat → Int32} {J0_15 : Int64} {J0_16 : Int64} {T1 : Nat → Int32} {V2 : Nat → Int32} {u0_0 u0_1 u0_2 u0_3 u0_4 u0_5 u0_6 u0_7 u0_8 u0_9 u0_12 u0_13 u1_7 u1_8 u1_9 u1_11 u1_12 u1_13 u1_14 : Nat} {x1 : Int32} {z : Int32 × (Nat → Int32) × Int64 × Int64} (hf : f_X11_share T0 J0_15 J0_16 T1 V2 x1 = some z) (sz : Nat) : Met l yX11_share (Cond.code yX11_share cX11_share 2 (some .boolean) :: gw) ({ frames := 2, cells := 0, slots := 0, locals := 56 }) (xPc E [.ref a0, .int x1] [(a0, o11 T0 J0_15 J0_16 u0_0 u0_1 u0_2 u0_3 u0_4 u0_5 u0_6 u0_7 u0_8 u0_9 a1 u0_12 u0_13), (a1, o3 T1 u1_7 u1_8 u1_9 a2 u1_11 u1_12 u1_13 u1_14), (a2, ai E 12 V2)] sz) (xQi E z.1 [(a0, o11 T0 J0_15 J0_16 u0_0 u0_1 u0_2 u0_3 u0_4 u0_5 u0_6 u0_7 u0_8 u0_9 a1 u0_12 u0_13), (a1, o3 T1 u1_7 u1_8 u1_9 a2 u1_11 u1_12 u1_13 u1_14), (a2, ai E 12 V2)] [(a0, o11 z.2.1 z.2.2.1 z.2.2.2 u0_0 u0_1 u0_2 u0_3 u0_4 u0_5 u0_6 u0_7 u0_8 u0_9 a1 u0_12 u0_13), (a1, o3 T1 u1_7 u1_8 u1_9 a2 u1_11 u1_12 u1_13 u1_14), (a2, ai E 12 V2)] sz) 0 0 (va_A [(a0, o11 T0 J0_15 J0_16 u0_0 u0_1 u0_2 u0_3 u0_4 u0_5 u0_6 u0_7 u0_8 u0_9 a1 u0_12 u0_13), (a1, o3 T1 u1_7 u1_8 u1_9 a2 u1_11 u1_12 u1_13 u1_14), (a2, ai E 12 V2)] sz) := by
  refine xM_i (by decide +kernel) (Nat.le_of_ble_eq_true rfl) ?_
  intro p e s m args below meth c A Q hx hb hml hown htg hK hG hA ret0 H locs ls hP hD hS hl
  have ret : ∀ (z' : Int32 × (Nat → Int32) × Int64 × Int64) {H : Heap} {locs : List Loc} {pc : Nat} {ls : Array Slot}, some z' = some z → narrow .boolean (.int z'.1) = .int z'.1 → va_P E.1 vwCl [(a0, o11 z'.2.1 z'.2.2.1 z'.2.2.2 u0_0 u0_1 u0_2 u0_3 u0_4 u0_5 u0_6 u0_7 u0_8 u0_9 a1 u0_12 u0_13), (a1, o3 T1 u1_7 u1_8 u1_9 a2 u1_11 u1_12 u1_13 u1_14), (a2, ai E 12 V2)] H → va_S A s.heap H locs → decode cX11_share pc = .ok (.ireturn, 1) → W p l e ({ frames := 2, cells := 0, slots := 0, locals := 56 } : Room) s m args below meth c H locs 0 0 Q (F0 m pc ls [.int z'.1]) := by
    intro z' H locs pc ls h
    cases h
    exact ret0
  replace hl : lv_has ls 2 [(0, .ref a0), (1, .int x1)] := hl
  unfold f_X11_share at hf
  refine lv_aload_n hx hb dX11_share_0 rfl (lv_at hl 0 rfl) ?_
  refine G11_79 hx hb htg hown hK hP 0 rfl dX11_share_1 ?_
  refine lv_iload_n hx hb dX11_share_4 rfl (lv_at hl 1 rfl) ?_
  obtain ⟨z5, hz5, hf⟩ := bind_s hf
  refine xV_ir hx hb hml hown htg L11_251 (c_X3_hasTraveller l E a1 hz5 _) ⟨⟨rfl, rfl⟩, Nat.le_of_ble_eq_true rfl, Nat.le_of_ble_eq_true rfl⟩ hK hG hA hP hD hS (is := [1]) rfl rfl (xrecv hK hP (q0 := 1) (ci := 3) rfl rfl) rfl hl.1 rfl (Nat.le_of_ble_eq_true rfl) dX11_share_5 (fun H locs hP hD hS => ?_)
  refine lv_if_ne (tgt := 17) hx hb dX11_share_8 (by decide) (fun c8 => ?_) (fun c8 => ?_)
  · have hf := it_f c8 hf
    refine lv_aload_n hx hb dX11_share_17 rfl (lv_at hl 0 rfl) ?_
    refine G11_79 hx hb htg hown hK hP 0 rfl dX11_share_18 ?_
    refine G11_205 hx hb htg hown hK hP 1 rfl dX11_share_21 ?_
    refine lv_if_ne (tgt := 34) hx hb dX11_share_24 (by decide) (fun c24 => ?_) (fun c24 => ?_)
    · have hf := it_f c24 hf
      refine lv_aload_n hx hb dX11_share_34 rfl (lv_at hl 0 rfl) ?_
      refine lv_aload_n hx hb dX11_share_35 rfl (lv_at hl 0 rfl) ?_
      refine G11_79 hx hb htg hown hK hP 0 rfl dX11_share_36 ?_
      refine lv_iload_n hx hb dX11_share_39 rfl (lv_at hl 1 rfl) ?_
      obtain ⟨z40, hz40, hf⟩ := bind_s hf
      refine xV_ir hx hb hml hown htg L11_261 (c_X3_tellingsBy l E a1 a2 hz40 _) ⟨⟨rfl, rfl⟩, Nat.le_of_ble_eq_true rfl, Nat.le_of_ble_eq_true rfl⟩ hK hG hA hP hD hS (is := [1, 2]) rfl rfl (xrecv hK hP (q0 := 1) (ci := 3) rfl rfl) rfl hl.1 rfl (Nat.le_of_ble_eq_true rfl) dX11_share_40 (fun H locs hP hD hS => ?_)
      refine lv_i2l hx hb dX11_share_43 rfl ?_
      refine lv_aload_n hx hb dX11_share_44 rfl (lv_at hl 0 rfl) ?_
      refine G11_79 hx hb htg hown hK hP 0 rfl dX11_share_45 ?_
      refine G11_205 hx hb htg hown hK hP 1 rfl dX11_share_48 ?_
      refine lv_i2l hx hb dX11_share_51 rfl ?_
      obtain ⟨z52, hz52, hf⟩ := bind_s hf
      refine xV_iu hx hb hml hown htg L11_305 (c_X11_toldFraction l E a0 hz52 _) ⟨⟨rfl, rfl⟩, Nat.le_of_ble_eq_true rfl, Nat.le_of_ble_eq_true rfl⟩ hK hG hA hP hD hS (is := [0]) (sel := [some 0, none, none]) (ws2 := [(a0, o11 z52.2.1 z52.2.2.1 z52.2.2.2 u0_0 u0_1 u0_2 u0_3 u0_4 u0_5 u0_6 u0_7 u0_8 u0_9 a1 u0_12 u0_13), (a1, o3 T1 u1_7 u1_8 u1_9 a2 u1_11 u1_12 u1_13 u1_14), (a2, ai E 12 V2)]) rfl rfl rfl rfl rfl (xrecv hK hP (q0 := 0) (ci := 11) rfl rfl) rfl hl.1 rfl (Nat.le_of_ble_eq_true rfl) dX11_share_52 (fun H locs hP hD hS => ?_)
      obtain ⟨g55, hf⟩ := ck_s hf
      exact ret (z52.1, z52.2.1, z52.2.2.1, z52.2.2.2) hf (bz_n g55).1 hP hS dX11_share_55
    · have hf := it_t c24 hf
      refine lv_aload_n hx hb dX11_share_27 rfl (lv_at hl 0 rfl) ?_
      refine lv_bipush (v := 8) hx hb dX11_share_28 rfl ?_
      obtain ⟨z30, hz30, hf⟩ := bind_s hf
      refine xV_iu hx hb hml hown htg L11_118 (c_X11_denied l E a0 hz30 _) ⟨⟨rfl, rfl⟩, Nat.le_of_ble_eq_true rfl, Nat.le_of_ble_eq_true rfl⟩ hK hG hA hP hD hS (is := [0]) (sel := [some 0, none, none]) (ws2 := [(a0, o11 z30.2 J0_15 J0_16 u0_0 u0_1 u0_2 u0_3 u0_4 u0_5 u0_6 u0_7 u0_8 u0_9 a1 u0_12 u0_13), (a1, o3 T1 u1_7 u1_8 u1_9 a2 u1_11 u1_12 u1_13 u1_14), (a2, ai E 12 V2)]) rfl rfl rfl rfl rfl (xrecv hK hP (q0 := 0) (ci := 11) rfl rfl) rfl hl.1 rfl (Nat.le_of_ble_eq_true rfl) dX11_share_30 (fun H locs hP hD hS => ?_)
      obtain ⟨g33, hf⟩ := ck_s hf
      exact ret (z30.1, z30.2, J0_15, J0_16) hf (bz_n g33).1 hP hS dX11_share_33
  · have hf := it_t c8 hf
    refine lv_aload_n hx hb dX11_share_11 rfl (lv_at hl 0 rfl) ?_
    refine lv_iconst (v := 2) hx hb dX11_share_12 rfl ?_
    obtain ⟨z13, hz13, hf⟩ := bind_s hf
    refine xV_iu hx hb hml hown htg L11_118 (c_X11_denied l E a0 hz13 _) ⟨⟨rfl, rfl⟩, Nat.le_of_ble_eq_true rfl, Nat.le_of_ble_eq_true rfl⟩ hK hG hA hP hD hS (is := [0]) (sel := [some 0, none, none]) (ws2 := [(a0, o11 z13.2 J0_15 J0_16 u0_0 u0_1 u0_2 u0_3 u0_4 u0_5 u0_6 u0_7 u0_8 u0_9 a1 u0_12 u0_13), (a1, o3 T1 u1_7 u1_8 u1_9 a2 u1_11 u1_12 u1_13 u1_14), (a2, ai E 12 V2)]) rfl rfl rfl rfl rfl (xrecv hK hP (q0 := 0) (ci := 11) rfl rfl) rfl hl.1 rfl (Nat.le_of_ble_eq_true rfl) dX11_share_13 (fun H locs hP hD hS => ?_)
    obtain ⟨g16, hf⟩ := ck_s hf
    exact ret (z13.1, z13.2, J0_15, J0_16) hf (bz_n g16).1 hP hS dX11_share_16
theorem dX11_live_0 : decode cX11_live 0 = .ok (.iload_n 1, 1) := by decide +kernel
theorem dX11_live_1 : decode cX11_live 1 = .ok (.iconst 0, 1) := by decide +kernel
theorem dX11_live_2 : decode cX11_live 2 = .ok (.sipush 9999, 3) := by decide +kernel
theorem dX11_live_5 : decode cX11_live 5 = .ok (.invokestatic 114, 3) := by decide +kernel
theorem dX11_live_8 : decode cX11_live 8 = .ok (.ifCond .ne 9, 3) := by decide +kernel
theorem dX11_live_11 : decode cX11_live 11 = .ok (.aload_n 0, 1) := by decide +kernel
theorem dX11_live_12 : decode cX11_live 12 = .ok (.iconst 5, 1) := by decide +kernel
theorem dX11_live_13 : decode cX11_live 13 = .ok (.invokevirtual 137, 3) := by decide +kernel
theorem dX11_live_16 : decode cX11_live 16 = .ok (.ireturn, 1) := by decide +kernel
theorem dX11_live_17 : decode cX11_live 17 = .ok (.aload_n 0, 1) := by decide +kernel
theorem dX11_live_18 : decode cX11_live 18 = .ok (.getfield 79, 3) := by decide +kernel
theorem dX11_live_21 : decode cX11_live 21 = .ok (.getfield 190, 3) := by decide +kernel
theorem dX11_live_24 : decode cX11_live 24 = .ok (.getfield 369, 3) := by decide +kernel
theorem dX11_live_27 : decode cX11_live 27 = .ok (.ifCond .ne 10, 3) := by decide +kernel
theorem dX11_live_30 : decode cX11_live 30 = .ok (.aload_n 0, 1) := by decide +kernel
theorem dX11_live_31 : decode cX11_live 31 = .ok (.bipush 8, 2) := by decide +kernel
theorem dX11_live_33 : decode cX11_live 33 = .ok (.invokevirtual 137, 3) := by decide +kernel
theorem dX11_live_36 : decode cX11_live 36 = .ok (.ireturn, 1) := by decide +kernel
theorem dX11_live_37 : decode cX11_live 37 = .ok (.aload_n 0, 1) := by decide +kernel
theorem dX11_live_38 : decode cX11_live 38 = .ok (.getfield 68, 3) := by decide +kernel
theorem dX11_live_41 : decode cX11_live 41 = .ok (.aload_n 0, 1) := by decide +kernel
theorem dX11_live_42 : decode cX11_live 42 = .ok (.getfield 79, 3) := by decide +kernel
theorem dX11_live_45 : decode cX11_live 45 = .ok (.iload_n 1, 1) := by decide +kernel
theorem dX11_live_46 : decode cX11_live 46 = .ok (.invokevirtual 373, 3) := by decide +kernel
theorem dX11_live_49 : decode cX11_live 49 = .ok (.istore_n 2, 1) := by decide +kernel
theorem dX11_live_50 : decode cX11_live 50 = .ok (.aload_n 0, 1) := by decide +kernel
theorem dX11_live_51 : decode cX11_live 51 = .ok (.getfield 68, 3) := by decide +kernel
theorem dX11_live_54 : decode cX11_live 54 = .ok (.invokevirtual 376, 3) := by decide +kernel
theorem dX11_live_57 : decode cX11_live 57 = .ok (.aload_n 0, 1) := by decide +kernel
theorem dX11_live_58 : decode cX11_live 58 = .ok (.iload_n 2, 1) := by decide +kernel
theorem dX11_live_59 : decode cX11_live 59 = .ok (.invokevirtual 179, 3) := by decide +kernel
theorem dX11_live_62 : decode cX11_live 62 = .ok (.ireturn, 1) := by decide +kernel
set_option maxRecDepth 100000 in
theorem c_X11_live (l : Launch) (E : xE) (a0 a1 a2 a3 a4 a5 a6 a7 a8 a9 a10 a11 a12 a13 a14 a15 a16 a17 a18 a19 a20 a21 a22 a23 : Nat) {T0 : Nat → Int32} {J0_15 : Int64} {J0_16 : Int64} {T1 : Nat → Int32} {T2 : Nat → Int32} {T3 : Nat → Int32} {V4 : Nat → Int32} {V5 : Nat → Int32} {V6 : Nat → Int32} {V7 : Nat → Int32} {V8 : Nat → Int32} {V9 : Nat → Int32} {V10 : Nat → Int32} {V11 : Nat → Int32} {V12 : Nat → Int32} {V14 : Nat → Int32} {T15 : Nat → Int32} {V16 : Nat → Int32} {V17 : Nat → Int32} {V18 : Nat → Int32} {V19 : Nat → Int32} {V20 : Nat → Int32} {V21 : Nat → Int32} {V22 : Nat → Int32} {V23 : Nat → Int32} {u0_0 u0_1 u0_2 u0_3 u0_4 u0_5 u0_6 u0_7 u0_9 u0_12 u0_13 u1_9 : Nat} {x1 : Int32} {z : Int32 × (Nat → Int32) × (Nat → Int32) × (Nat → Int32) × (Nat → Int32) × (Nat → Int32) × (Nat → Int32) × (Nat → Int32) × (Nat → Int32) × (Nat → Int32) × (Nat → Int32) × (Nat → Int32) × (Nat → Int32) × (Nat → Int32) × (Nat → Int32) × (Nat → Int32)} (hf : f_X11_live T0 T1 T2 T3 V4 V5 V6 V7 V8 V9 V10 V11 V12 V14 T15 V16 V17 V18 V19 V20 V21 V22 V23 x1 = some z) (sz : Nat) : Met l yX11_live (Cond.code yX11_live cX11_live 3 (some .int) :: gw) ({ frames := 6, cells := 0, slots := 0, locals := 149 }) (xPc E [.ref a0, .int x1] [(a0, o11 T0 J0_15 J0_16 u0_0 u0_1 u0_2 u0_3 u0_4 u0_5 u0_6 u0_7 a3 u0_9 a1 u0_12 u0_13), (a1, o3 T1 a19 a20 u1_9 a10 a9 a11 a12 a2), (a2, o0 T2 a5 a6 a7 a8 a22), (a3, o5 T3 a4 a23 a21 a13 a15), (a4, ai E 5 V4), (a5, ai E 60 V5), (a6, ai E 60 V6), (a7, ai E 60 V7), (a8, ai E 60 V8), (a9, ai E 12 V9), (a10, ai E 12 V10), (a11, ai E 12 V11), (a12, ai E 12 V12), (a13, o7 a14), (a14, ai E 144 V14), (a15, o6 T15 a18 a17 a16), (a16, ai E 37 V16), (a17, ai E 36 V17), (a18, ai E 36 V18), (a19, ai E 36 V19), (a20, ai E 5 V20), (a21, ai E 60 V21), (a22, ai E 60 V22), (a23, ai E 5 V23)] sz) (xQi E z.1 [(a0, o11 T0 J0_15 J0_16 u0_0 u0_1 u0_2 u0_3 u0_4 u0_5 u0_6 u0_7 a3 u0_9 a1 u0_12 u0_13), (a1, o3 T1 a19 a20 u1_9 a10 a9 a11 a12 a2), (a2, o0 T2 a5 a6 a7 a8 a22), (a3, o5 T3 a4 a23 a21 a13 a15), (a4, ai E 5 V4), (a5, ai E 60 V5), (a6, ai E 60 V6), (a7, ai E 60 V7), (a8, ai E 60 V8), (a9, ai E 12 V9), (a10, ai E 12 V10), (a11, ai E 12 V11), (a12, ai E 12 V12), (a13, o7 a14), (a14, ai E 144 V14), (a15, o6 T15 a18 a17 a16), (a16, ai E 37 V16), (a17, ai E 36 V17), (a18, ai E 36 V18), (a19, ai E 36 V19), (a20, ai E 5 V20), (a21, ai E 60 V21), (a22, ai E 60 V22), (a23, ai E 5 V23)] [(a0, o11 z.2.1 J0_15 J0_16 u0_0 u0_1 u0_2 u0_3 u0_4 u0_5 u0_6 u0_7 a3 u0_9 a1 u0_12 u0_13), (a1, o3 z.2.2.1 a19 a20 u1_9 a10 a9 a11 a12 a2), (a2, o0 T2 a5 a6 a7 a8 a22), (a3, o5 z.2.2.2.1 a4 a23 a21 a13 a15), (a4, ai E 5 z.2.2.2.2.1), (a5, ai E 60 V5), (a6, ai E 60 V6), (a7, ai E 60 V7), (a8, ai E 60 V8), (a9, ai E 12 z.2.2.2.2.2.1), (a10, ai E 12 z.2.2.2.2.2.2.1), (a11, ai E 12 z.2.2.2.2.2.2.2.1), (a12, ai E 12 z.2.2.2.2.2.2.2.2.1), (a13, o7 a14), (a14, ai E 144 z.2.2.2.2.2.2.2.2.2.1), (a15, o6 z.2.2.2.2.2.2.2.2.2.2.1 a18 a17 a16), (a16, ai E 37 z.2.2.2.2.2.2.2.2.2.2.2.1), (a17, ai E 36 z.2.2.2.2.2.2.2.2.2.2.2.2.1), (a18, ai E 36 z.2.2.2.2.2.2.2.2.2.2.2.2.2.1), (a19, ai E 36 V19), (a20, ai E 5 V20), (a21, ai E 60 z.2.2.2.2.2.2.2.2.2.2.2.2.2.2.1), (a22, ai E 60 V22), (a23, ai E 5 z.2.2.2.2.2.2.2.2.2.2.2.2.2.2.2)] sz) 0 0 (va_A [(a0, o11 T0 J0_15 J0_16 u0_0 u0_1 u0_2 u0_3 u0_4 u0_5 u0_6 u0_7 a3 u0_9 a1 u0_12 u0_13), (a1, o3 T1 a19 a20 u1_9 a10 a9 a11 a12 a2), (a2, o0 T2 a5 a6 a7 a8 a22), (a3, o5 T3 a4 a23 a21 a13 a15), (a4, ai E 5 V4), (a5, ai E 60 V5), (a6, ai E 60 V6), (a7, ai E 60 V7), (a8, ai E 60 V8), (a9, ai E 12 V9), (a10, ai E 12 V10), (a11, ai E 12 V11), (a12, ai E 12 V12), (a13, o7 a14), (a14, ai E 144 V14), (a15, o6 T15 a18 a17 a16), (a16, ai E 37 V16), (a17, ai E 36 V17), (a18, ai E 36 V18), (a19, ai E 36 V19), (a20, ai E 5 V20), (a21, ai E 60 V21), (a22, ai E 60 V22), (a23, ai E 5 V23)] sz) := by
  refine xM_i (by decide +kernel) (Nat.le_of_ble_eq_true rfl) ?_
  intro p e s m args below meth c A Q hx hb hml hown htg hK hG hA ret0 H locs ls hP hD hS hl
  have ret : ∀ (z' : Int32 × (Nat → Int32) × (Nat → Int32) × (Nat → Int32) × (Nat → Int32) × (Nat → Int32) × (Nat → Int32) × (Nat → Int32) × (Nat → Int32) × (Nat → Int32) × (Nat → Int32) × (Nat → Int32) × (Nat → Int32) × (Nat → Int32) × (Nat → Int32) × (Nat → Int32)) {H : Heap} {locs : List Loc} {pc : Nat} {ls : Array Slot}, some z' = some z → narrow .int (.int z'.1) = .int z'.1 → va_P E.1 vwCl [(a0, o11 z'.2.1 J0_15 J0_16 u0_0 u0_1 u0_2 u0_3 u0_4 u0_5 u0_6 u0_7 a3 u0_9 a1 u0_12 u0_13), (a1, o3 z'.2.2.1 a19 a20 u1_9 a10 a9 a11 a12 a2), (a2, o0 T2 a5 a6 a7 a8 a22), (a3, o5 z'.2.2.2.1 a4 a23 a21 a13 a15), (a4, ai E 5 z'.2.2.2.2.1), (a5, ai E 60 V5), (a6, ai E 60 V6), (a7, ai E 60 V7), (a8, ai E 60 V8), (a9, ai E 12 z'.2.2.2.2.2.1), (a10, ai E 12 z'.2.2.2.2.2.2.1), (a11, ai E 12 z'.2.2.2.2.2.2.2.1), (a12, ai E 12 z'.2.2.2.2.2.2.2.2.1), (a13, o7 a14), (a14, ai E 144 z'.2.2.2.2.2.2.2.2.2.1), (a15, o6 z'.2.2.2.2.2.2.2.2.2.2.1 a18 a17 a16), (a16, ai E 37 z'.2.2.2.2.2.2.2.2.2.2.2.1), (a17, ai E 36 z'.2.2.2.2.2.2.2.2.2.2.2.2.1), (a18, ai E 36 z'.2.2.2.2.2.2.2.2.2.2.2.2.2.1), (a19, ai E 36 V19), (a20, ai E 5 V20), (a21, ai E 60 z'.2.2.2.2.2.2.2.2.2.2.2.2.2.2.1), (a22, ai E 60 V22), (a23, ai E 5 z'.2.2.2.2.2.2.2.2.2.2.2.2.2.2.2)] H → va_S A s.heap H locs → decode cX11_live pc = .ok (.ireturn, 1) → W p l e ({ frames := 6, cells := 0, slots := 0, locals := 149 } : Room) s m args below meth c H locs 0 0 Q (F0 m pc ls [.int z'.1]) := by
    intro z' H locs pc ls h
    cases h
    exact ret0
  replace hl : lv_has ls 3 [(0, .ref a0), (1, .int x1)] := hl
  unfold f_X11_live at hf
  refine lv_iload_n hx hb dX11_live_0 rfl (lv_at hl 1 rfl) ?_
  refine lv_iconst (v := 0) hx hb dX11_live_1 rfl ?_
  refine lv_sipush (v := 9999) hx hb dX11_live_2 rfl ?_
  obtain ⟨z5, hz5, hf⟩ := bind_s hf
  refine xS_ir hx hb hml hown htg L11_114 (c_X11_within l E hz5 _) ⟨⟨rfl, rfl⟩, Nat.le_of_ble_eq_true rfl, Nat.le_of_ble_eq_true rfl⟩ hK hG hA hP hD hS (is := []) rfl rfl rfl hl.1 rfl (Nat.le_of_ble_eq_true rfl) dX11_live_5 (fun H locs hP hD hS => ?_)
  refine lv_if_ne (tgt := 17) hx hb dX11_live_8 (by decide) (fun c8 => ?_) (fun c8 => ?_)
  · have hf := it_f c8 hf
    refine lv_aload_n hx hb dX11_live_17 rfl (lv_at hl 0 rfl) ?_
    refine G11_79 hx hb htg hown hK hP 0 rfl dX11_live_18 ?_
    refine G11_190 hx hb htg hown hK hP 1 rfl dX11_live_21 ?_
    refine G11_369 hx hb htg hown hK hP 2 rfl dX11_live_24 ?_
    refine lv_if_ne (tgt := 37) hx hb dX11_live_27 (by decide) (fun c27 => ?_) (fun c27 => ?_)
    · have hf := it_f c27 hf
      refine lv_aload_n hx hb dX11_live_37 rfl (lv_at hl 0 rfl) ?_
      refine G11_68 hx hb htg hown hK hP 0 rfl dX11_live_38 ?_
      refine lv_aload_n hx hb dX11_live_41 rfl (lv_at hl 0 rfl) ?_
      refine G11_79 hx hb htg hown hK hP 0 rfl dX11_live_42 ?_
      refine lv_iload_n hx hb dX11_live_45 rfl (lv_at hl 1 rfl) ?_
      obtain ⟨z46, hz46, hf⟩ := bind_s hf
      refine xV_iu hx hb hml hown htg L11_373 (c_X5_pass l E a3 a1 a4 a2 a5 a6 a7 a8 a9 a10 a11 a12 a13 a14 a15 a16 a17 a18 a19 a20 a21 a22 hz46 _) ⟨⟨rfl, rfl⟩, Nat.le_of_ble_eq_true rfl, Nat.le_of_ble_eq_true rfl⟩ hK hG hA hP hD hS (is := [3, 1, 4, 2, 5, 6, 7, 8, 9, 10, 11, 12, 13, 14, 15, 16, 17, 18, 19, 20, 21, 22]) (sel := [none, some 1, some 3, some 0, some 2, some 4, some 5, some 6, some 7, some 8, some 9, some 10, some 11, some 12, some 13, some 14, some 15, some 16, some 17, some 18, some 19, some 20, some 21, none]) (ws2 := [(a0, o11 T0 J0_15 J0_16 u0_0 u0_1 u0_2 u0_3 u0_4 u0_5 u0_6 u0_7 a3 u0_9 a1 u0_12 u0_13), (a1, o3 z46.2.2.1 a19 a20 u1_9 a10 a9 a11 a12 a2), (a2, o0 T2 a5 a6 a7 a8 a22), (a3, o5 z46.2.1 a4 a23 a21 a13 a15), (a4, ai E 5 z46.2.2.2.1), (a5, ai E 60 V5), (a6, ai E 60 V6), (a7, ai E 60 V7), (a8, ai E 60 V8), (a9, ai E 12 z46.2.2.2.2.1), (a10, ai E 12 z46.2.2.2.2.2.1), (a11, ai E 12 z46.2.2.2.2.2.2.1), (a12, ai E 12 z46.2.2.2.2.2.2.2.1), (a13, o7 a14), (a14, ai E 144 z46.2.2.2.2.2.2.2.2.1), (a15, o6 z46.2.2.2.2.2.2.2.2.2.1 a18 a17 a16), (a16, ai E 37 z46.2.2.2.2.2.2.2.2.2.2.1), (a17, ai E 36 z46.2.2.2.2.2.2.2.2.2.2.2.1), (a18, ai E 36 z46.2.2.2.2.2.2.2.2.2.2.2.2.1), (a19, ai E 36 V19), (a20, ai E 5 V20), (a21, ai E 60 z46.2.2.2.2.2.2.2.2.2.2.2.2.2), (a22, ai E 60 V22), (a23, ai E 5 V23)]) rfl rfl rfl rfl rfl (xrecv hK hP (q0 := 3) (ci := 5) rfl rfl) rfl hl.1 rfl (Nat.le_of_ble_eq_true rfl) dX11_live_46 (fun H locs hP hD hS => ?_)
      refine lv_istore_n (lv' := [(2, .int z46.1), (0, .ref a0), (1, .int x1)]) hx hb dX11_live_49 rfl hl (by decide) rfl (fun ls hl => ?_)
      refine lv_aload_n hx hb dX11_live_50 rfl (lv_at hl 1 rfl) ?_
      refine G11_68 hx hb htg hown hK hP 0 rfl dX11_live_51 ?_
      obtain ⟨z54, hz54, hf⟩ := bind_s hf
      refine xV_vu hx hb hml hown htg L11_376 (c_X5_keepDeeds l E a3 a4 a23 hz54 _) ⟨⟨rfl, rfl⟩, Nat.le_of_ble_eq_true rfl, Nat.le_of_ble_eq_true rfl⟩ hK hG hA hP hD hS (is := [3, 4, 23]) (sel := [none, none, none, some 0, some 1, none, none, none, none, none, none, none, none, none, none, none, none, none, none, none, none, none, none, some 2]) (ws2 := [(a0, o11 T0 J0_15 J0_16 u0_0 u0_1 u0_2 u0_3 u0_4 u0_5 u0_6 u0_7 a3 u0_9 a1 u0_12 u0_13), (a1, o3 z46.2.2.1 a19 a20 u1_9 a10 a9 a11 a12 a2), (a2, o0 T2 a5 a6 a7 a8 a22), (a3, o5 z54.1 a4 a23 a21 a13 a15), (a4, ai E 5 z46.2.2.2.1), (a5, ai E 60 V5), (a6, ai E 60 V6), (a7, ai E 60 V7), (a8, ai E 60 V8), (a9, ai E 12 z46.2.2.2.2.1), (a10, ai E 12 z46.2.2.2.2.2.1), (a11, ai E 12 z46.2.2.2.2.2.2.1), (a12, ai E 12 z46.2.2.2.2.2.2.2.1), (a13, o7 a14), (a14, ai E 144 z46.2.2.2.2.2.2.2.2.1), (a15, o6 z46.2.2.2.2.2.2.2.2.2.1 a18 a17 a16), (a16, ai E 37 z46.2.2.2.2.2.2.2.2.2.2.1), (a17, ai E 36 z46.2.2.2.2.2.2.2.2.2.2.2.1), (a18, ai E 36 z46.2.2.2.2.2.2.2.2.2.2.2.2.1), (a19, ai E 36 V19), (a20, ai E 5 V20), (a21, ai E 60 z46.2.2.2.2.2.2.2.2.2.2.2.2.2), (a22, ai E 60 V22), (a23, ai E 5 z54.2)]) rfl rfl rfl rfl rfl (xrecv hK hP (q0 := 3) (ci := 5) rfl rfl) rfl hl.1 rfl (Nat.le_of_ble_eq_true rfl) dX11_live_54 (fun H locs hP hD hS => ?_)
      refine lv_aload_n hx hb dX11_live_57 rfl (lv_at hl 1 rfl) ?_
      refine lv_iload_n hx hb dX11_live_58 rfl (lv_at hl 0 rfl) ?_
      obtain ⟨z59, hz59, hf⟩ := bind_s hf
      refine xV_iu hx hb hml hown htg L11_179 (c_X11_answer l E a0 hz59 _) ⟨⟨rfl, rfl⟩, Nat.le_of_ble_eq_true rfl, Nat.le_of_ble_eq_true rfl⟩ hK hG hA hP hD hS (is := [0]) (sel := [some 0, none, none, none, none, none, none, none, none, none, none, none, none, none, none, none, none, none, none, none, none, none, none, none]) (ws2 := [(a0, o11 z59.2 J0_15 J0_16 u0_0 u0_1 u0_2 u0_3 u0_4 u0_5 u0_6 u0_7 a3 u0_9 a1 u0_12 u0_13), (a1, o3 z46.2.2.1 a19 a20 u1_9 a10 a9 a11 a12 a2), (a2, o0 T2 a5 a6 a7 a8 a22), (a3, o5 z54.1 a4 a23 a21 a13 a15), (a4, ai E 5 z46.2.2.2.1), (a5, ai E 60 V5), (a6, ai E 60 V6), (a7, ai E 60 V7), (a8, ai E 60 V8), (a9, ai E 12 z46.2.2.2.2.1), (a10, ai E 12 z46.2.2.2.2.2.1), (a11, ai E 12 z46.2.2.2.2.2.2.1), (a12, ai E 12 z46.2.2.2.2.2.2.2.1), (a13, o7 a14), (a14, ai E 144 z46.2.2.2.2.2.2.2.2.1), (a15, o6 z46.2.2.2.2.2.2.2.2.2.1 a18 a17 a16), (a16, ai E 37 z46.2.2.2.2.2.2.2.2.2.2.1), (a17, ai E 36 z46.2.2.2.2.2.2.2.2.2.2.2.1), (a18, ai E 36 z46.2.2.2.2.2.2.2.2.2.2.2.2.1), (a19, ai E 36 V19), (a20, ai E 5 V20), (a21, ai E 60 z46.2.2.2.2.2.2.2.2.2.2.2.2.2), (a22, ai E 60 V22), (a23, ai E 5 z54.2)]) rfl rfl rfl rfl rfl (xrecv hK hP (q0 := 0) (ci := 11) rfl rfl) rfl hl.1 rfl (Nat.le_of_ble_eq_true rfl) dX11_live_59 (fun H locs hP hD hS => ?_)
      exact ret (z59.1, z59.2, z46.2.2.1, z54.1, z46.2.2.2.1, z46.2.2.2.2.1, z46.2.2.2.2.2.1, z46.2.2.2.2.2.2.1, z46.2.2.2.2.2.2.2.1, z46.2.2.2.2.2.2.2.2.1, z46.2.2.2.2.2.2.2.2.2.1, z46.2.2.2.2.2.2.2.2.2.2.1, z46.2.2.2.2.2.2.2.2.2.2.2.1, z46.2.2.2.2.2.2.2.2.2.2.2.2.1, z46.2.2.2.2.2.2.2.2.2.2.2.2.2, z54.2) hf nzi hP hS dX11_live_62
    · have hf := it_t c27 hf
      refine lv_aload_n hx hb dX11_live_30 rfl (lv_at hl 0 rfl) ?_
      refine lv_bipush (v := 8) hx hb dX11_live_31 rfl ?_
      obtain ⟨z33, hz33, hf⟩ := bind_s hf
      refine xV_iu hx hb hml hown htg L11_137 (c_X11_refused l E a0 hz33 _) ⟨⟨rfl, rfl⟩, Nat.le_of_ble_eq_true rfl, Nat.le_of_ble_eq_true rfl⟩ hK hG hA hP hD hS (is := [0]) (sel := [some 0, none, none, none, none, none, none, none, none, none, none, none, none, none, none, none, none, none, none, none, none, none, none, none]) (ws2 := [(a0, o11 z33.2 J0_15 J0_16 u0_0 u0_1 u0_2 u0_3 u0_4 u0_5 u0_6 u0_7 a3 u0_9 a1 u0_12 u0_13), (a1, o3 T1 a19 a20 u1_9 a10 a9 a11 a12 a2), (a2, o0 T2 a5 a6 a7 a8 a22), (a3, o5 T3 a4 a23 a21 a13 a15), (a4, ai E 5 V4), (a5, ai E 60 V5), (a6, ai E 60 V6), (a7, ai E 60 V7), (a8, ai E 60 V8), (a9, ai E 12 V9), (a10, ai E 12 V10), (a11, ai E 12 V11), (a12, ai E 12 V12), (a13, o7 a14), (a14, ai E 144 V14), (a15, o6 T15 a18 a17 a16), (a16, ai E 37 V16), (a17, ai E 36 V17), (a18, ai E 36 V18), (a19, ai E 36 V19), (a20, ai E 5 V20), (a21, ai E 60 V21), (a22, ai E 60 V22), (a23, ai E 5 V23)]) rfl rfl rfl rfl rfl (xrecv hK hP (q0 := 0) (ci := 11) rfl rfl) rfl hl.1 rfl (Nat.le_of_ble_eq_true rfl) dX11_live_33 (fun H locs hP hD hS => ?_)
      exact ret (z33.1, z33.2, T1, T3, V4, V9, V10, V11, V12, V14, T15, V16, V17, V18, V21, V23) hf nzi hP hS dX11_live_36
  · have hf := it_t c8 hf
    refine lv_aload_n hx hb dX11_live_11 rfl (lv_at hl 0 rfl) ?_
    refine lv_iconst (v := 5) hx hb dX11_live_12 rfl ?_
    obtain ⟨z13, hz13, hf⟩ := bind_s hf
    refine xV_iu hx hb hml hown htg L11_137 (c_X11_refused l E a0 hz13 _) ⟨⟨rfl, rfl⟩, Nat.le_of_ble_eq_true rfl, Nat.le_of_ble_eq_true rfl⟩ hK hG hA hP hD hS (is := [0]) (sel := [some 0, none, none, none, none, none, none, none, none, none, none, none, none, none, none, none, none, none, none, none, none, none, none, none]) (ws2 := [(a0, o11 z13.2 J0_15 J0_16 u0_0 u0_1 u0_2 u0_3 u0_4 u0_5 u0_6 u0_7 a3 u0_9 a1 u0_12 u0_13), (a1, o3 T1 a19 a20 u1_9 a10 a9 a11 a12 a2), (a2, o0 T2 a5 a6 a7 a8 a22), (a3, o5 T3 a4 a23 a21 a13 a15), (a4, ai E 5 V4), (a5, ai E 60 V5), (a6, ai E 60 V6), (a7, ai E 60 V7), (a8, ai E 60 V8), (a9, ai E 12 V9), (a10, ai E 12 V10), (a11, ai E 12 V11), (a12, ai E 12 V12), (a13, o7 a14), (a14, ai E 144 V14), (a15, o6 T15 a18 a17 a16), (a16, ai E 37 V16), (a17, ai E 36 V17), (a18, ai E 36 V18), (a19, ai E 36 V19), (a20, ai E 5 V20), (a21, ai E 60 V21), (a22, ai E 60 V22), (a23, ai E 5 V23)]) rfl rfl rfl rfl rfl (xrecv hK hP (q0 := 0) (ci := 11) rfl rfl) rfl hl.1 rfl (Nat.le_of_ble_eq_true rfl) dX11_live_13 (fun H locs hP hD hS => ?_)
    exact ret (z13.1, z13.2, T1, T3, V4, V9, V10, V11, V12, V14, T15, V16, V17, V18, V21, V23) hf nzi hP hS dX11_live_16
theorem dX11_lived_0 : decode cX11_lived 0 = .ok (.iload_n 1, 1) := by decide +kernel
theorem dX11_lived_1 : decode cX11_lived 1 = .ok (.iconst 0, 1) := by decide +kernel
theorem dX11_lived_2 : decode cX11_lived 2 = .ok (.iconst 4, 1) := by decide +kernel
theorem dX11_lived_3 : decode cX11_lived 3 = .ok (.invokestatic 114, 3) := by decide +kernel
theorem dX11_lived_6 : decode cX11_lived 6 = .ok (.ifCond .ne 9, 3) := by decide +kernel
theorem dX11_lived_9 : decode cX11_lived 9 = .ok (.aload_n 0, 1) := by decide +kernel
theorem dX11_lived_10 : decode cX11_lived 10 = .ok (.iconst 5, 1) := by decide +kernel
theorem dX11_lived_11 : decode cX11_lived 11 = .ok (.invokevirtual 137, 3) := by decide +kernel
theorem dX11_lived_14 : decode cX11_lived 14 = .ok (.ireturn, 1) := by decide +kernel
theorem dX11_lived_15 : decode cX11_lived 15 = .ok (.aload_n 0, 1) := by decide +kernel
theorem dX11_lived_16 : decode cX11_lived 16 = .ok (.getfield 68, 3) := by decide +kernel
theorem dX11_lived_19 : decode cX11_lived 19 = .ok (.invokevirtual 379, 3) := by decide +kernel
theorem dX11_lived_22 : decode cX11_lived 22 = .ok (.ifCond .eq 18, 3) := by decide +kernel
theorem dX11_lived_25 : decode cX11_lived 25 = .ok (.aload_n 0, 1) := by decide +kernel
theorem dX11_lived_26 : decode cX11_lived 26 = .ok (.aload_n 0, 1) := by decide +kernel
theorem dX11_lived_27 : decode cX11_lived 27 = .ok (.getfield 68, 3) := by decide +kernel
theorem dX11_lived_30 : decode cX11_lived 30 = .ok (.iload_n 1, 1) := by decide +kernel
theorem dX11_lived_31 : decode cX11_lived 31 = .ok (.invokevirtual 382, 3) := by decide +kernel
theorem dX11_lived_34 : decode cX11_lived 34 = .ok (.invokevirtual 179, 3) := by decide +kernel
theorem dX11_lived_37 : decode cX11_lived 37 = .ok (.goto 9, 3) := by decide +kernel
theorem dX11_lived_40 : decode cX11_lived 40 = .ok (.aload_n 0, 1) := by decide +kernel
theorem dX11_lived_41 : decode cX11_lived 41 = .ok (.bipush 8, 2) := by decide +kernel
theorem dX11_lived_43 : decode cX11_lived 43 = .ok (.invokevirtual 137, 3) := by decide +kernel
theorem dX11_lived_46 : decode cX11_lived 46 = .ok (.ireturn, 1) := by decide +kernel
set_option maxRecDepth 100000 in
theorem c_X11_lived (l : Launch) (E : xE) (a0 a1 a2 : Nat) {T0 : Nat → Int32} {J0_15 : Int64} {J0_16 : Int64} {T1 : Nat → Int32} {V2 : Nat → Int32} {u0_0 u0_1 u0_2 u0_3 u0_4 u0_5 u0_6 u0_7 u0_9 u0_11 u0_12 u0_13 u1_0 u1_3 u1_4 u1_5 : Nat} {x1 : Int32} {z : Int32 × (Nat → Int32)} (hf : f_X11_lived T0 T1 V2 x1 = some z) (sz : Nat) : Met l yX11_lived (Cond.code yX11_lived cX11_lived 2 (some .int) :: gw) ({ frames := 2, cells := 0, slots := 0, locals := 43 }) (xPc E [.ref a0, .int x1] [(a0, o11 T0 J0_15 J0_16 u0_0 u0_1 u0_2 u0_3 u0_4 u0_5 u0_6 u0_7 a1 u0_9 u0_11 u0_12 u0_13), (a1, o5 T1 u1_0 a2 u1_3 u1_4 u1_5), (a2, ai E 5 V2)] sz) (xQi E z.1 [(a0, o11 T0 J0_15 J0_16 u0_0 u0_1 u0_2 u0_3 u0_4 u0_5 u0_6 u0_7 a1 u0_9 u0_11 u0_12 u0_13), (a1, o5 T1 u1_0 a2 u1_3 u1_4 u1_5), (a2, ai E 5 V2)] [(a0, o11 z.2 J0_15 J0_16 u0_0 u0_1 u0_2 u0_3 u0_4 u0_5 u0_6 u0_7 a1 u0_9 u0_11 u0_12 u0_13), (a1, o5 T1 u1_0 a2 u1_3 u1_4 u1_5), (a2, ai E 5 V2)] sz) 0 0 (va_A [(a0, o11 T0 J0_15 J0_16 u0_0 u0_1 u0_2 u0_3 u0_4 u0_5 u0_6 u0_7 a1 u0_9 u0_11 u0_12 u0_13), (a1, o5 T1 u1_0 a2 u1_3 u1_4 u1_5), (a2, ai E 5 V2)] sz) := by
  refine xM_i (by decide +kernel) (Nat.le_of_ble_eq_true rfl) ?_
  intro p e s m args below meth c A Q hx hb hml hown htg hK hG hA ret0 H locs ls hP hD hS hl
  have ret : ∀ (z' : Int32 × (Nat → Int32)) {H : Heap} {locs : List Loc} {pc : Nat} {ls : Array Slot}, some z' = some z → narrow .int (.int z'.1) = .int z'.1 → va_P E.1 vwCl [(a0, o11 z'.2 J0_15 J0_16 u0_0 u0_1 u0_2 u0_3 u0_4 u0_5 u0_6 u0_7 a1 u0_9 u0_11 u0_12 u0_13), (a1, o5 T1 u1_0 a2 u1_3 u1_4 u1_5), (a2, ai E 5 V2)] H → va_S A s.heap H locs → decode cX11_lived pc = .ok (.ireturn, 1) → W p l e ({ frames := 2, cells := 0, slots := 0, locals := 43 } : Room) s m args below meth c H locs 0 0 Q (F0 m pc ls [.int z'.1]) := by
    intro z' H locs pc ls h
    cases h
    exact ret0
  replace hl : lv_has ls 2 [(0, .ref a0), (1, .int x1)] := hl
  unfold f_X11_lived at hf
  refine lv_iload_n hx hb dX11_lived_0 rfl (lv_at hl 1 rfl) ?_
  refine lv_iconst (v := 0) hx hb dX11_lived_1 rfl ?_
  refine lv_iconst (v := 4) hx hb dX11_lived_2 rfl ?_
  obtain ⟨z3, hz3, hf⟩ := bind_s hf
  refine xS_ir hx hb hml hown htg L11_114 (c_X11_within l E hz3 _) ⟨⟨rfl, rfl⟩, Nat.le_of_ble_eq_true rfl, Nat.le_of_ble_eq_true rfl⟩ hK hG hA hP hD hS (is := []) rfl rfl rfl hl.1 rfl (Nat.le_of_ble_eq_true rfl) dX11_lived_3 (fun H locs hP hD hS => ?_)
  refine lv_if_ne (tgt := 15) hx hb dX11_lived_6 (by decide) (fun c6 => ?_) (fun c6 => ?_)
  · have hf := it_f c6 hf
    refine lv_aload_n hx hb dX11_lived_15 rfl (lv_at hl 0 rfl) ?_
    refine G11_68 hx hb htg hown hK hP 0 rfl dX11_lived_16 ?_
    obtain ⟨z19, hz19, hf⟩ := bind_s hf
    refine xV_ir hx hb hml hown htg L11_379 (c_X5_hasKept l E a1 hz19 _) ⟨⟨rfl, rfl⟩, Nat.le_of_ble_eq_true rfl, Nat.le_of_ble_eq_true rfl⟩ hK hG hA hP hD hS (is := [1]) rfl rfl (xrecv hK hP (q0 := 1) (ci := 5) rfl rfl) rfl hl.1 rfl (Nat.le_of_ble_eq_true rfl) dX11_lived_19 (fun H locs hP hD hS => ?_)
    refine lv_if_eq (tgt := 40) hx hb dX11_lived_22 (by decide) (fun c22 => ?_) (fun c22 => ?_)
    · have hf := it_t c22 hf
      refine lv_aload_n hx hb dX11_lived_40 rfl (lv_at hl 0 rfl) ?_
      refine lv_bipush (v := 8) hx hb dX11_lived_41 rfl ?_
      obtain ⟨z43, hz43, hf⟩ := bind_s hf
      refine xV_iu hx hb hml hown htg L11_137 (c_X11_refused l E a0 hz43 _) ⟨⟨rfl, rfl⟩, Nat.le_of_ble_eq_true rfl, Nat.le_of_ble_eq_true rfl⟩ hK hG hA hP hD hS (is := [0]) (sel := [some 0, none, none]) (ws2 := [(a0, o11 z43.2 J0_15 J0_16 u0_0 u0_1 u0_2 u0_3 u0_4 u0_5 u0_6 u0_7 a1 u0_9 u0_11 u0_12 u0_13), (a1, o5 T1 u1_0 a2 u1_3 u1_4 u1_5), (a2, ai E 5 V2)]) rfl rfl rfl rfl rfl (xrecv hK hP (q0 := 0) (ci := 11) rfl rfl) rfl hl.1 rfl (Nat.le_of_ble_eq_true rfl) dX11_lived_43 (fun H locs hP hD hS => ?_)
      exact ret (z43.1, z43.2) hf nzi hP hS dX11_lived_46
    · have hf := it_f c22 hf
      refine lv_aload_n hx hb dX11_lived_25 rfl (lv_at hl 0 rfl) ?_
      refine lv_aload_n hx hb dX11_lived_26 rfl (lv_at hl 0 rfl) ?_
      refine G11_68 hx hb htg hown hK hP 0 rfl dX11_lived_27 ?_
      refine lv_iload_n hx hb dX11_lived_30 rfl (lv_at hl 1 rfl) ?_
      obtain ⟨z31, hz31, hf⟩ := bind_s hf
      refine xV_ir hx hb hml hown htg L11_382 (c_X5_keptDeed l E a1 a2 hz31 _) ⟨⟨rfl, rfl⟩, Nat.le_of_ble_eq_true rfl, Nat.le_of_ble_eq_true rfl⟩ hK hG hA hP hD hS (is := [1, 2]) rfl rfl (xrecv hK hP (q0 := 1) (ci := 5) rfl rfl) rfl hl.1 rfl (Nat.le_of_ble_eq_true rfl) dX11_lived_31 (fun H locs hP hD hS => ?_)
      obtain ⟨z34, hz34, hf⟩ := bind_s hf
      refine xV_iu hx hb hml hown htg L11_179 (c_X11_answer l E a0 hz34 _) ⟨⟨rfl, rfl⟩, Nat.le_of_ble_eq_true rfl, Nat.le_of_ble_eq_true rfl⟩ hK hG hA hP hD hS (is := [0]) (sel := [some 0, none, none]) (ws2 := [(a0, o11 z34.2 J0_15 J0_16 u0_0 u0_1 u0_2 u0_3 u0_4 u0_5 u0_6 u0_7 a1 u0_9 u0_11 u0_12 u0_13), (a1, o5 T1 u1_0 a2 u1_3 u1_4 u1_5), (a2, ai E 5 V2)]) rfl rfl rfl rfl rfl (xrecv hK hP (q0 := 0) (ci := 11) rfl rfl) rfl hl.1 rfl (Nat.le_of_ble_eq_true rfl) dX11_lived_34 (fun H locs hP hD hS => ?_)
      refine lv_goto (tgt := 46) hx hb dX11_lived_37 (by decide) ?_
      exact ret (z34.1, z34.2) hf nzi hP hS dX11_lived_46
  · have hf := it_t c6 hf
    refine lv_aload_n hx hb dX11_lived_9 rfl (lv_at hl 0 rfl) ?_
    refine lv_iconst (v := 5) hx hb dX11_lived_10 rfl ?_
    obtain ⟨z11, hz11, hf⟩ := bind_s hf
    refine xV_iu hx hb hml hown htg L11_137 (c_X11_refused l E a0 hz11 _) ⟨⟨rfl, rfl⟩, Nat.le_of_ble_eq_true rfl, Nat.le_of_ble_eq_true rfl⟩ hK hG hA hP hD hS (is := [0]) (sel := [some 0, none, none]) (ws2 := [(a0, o11 z11.2 J0_15 J0_16 u0_0 u0_1 u0_2 u0_3 u0_4 u0_5 u0_6 u0_7 a1 u0_9 u0_11 u0_12 u0_13), (a1, o5 T1 u1_0 a2 u1_3 u1_4 u1_5), (a2, ai E 5 V2)]) rfl rfl rfl rfl rfl (xrecv hK hP (q0 := 0) (ci := 11) rfl rfl) rfl hl.1 rfl (Nat.le_of_ble_eq_true rfl) dX11_lived_11 (fun H locs hP hD hS => ?_)
    exact ret (z11.1, z11.2) hf nzi hP hS dX11_lived_14
theorem dX11_mean_0 : decode cX11_mean 0 = .ok (.iload_n 2, 1) := by decide +kernel
theorem dX11_mean_1 : decode cX11_mean 1 = .ok (.iconst 1, 1) := by decide +kernel
theorem dX11_mean_2 : decode cX11_mean 2 = .ok (.bipush 20, 2) := by decide +kernel
theorem dX11_mean_4 : decode cX11_mean 4 = .ok (.invokestatic 114, 3) := by decide +kernel
theorem dX11_mean_7 : decode cX11_mean 7 = .ok (.ifCond .eq 18, 3) := by decide +kernel
theorem dX11_mean_10 : decode cX11_mean 10 = .ok (.iload_n 1, 1) := by decide +kernel
theorem dX11_mean_11 : decode cX11_mean 11 = .ok (.iconst 0, 1) := by decide +kernel
theorem dX11_mean_12 : decode cX11_mean 12 = .ok (.sipush 9999, 3) := by decide +kernel
theorem dX11_mean_15 : decode cX11_mean 15 = .ok (.iload_n 2, 1) := by decide +kernel
theorem dX11_mean_16 : decode cX11_mean 16 = .ok (.isub, 1) := by decide +kernel
theorem dX11_mean_17 : decode cX11_mean 17 = .ok (.iconst 1, 1) := by decide +kernel
theorem dX11_mean_18 : decode cX11_mean 18 = .ok (.iadd, 1) := by decide +kernel
theorem dX11_mean_19 : decode cX11_mean 19 = .ok (.invokestatic 114, 3) := by decide +kernel
theorem dX11_mean_22 : decode cX11_mean 22 = .ok (.ifCond .ne 9, 3) := by decide +kernel
theorem dX11_mean_25 : decode cX11_mean 25 = .ok (.aload_n 0, 1) := by decide +kernel
theorem dX11_mean_26 : decode cX11_mean 26 = .ok (.iconst 5, 1) := by decide +kernel
theorem dX11_mean_27 : decode cX11_mean 27 = .ok (.invokevirtual 118, 3) := by decide +kernel
theorem dX11_mean_30 : decode cX11_mean 30 = .ok (.ireturn, 1) := by decide +kernel
theorem dX11_mean_31 : decode cX11_mean 31 = .ok (.aload_n 0, 1) := by decide +kernel
theorem dX11_mean_32 : decode cX11_mean 32 = .ok (.getfield 79, 3) := by decide +kernel
theorem dX11_mean_35 : decode cX11_mean 35 = .ok (.getfield 190, 3) := by decide +kernel
theorem dX11_mean_38 : decode cX11_mean 38 = .ok (.getfield 369, 3) := by decide +kernel
theorem dX11_mean_41 : decode cX11_mean 41 = .ok (.ifCond .ne 10, 3) := by decide +kernel
theorem dX11_mean_44 : decode cX11_mean 44 = .ok (.aload_n 0, 1) := by decide +kernel
theorem dX11_mean_45 : decode cX11_mean 45 = .ok (.bipush 8, 2) := by decide +kernel
theorem dX11_mean_47 : decode cX11_mean 47 = .ok (.invokevirtual 118, 3) := by decide +kernel
theorem dX11_mean_50 : decode cX11_mean 50 = .ok (.ireturn, 1) := by decide +kernel
theorem dX11_mean_51 : decode cX11_mean 51 = .ok (.aload_n 0, 1) := by decide +kernel
theorem dX11_mean_52 : decode cX11_mean 52 = .ok (.getfield 79, 3) := by decide +kernel
theorem dX11_mean_55 : decode cX11_mean 55 = .ok (.getfield 214, 3) := by decide +kernel
theorem dX11_mean_58 : decode cX11_mean 58 = .ok (.istore_n 3, 1) := by decide +kernel
theorem dX11_mean_59 : decode cX11_mean 59 = .ok (.aload_n 0, 1) := by decide +kernel
theorem dX11_mean_60 : decode cX11_mean 60 = .ok (.getfield 79, 3) := by decide +kernel
theorem dX11_mean_63 : decode cX11_mean 63 = .ok (.getfield 205, 3) := by decide +kernel
theorem dX11_mean_66 : decode cX11_mean 66 = .ok (.istore 4, 2) := by decide +kernel
theorem dX11_mean_68 : decode cX11_mean 68 = .ok (.iconst 0, 1) := by decide +kernel
theorem dX11_mean_69 : decode cX11_mean 69 = .ok (.istore 5, 2) := by decide +kernel
theorem dX11_mean_71 : decode cX11_mean 71 = .ok (.iconst 0, 1) := by decide +kernel
theorem dX11_mean_72 : decode cX11_mean 72 = .ok (.istore 6, 2) := by decide +kernel
theorem dX11_mean_74 : decode cX11_mean 74 = .ok (.iload 6, 2) := by decide +kernel
theorem dX11_mean_76 : decode cX11_mean 76 = .ok (.iload_n 2, 1) := by decide +kernel
theorem dX11_mean_77 : decode cX11_mean 77 = .ok (.if_icmp .ge 76, 3) := by decide +kernel
theorem dX11_mean_80 : decode cX11_mean 80 = .ok (.aload_n 0, 1) := by decide +kernel
theorem dX11_mean_81 : decode cX11_mean 81 = .ok (.getfield 68, 3) := by decide +kernel
theorem dX11_mean_84 : decode cX11_mean 84 = .ok (.aload_n 0, 1) := by decide +kernel
theorem dX11_mean_85 : decode cX11_mean 85 = .ok (.getfield 79, 3) := by decide +kernel
theorem dX11_mean_88 : decode cX11_mean 88 = .ok (.iload_n 1, 1) := by decide +kernel
theorem dX11_mean_89 : decode cX11_mean 89 = .ok (.iload 6, 2) := by decide +kernel
theorem dX11_mean_91 : decode cX11_mean 91 = .ok (.iadd, 1) := by decide +kernel
theorem dX11_mean_92 : decode cX11_mean 92 = .ok (.invokevirtual 373, 3) := by decide +kernel
theorem dX11_mean_95 : decode cX11_mean 95 = .ok (.pop, 1) := by decide +kernel
theorem dX11_mean_96 : decode cX11_mean 96 = .ok (.aload_n 0, 1) := by decide +kernel
theorem dX11_mean_97 : decode cX11_mean 97 = .ok (.getfield 40, 3) := by decide +kernel
theorem dX11_mean_100 : decode cX11_mean 100 = .ok (.aload_n 0, 1) := by decide +kernel
theorem dX11_mean_101 : decode cX11_mean 101 = .ok (.getfield 79, 3) := by decide +kernel
theorem dX11_mean_104 : decode cX11_mean 104 = .ok (.aload_n 0, 1) := by decide +kernel
theorem dX11_mean_105 : decode cX11_mean 105 = .ok (.getfield 79, 3) := by decide +kernel
theorem dX11_mean_108 : decode cX11_mean 108 = .ok (.getfield 214, 3) := by decide +kernel
theorem dX11_mean_111 : decode cX11_mean 111 = .ok (.invokevirtual 220, 3) := by decide +kernel
theorem dX11_mean_114 : decode cX11_mean 114 = .ok (.iload 5, 2) := by decide +kernel
theorem dX11_mean_116 : decode cX11_mean 116 = .ok (.aload_n 0, 1) := by decide +kernel
theorem dX11_mean_117 : decode cX11_mean 117 = .ok (.getfield 40, 3) := by decide +kernel
theorem dX11_mean_120 : decode cX11_mean 120 = .ok (.aload_n 0, 1) := by decide +kernel
theorem dX11_mean_121 : decode cX11_mean 121 = .ok (.getfield 79, 3) := by decide +kernel
theorem dX11_mean_124 : decode cX11_mean 124 = .ok (.invokevirtual 223, 3) := by decide +kernel
theorem dX11_mean_127 : decode cX11_mean 127 = .ok (.iadd, 1) := by decide +kernel
theorem dX11_mean_128 : decode cX11_mean 128 = .ok (.istore 5, 2) := by decide +kernel
theorem dX11_mean_130 : decode cX11_mean 130 = .ok (.aload_n 0, 1) := by decide +kernel
theorem dX11_mean_131 : decode cX11_mean 131 = .ok (.getfield 79, 3) := by decide +kernel
theorem dX11_mean_134 : decode cX11_mean 134 = .ok (.iload_n 3, 1) := by decide +kernel
theorem dX11_mean_135 : decode cX11_mean 135 = .ok (.putfield 214, 3) := by decide +kernel
theorem dX11_mean_138 : decode cX11_mean 138 = .ok (.aload_n 0, 1) := by decide +kernel
theorem dX11_mean_139 : decode cX11_mean 139 = .ok (.getfield 79, 3) := by decide +kernel
theorem dX11_mean_142 : decode cX11_mean 142 = .ok (.iload 4, 2) := by decide +kernel
theorem dX11_mean_144 : decode cX11_mean 144 = .ok (.putfield 205, 3) := by decide +kernel
theorem dX11_mean_147 : decode cX11_mean 147 = .ok (.iinc 6 1, 3) := by decide +kernel
theorem dX11_mean_150 : decode cX11_mean 150 = .ok (.goto (-76), 3) := by decide +kernel
theorem dX11_mean_153 : decode cX11_mean 153 = .ok (.aload_n 0, 1) := by decide +kernel
theorem dX11_mean_154 : decode cX11_mean 154 = .ok (.iload 5, 2) := by decide +kernel
theorem dX11_mean_156 : decode cX11_mean 156 = .ok (.i2l, 1) := by decide +kernel
theorem dX11_mean_157 : decode cX11_mean 157 = .ok (.iload_n 2, 1) := by decide +kernel
theorem dX11_mean_158 : decode cX11_mean 158 = .ok (.i2l, 1) := by decide +kernel
theorem dX11_mean_159 : decode cX11_mean 159 = .ok (.invokevirtual 305, 3) := by decide +kernel
theorem dX11_mean_162 : decode cX11_mean 162 = .ok (.ireturn, 1) := by decide +kernel
set_option maxRecDepth 100000 in
theorem c_X11_mean (l : Launch) (E : xE) (a0 a1 a2 a3 a4 a5 a6 a7 a8 a9 a10 a11 a12 a13 a14 a15 a16 a17 a18 a19 a20 a21 a22 a23 a24 : Nat) {T0 : Nat → Int32} {J0_15 : Int64} {J0_16 : Int64} {T1 : Nat → Int32} {T2 : Nat → Int32} {T3 : Nat → Int32} {V4 : Nat → Int32} {V5 : Nat → Int32} {V6 : Nat → Int32} {V7 : Nat → Int32} {V8 : Nat → Int32} {V9 : Nat → Int32} {V10 : Nat → Int32} {V11 : Nat → Int32} {V12 : Nat → Int32} {V14 : Nat → Int32} {T15 : Nat → Int32} {V16 : Nat → Int32} {V17 : Nat → Int32} {V18 : Nat → Int32} {V19 : Nat → Int32} {V20 : Nat → Int32} {V21 : Nat → Int32} {V22 : Nat → Int32} {V24 : Nat → Int32} {u0_0 u0_1 u0_2 u0_3 u0_5 u0_6 u0_7 u0_9 u0_12 u0_13 u1_9 u3_1 : Nat} {x1 : Int32} {x2 : Int32} {z : Int32 × (Nat → Int32) × Int64 × Int64 × (Nat → Int32) × (Nat → Int32) × (Nat → Int32) × (Nat → Int32) × (Nat → Int32) × (Nat → Int32) × (Nat → Int32) × (Nat → Int32) × (Nat → Int32) × (Nat → Int32) × (Nat → Int32) × (Nat → Int32) × (Nat → Int32) × (Nat → Int32)} (hf : f_X11_mean T0 J0_15 J0_16 T1 T2 T3 V4 V5 V6 V7 V8 V9 V10 V11 V12 V14 T15 V16 V17 V18 V19 V20 V21 V22 V24 x1 x2 = some z) (sz : Nat) : Met l yX11_mean (Cond.code yX11_mean cX11_mean 7 (some .boolean) :: gw) ({ frames := 6, cells := 0, slots := 0, locals := 149 }) (xPc E [.ref a0, .int x1, .int x2] [(a0, o11 T0 J0_15 J0_16 u0_0 u0_1 u0_2 u0_3 a23 u0_5 u0_6 u0_7 a3 u0_9 a1 u0_12 u0_13), (a1, o3 T1 a19 a20 u1_9 a10 a9 a11 a12 a2), (a2, o0 T2 a5 a6 a7 a8 a22), (a3, o5 T3 a4 u3_1 a21 a13 a15), (a4, ai E 5 V4), (a5, ai E 60 V5), (a6, ai E 60 V6), (a7, ai E 60 V7), (a8, ai E 60 V8), (a9, ai E 12 V9), (a10, ai E 12 V10), (a11, ai E 12 V11), (a12, ai E 12 V12), (a13, o7 a14), (a14, ai E 144 V14), (a15, o6 T15 a18 a17 a16), (a16, ai E 37 V16), (a17, ai E 36 V17), (a18, ai E 36 V18), (a19, ai E 36 V19), (a20, ai E 5 V20), (a21, ai E 60 V21), (a22, ai E 60 V22), (a23, o7 a24), (a24, ai E 144 V24)] sz) (xQi E z.1 [(a0, o11 T0 J0_15 J0_16 u0_0 u0_1 u0_2 u0_3 a23 u0_5 u0_6 u0_7 a3 u0_9 a1 u0_12 u0_13), (a1, o3 T1 a19 a20 u1_9 a10 a9 a11 a12 a2), (a2, o0 T2 a5 a6 a7 a8 a22), (a3, o5 T3 a4 u3_1 a21 a13 a15), (a4, ai E 5 V4), (a5, ai E 60 V5), (a6, ai E 60 V6), (a7, ai E 60 V7), (a8, ai E 60 V8), (a9, ai E 12 V9), (a10, ai E 12 V10), (a11, ai E 12 V11), (a12, ai E 12 V12), (a13, o7 a14), (a14, ai E 144 V14), (a15, o6 T15 a18 a17 a16), (a16, ai E 37 V16), (a17, ai E 36 V17), (a18, ai E 36 V18), (a19, ai E 36 V19), (a20, ai E 5 V20), (a21, ai E 60 V21), (a22, ai E 60 V22), (a23, o7 a24), (a24, ai E 144 V24)] [(a0, o11 z.2.1 z.2.2.1 z.2.2.2.1 u0_0 u0_1 u0_2 u0_3 a23 u0_5 u0_6 u0_7 a3 u0_9 a1 u0_12 u0_13), (a1, o3 z.2.2.2.2.1 a19 a20 u1_9 a10 a9 a11 a12 a2), (a2, o0 T2 a5 a6 a7 a8 a22), (a3, o5 z.2.2.2.2.2.1 a4 u3_1 a21 a13 a15), (a4, ai E 5 z.2.2.2.2.2.2.1), (a5, ai E 60 V5), (a6, ai E 60 V6), (a7, ai E 60 V7), (a8, ai E 60 V8), (a9, ai E 12 z.2.2.2.2.2.2.2.1), (a10, ai E 12 z.2.2.2.2.2.2.2.2.1), (a11, ai E 12 z.2.2.2.2.2.2.2.2.2.1), (a12, ai E 12 z.2.2.2.2.2.2.2.2.2.2.1), (a13, o7 a14), (a14, ai E 144 z.2.2.2.2.2.2.2.2.2.2.2.1), (a15, o6 z.2.2.2.2.2.2.2.2.2.2.2.2.1 a18 a17 a16), (a16, ai E 37 z.2.2.2.2.2.2.2.2.2.2.2.2.2.1), (a17, ai E 36 z.2.2.2.2.2.2.2.2.2.2.2.2.2.2.1), (a18, ai E 36 z.2.2.2.2.2.2.2.2.2.2.2.2.2.2.2.1), (a19, ai E 36 V19), (a20, ai E 5 V20), (a21, ai E 60 z.2.2.2.2.2.2.2.2.2.2.2.2.2.2.2.2.1), (a22, ai E 60 V22), (a23, o7 a24), (a24, ai E 144 z.2.2.2.2.2.2.2.2.2.2.2.2.2.2.2.2.2)] sz) 0 0 (va_A [(a0, o11 T0 J0_15 J0_16 u0_0 u0_1 u0_2 u0_3 a23 u0_5 u0_6 u0_7 a3 u0_9 a1 u0_12 u0_13), (a1, o3 T1 a19 a20 u1_9 a10 a9 a11 a12 a2), (a2, o0 T2 a5 a6 a7 a8 a22), (a3, o5 T3 a4 u3_1 a21 a13 a15), (a4, ai E 5 V4), (a5, ai E 60 V5), (a6, ai E 60 V6), (a7, ai E 60 V7), (a8, ai E 60 V8), (a9, ai E 12 V9), (a10, ai E 12 V10), (a11, ai E 12 V11), (a12, ai E 12 V12), (a13, o7 a14), (a14, ai E 144 V14), (a15, o6 T15 a18 a17 a16), (a16, ai E 37 V16), (a17, ai E 36 V17), (a18, ai E 36 V18), (a19, ai E 36 V19), (a20, ai E 5 V20), (a21, ai E 60 V21), (a22, ai E 60 V22), (a23, o7 a24), (a24, ai E 144 V24)] sz) := by
  refine xM_i (by decide +kernel) (Nat.le_of_ble_eq_true rfl) ?_
  intro p e s m args below meth c A Q hx hb hml hown htg hK hG hA ret0 H locs ls hP hD hS hl
  have ret : ∀ (z' : Int32 × (Nat → Int32) × Int64 × Int64 × (Nat → Int32) × (Nat → Int32) × (Nat → Int32) × (Nat → Int32) × (Nat → Int32) × (Nat → Int32) × (Nat → Int32) × (Nat → Int32) × (Nat → Int32) × (Nat → Int32) × (Nat → Int32) × (Nat → Int32) × (Nat → Int32) × (Nat → Int32)) {H : Heap} {locs : List Loc} {pc : Nat} {ls : Array Slot}, some z' = some z → narrow .boolean (.int z'.1) = .int z'.1 → va_P E.1 vwCl [(a0, o11 z'.2.1 z'.2.2.1 z'.2.2.2.1 u0_0 u0_1 u0_2 u0_3 a23 u0_5 u0_6 u0_7 a3 u0_9 a1 u0_12 u0_13), (a1, o3 z'.2.2.2.2.1 a19 a20 u1_9 a10 a9 a11 a12 a2), (a2, o0 T2 a5 a6 a7 a8 a22), (a3, o5 z'.2.2.2.2.2.1 a4 u3_1 a21 a13 a15), (a4, ai E 5 z'.2.2.2.2.2.2.1), (a5, ai E 60 V5), (a6, ai E 60 V6), (a7, ai E 60 V7), (a8, ai E 60 V8), (a9, ai E 12 z'.2.2.2.2.2.2.2.1), (a10, ai E 12 z'.2.2.2.2.2.2.2.2.1), (a11, ai E 12 z'.2.2.2.2.2.2.2.2.2.1), (a12, ai E 12 z'.2.2.2.2.2.2.2.2.2.2.1), (a13, o7 a14), (a14, ai E 144 z'.2.2.2.2.2.2.2.2.2.2.2.1), (a15, o6 z'.2.2.2.2.2.2.2.2.2.2.2.2.1 a18 a17 a16), (a16, ai E 37 z'.2.2.2.2.2.2.2.2.2.2.2.2.2.1), (a17, ai E 36 z'.2.2.2.2.2.2.2.2.2.2.2.2.2.2.1), (a18, ai E 36 z'.2.2.2.2.2.2.2.2.2.2.2.2.2.2.2.1), (a19, ai E 36 V19), (a20, ai E 5 V20), (a21, ai E 60 z'.2.2.2.2.2.2.2.2.2.2.2.2.2.2.2.2.1), (a22, ai E 60 V22), (a23, o7 a24), (a24, ai E 144 z'.2.2.2.2.2.2.2.2.2.2.2.2.2.2.2.2.2)] H → va_S A s.heap H locs → decode cX11_mean pc = .ok (.ireturn, 1) → W p l e ({ frames := 6, cells := 0, slots := 0, locals := 149 } : Room) s m args below meth c H locs 0 0 Q (F0 m pc ls [.int z'.1]) := by
    intro z' H locs pc ls h
    cases h
    exact ret0
  replace hl : lv_has ls 7 [(0, .ref a0), (1, .int x1), (2, .int x2)] := hl
  have b25 : ∀ (T0 : Nat → Int32) (J0_15 : Int64) (J0_16 : Int64) (T1 : Nat → Int32) (T3 : Nat → Int32) (V4 : Nat → Int32) (V9 : Nat → Int32) (V10 : Nat → Int32) (V11 : Nat → Int32) (V12 : Nat → Int32) (V14 : Nat → Int32) (T15 : Nat → Int32) (V16 : Nat → Int32) (V17 : Nat → Int32) (V18 : Nat → Int32) (V21 : Nat → Int32) (V24 : Nat → Int32) (H : Heap) (locs : List Loc) (ls : Array Slot), f_X11_mean_25 T2 V5 V6 V7 V8 V19 V20 V22 x1 x2 T0 J0_15 J0_16 T1 T3 V4 V9 V10 V11 V12 V14 T15 V16 V17 V18 V21 V24 = some z → va_P E.1 vwCl [(a0, o11 T0 J0_15 J0_16 u0_0 u0_1 u0_2 u0_3 a23 u0_5 u0_6 u0_7 a3 u0_9 a1 u0_12 u0_13), (a1, o3 T1 a19 a20 u1_9 a10 a9 a11 a12 a2), (a2, o0 T2 a5 a6 a7 a8 a22), (a3, o5 T3 a4 u3_1 a21 a13 a15), (a4, ai E 5 V4), (a5, ai E 60 V5), (a6, ai E 60 V6), (a7, ai E 60 V7), (a8, ai E 60 V8), (a9, ai E 12 V9), (a10, ai E 12 V10), (a11, ai E 12 V11), (a12, ai E 12 V12), (a13, o7 a14), (a14, ai E 144 V14), (a15, o6 T15 a18 a17 a16), (a16, ai E 37 V16), (a17, ai E 36 V17), (a18, ai E 36 V18), (a19, ai E 36 V19), (a20, ai E 5 V20), (a21, ai E 60 V21), (a22, ai E 60 V22), (a23, o7 a24), (a24, ai E 144 V24)] H → va_D A [(a0, o11 T0 J0_15 J0_16 u0_0 u0_1 u0_2 u0_3 a23 u0_5 u0_6 u0_7 a3 u0_9 a1 u0_12 u0_13), (a1, o3 T1 a19 a20 u1_9 a10 a9 a11 a12 a2), (a2, o0 T2 a5 a6 a7 a8 a22), (a3, o5 T3 a4 u3_1 a21 a13 a15), (a4, ai E 5 V4), (a5, ai E 60 V5), (a6, ai E 60 V6), (a7, ai E 60 V7), (a8, ai E 60 V8), (a9, ai E 12 V9), (a10, ai E 12 V10), (a11, ai E 12 V11), (a12, ai E 12 V12), (a13, o7 a14), (a14, ai E 144 V14), (a15, o6 T15 a18 a17 a16), (a16, ai E 37 V16), (a17, ai E 36 V17), (a18, ai E 36 V18), (a19, ai E 36 V19), (a20, ai E 5 V20), (a21, ai E 60 V21), (a22, ai E 60 V22), (a23, o7 a24), (a24, ai E 144 V24)] → va_S A s.heap H locs → lv_has ls 7 [(0, .ref a0)] → W p l e ({ frames := 6, cells := 0, slots := 0, locals := 149 } : Room) s m args below meth c H locs 0 0 Q (F0 m 25 ls []) := by
    intro T0 J0_15 J0_16 T1 T3 V4 V9 V10 V11 V12 V14 T15 V16 V17 V18 V21 V24 H locs ls hf hP hD hS hl
    unfold f_X11_mean_25 at hf
    refine lv_aload_n hx hb dX11_mean_25 rfl (lv_at hl 0 rfl) ?_
    refine lv_iconst (v := 5) hx hb dX11_mean_26 rfl ?_
    obtain ⟨z27, hz27, hf⟩ := bind_s hf
    refine xV_iu hx hb hml hown htg L11_118 (c_X11_denied l E a0 hz27 _) ⟨⟨rfl, rfl⟩, Nat.le_of_ble_eq_true rfl, Nat.le_of_ble_eq_true rfl⟩ hK hG hA hP hD hS (is := [0]) (sel := [some 0, none, none, none, none, none, none, none, none, none, none, none, none, none, none, none, none, none, none, none, none, none, none, none, none]) (ws2 := [(a0, o11 z27.2 J0_15 J0_16 u0_0 u0_1 u0_2 u0_3 a23 u0_5 u0_6 u0_7 a3 u0_9 a1 u0_12 u0_13), (a1, o3 T1 a19 a20 u1_9 a10 a9 a11 a12 a2), (a2, o0 T2 a5 a6 a7 a8 a22), (a3, o5 T3 a4 u3_1 a21 a13 a15), (a4, ai E 5 V4), (a5, ai E 60 V5), (a6, ai E 60 V6), (a7, ai E 60 V7), (a8, ai E 60 V8), (a9, ai E 12 V9), (a10, ai E 12 V10), (a11, ai E 12 V11), (a12, ai E 12 V12), (a13, o7 a14), (a14, ai E 144 V14), (a15, o6 T15 a18 a17 a16), (a16, ai E 37 V16), (a17, ai E 36 V17), (a18, ai E 36 V18), (a19, ai E 36 V19), (a20, ai E 5 V20), (a21, ai E 60 V21), (a22, ai E 60 V22), (a23, o7 a24), (a24, ai E 144 V24)]) rfl rfl rfl rfl rfl (xrecv hK hP (q0 := 0) (ci := 11) rfl rfl) rfl hl.1 rfl (Nat.le_of_ble_eq_true rfl) dX11_mean_27 (fun H locs hP hD hS => ?_)
    obtain ⟨g30, hf⟩ := ck_s hf
    exact ret (z27.1, z27.2, J0_15, J0_16, T1, T3, V4, V9, V10, V11, V12, V14, T15, V16, V17, V18, V21, V24) hf (bz_n g30).1 hP hS dX11_mean_30
  have b74 : ∀ (n : Nat) (x3 : Int32) (x4 : Int32) (x5 : Int32) (x6 : Int32) (T0 : Nat → Int32) (J0_15 : Int64) (J0_16 : Int64) (T1 : Nat → Int32) (T3 : Nat → Int32) (V4 : Nat → Int32) (V9 : Nat → Int32) (V10 : Nat → Int32) (V11 : Nat → Int32) (V12 : Nat → Int32) (V14 : Nat → Int32) (T15 : Nat → Int32) (V16 : Nat → Int32) (V17 : Nat → Int32) (V18 : Nat → Int32) (V21 : Nat → Int32) (V24 : Nat → Int32) (H : Heap) (locs : List Loc) (ls : Array Slot), f_X11_mean_74 T2 V5 V6 V7 V8 V19 V20 V22 x1 x2 n x3 x4 x5 x6 T0 J0_15 J0_16 T1 T3 V4 V9 V10 V11 V12 V14 T15 V16 V17 V18 V21 V24 = some z → va_P E.1 vwCl [(a0, o11 T0 J0_15 J0_16 u0_0 u0_1 u0_2 u0_3 a23 u0_5 u0_6 u0_7 a3 u0_9 a1 u0_12 u0_13), (a1, o3 T1 a19 a20 u1_9 a10 a9 a11 a12 a2), (a2, o0 T2 a5 a6 a7 a8 a22), (a3, o5 T3 a4 u3_1 a21 a13 a15), (a4, ai E 5 V4), (a5, ai E 60 V5), (a6, ai E 60 V6), (a7, ai E 60 V7), (a8, ai E 60 V8), (a9, ai E 12 V9), (a10, ai E 12 V10), (a11, ai E 12 V11), (a12, ai E 12 V12), (a13, o7 a14), (a14, ai E 144 V14), (a15, o6 T15 a18 a17 a16), (a16, ai E 37 V16), (a17, ai E 36 V17), (a18, ai E 36 V18), (a19, ai E 36 V19), (a20, ai E 5 V20), (a21, ai E 60 V21), (a22, ai E 60 V22), (a23, o7 a24), (a24, ai E 144 V24)] H → va_D A [(a0, o11 T0 J0_15 J0_16 u0_0 u0_1 u0_2 u0_3 a23 u0_5 u0_6 u0_7 a3 u0_9 a1 u0_12 u0_13), (a1, o3 T1 a19 a20 u1_9 a10 a9 a11 a12 a2), (a2, o0 T2 a5 a6 a7 a8 a22), (a3, o5 T3 a4 u3_1 a21 a13 a15), (a4, ai E 5 V4), (a5, ai E 60 V5), (a6, ai E 60 V6), (a7, ai E 60 V7), (a8, ai E 60 V8), (a9, ai E 12 V9), (a10, ai E 12 V10), (a11, ai E 12 V11), (a12, ai E 12 V12), (a13, o7 a14), (a14, ai E 144 V14), (a15, o6 T15 a18 a17 a16), (a16, ai E 37 V16), (a17, ai E 36 V17), (a18, ai E 36 V18), (a19, ai E 36 V19), (a20, ai E 5 V20), (a21, ai E 60 V21), (a22, ai E 60 V22), (a23, o7 a24), (a24, ai E 144 V24)] → va_S A s.heap H locs → lv_has ls 7 [(0, .ref a0), (1, .int x1), (2, .int x2), (3, .int x3), (4, .int x4), (5, .int x5), (6, .int x6)] → W p l e ({ frames := 6, cells := 0, slots := 0, locals := 149 } : Room) s m args below meth c H locs 0 0 Q (F0 m 74 ls []) := by
    intro n
    induction n with
    | zero => intro x3 x4 x5 x6 T0 J0_15 J0_16 T1 T3 V4 V9 V10 V11 V12 V14 T15 V16 V17 V18 V21 V24 H locs ls hf; exact (nn_s hf).elim
    | succ n ih74 =>
      obtain ⟨k74, ek74⟩ : ∃ k, k = f_X11_mean_74 T2 V5 V6 V7 V8 V19 V20 V22 x1 x2 n := ⟨_, rfl⟩
      rw [← ek74] at ih74
      intro x3 x4 x5 x6 T0 J0_15 J0_16 T1 T3 V4 V9 V10 V11 V12 V14 T15 V16 V17 V18 V21 V24 H locs ls hf hP hD hS hl
      replace hf : g_X11_mean_74 T2 V5 V6 V7 V8 V19 V20 V22 x1 x2 k74 x3 x4 x5 x6 T0 J0_15 J0_16 T1 T3 V4 V9 V10 V11 V12 V14 T15 V16 V17 V18 V21 V24 = some z := by rw [ek74]; exact hf
      unfold g_X11_mean_74 at hf
      refine lv_iload hx hb dX11_mean_74 (lv_at hl 6 rfl) ?_
      refine lv_iload_n hx hb dX11_mean_76 rfl (lv_at hl 2 rfl) ?_
      refine lv_icmp_ge (tgt := 153) hx hb dX11_mean_77 (by decide) (fun c77 => ?_) (fun c77 => ?_)
      · have hf := it_t c77 hf
        refine lv_aload_n hx hb dX11_mean_153 rfl (lv_at hl 0 rfl) ?_
        refine lv_iload hx hb dX11_mean_154 (lv_at hl 5 rfl) ?_
        refine lv_i2l hx hb dX11_mean_156 rfl ?_
        refine lv_iload_n hx hb dX11_mean_157 rfl (lv_at hl 2 rfl) ?_
        refine lv_i2l hx hb dX11_mean_158 rfl ?_
        obtain ⟨z159, hz159, hf⟩ := bind_s hf
        refine xV_iu hx hb hml hown htg L11_305 (c_X11_toldFraction l E a0 hz159 _) ⟨⟨rfl, rfl⟩, Nat.le_of_ble_eq_true rfl, Nat.le_of_ble_eq_true rfl⟩ hK hG hA hP hD hS (is := [0]) (sel := [some 0, none, none, none, none, none, none, none, none, none, none, none, none, none, none, none, none, none, none, none, none, none, none, none, none]) (ws2 := [(a0, o11 z159.2.1 z159.2.2.1 z159.2.2.2 u0_0 u0_1 u0_2 u0_3 a23 u0_5 u0_6 u0_7 a3 u0_9 a1 u0_12 u0_13), (a1, o3 T1 a19 a20 u1_9 a10 a9 a11 a12 a2), (a2, o0 T2 a5 a6 a7 a8 a22), (a3, o5 T3 a4 u3_1 a21 a13 a15), (a4, ai E 5 V4), (a5, ai E 60 V5), (a6, ai E 60 V6), (a7, ai E 60 V7), (a8, ai E 60 V8), (a9, ai E 12 V9), (a10, ai E 12 V10), (a11, ai E 12 V11), (a12, ai E 12 V12), (a13, o7 a14), (a14, ai E 144 V14), (a15, o6 T15 a18 a17 a16), (a16, ai E 37 V16), (a17, ai E 36 V17), (a18, ai E 36 V18), (a19, ai E 36 V19), (a20, ai E 5 V20), (a21, ai E 60 V21), (a22, ai E 60 V22), (a23, o7 a24), (a24, ai E 144 V24)]) rfl rfl rfl rfl rfl (xrecv hK hP (q0 := 0) (ci := 11) rfl rfl) rfl hl.1 rfl (Nat.le_of_ble_eq_true rfl) dX11_mean_159 (fun H locs hP hD hS => ?_)
        obtain ⟨g162, hf⟩ := ck_s hf
        exact ret (z159.1, z159.2.1, z159.2.2.1, z159.2.2.2, T1, T3, V4, V9, V10, V11, V12, V14, T15, V16, V17, V18, V21, V24) hf (bz_n g162).1 hP hS dX11_mean_162
      · have hf := it_f c77 hf
        refine lv_aload_n hx hb dX11_mean_80 rfl (lv_at hl 0 rfl) ?_
        refine G11_68 hx hb htg hown hK hP 0 rfl dX11_mean_81 ?_
        refine lv_aload_n hx hb dX11_mean_84 rfl (lv_at hl 0 rfl) ?_
        refine G11_79 hx hb htg hown hK hP 0 rfl dX11_mean_85 ?_
        refine lv_iload_n hx hb dX11_mean_88 rfl (lv_at hl 1 rfl) ?_
        refine lv_iload hx hb dX11_mean_89 (lv_at hl 6 rfl) ?_
        refine lv_iadd hx hb dX11_mean_91 ?_
        obtain ⟨z92, hz92, hf⟩ := bind_s hf
        refine xV_iu hx hb hml hown htg L11_373 (c_X5_pass l E a3 a1 a4 a2 a5 a6 a7 a8 a9 a10 a11 a12 a13 a14 a15 a16 a17 a18 a19 a20 a21 a22 hz92 _) ⟨⟨rfl, rfl⟩, Nat.le_of_ble_eq_true rfl, Nat.le_of_ble_eq_true rfl⟩ hK hG hA hP hD hS (is := [3, 1, 4, 2, 5, 6, 7, 8, 9, 10, 11, 12, 13, 14, 15, 16, 17, 18, 19, 20, 21, 22]) (sel := [none, some 1, some 3, some 0, some 2, some 4, some 5, some 6, some 7, some 8, some 9, some 10, some 11, some 12, some 13, some 14, some 15, some 16, some 17, some 18, some 19, some 20, some 21, none, none]) (ws2 := [(a0, o11 T0 J0_15 J0_16 u0_0 u0_1 u0_2 u0_3 a23 u0_5 u0_6 u0_7 a3 u0_9 a1 u0_12 u0_13), (a1, o3 z92.2.2.1 a19 a20 u1_9 a10 a9 a11 a12 a2), (a2, o0 T2 a5 a6 a7 a8 a22), (a3, o5 z92.2.1 a4 u3_1 a21 a13 a15), (a4, ai E 5 z92.2.2.2.1), (a5, ai E 60 V5), (a6, ai E 60 V6), (a7, ai E 60 V7), (a8, ai E 60 V8), (a9, ai E 12 z92.2.2.2.2.1), (a10, ai E 12 z92.2.2.2.2.2.1), (a11, ai E 12 z92.2.2.2.2.2.2.1), (a12, ai E 12 z92.2.2.2.2.2.2.2.1), (a13, o7 a14), (a14, ai E 144 z92.2.2.2.2.2.2.2.2.1), (a15, o6 z92.2.2.2.2.2.2.2.2.2.1 a18 a17 a16), (a16, ai E 37 z92.2.2.2.2.2.2.2.2.2.2.1), (a17, ai E 36 z92.2.2.2.2.2.2.2.2.2.2.2.1), (a18, ai E 36 z92.2.2.2.2.2.2.2.2.2.2.2.2.1), (a19, ai E 36 V19), (a20, ai E 5 V20), (a21, ai E 60 z92.2.2.2.2.2.2.2.2.2.2.2.2.2), (a22, ai E 60 V22), (a23, o7 a24), (a24, ai E 144 V24)]) rfl rfl rfl rfl rfl (xrecv hK hP (q0 := 3) (ci := 5) rfl rfl) rfl hl.1 rfl (Nat.le_of_ble_eq_true rfl) dX11_mean_92 (fun H locs hP hD hS => ?_)
        refine lv_pop hx hb dX11_mean_95 rfl ?_
        refine lv_aload_n hx hb dX11_mean_96 rfl (lv_at hl 0 rfl) ?_
        refine G11_40 hx hb htg hown hK hP 0 rfl dX11_mean_97 ?_
        refine lv_aload_n hx hb dX11_mean_100 rfl (lv_at hl 0 rfl) ?_
        refine G11_79 hx hb htg hown hK hP 0 rfl dX11_mean_101 ?_
        refine lv_aload_n hx hb dX11_mean_104 rfl (lv_at hl 0 rfl) ?_
        refine G11_79 hx hb htg hown hK hP 0 rfl dX11_mean_105 ?_
        refine G11_214 hx hb htg hown hK hP 1 rfl dX11_mean_108 ?_
        obtain ⟨z111, hz111, hf⟩ := bind_s hf
        refine xV_vu hx hb hml hown htg L11_220 (c_X7_take l E a23 a1 a24 a9 a11 a10 hz111 _) ⟨⟨rfl, rfl⟩, Nat.le_of_ble_eq_true rfl, Nat.le_of_ble_eq_true rfl⟩ hK hG hA hP hD hS (is := [23, 1, 24, 9, 11, 10]) (sel := [none, some 1, none, none, none, none, none, none, none, some 3, some 5, some 4, none, none, none, none, none, none, none, none, none, none, none, some 0, some 2]) (ws2 := [(a0, o11 T0 J0_15 J0_16 u0_0 u0_1 u0_2 u0_3 a23 u0_5 u0_6 u0_7 a3 u0_9 a1 u0_12 u0_13), (a1, o3 z92.2.2.1 a19 a20 u1_9 a10 a9 a11 a12 a2), (a2, o0 T2 a5 a6 a7 a8 a22), (a3, o5 z92.2.1 a4 u3_1 a21 a13 a15), (a4, ai E 5 z92.2.2.2.1), (a5, ai E 60 V5), (a6, ai E 60 V6), (a7, ai E 60 V7), (a8, ai E 60 V8), (a9, ai E 12 z92.2.2.2.2.1), (a10, ai E 12 z92.2.2.2.2.2.1), (a11, ai E 12 z92.2.2.2.2.2.2.1), (a12, ai E 12 z92.2.2.2.2.2.2.2.1), (a13, o7 a14), (a14, ai E 144 z92.2.2.2.2.2.2.2.2.1), (a15, o6 z92.2.2.2.2.2.2.2.2.2.1 a18 a17 a16), (a16, ai E 37 z92.2.2.2.2.2.2.2.2.2.2.1), (a17, ai E 36 z92.2.2.2.2.2.2.2.2.2.2.2.1), (a18, ai E 36 z92.2.2.2.2.2.2.2.2.2.2.2.2.1), (a19, ai E 36 V19), (a20, ai E 5 V20), (a21, ai E 60 z92.2.2.2.2.2.2.2.2.2.2.2.2.2), (a22, ai E 60 V22), (a23, o7 a24), (a24, ai E 144 z111)]) rfl rfl rfl rfl rfl (xrecv hK hP (q0 := 23) (ci := 7) rfl rfl) rfl hl.1 rfl (Nat.le_of_ble_eq_true rfl) dX11_mean_111 (fun H locs hP hD hS => ?_)
        refine lv_iload hx hb dX11_mean_114 (lv_at hl 5 rfl) ?_
        refine lv_aload_n hx hb dX11_mean_116 rfl (lv_at hl 0 rfl) ?_
        refine G11_40 hx hb htg hown hK hP 0 rfl dX11_mean_117 ?_
        refine lv_aload_n hx hb dX11_mean_120 rfl (lv_at hl 0 rfl) ?_
        refine G11_79 hx hb htg hown hK hP 0 rfl dX11_mean_121 ?_
        obtain ⟨z124, hz124, hf⟩ := bind_s hf
        refine xV_ir hx hb hml hown htg L11_223 (c_X7_rightCells l E a23 a1 a24 a19 hz124 _) ⟨⟨rfl, rfl⟩, Nat.le_of_ble_eq_true rfl, Nat.le_of_ble_eq_true rfl⟩ hK hG hA hP hD hS (is := [23, 1, 24, 19]) rfl rfl (xrecv hK hP (q0 := 23) (ci := 7) rfl rfl) rfl hl.1 rfl (Nat.le_of_ble_eq_true rfl) dX11_mean_124 (fun H locs hP hD hS => ?_)
        refine lv_iadd hx hb dX11_mean_127 ?_
        refine lv_istore (lv' := [(5, .int (x5 + z124)), (0, .ref a0), (1, .int x1), (2, .int x2), (3, .int x3), (4, .int x4), (6, .int x6)]) hx hb dX11_mean_128 hl (by decide) rfl (fun ls hl => ?_)
        refine lv_aload_n hx hb dX11_mean_130 rfl (lv_at hl 1 rfl) ?_
        refine G11_79 hx hb htg hown hK hP 0 rfl dX11_mean_131 ?_
        refine lv_iload_n hx hb dX11_mean_134 rfl (lv_at hl 4 rfl) ?_
        refine P11_214 hx hb htg hown hK hP hD hS 1 rfl dX11_mean_135 (fun H locs hP hD hS => ?_)
        refine lv_aload_n hx hb dX11_mean_138 rfl (lv_at hl 1 rfl) ?_
        refine G11_79 hx hb htg hown hK hP 0 rfl dX11_mean_139 ?_
        refine lv_iload hx hb dX11_mean_142 (lv_at hl 5 rfl) ?_
        refine P11_205 hx hb htg hown hK hP hD hS 1 rfl dX11_mean_144 (fun H locs hP hD hS => ?_)
        refine lv_iinc (v := x6 + 1) (lv' := [(6, .int (x6 + 1)), (5, .int (x5 + z124)), (0, .ref a0), (1, .int x1), (2, .int x2), (3, .int x3), (4, .int x4)]) hx hb dX11_mean_147 hl (k := 6) rfl rfl (by decide) rfl (fun ls hl => ?_)
        refine lv_goto (tgt := 74) hx hb dX11_mean_150 (by decide) ?_
        exact ih74 x3 x4 (x5 + z124) (x6 + 1) T0 J0_15 J0_16 (upd (upd z92.2.2.1 5 x3) 6 x4) z92.2.1 z92.2.2.2.1 z92.2.2.2.2.1 z92.2.2.2.2.2.1 z92.2.2.2.2.2.2.1 z92.2.2.2.2.2.2.2.1 z92.2.2.2.2.2.2.2.2.1 z92.2.2.2.2.2.2.2.2.2.1 z92.2.2.2.2.2.2.2.2.2.2.1 z92.2.2.2.2.2.2.2.2.2.2.2.1 z92.2.2.2.2.2.2.2.2.2.2.2.2.1 z92.2.2.2.2.2.2.2.2.2.2.2.2.2 z111 _ _ _ hf hP hD hS (lv_sub hl [2, 3, 4, 5, 6, 1, 0] rfl)
  unfold f_X11_mean at hf
  refine lv_iload_n hx hb dX11_mean_0 rfl (lv_at hl 2 rfl) ?_
  refine lv_iconst (v := 1) hx hb dX11_mean_1 rfl ?_
  refine lv_bipush (v := 20) hx hb dX11_mean_2 rfl ?_
  obtain ⟨z4, hz4, hf⟩ := bind_s hf
  refine xS_ir hx hb hml hown htg L11_114 (c_X11_within l E hz4 _) ⟨⟨rfl, rfl⟩, Nat.le_of_ble_eq_true rfl, Nat.le_of_ble_eq_true rfl⟩ hK hG hA hP hD hS (is := []) rfl rfl rfl hl.1 rfl (Nat.le_of_ble_eq_true rfl) dX11_mean_4 (fun H locs hP hD hS => ?_)
  refine lv_if_eq (tgt := 25) hx hb dX11_mean_7 (by decide) (fun c7 => ?_) (fun c7 => ?_)
  · have hf := it_t c7 hf
    exact b25 T0 J0_15 J0_16 T1 T3 V4 V9 V10 V11 V12 V14 T15 V16 V17 V18 V21 V24 _ _ _ hf hP hD hS (lv_sub hl [0] rfl)
  · have hf := it_f c7 hf
    refine lv_iload_n hx hb dX11_mean_10 rfl (lv_at hl 1 rfl) ?_
    refine lv_iconst (v := 0) hx hb dX11_mean_11 rfl ?_
    refine lv_sipush (v := 9999) hx hb dX11_mean_12 rfl ?_
    refine lv_iload_n hx hb dX11_mean_15 rfl (lv_at hl 2 rfl) ?_
    refine lv_isub hx hb dX11_mean_16 ?_
    refine lv_iconst (v := 1) hx hb dX11_mean_17 rfl ?_
    refine lv_iadd hx hb dX11_mean_18 ?_
    obtain ⟨z19, hz19, hf⟩ := bind_s hf
    refine xS_ir hx hb hml hown htg L11_114 (c_X11_within l E hz19 _) ⟨⟨rfl, rfl⟩, Nat.le_of_ble_eq_true rfl, Nat.le_of_ble_eq_true rfl⟩ hK hG hA hP hD hS (is := []) rfl rfl rfl hl.1 rfl (Nat.le_of_ble_eq_true rfl) dX11_mean_19 (fun H locs hP hD hS => ?_)
    refine lv_if_ne (tgt := 31) hx hb dX11_mean_22 (by decide) (fun c22 => ?_) (fun c22 => ?_)
    · have hf := it_f c22 hf
      refine lv_aload_n hx hb dX11_mean_31 rfl (lv_at hl 0 rfl) ?_
      refine G11_79 hx hb htg hown hK hP 0 rfl dX11_mean_32 ?_
      refine G11_190 hx hb htg hown hK hP 1 rfl dX11_mean_35 ?_
      refine G11_369 hx hb htg hown hK hP 2 rfl dX11_mean_38 ?_
      refine lv_if_ne (tgt := 51) hx hb dX11_mean_41 (by decide) (fun c41 => ?_) (fun c41 => ?_)
      · have hf := it_f c41 hf
        refine lv_aload_n hx hb dX11_mean_51 rfl (lv_at hl 0 rfl) ?_
        refine G11_79 hx hb htg hown hK hP 0 rfl dX11_mean_52 ?_
        refine G11_214 hx hb htg hown hK hP 1 rfl dX11_mean_55 ?_
        refine lv_istore_n (lv' := [(3, .int (T1 5)), (0, .ref a0), (1, .int x1), (2, .int x2)]) hx hb dX11_mean_58 rfl hl (by decide) rfl (fun ls hl => ?_)
        refine lv_aload_n hx hb dX11_mean_59 rfl (lv_at hl 1 rfl) ?_
        refine G11_79 hx hb htg hown hK hP 0 rfl dX11_mean_60 ?_
        refine G11_205 hx hb htg hown hK hP 1 rfl dX11_mean_63 ?_
        refine lv_istore (lv' := [(4, .int (T1 6)), (3, .int (T1 5)), (0, .ref a0), (1, .int x1), (2, .int x2)]) hx hb dX11_mean_66 hl (by decide) rfl (fun ls hl => ?_)
        refine lv_iconst (v := 0) hx hb dX11_mean_68 rfl ?_
        refine lv_istore (lv' := [(5, .int 0), (4, .int (T1 6)), (3, .int (T1 5)), (0, .ref a0), (1, .int x1), (2, .int x2)]) hx hb dX11_mean_69 hl (by decide) rfl (fun ls hl => ?_)
        refine lv_iconst (v := 0) hx hb dX11_mean_71 rfl ?_
        refine lv_istore (lv' := [(6, .int 0), (5, .int 0), (4, .int (T1 6)), (3, .int (T1 5)), (0, .ref a0), (1, .int x1), (2, .int x2)]) hx hb dX11_mean_72 hl (by decide) rfl (fun ls hl => ?_)
        exact b74 xF (T1 5) (T1 6) 0 0 T0 J0_15 J0_16 T1 T3 V4 V9 V10 V11 V12 V14 T15 V16 V17 V18 V21 V24 _ _ _ hf hP hD hS (lv_sub hl [4, 5, 6, 3, 2, 1, 0] rfl)
      · have hf := it_t c41 hf
        refine lv_aload_n hx hb dX11_mean_44 rfl (lv_at hl 0 rfl) ?_
        refine lv_bipush (v := 8) hx hb dX11_mean_45 rfl ?_
        obtain ⟨z47, hz47, hf⟩ := bind_s hf
        refine xV_iu hx hb hml hown htg L11_118 (c_X11_denied l E a0 hz47 _) ⟨⟨rfl, rfl⟩, Nat.le_of_ble_eq_true rfl, Nat.le_of_ble_eq_true rfl⟩ hK hG hA hP hD hS (is := [0]) (sel := [some 0, none, none, none, none, none, none, none, none, none, none, none, none, none, none, none, none, none, none, none, none, none, none, none, none]) (ws2 := [(a0, o11 z47.2 J0_15 J0_16 u0_0 u0_1 u0_2 u0_3 a23 u0_5 u0_6 u0_7 a3 u0_9 a1 u0_12 u0_13), (a1, o3 T1 a19 a20 u1_9 a10 a9 a11 a12 a2), (a2, o0 T2 a5 a6 a7 a8 a22), (a3, o5 T3 a4 u3_1 a21 a13 a15), (a4, ai E 5 V4), (a5, ai E 60 V5), (a6, ai E 60 V6), (a7, ai E 60 V7), (a8, ai E 60 V8), (a9, ai E 12 V9), (a10, ai E 12 V10), (a11, ai E 12 V11), (a12, ai E 12 V12), (a13, o7 a14), (a14, ai E 144 V14), (a15, o6 T15 a18 a17 a16), (a16, ai E 37 V16), (a17, ai E 36 V17), (a18, ai E 36 V18), (a19, ai E 36 V19), (a20, ai E 5 V20), (a21, ai E 60 V21), (a22, ai E 60 V22), (a23, o7 a24), (a24, ai E 144 V24)]) rfl rfl rfl rfl rfl (xrecv hK hP (q0 := 0) (ci := 11) rfl rfl) rfl hl.1 rfl (Nat.le_of_ble_eq_true rfl) dX11_mean_47 (fun H locs hP hD hS => ?_)
        obtain ⟨g50, hf⟩ := ck_s hf
        exact ret (z47.1, z47.2, J0_15, J0_16, T1, T3, V4, V9, V10, V11, V12, V14, T15, V16, V17, V18, V21, V24) hf (bz_n g50).1 hP hS dX11_mean_50
    · have hf := it_t c22 hf
      exact b25 T0 J0_15 J0_16 T1 T3 V4 V9 V10 V11 V12 V14 T15 V16 V17 V18 V21 V24 _ _ _ hf hP hD hS (lv_sub hl [0] rfl)
theorem dX11_endReading_0 : decode cX11_endReading 0 = .ok (.aload_n 0, 1) := by decide +kernel
theorem dX11_endReading_1 : decode cX11_endReading 1 = .ok (.aload_n 0, 1) := by decide +kernel
theorem dX11_endReading_2 : decode cX11_endReading 2 = .ok (.getfield 19, 3) := by decide +kernel
theorem dX11_endReading_5 : decode cX11_endReading 5 = .ok (.invokevirtual 396, 3) := by decide +kernel
theorem dX11_endReading_8 : decode cX11_endReading 8 = .ok (.putfield 97, 3) := by decide +kernel
theorem dX11_endReading_11 : decode cX11_endReading 11 = .ok (.aload_n 0, 1) := by decide +kernel
theorem dX11_endReading_12 : decode cX11_endReading 12 = .ok (.aload_n 0, 1) := by decide +kernel
theorem dX11_endReading_13 : decode cX11_endReading 13 = .ok (.getfield 19, 3) := by decide +kernel
theorem dX11_endReading_16 : decode cX11_endReading 16 = .ok (.invokevirtual 399, 3) := by decide +kernel
theorem dX11_endReading_19 : decode cX11_endReading 19 = .ok (.putfield 101, 3) := by decide +kernel
theorem dX11_endReading_22 : decode cX11_endReading 22 = .ok (.aload_n 0, 1) := by decide +kernel
theorem dX11_endReading_23 : decode cX11_endReading 23 = .ok (.getfield 19, 3) := by decide +kernel
theorem dX11_endReading_26 : decode cX11_endReading 26 = .ok (.invokevirtual 402, 3) := by decide +kernel
theorem dX11_endReading_29 : decode cX11_endReading 29 = .ok (.return_, 1) := by decide +kernel
set_option maxRecDepth 100000 in
theorem c_X11_endReading (l : Launch) (E : xE) (a0 a1 : Nat) {T0 : Nat → Int32} {J0_15 : Int64} {J0_16 : Int64} {T1 : Nat → Int32} {J1_8 : Int64} {u0_0 u0_2 u0_3 u0_4 u0_5 u0_6 u0_7 u0_8 u0_9 u0_11 u0_12 u0_13 u1_0 u1_1 : Nat} {z : (Nat → Int32) × (Nat → Int32)} (hf : f_X11_endReading T0 T1 = some z) (sz : Nat) : Met l yX11_endReading (Cond.code yX11_endReading cX11_endReading 1 none :: gw) ({ frames := 1, cells := 0, slots := 0, locals := 20 }) (xPc E [.ref a0] [(a0, o11 T0 J0_15 J0_16 u0_0 a1 u0_2 u0_3 u0_4 u0_5 u0_6 u0_7 u0_8 u0_9 u0_11 u0_12 u0_13), (a1, o8 T1 J1_8 u1_0 u1_1)] sz) (xQv E [(a0, o11 T0 J0_15 J0_16 u0_0 a1 u0_2 u0_3 u0_4 u0_5 u0_6 u0_7 u0_8 u0_9 u0_11 u0_12 u0_13), (a1, o8 T1 J1_8 u1_0 u1_1)] [(a0, o11 z.1 J0_15 J0_16 u0_0 a1 u0_2 u0_3 u0_4 u0_5 u0_6 u0_7 u0_8 u0_9 u0_11 u0_12 u0_13), (a1, o8 z.2 J1_8 u1_0 u1_1)] sz) 0 0 (va_A [(a0, o11 T0 J0_15 J0_16 u0_0 a1 u0_2 u0_3 u0_4 u0_5 u0_6 u0_7 u0_8 u0_9 u0_11 u0_12 u0_13), (a1, o8 T1 J1_8 u1_0 u1_1)] sz) := by
  refine xM_v (by decide +kernel) (Nat.le_of_ble_eq_true rfl) ?_
  intro p e s m args below meth c A Q hx hb hml hown htg hK hG hA ret0 H locs ls hP hD hS hl
  have ret : ∀ (z' : (Nat → Int32) × (Nat → Int32)) {H : Heap} {locs : List Loc} {pc : Nat} {ls : Array Slot}, some z' = some z → va_P E.1 vwCl [(a0, o11 z'.1 J0_15 J0_16 u0_0 a1 u0_2 u0_3 u0_4 u0_5 u0_6 u0_7 u0_8 u0_9 u0_11 u0_12 u0_13), (a1, o8 z'.2 J1_8 u1_0 u1_1)] H → va_S A s.heap H locs → decode cX11_endReading pc = .ok (.return_, 1) → W p l e ({ frames := 1, cells := 0, slots := 0, locals := 20 } : Room) s m args below meth c H locs 0 0 Q (F0 m pc ls []) := by
    intro z' H locs pc ls h
    cases h
    exact ret0
  replace hl : lv_has ls 1 [(0, .ref a0)] := hl
  unfold f_X11_endReading at hf
  refine lv_aload_n hx hb dX11_endReading_0 rfl (lv_at hl 0 rfl) ?_
  refine lv_aload_n hx hb dX11_endReading_1 rfl (lv_at hl 0 rfl) ?_
  refine G11_19 hx hb htg hown hK hP 0 rfl dX11_endReading_2 ?_
  obtain ⟨z5, hz5, hf⟩ := bind_s hf
  refine xV_ir hx hb hml hown htg L11_396 (c_X8_blamedFor l E a1 hz5 _) ⟨⟨rfl, rfl⟩, Nat.le_of_ble_eq_true rfl, Nat.le_of_ble_eq_true rfl⟩ hK hG hA hP hD hS (is := [1]) rfl rfl (xrecv hK hP (q0 := 1) (ci := 8) rfl rfl) rfl hl.1 rfl (Nat.le_of_ble_eq_true rfl) dX11_endReading_5 (fun H locs hP hD hS => ?_)
  refine P11_97 hx hb htg hown hK hP hD hS 0 rfl dX11_endReading_8 (fun H locs hP hD hS => ?_)
  refine lv_aload_n hx hb dX11_endReading_11 rfl (lv_at hl 0 rfl) ?_
  refine lv_aload_n hx hb dX11_endReading_12 rfl (lv_at hl 0 rfl) ?_
  refine G11_19 hx hb htg hown hK hP 0 rfl dX11_endReading_13 ?_
  obtain ⟨z16, hz16, hf⟩ := bind_s hf
  refine xV_ir hx hb hml hown htg L11_399 (c_X8_blamedAt l E a1 hz16 _) ⟨⟨rfl, rfl⟩, Nat.le_of_ble_eq_true rfl, Nat.le_of_ble_eq_true rfl⟩ hK hG hA hP hD hS (is := [1]) rfl rfl (xrecv hK hP (q0 := 1) (ci := 8) rfl rfl) rfl hl.1 rfl (Nat.le_of_ble_eq_true rfl) dX11_endReading_16 (fun H locs hP hD hS => ?_)
  refine P11_101 hx hb htg hown hK hP hD hS 0 rfl dX11_endReading_19 (fun H locs hP hD hS => ?_)
  refine lv_aload_n hx hb dX11_endReading_22 rfl (lv_at hl 0 rfl) ?_
  refine G11_19 hx hb htg hown hK hP 0 rfl dX11_endReading_23 ?_
  obtain ⟨z26, hz26, hf⟩ := bind_s hf
  refine xV_vu hx hb hml hown htg L11_402 (c_X8_empty l E a1 hz26 _) ⟨⟨rfl, rfl⟩, Nat.le_of_ble_eq_true rfl, Nat.le_of_ble_eq_true rfl⟩ hK hG hA hP hD hS (is := [1]) (sel := [none, some 0]) (ws2 := [(a0, o11 (upd (upd T0 17 z5) 18 z16) J0_15 J0_16 u0_0 a1 u0_2 u0_3 u0_4 u0_5 u0_6 u0_7 u0_8 u0_9 u0_11 u0_12 u0_13), (a1, o8 z26 J1_8 u1_0 u1_1)]) rfl rfl rfl rfl rfl (xrecv hK hP (q0 := 1) (ci := 8) rfl rfl) rfl hl.1 rfl (Nat.le_of_ble_eq_true rfl) dX11_endReading_26 (fun H locs hP hD hS => ?_)
  exact ret (upd (upd T0 17 z5) 18 z16, z26) hf hP hS dX11_endReading_29
