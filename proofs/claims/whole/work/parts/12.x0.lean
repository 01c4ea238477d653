theorem dX0_clear_0 : decode cX0_clear 0 = .ok (.aload_n 0, 1) := by decide +kernel
theorem dX0_clear_1 : decode cX0_clear 1 = .ok (.iconst 0, 1) := by decide +kernel
theorem dX0_clear_2 : decode cX0_clear 2 = .ok (.putfield 25, 3) := by decide +kernel
theorem dX0_clear_5 : decode cX0_clear 5 = .ok (.aload_n 0, 1) := by decide +kernel
theorem dX0_clear_6 : decode cX0_clear 6 = .ok (.iconst 0, 1) := by decide +kernel
theorem dX0_clear_7 : decode cX0_clear 7 = .ok (.putfield 29, 3) := by decide +kernel
theorem dX0_clear_10 : decode cX0_clear 10 = .ok (.aload_n 0, 1) := by decide +kernel
theorem dX0_clear_11 : decode cX0_clear 11 = .ok (.iconst 0, 1) := by decide +kernel
theorem dX0_clear_12 : decode cX0_clear 12 = .ok (.putfield 33, 3) := by decide +kernel
theorem dX0_clear_15 : decode cX0_clear 15 = .ok (.return_, 1) := by decide +kernel
set_option maxRecDepth 100000 in
theorem c_X0_clear (l : Launch) (E : xE) (a0 : Nat) {T0 : Nat → Int32} {u0_3 u0_4 u0_5 u0_6 u0_7 : Nat} {z : (Nat → Int32)} (hf : f_X0_clear T0 = some z) (sz : Nat) : Met l yX0_clear (Cond.code yX0_clear cX0_clear 1 none :: gw) ({ frames := 0, cells := 0, slots := 0, locals := 0 }) (xPc E [.ref a0] [(a0, o0 T0 u0_3 u0_4 u0_5 u0_6 u0_7)] sz) (xQv E [(a0, o0 T0 u0_3 u0_4 u0_5 u0_6 u0_7)] [(a0, o0 z u0_3 u0_4 u0_5 u0_6 u0_7)] sz) 0 0 (va_A [(a0, o0 T0 u0_3 u0_4 u0_5 u0_6 u0_7)] sz) := by
  refine xM_v (by decide +kernel) (Nat.le_of_ble_eq_true rfl) ?_
  intro p e s m args below meth c A Q hx hb hml hown htg hK hG hA ret0 H locs ls hP hD hS hl
  have ret : ∀ (z' : (Nat → Int32)) {H : Heap} {locs : List Loc} {pc : Nat} {ls : Array Slot}, some z' = some z → va_P E.1 vwCl [(a0, o0 z' u0_3 u0_4 u0_5 u0_6 u0_7)] H → va_S A s.heap H locs → decode cX0_clear pc = .ok (.return_, 1) → W p l e ({ frames := 0, cells := 0, slots := 0, locals := 0 } : Room) s m args below meth c H locs 0 0 Q (F0 m pc ls []) := by
    intro z' H locs pc ls h
    cases h
    exact ret0
  replace hl : lv_has ls 1 [(0, .ref a0)] := hl
  unfold f_X0_clear at hf
  refine lv_aload_n hx hb dX0_clear_0 rfl (lv_at hl 0 rfl) ?_
  refine lv_iconst (v := 0) hx hb dX0_clear_1 rfl ?_
  refine P0_25 hx hb htg hown hK hP hD hS 0 rfl rfl dX0_clear_2 (fun H locs hP hD hS => ?_)
  refine lv_aload_n hx hb dX0_clear_5 rfl (lv_at hl 0 rfl) ?_
  refine lv_iconst (v := 0) hx hb dX0_clear_6 rfl ?_
  refine P0_29 hx hb htg hown hK hP hD hS 0 rfl dX0_clear_7 (fun H locs hP hD hS => ?_)
  refine lv_aload_n hx hb dX0_clear_10 rfl (lv_at hl 0 rfl) ?_
  refine lv_iconst (v := 0) hx hb dX0_clear_11 rfl ?_
  refine P0_33 hx hb htg hown hK hP hD hS 0 rfl dX0_clear_12 (fun H locs hP hD hS => ?_)
  replace hP : va_P E.1 vwCl [(a0, o0 (upd (upd (upd T0 0 0) 1 0) 2 0) u0_3 u0_4 u0_5 u0_6 u0_7)] H := hP
  replace hD : va_D A [(a0, o0 (upd (upd (upd T0 0 0) 1 0) 2 0) u0_3 u0_4 u0_5 u0_6 u0_7)] := hD
  exact ret (upd (upd (upd T0 0 0) 1 0) 2 0) hf hP hS dX0_clear_15
theorem dX0_copyFrom_0 : decode cX0_copyFrom 0 = .ok (.aload_n 0, 1) := by decide +kernel
theorem dX0_copyFrom_1 : decode cX0_copyFrom 1 = .ok (.aload_n 1, 1) := by decide +kernel
theorem dX0_copyFrom_2 : decode cX0_copyFrom 2 = .ok (.getfield 25, 3) := by decide +kernel
theorem dX0_copyFrom_5 : decode cX0_copyFrom 5 = .ok (.putfield 25, 3) := by decide +kernel
theorem dX0_copyFrom_8 : decode cX0_copyFrom 8 = .ok (.aload_n 0, 1) := by decide +kernel
theorem dX0_copyFrom_9 : decode cX0_copyFrom 9 = .ok (.aload_n 1, 1) := by decide +kernel
theorem dX0_copyFrom_10 : decode cX0_copyFrom 10 = .ok (.getfield 29, 3) := by decide +kernel
theorem dX0_copyFrom_13 : decode cX0_copyFrom 13 = .ok (.putfield 29, 3) := by decide +kernel
theorem dX0_copyFrom_16 : decode cX0_copyFrom 16 = .ok (.aload_n 0, 1) := by decide +kernel
theorem dX0_copyFrom_17 : decode cX0_copyFrom 17 = .ok (.aload_n 1, 1) := by decide +kernel
theorem dX0_copyFrom_18 : decode cX0_copyFrom 18 = .ok (.getfield 33, 3) := by decide +kernel
theorem dX0_copyFrom_21 : decode cX0_copyFrom 21 = .ok (.putfield 33, 3) := by decide +kernel
theorem dX0_copyFrom_24 : decode cX0_copyFrom 24 = .ok (.aload_n 1, 1) := by decide +kernel
theorem dX0_copyFrom_25 : decode cX0_copyFrom 25 = .ok (.getfield 9, 3) := by decide +kernel
theorem dX0_copyFrom_28 : decode cX0_copyFrom 28 = .ok (.iconst 0, 1) := by decide +kernel
theorem dX0_copyFrom_29 : decode cX0_copyFrom 29 = .ok (.aload_n 0, 1) := by decide +kernel
theorem dX0_copyFrom_30 : decode cX0_copyFrom 30 = .ok (.getfield 9, 3) := by decide +kernel
theorem dX0_copyFrom_33 : decode cX0_copyFrom 33 = .ok (.iconst 0, 1) := by decide +kernel
theorem dX0_copyFrom_34 : decode cX0_copyFrom 34 = .ok (.aload_n 0, 1) := by decide +kernel
theorem dX0_copyFrom_35 : decode cX0_copyFrom 35 = .ok (.getfield 33, 3) := by decide +kernel
theorem dX0_copyFrom_38 : decode cX0_copyFrom 38 = .ok (.invokestatic 36, 3) := by decide +kernel
theorem dX0_copyFrom_41 : decode cX0_copyFrom 41 = .ok (.aload_n 1, 1) := by decide +kernel
theorem dX0_copyFrom_42 : decode cX0_copyFrom 42 = .ok (.getfield 13, 3) := by decide +kernel
theorem dX0_copyFrom_45 : decode cX0_copyFrom 45 = .ok (.iconst 0, 1) := by decide +kernel
theorem dX0_copyFrom_46 : decode cX0_copyFrom 46 = .ok (.aload_n 0, 1) := by decide +kernel
theorem dX0_copyFrom_47 : decode cX0_copyFrom 47 = .ok (.getfield 13, 3) := by decide +kernel
theorem dX0_copyFrom_50 : decode cX0_copyFrom 50 = .ok (.iconst 0, 1) := by decide +kernel
theorem dX0_copyFrom_51 : decode cX0_copyFrom 51 = .ok (.aload_n 0, 1) := by decide +kernel
theorem dX0_copyFrom_52 : decode cX0_copyFrom 52 = .ok (.getfield 33, 3) := by decide +kernel
theorem dX0_copyFrom_55 : decode cX0_copyFrom 55 = .ok (.invokestatic 36, 3) := by decide +kernel
theorem dX0_copyFrom_58 : decode cX0_copyFrom 58 = .ok (.aload_n 1, 1) := by decide +kernel
theorem dX0_copyFrom_59 : decode cX0_copyFrom 59 = .ok (.getfield 16, 3) := by decide +kernel
theorem dX0_copyFrom_62 : decode cX0_copyFrom 62 = .ok (.iconst 0, 1) := by decide +kernel
theorem dX0_copyFrom_63 : decode cX0_copyFrom 63 = .ok (.aload_n 0, 1) := by decide +kernel
theorem dX0_copyFrom_64 : decode cX0_copyFrom 64 = .ok (.getfield 16, 3) := by decide +kernel
theorem dX0_copyFrom_67 : decode cX0_copyFrom 67 = .ok (.iconst 0, 1) := by decide +kernel
theorem dX0_copyFrom_68 : decode cX0_copyFrom 68 = .ok (.aload_n 0, 1) := by decide +kernel
theorem dX0_copyFrom_69 : decode cX0_copyFrom 69 = .ok (.getfield 33, 3) := by decide +kernel
theorem dX0_copyFrom_72 : decode cX0_copyFrom 72 = .ok (.invokestatic 36, 3) := by decide +kernel
theorem dX0_copyFrom_75 : decode cX0_copyFrom 75 = .ok (.aload_n 1, 1) := by decide +kernel
theorem dX0_copyFrom_76 : decode cX0_copyFrom 76 = .ok (.getfield 19, 3) := by decide +kernel
theorem dX0_copyFrom_79 : decode cX0_copyFrom 79 = .ok (.iconst 0, 1) := by decide +kernel
theorem dX0_copyFrom_80 : decode cX0_copyFrom 80 = .ok (.aload_n 0, 1) := by decide +kernel
theorem dX0_copyFrom_81 : decode cX0_copyFrom 81 = .ok (.getfield 19, 3) := by decide +kernel
theorem dX0_copyFrom_84 : decode cX0_copyFrom 84 = .ok (.iconst 0, 1) := by decide +kernel
theorem dX0_copyFrom_85 : decode cX0_copyFrom 85 = .ok (.aload_n 0, 1) := by decide +kernel
theorem dX0_copyFrom_86 : decode cX0_copyFrom 86 = .ok (.getfield 33, 3) := by decide +kernel
theorem dX0_copyFrom_89 : decode cX0_copyFrom 89 = .ok (.invokestatic 36, 3) := by decide +kernel
theorem dX0_copyFrom_92 : decode cX0_copyFrom 92 = .ok (.aload_n 1, 1) := by decide +kernel
theorem dX0_copyFrom_93 : decode cX0_copyFrom 93 = .ok (.getfield 22, 3) := by decide +kernel
theorem dX0_copyFrom_96 : decode cX0_copyFrom 96 = .ok (.iconst 0, 1) := by decide +kernel
theorem dX0_copyFrom_97 : decode cX0_copyFrom 97 = .ok (.aload_n 0, 1) := by decide +kernel
theorem dX0_copyFrom_98 : decode cX0_copyFrom 98 = .ok (.getfield 22, 3) := by decide +kernel
theorem dX0_copyFrom_101 : decode cX0_copyFrom 101 = .ok (.iconst 0, 1) := by decide +kernel
theorem dX0_copyFrom_102 : decode cX0_copyFrom 102 = .ok (.aload_n 0, 1) := by decide +kernel
theorem dX0_copyFrom_103 : decode cX0_copyFrom 103 = .ok (.getfield 33, 3) := by decide +kernel
theorem dX0_copyFrom_106 : decode cX0_copyFrom 106 = .ok (.invokestatic 36, 3) := by decide +kernel
theorem dX0_copyFrom_109 : decode cX0_copyFrom 109 = .ok (.return_, 1) := by decide +kernel
set_option maxRecDepth 100000 in
theorem c_X0_copyFrom (l : Launch) (E : xE) (a0 a1 a2 a3 a4 a5 a6 a7 a8 a9 a10 a11 : Nat) {T0 : Nat → Int32} {T1 : Nat → Int32} {V2 : Nat → Int32} {V3 : Nat → Int32} {V4 : Nat → Int32} {V5 : Nat → Int32} {V6 : Nat → Int32} {V7 : Nat → Int32} {V8 : Nat → Int32} {V9 : Nat → Int32} {V10 : Nat → Int32} {V11 : Nat → Int32} {z : (Nat → Int32) × (Nat → Int32) × (Nat → Int32) × (Nat → Int32) × (Nat → Int32) × (Nat → Int32)} (hf : f_X0_copyFrom T0 T1 V2 V3 V4 V5 V6 V7 V8 V9 V10 V11 = some z) (sz : Nat) : Met l yX0_copyFrom (Cond.code yX0_copyFrom cX0_copyFrom 2 none :: gw) ({ frames := 1, cells := 0, slots := 0, locals := 80 }) (xPc E [.ref a0, .ref a1] [(a0, o0 T0 a3 a5 a7 a9 a11), (a1, o0 T1 a2 a4 a6 a8 a10), (a2, ai E 60 V2), (a3, ai E 60 V3), (a4, ai E 60 V4), (a5, ai E 60 V5), (a6, ai E 60 V6), (a7, ai E 60 V7), (a8, ai E 60 V8), (a9, ai E 60 V9), (a10, ai E 60 V10), (a11, ai E 60 V11)] sz) (xQv E [(a0, o0 T0 a3 a5 a7 a9 a11), (a1, o0 T1 a2 a4 a6 a8 a10), (a2, ai E 60 V2), (a3, ai E 60 V3), (a4, ai E 60 V4), (a5, ai E 60 V5), (a6, ai E 60 V6), (a7, ai E 60 V7), (a8, ai E 60 V8), (a9, ai E 60 V9), (a10, ai E 60 V10), (a11, ai E 60 V11)] [(a0, o0 z.1 a3 a5 a7 a9 a11), (a1, o0 T1 a2 a4 a6 a8 a10), (a2, ai E 60 V2), (a3, ai E 60 z.2.1), (a4, ai E 60 V4), (a5, ai E 60 z.2.2.1), (a6, ai E 60 V6), (a7, ai E 60 z.2.2.2.1), (a8, ai E 60 V8), (a9, ai E 60 z.2.2.2.2.1), (a10, ai E 60 V10), (a11, ai E 60 z.2.2.2.2.2)] sz) 0 0 (va_A [(a0, o0 T0 a3 a5 a7 a9 a11), (a1, o0 T1 a2 a4 a6 a8 a10), (a2, ai E 60 V2), (a3, ai E 60 V3), (a4, ai E 60 V4), (a5, ai E 60 V5), (a6, ai E 60 V6), (a7, ai E 60 V7), (a8, ai E 60 V8), (a9, ai E 60 V9), (a10, ai E 60 V10), (a11, ai E 60 V11)] sz) := by
  refine xM_v (by decide +kernel) (Nat.le_of_ble_eq_true rfl) ?_
  intro p e s m args below meth c A Q hx hb hml hown htg hK hG hA ret0 H locs ls hP hD hS hl
  have ret : ∀ (z' : (Nat → Int32) × (Nat → Int32) × (Nat → Int32) × (Nat → Int32) × (Nat → Int32) × (Nat → Int32)) {H : Heap} {locs : List Loc} {pc : Nat} {ls : Array Slot}, some z' = some z → va_P E.1 vwCl [(a0, o0 z'.1 a3 a5 a7 a9 a11), (a1, o0 T1 a2 a4 a6 a8 a10), (a2, ai E 60 V2), (a3, ai E 60 z'.2.1), (a4, ai E 60 V4), (a5, ai E 60 z'.2.2.1), (a6, ai E 60 V6), (a7, ai E 60 z'.2.2.2.1), (a8, ai E 60 V8), (a9, ai E 60 z'.2.2.2.2.1), (a10, ai E 60 V10), (a11, ai E 60 z'.2.2.2.2.2)] H → va_S A s.heap H locs → decode cX0_copyFrom pc = .ok (.return_, 1) → W p l e ({ frames := 1, cells := 0, slots := 0, locals := 80 } : Room) s m args below meth c H locs 0 0 Q (F0 m pc ls []) := by
    intro z' H locs pc ls h
    cases h
    exact ret0
  replace hl : lv_has ls 2 [(0, .ref a0), (1, .ref a1)] := hl
  unfold f_X0_copyFrom at hf
  refine lv_aload_n hx hb dX0_copyFrom_0 rfl (lv_at hl 0 rfl) ?_
  refine lv_aload_n hx hb dX0_copyFrom_1 rfl (lv_at hl 1 rfl) ?_
  refine G0_25 hx hb htg hown hK hP 1 rfl dX0_copyFrom_2 ?_
  obtain ⟨g5, hf⟩ := ck_s hf
  refine P0_25 hx hb htg hown hK hP hD hS 0 rfl g5 dX0_copyFrom_5 (fun H locs hP hD hS => ?_)
  refine lv_aload_n hx hb dX0_copyFrom_8 rfl (lv_at hl 0 rfl) ?_
  refine lv_aload_n hx hb dX0_copyFrom_9 rfl (lv_at hl 1 rfl) ?_
  refine G0_29 hx hb htg hown hK hP 1 rfl dX0_copyFrom_10 ?_
  refine P0_29 hx hb htg hown hK hP hD hS 0 rfl dX0_copyFrom_13 (fun H locs hP hD hS => ?_)
  refine lv_aload_n hx hb dX0_copyFrom_16 rfl (lv_at hl 0 rfl) ?_
  refine lv_aload_n hx hb dX0_copyFrom_17 rfl (lv_at hl 1 rfl) ?_
  refine G0_33 hx hb htg hown hK hP 1 rfl dX0_copyFrom_18 ?_
  refine P0_33 hx hb htg hown hK hP hD hS 0 rfl dX0_copyFrom_21 (fun H locs hP hD hS => ?_)
  replace hP : va_P E.1 vwCl [(a0, o0 (upd (upd (upd T0 0 (T1 0)) 1 (T1 1)) 2 (T1 2)) a3 a5 a7 a9 a11), (a1, o0 T1 a2 a4 a6 a8 a10), (a2, ai E 60 V2), (a3, ai E 60 V3), (a4, ai E 60 V4), (a5, ai E 60 V5), (a6, ai E 60 V6), (a7, ai E 60 V7), (a8, ai E 60 V8), (a9, ai E 60 V9), (a10, ai E 60 V10), (a11, ai E 60 V11)] H := hP
  replace hD : va_D A [(a0, o0 (upd (upd (upd T0 0 (T1 0)) 1 (T1 1)) 2 (T1 2)) a3 a5 a7 a9 a11), (a1, o0 T1 a2 a4 a6 a8 a10), (a2, ai E 60 V2), (a3, ai E 60 V3), (a4, ai E 60 V4), (a5, ai E 60 V5), (a6, ai E 60 V6), (a7, ai E 60 V7), (a8, ai E 60 V8), (a9, ai E 60 V9), (a10, ai E 60 V10), (a11, ai E 60 V11)] := hD
  refine lv_aload_n hx hb dX0_copyFrom_24 rfl (lv_at hl 1 rfl) ?_
  refine G0_9 hx hb htg hown hK hP 1 rfl dX0_copyFrom_25 ?_
  refine lv_iconst (v := 0) hx hb dX0_copyFrom_28 rfl ?_
  refine lv_aload_n hx hb dX0_copyFrom_29 rfl (lv_at hl 0 rfl) ?_
  refine G0_9 hx hb htg hown hK hP 0 rfl dX0_copyFrom_30 ?_
  refine lv_iconst (v := 0) hx hb dX0_copyFrom_33 rfl ?_
  refine lv_aload_n hx hb dX0_copyFrom_34 rfl (lv_at hl 0 rfl) ?_
  refine G0_33 hx hb htg hown hK hP 0 rfl dX0_copyFrom_35 ?_
  obtain ⟨g38, hf⟩ := ck_s hf
  refine xcopyi hx hb hml hl.1 hown mlC0_36 htg hK hP hD hS 2 3 rfl rfl g38 (Nat.le_of_ble_eq_true rfl) (Nat.le_of_ble_eq_true rfl) dX0_copyFrom_38 (fun H locs hP hD hS => ?_)
  replace hP : va_P E.1 vwCl [(a0, o0 (upd (upd (upd T0 0 (T1 0)) 1 (T1 1)) 2 (T1 2)) a3 a5 a7 a9 a11), (a1, o0 T1 a2 a4 a6 a8 a10), (a2, ai E 60 V2), (a3, ai E 60 (va_cpy V2 V3 (Int32.toNatClampNeg 0) (Int32.toNatClampNeg 0) (Int32.toNatClampNeg ((upd (upd (upd T0 0 (T1 0)) 1 (T1 1)) 2 (T1 2)) 2)))), (a4, ai E 60 V4), (a5, ai E 60 V5), (a6, ai E 60 V6), (a7, ai E 60 V7), (a8, ai E 60 V8), (a9, ai E 60 V9), (a10, ai E 60 V10), (a11, ai E 60 V11)] H := hP
  replace hD : va_D A [(a0, o0 (upd (upd (upd T0 0 (T1 0)) 1 (T1 1)) 2 (T1 2)) a3 a5 a7 a9 a11), (a1, o0 T1 a2 a4 a6 a8 a10), (a2, ai E 60 V2), (a3, ai E 60 (va_cpy V2 V3 (Int32.toNatClampNeg 0) (Int32.toNatClampNeg 0) (Int32.toNatClampNeg ((upd (upd (upd T0 0 (T1 0)) 1 (T1 1)) 2 (T1 2)) 2)))), (a4, ai E 60 V4), (a5, ai E 60 V5), (a6, ai E 60 V6), (a7, ai E 60 V7), (a8, ai E 60 V8), (a9, ai E 60 V9), (a10, ai E 60 V10), (a11, ai E 60 V11)] := hD
  refine lv_aload_n hx hb dX0_copyFrom_41 rfl (lv_at hl 1 rfl) ?_
  refine G0_13 hx hb htg hown hK hP 1 rfl dX0_copyFrom_42 ?_
  refine lv_iconst (v := 0) hx hb dX0_copyFrom_45 rfl ?_
  refine lv_aload_n hx hb dX0_copyFrom_46 rfl (lv_at hl 0 rfl) ?_
  refine G0_13 hx hb htg hown hK hP 0 rfl dX0_copyFrom_47 ?_
  refine lv_iconst (v := 0) hx hb dX0_copyFrom_50 rfl ?_
  refine lv_aload_n hx hb dX0_copyFrom_51 rfl (lv_at hl 0 rfl) ?_
  refine G0_33 hx hb htg hown hK hP 0 rfl dX0_copyFrom_52 ?_
  obtain ⟨g55, hf⟩ := ck_s hf
  refine xcopyi hx hb hml hl.1 hown mlC0_36 htg hK hP hD hS 4 5 rfl rfl g55 (Nat.le_of_ble_eq_true rfl) (Nat.le_of_ble_eq_true rfl) dX0_copyFrom_55 (fun H locs hP hD hS => ?_)
  replace hP : va_P E.1 vwCl [(a0, o0 (upd (upd (upd T0 0 (T1 0)) 1 (T1 1)) 2 (T1 2)) a3 a5 a7 a9 a11), (a1, o0 T1 a2 a4 a6 a8 a10), (a2, ai E 60 V2), (a3, ai E 60 (va_cpy V2 V3 (Int32.toNatClampNeg 0) (Int32.toNatClampNeg 0) (Int32.toNatClampNeg ((upd (upd (upd T0 0 (T1 0)) 1 (T1 1)) 2 (T1 2)) 2)))), (a4, ai E 60 V4), (a5, ai E 60 (va_cpy V4 V5 (Int32.toNatClampNeg 0) (Int32.toNatClampNeg 0) (Int32.toNatClampNeg ((upd (upd (upd T0 0 (T1 0)) 1 (T1 1)) 2 (T1 2)) 2)))), (a6, ai E 60 V6), (a7, ai E 60 V7), (a8, ai E 60 V8), (a9, ai E 60 V9), (a10, ai E 60 V10), (a11, ai E 60 V11)] H := hP
  replace hD : va_D A [(a0, o0 (upd (upd (upd T0 0 (T1 0)) 1 (T1 1)) 2 (T1 2)) a3 a5 a7 a9 a11), (a1, o0 T1 a2 a4 a6 a8 a10), (a2, ai E 60 V2), (a3, ai E 60 (va_cpy V2 V3 (Int32.toNatClampNeg 0) (Int32.toNatClampNeg 0) (Int32.toNatClampNeg ((upd (upd (upd T0 0 (T1 0)) 1 (T1 1)) 2 (T1 2)) 2)))), (a4, ai E 60 V4), (a5, ai E 60 (va_cpy V4 V5 (Int32.toNatClampNeg 0) (Int32.toNatClampNeg 0) (Int32.toNatClampNeg ((upd (upd (upd T0 0 (T1 0)) 1 (T1 1)) 2 (T1 2)) 2)))), (a6, ai E 60 V6), (a7, ai E 60 V7), (a8, ai E 60 V8), (a9, ai E 60 V9), (a10, ai E 60 V10), (a11, ai E 60 V11)] := hD
  refine lv_aload_n hx hb dX0_copyFrom_58 rfl (lv_at hl 1 rfl) ?_
  refine G0_16 hx hb htg hown hK hP 1 rfl dX0_copyFrom_59 ?_
  refine lv_iconst (v := 0) hx hb dX0_copyFrom_62 rfl ?_
  refine lv_aload_n hx hb dX0_copyFrom_63 rfl (lv_at hl 0 rfl) ?_
  refine G0_16 hx hb htg hown hK hP 0 rfl dX0_copyFrom_64 ?_
  refine lv_iconst (v := 0) hx hb dX0_copyFrom_67 rfl ?_
  refine lv_aload_n hx hb dX0_copyFrom_68 rfl (lv_at hl 0 rfl) ?_
  refine G0_33 hx hb htg hown hK hP 0 rfl dX0_copyFrom_69 ?_
  obtain ⟨g72, hf⟩ := ck_s hf
  refine xcopyi hx hb hml hl.1 hown mlC0_36 htg hK hP hD hS 6 7 rfl rfl g72 (Nat.le_of_ble_eq_true rfl) (Nat.le_of_ble_eq_true rfl) dX0_copyFrom_72 (fun H locs hP hD hS => ?_)
  replace hP : va_P E.1 vwCl [(a0, o0 (upd (upd (upd T0 0 (T1 0)) 1 (T1 1)) 2 (T1 2)) a3 a5 a7 a9 a11), (a1, o0 T1 a2 a4 a6 a8 a10), (a2, ai E 60 V2), (a3, ai E 60 (va_cpy V2 V3 (Int32.toNatClampNeg 0) (Int32.toNatClampNeg 0) (Int32.toNatClampNeg ((upd (upd (upd T0 0 (T1 0)) 1 (T1 1)) 2 (T1 2)) 2)))), (a4, ai E 60 V4), (a5, ai E 60 (va_cpy V4 V5 (Int32.toNatClampNeg 0) (Int32.toNatClampNeg 0) (Int32.toNatClampNeg ((upd (upd (upd T0 0 (T1 0)) 1 (T1 1)) 2 (T1 2)) 2)))), (a6, ai E 60 V6), (a7, ai E 60 (va_cpy V6 V7 (Int32.toNatClampNeg 0) (Int32.toNatClampNeg 0) (Int32.toNatClampNeg ((upd (upd (upd T0 0 (T1 0)) 1 (T1 1)) 2 (T1 2)) 2)))), (a8, ai E 60 V8), (a9, ai E 60 V9), (a10, ai E 60 V10), (a11, ai E 60 V11)] H := hP
  replace hD : va_D A [(a0, o0 (upd (upd (upd T0 0 (T1 0)) 1 (T1 1)) 2 (T1 2)) a3 a5 a7 a9 a11), (a1, o0 T1 a2 a4 a6 a8 a10), (a2, ai E 60 V2), (a3, ai E 60 (va_cpy V2 V3 (Int32.toNatClampNeg 0) (Int32.toNatClampNeg 0) (Int32.toNatClampNeg ((upd (upd (upd T0 0 (T1 0)) 1 (T1 1)) 2 (T1 2)) 2)))), (a4, ai E 60 V4), (a5, ai E 60 (va_cpy V4 V5 (Int32.toNatClampNeg 0) (Int32.toNatClampNeg 0) (Int32.toNatClampNeg ((upd (upd (upd T0 0 (T1 0)) 1 (T1 1)) 2 (T1 2)) 2)))), (a6, ai E 60 V6), (a7, ai E 60 (va_cpy V6 V7 (Int32.toNatClampNeg 0) (Int32.toNatClampNeg 0) (Int32.toNatClampNeg ((upd (upd (upd T0 0 (T1 0)) 1 (T1 1)) 2 (T1 2)) 2)))), (a8, ai E 60 V8), (a9, ai E 60 V9), (a10, ai E 60 V10), (a11, ai E 60 V11)] := hD
  refine lv_aload_n hx hb dX0_copyFrom_75 rfl (lv_at hl 1 rfl) ?_
  refine G0_19 hx hb htg hown hK hP 1 rfl dX0_copyFrom_76 ?_
  refine lv_iconst (v := 0) hx hb dX0_copyFrom_79 rfl ?_
  refine lv_aload_n hx hb dX0_copyFrom_80 rfl (lv_at hl 0 rfl) ?_
  refine G0_19 hx hb htg hown hK hP 0 rfl dX0_copyFrom_81 ?_
  refine lv_iconst (v := 0) hx hb dX0_copyFrom_84 rfl ?_
  refine lv_aload_n hx hb dX0_copyFrom_85 rfl (lv_at hl 0 rfl) ?_
  refine G0_33 hx hb htg hown hK hP 0 rfl dX0_copyFrom_86 ?_
  obtain ⟨g89, hf⟩ := ck_s hf
  refine xcopyi hx hb hml hl.1 hown mlC0_36 htg hK hP hD hS 8 9 rfl rfl g89 (Nat.le_of_ble_eq_true rfl) (Nat.le_of_ble_eq_true rfl) dX0_copyFrom_89 (fun H locs hP hD hS => ?_)
  replace hP : va_P E.1 vwCl [(a0, o0 (upd (upd (upd T0 0 (T1 0)) 1 (T1 1)) 2 (T1 2)) a3 a5 a7 a9 a11), (a1, o0 T1 a2 a4 a6 a8 a10), (a2, ai E 60 V2), (a3, ai E 60 (va_cpy V2 V3 (Int32.toNatClampNeg 0) (Int32.toNatClampNeg 0) (Int32.toNatClampNeg ((upd (upd (upd T0 0 (T1 0)) 1 (T1 1)) 2 (T1 2)) 2)))), (a4, ai E 60 V4), (a5, ai E 60 (va_cpy V4 V5 (Int32.toNatClampNeg 0) (Int32.toNatClampNeg 0) (Int32.toNatClampNeg ((upd (upd (upd T0 0 (T1 0)) 1 (T1 1)) 2 (T1 2)) 2)))), (a6, ai E 60 V6), (a7, ai E 60 (va_cpy V6 V7 (Int32.toNatClampNeg 0) (Int32.toNatClampNeg 0) (Int32.toNatClampNeg ((upd (upd (upd T0 0 (T1 0)) 1 (T1 1)) 2 (T1 2)) 2)))), (a8, ai E 60 V8), (a9, ai E 60 (va_cpy V8 V9 (Int32.toNatClampNeg 0) (Int32.toNatClampNeg 0) (Int32.toNatClampNeg ((upd (upd (upd T0 0 (T1 0)) 1 (T1 1)) 2 (T1 2)) 2)))), (a10, ai E 60 V10), (a11, ai E 60 V11)] H := hP
  replace hD : va_D A [(a0, o0 (upd (upd (upd T0 0 (T1 0)) 1 (T1 1)) 2 (T1 2)) a3 a5 a7 a9 a11), (a1, o0 T1 a2 a4 a6 a8 a10), (a2, ai E 60 V2), (a3, ai E 60 (va_cpy V2 V3 (Int32.toNatClampNeg 0) (Int32.toNatClampNeg 0) (Int32.toNatClampNeg ((upd (upd (upd T0 0 (T1 0)) 1 (T1 1)) 2 (T1 2)) 2)))), (a4, ai E 60 V4), (a5, ai E 60 (va_cpy V4 V5 (Int32.toNatClampNeg 0) (Int32.toNatClampNeg 0) (Int32.toNatClampNeg ((upd (upd (upd T0 0 (T1 0)) 1 (T1 1)) 2 (T1 2)) 2)))), (a6, ai E 60 V6), (a7, ai E 60 (va_cpy V6 V7 (Int32.toNatClampNeg 0) (Int32.toNatClampNeg 0) (Int32.toNatClampNeg ((upd (upd (upd T0 0 (T1 0)) 1 (T1 1)) 2 (T1 2)) 2)))), (a8, ai E 60 V8), (a9, ai E 60 (va_cpy V8 V9 (Int32.toNatClampNeg 0) (Int32.toNatClampNeg 0) (Int32.toNatClampNeg ((upd (upd (upd T0 0 (T1 0)) 1 (T1 1)) 2 (T1 2)) 2)))), (a10, ai E 60 V10), (a11, ai E 60 V11)] := hD
  refine lv_aload_n hx hb dX0_copyFrom_92 rfl (lv_at hl 1 rfl) ?_
  refine G0_22 hx hb htg hown hK hP 1 rfl dX0_copyFrom_93 ?_
  refine lv_iconst (v := 0) hx hb dX0_copyFrom_96 rfl ?_
  refine lv_aload_n hx hb dX0_copyFrom_97 rfl (lv_at hl 0 rfl) ?_
  refine G0_22 hx hb htg hown hK hP 0 rfl dX0_copyFrom_98 ?_
  refine lv_iconst (v := 0) hx hb dX0_copyFrom_101 rfl ?_
  refine lv_aload_n hx hb dX0_copyFrom_102 rfl (lv_at hl 0 rfl) ?_
  refine G0_33 hx hb htg hown hK hP 0 rfl dX0_copyFrom_103 ?_
  obtain ⟨g106, hf⟩ := ck_s hf
  refine xcopyi hx hb hml hl.1 hown mlC0_36 htg hK hP hD hS 10 11 rfl rfl g106 (Nat.le_of_ble_eq_true rfl) (Nat.le_of_ble_eq_true rfl) dX0_copyFrom_106 (fun H locs hP hD hS => ?_)
  replace hP : va_P E.1 vwCl [(a0, o0 (upd (upd (upd T0 0 (T1 0)) 1 (T1 1)) 2 (T1 2)) a3 a5 a7 a9 a11), (a1, o0 T1 a2 a4 a6 a8 a10), (a2, ai E 60 V2), (a3, ai E 60 (va_cpy V2 V3 (Int32.toNatClampNeg 0) (Int32.toNatClampNeg 0) (Int32.toNatClampNeg ((upd (upd (upd T0 0 (T1 0)) 1 (T1 1)) 2 (T1 2)) 2)))), (a4, ai E 60 V4), (a5, ai E 60 (va_cpy V4 V5 (Int32.toNatClampNeg 0) (Int32.toNatClampNeg 0) (Int32.toNatClampNeg ((upd (upd (upd T0 0 (T1 0)) 1 (T1 1)) 2 (T1 2)) 2)))), (a6, ai E 60 V6), (a7, ai E 60 (va_cpy V6 V7 (Int32.toNatClampNeg 0) (Int32.toNatClampNeg 0) (Int32.toNatClampNeg ((upd (upd (upd T0 0 (T1 0)) 1 (T1 1)) 2 (T1 2)) 2)))), (a8, ai E 60 V8), (a9, ai E 60 (va_cpy V8 V9 (Int32.toNatClampNeg 0) (Int32.toNatClampNeg 0) (Int32.toNatClampNeg ((upd (upd (upd T0 0 (T1 0)) 1 (T1 1)) 2 (T1 2)) 2)))), (a10, ai E 60 V10), (a11, ai E 60 (va_cpy V10 V11 (Int32.toNatClampNeg 0) (Int32.toNatClampNeg 0) (Int32.toNatClampNeg ((upd (upd (upd T0 0 (T1 0)) 1 (T1 1)) 2 (T1 2)) 2))))] H := hP
  replace hD : va_D A [(a0, o0 (upd (upd (upd T0 0 (T1 0)) 1 (T1 1)) 2 (T1 2)) a3 a5 a7 a9 a11), (a1, o0 T1 a2 a4 a6 a8 a10), (a2, ai E 60 V2), (a3, ai E 60 (va_cpy V2 V3 (Int32.toNatClampNeg 0) (Int32.toNatClampNeg 0) (Int32.toNatClampNeg ((upd (upd (upd T0 0 (T1 0)) 1 (T1 1)) 2 (T1 2)) 2)))), (a4, ai E 60 V4), (a5, ai E 60 (va_cpy V4 V5 (Int32.toNatClampNeg 0) (Int32.toNatClampNeg 0) (Int32.toNatClampNeg ((upd (upd (upd T0 0 (T1 0)) 1 (T1 1)) 2 (T1 2)) 2)))), (a6, ai E 60 V6), (a7, ai E 60 (va_cpy V6 V7 (Int32.toNatClampNeg 0) (Int32.toNatClampNeg 0) (Int32.toNatClampNeg ((upd (upd (upd T0 0 (T1 0)) 1 (T1 1)) 2 (T1 2)) 2)))), (a8, ai E 60 V8), (a9, ai E 60 (va_cpy V8 V9 (Int32.toNatClampNeg 0) (Int32.toNatClampNeg 0) (Int32.toNatClampNeg ((upd (upd (upd T0 0 (T1 0)) 1 (T1 1)) 2 (T1 2)) 2)))), (a10, ai E 60 V10), (a11, ai E 60 (va_cpy V10 V11 (Int32.toNatClampNeg 0) (Int32.toNatClampNeg 0) (Int32.toNatClampNeg ((upd (upd (upd T0 0 (T1 0)) 1 (T1 1)) 2 (T1 2)) 2))))] := hD
  exact ret (upd (upd (upd T0 0 (T1 0)) 1 (T1 1)) 2 (T1 2), va_cpy V2 V3 (Int32.toNatClampNeg 0) (Int32.toNatClampNeg 0) (Int32.toNatClampNeg ((upd (upd (upd T0 0 (T1 0)) 1 (T1 1)) 2 (T1 2)) 2)), va_cpy V4 V5 (Int32.toNatClampNeg 0) (Int32.toNatClampNeg 0) (Int32.toNatClampNeg ((upd (upd (upd T0 0 (T1 0)) 1 (T1 1)) 2 (T1 2)) 2)), va_cpy V6 V7 (Int32.toNatClampNeg 0) (Int32.toNatClampNeg 0) (Int32.toNatClampNeg ((upd (upd (upd T0 0 (T1 0)) 1 (T1 1)) 2 (T1 2)) 2)), va_cpy V8 V9 (Int32.toNatClampNeg 0) (Int32.toNatClampNeg 0) (Int32.toNatClampNeg ((upd (upd (upd T0 0 (T1 0)) 1 (T1 1)) 2 (T1 2)) 2)), va_cpy V10 V11 (Int32.toNatClampNeg 0) (Int32.toNatClampNeg 0) (Int32.toNatClampNeg ((upd (upd (upd T0 0 (T1 0)) 1 (T1 1)) 2 (T1 2)) 2))) hf hP hS dX0_copyFrom_109
theorem dX0_addLine_0 : decode cX0_addLine 0 = .ok (.aload_n 0, 1) := by decide +kernel
theorem dX0_addLine_1 : decode cX0_addLine 1 = .ok (.getfield 33, 3) := by decide +kernel
theorem dX0_addLine_4 : decode cX0_addLine 4 = .ok (.bipush 60, 2) := by decide +kernel
theorem dX0_addLine_6 : decode cX0_addLine 6 = .ok (.if_icmp .lt 5, 3) := by decide +kernel
theorem dX0_addLine_9 : decode cX0_addLine 9 = .ok (.iconst 0, 1) := by decide +kernel
theorem dX0_addLine_10 : decode cX0_addLine 10 = .ok (.ireturn, 1) := by decide +kernel
theorem dX0_addLine_11 : decode cX0_addLine 11 = .ok (.aload_n 0, 1) := by decide +kernel
theorem dX0_addLine_12 : decode cX0_addLine 12 = .ok (.getfield 9, 3) := by decide +kernel
theorem dX0_addLine_15 : decode cX0_addLine 15 = .ok (.aload_n 0, 1) := by decide +kernel
theorem dX0_addLine_16 : decode cX0_addLine 16 = .ok (.getfield 33, 3) := by decide +kernel
theorem dX0_addLine_19 : decode cX0_addLine 19 = .ok (.iload_n 1, 1) := by decide +kernel
theorem dX0_addLine_20 : decode cX0_addLine 20 = .ok (.iastore, 1) := by decide +kernel
theorem dX0_addLine_21 : decode cX0_addLine 21 = .ok (.aload_n 0, 1) := by decide +kernel
theorem dX0_addLine_22 : decode cX0_addLine 22 = .ok (.getfield 13, 3) := by decide +kernel
theorem dX0_addLine_25 : decode cX0_addLine 25 = .ok (.aload_n 0, 1) := by decide +kernel
theorem dX0_addLine_26 : decode cX0_addLine 26 = .ok (.getfield 33, 3) := by decide +kernel
theorem dX0_addLine_29 : decode cX0_addLine 29 = .ok (.iload_n 2, 1) := by decide +kernel
theorem dX0_addLine_30 : decode cX0_addLine 30 = .ok (.iastore, 1) := by decide +kernel
theorem dX0_addLine_31 : decode cX0_addLine 31 = .ok (.aload_n 0, 1) := by decide +kernel
theorem dX0_addLine_32 : decode cX0_addLine 32 = .ok (.getfield 16, 3) := by decide +kernel
theorem dX0_addLine_35 : decode cX0_addLine 35 = .ok (.aload_n 0, 1) := by decide +kernel
theorem dX0_addLine_36 : decode cX0_addLine 36 = .ok (.getfield 33, 3) := by decide +kernel
theorem dX0_addLine_39 : decode cX0_addLine 39 = .ok (.iload_n 3, 1) := by decide +kernel
theorem dX0_addLine_40 : decode cX0_addLine 40 = .ok (.iastore, 1) := by decide +kernel
theorem dX0_addLine_41 : decode cX0_addLine 41 = .ok (.aload_n 0, 1) := by decide +kernel
theorem dX0_addLine_42 : decode cX0_addLine 42 = .ok (.getfield 19, 3) := by decide +kernel
theorem dX0_addLine_45 : decode cX0_addLine 45 = .ok (.aload_n 0, 1) := by decide +kernel
theorem dX0_addLine_46 : decode cX0_addLine 46 = .ok (.getfield 33, 3) := by decide +kernel
theorem dX0_addLine_49 : decode cX0_addLine 49 = .ok (.iload 4, 2) := by decide +kernel
theorem dX0_addLine_51 : decode cX0_addLine 51 = .ok (.iastore, 1) := by decide +kernel
theorem dX0_addLine_52 : decode cX0_addLine 52 = .ok (.aload_n 0, 1) := by decide +kernel
theorem dX0_addLine_53 : decode cX0_addLine 53 = .ok (.getfield 22, 3) := by decide +kernel
theorem dX0_addLine_56 : decode cX0_addLine 56 = .ok (.aload_n 0, 1) := by decide +kernel
theorem dX0_addLine_57 : decode cX0_addLine 57 = .ok (.getfield 33, 3) := by decide +kernel
theorem dX0_addLine_60 : decode cX0_addLine 60 = .ok (.aload_n 0, 1) := by decide +kernel
theorem dX0_addLine_61 : decode cX0_addLine 61 = .ok (.getfield 33, 3) := by decide +kernel
theorem dX0_addLine_64 : decode cX0_addLine 64 = .ok (.iastore, 1) := by decide +kernel
theorem dX0_addLine_65 : decode cX0_addLine 65 = .ok (.aload_n 0, 1) := by decide +kernel
theorem dX0_addLine_66 : decode cX0_addLine 66 = .ok (.dup, 1) := by decide +kernel
theorem dX0_addLine_67 : decode cX0_addLine 67 = .ok (.getfield 33, 3) := by decide +kernel
theorem dX0_addLine_70 : decode cX0_addLine 70 = .ok (.iconst 1, 1) := by decide +kernel
theorem dX0_addLine_71 : decode cX0_addLine 71 = .ok (.iadd, 1) := by decide +kernel
theorem dX0_addLine_72 : decode cX0_addLine 72 = .ok (.putfield 33, 3) := by decide +kernel
theorem dX0_addLine_75 : decode cX0_addLine 75 = .ok (.iconst 1, 1) := by decide +kernel
theorem dX0_addLine_76 : decode cX0_addLine 76 = .ok (.ireturn, 1) := by decide +kernel
set_option maxRecDepth 100000 in
theorem c_X0_addLine (l : Launch) (E : xE) (a0 a1 a2 a3 a4 a5 : Nat) {T0 : Nat → Int32} {V1 : Nat → Int32} {V2 : Nat → Int32} {V3 : Nat → Int32} {V4 : Nat → Int32} {V5 : Nat → Int32} {x1 : Int32} {x2 : Int32} {x3 : Int32} {x4 : Int32} {z : Int32 × (Nat → Int32) × (Nat → Int32) × (Nat → Int32) × (Nat → Int32) × (Nat → Int32) × (Nat → Int32)} (hf : f_X0_addLine T0 V1 V2 V3 V4 V5 x1 x2 x3 x4 = some z) (sz : Nat) : Met l yX0_addLine (Cond.code yX0_addLine cX0_addLine 5 (some .boolean) :: gw) ({ frames := 0, cells := 0, slots := 0, locals := 0 }) (xPc E [.ref a0, .int x1, .int x2, .int x3, .int x4] [(a0, o0 T0 a1 a2 a3 a4 a5), (a1, ai E 60 V1), (a2, ai E 60 V2), (a3, ai E 60 V3), (a4, ai E 60 V4), (a5, ai E 60 V5)] sz) (xQi E z.1 [(a0, o0 T0 a1 a2 a3 a4 a5), (a1, ai E 60 V1), (a2, ai E 60 V2), (a3, ai E 60 V3), (a4, ai E 60 V4), (a5, ai E 60 V5)] [(a0, o0 z.2.1 a1 a2 a3 a4 a5), (a1, ai E 60 z.2.2.1), (a2, ai E 60 z.2.2.2.1), (a3, ai E 60 z.2.2.2.2.1), (a4, ai E 60 z.2.2.2.2.2.1), (a5, ai E 60 z.2.2.2.2.2.2)] sz) 0 0 (va_A [(a0, o0 T0 a1 a2 a3 a4 a5), (a1, ai E 60 V1), (a2, ai E 60 V2), (a3, ai E 60 V3), (a4, ai E 60 V4), (a5, ai E 60 V5)] sz) := by
  refine xM_i (by decide +kernel) (Nat.le_of_ble_eq_true rfl) ?_
  intro p e s m args below meth c A Q hx hb hml hown htg hK hG hA ret0 H locs ls hP hD hS hl
  have ret : ∀ (z' : Int32 × (Nat → Int32) × (Nat → Int32) × (Nat → Int32) × (Nat → Int32) × (Nat → Int32) × (Nat → Int32)) {H : Heap} {locs : List Loc} {pc : Nat} {ls : Array Slot}, some z' = some z → narrow .boolean (.int z'.1) = .int z'.1 → va_P E.1 vwCl [(a0, o0 z'.2.1 a1 a2 a3 a4 a5), (a1, ai E 60 z'.2.2.1), (a2, ai E 60 z'.2.2.2.1), (a3, ai E 60 z'.2.2.2.2.1), (a4, ai E 60 z'.2.2.2.2.2.1), (a5, ai E 60 z'.2.2.2.2.2.2)] H → va_S A s.heap H locs → decode cX0_addLine pc = .ok (.ireturn, 1) → W p l e ({ frames := 0, cells := 0, slots := 0, locals := 0 } : Room) s m args below meth c H locs 0 0 Q (F0 m pc ls [.int z'.1]) := by
    intro z' H locs pc ls h
    cases h
    exact ret0
  replace hl : lv_has ls 5 [(0, .ref a0), (1, .int x1), (2, .int x2), (3, .int x3), (4, .int x4)] := hl
  unfold f_X0_addLine at hf
  refine lv_aload_n hx hb dX0_addLine_0 rfl (lv_at hl 0 rfl) ?_
  refine G0_33 hx hb htg hown hK hP 0 rfl dX0_addLine_1 ?_
  refine lv_bipush (v := 60) hx hb dX0_addLine_4 rfl ?_
  refine lv_icmp_lt (tgt := 11) hx hb dX0_addLine_6 (by decide) (fun c6 => ?_) (fun c6 => ?_)
  · have hf := it_t c6 hf
    refine lv_aload_n hx hb dX0_addLine_11 rfl (lv_at hl 0 rfl) ?_
    refine G0_9 hx hb htg hown hK hP 0 rfl dX0_addLine_12 ?_
    refine lv_aload_n hx hb dX0_addLine_15 rfl (lv_at hl 0 rfl) ?_
    refine G0_33 hx hb htg hown hK hP 0 rfl dX0_addLine_16 ?_
    refine lv_iload_n hx hb dX0_addLine_19 rfl (lv_at hl 1 rfl) ?_
    obtain ⟨g20, hf⟩ := ck_s hf
    refine xiast hx hb hK hP hD hS 1 rfl g20 dX0_addLine_20 (fun H locs hP hD hS => ?_)
    refine lv_aload_n hx hb dX0_addLine_21 rfl (lv_at hl 0 rfl) ?_
    refine G0_13 hx hb htg hown hK hP 0 rfl dX0_addLine_22 ?_
    refine lv_aload_n hx hb dX0_addLine_25 rfl (lv_at hl 0 rfl) ?_
    refine G0_33 hx hb htg hown hK hP 0 rfl dX0_addLine_26 ?_
    refine lv_iload_n hx hb dX0_addLine_29 rfl (lv_at hl 2 rfl) ?_
    obtain ⟨g30, hf⟩ := ck_s hf
    refine xiast hx hb hK hP hD hS 2 rfl g30 dX0_addLine_30 (fun H locs hP hD hS => ?_)
    refine lv_aload_n hx hb dX0_addLine_31 rfl (lv_at hl 0 rfl) ?_
    refine G0_16 hx hb htg hown hK hP 0 rfl dX0_addLine_32 ?_
    refine lv_aload_n hx hb dX0_addLine_35 rfl (lv_at hl 0 rfl) ?_
    refine G0_33 hx hb htg hown hK hP 0 rfl dX0_addLine_36 ?_
    refine lv_iload_n hx hb dX0_addLine_39 rfl (lv_at hl 3 rfl) ?_
    obtain ⟨g40, hf⟩ := ck_s hf
    refine xiast hx hb hK hP hD hS 3 rfl g40 dX0_addLine_40 (fun H locs hP hD hS => ?_)
    replace hP : va_P E.1 vwCl [(a0, o0 T0 a1 a2 a3 a4 a5), (a1, ai E 60 (upd V1 (Int32.toNatClampNeg (T0 2)) x1)), (a2, ai E 60 (upd V2 (Int32.toNatClampNeg (T0 2)) x2)), (a3, ai E 60 (upd V3 (Int32.toNatClampNeg (T0 2)) x3)), (a4, ai E 60 V4), (a5, ai E 60 V5)] H := hP
    replace hD : va_D A [(a0, o0 T0 a1 a2 a3 a4 a5), (a1, ai E 60 (upd V1 (Int32.toNatClampNeg (T0 2)) x1)), (a2, ai E 60 (upd V2 (Int32.toNatClampNeg (T0 2)) x2)), (a3, ai E 60 (upd V3 (Int32.toNatClampNeg (T0 2)) x3)), (a4, ai E 60 V4), (a5, ai E 60 V5)] := hD
    refine lv_aload_n hx hb dX0_addLine_41 rfl (lv_at hl 0 rfl) ?_
    refine G0_19 hx hb htg hown hK hP 0 rfl dX0_addLine_42 ?_
    refine lv_aload_n hx hb dX0_addLine_45 rfl (lv_at hl 0 rfl) ?_
    refine G0_33 hx hb htg hown hK hP 0 rfl dX0_addLine_46 ?_
    refine lv_iload hx hb dX0_addLine_49 (lv_at hl 4 rfl) ?_
    obtain ⟨g51, hf⟩ := ck_s hf
    refine xiast hx hb hK hP hD hS 4 rfl g51 dX0_addLine_51 (fun H locs hP hD hS => ?_)
    refine lv_aload_n hx hb dX0_addLine_52 rfl (lv_at hl 0 rfl) ?_
    refine G0_22 hx hb htg hown hK hP 0 rfl dX0_addLine_53 ?_
    refine lv_aload_n hx hb dX0_addLine_56 rfl (lv_at hl 0 rfl) ?_
    refine G0_33 hx hb htg hown hK hP 0 rfl dX0_addLine_57 ?_
    refine lv_aload_n hx hb dX0_addLine_60 rfl (lv_at hl 0 rfl) ?_
    refine G0_33 hx hb htg hown hK hP 0 rfl dX0_addLine_61 ?_
    obtain ⟨g64, hf⟩ := ck_s hf
    refine xiast hx hb hK hP hD hS 5 rfl g64 dX0_addLine_64 (fun H locs hP hD hS => ?_)
    refine lv_aload_n hx hb dX0_addLine_65 rfl (lv_at hl 0 rfl) ?_
    refine lv_dup hx hb dX0_addLine_66 rfl ?_
    refine G0_33 hx hb htg hown hK hP 0 rfl dX0_addLine_67 ?_
    refine lv_iconst (v := 1) hx hb dX0_addLine_70 rfl ?_
    refine lv_iadd hx hb dX0_addLine_71 ?_
    refine P0_33 hx hb htg hown hK hP hD hS 0 rfl dX0_addLine_72 (fun H locs hP hD hS => ?_)
    replace hP : va_P E.1 vwCl [(a0, o0 (upd T0 2 ((T0 2) + 1)) a1 a2 a3 a4 a5), (a1, ai E 60 (upd V1 (Int32.toNatClampNeg (T0 2)) x1)), (a2, ai E 60 (upd V2 (Int32.toNatClampNeg (T0 2)) x2)), (a3, ai E 60 (upd V3 (Int32.toNatClampNeg (T0 2)) x3)), (a4, ai E 60 (upd V4 (Int32.toNatClampNeg (T0 2)) x4)), (a5, ai E 60 (upd V5 (Int32.toNatClampNeg (T0 2)) (T0 2)))] H := hP
    replace hD : va_D A [(a0, o0 (upd T0 2 ((T0 2) + 1)) a1 a2 a3 a4 a5), (a1, ai E 60 (upd V1 (Int32.toNatClampNeg (T0 2)) x1)), (a2, ai E 60 (upd V2 (Int32.toNatClampNeg (T0 2)) x2)), (a3, ai E 60 (upd V3 (Int32.toNatClampNeg (T0 2)) x3)), (a4, ai E 60 (upd V4 (Int32.toNatClampNeg (T0 2)) x4)), (a5, ai E 60 (upd V5 (Int32.toNatClampNeg (T0 2)) (T0 2)))] := hD
    refine lv_iconst (v := 1) hx hb dX0_addLine_75 rfl ?_
    exact ret (1, upd T0 2 ((T0 2) + 1), upd V1 (Int32.toNatClampNeg (T0 2)) x1, upd V2 (Int32.toNatClampNeg (T0 2)) x2, upd V3 (Int32.toNatClampNeg (T0 2)) x3, upd V4 (Int32.toNatClampNeg (T0 2)) x4, upd V5 (Int32.toNatClampNeg (T0 2)) (T0 2)) hf nz1 hP hS dX0_addLine_76
  · have hf := it_f c6 hf
    refine lv_iconst (v := 0) hx hb dX0_addLine_9 rfl ?_
    exact ret (0, T0, V1, V2, V3, V4, V5) hf nz0 hP hS dX0_addLine_10
theorem dX0_addStep_0 : decode cX0_addStep 0 = .ok (.aload_n 0, 1) := by decide +kernel
theorem dX0_addStep_1 : decode cX0_addStep 1 = .ok (.dup, 1) := by decide +kernel
theorem dX0_addStep_2 : decode cX0_addStep 2 = .ok (.getfield 29, 3) := by decide +kernel
theorem dX0_addStep_5 : decode cX0_addStep 5 = .ok (.iconst 1, 1) := by decide +kernel
theorem dX0_addStep_6 : decode cX0_addStep 6 = .ok (.iadd, 1) := by decide +kernel
theorem dX0_addStep_7 : decode cX0_addStep 7 = .ok (.putfield 29, 3) := by decide +kernel
theorem dX0_addStep_10 : decode cX0_addStep 10 = .ok (.aload_n 0, 1) := by decide +kernel
theorem dX0_addStep_11 : decode cX0_addStep 11 = .ok (.iload_n 1, 1) := by decide +kernel
theorem dX0_addStep_12 : decode cX0_addStep 12 = .ok (.iload_n 2, 1) := by decide +kernel
theorem dX0_addStep_13 : decode cX0_addStep 13 = .ok (.iload_n 3, 1) := by decide +kernel
theorem dX0_addStep_14 : decode cX0_addStep 14 = .ok (.iload 4, 2) := by decide +kernel
theorem dX0_addStep_16 : decode cX0_addStep 16 = .ok (.invokevirtual 42, 3) := by decide +kernel
theorem dX0_addStep_19 : decode cX0_addStep 19 = .ok (.ireturn, 1) := by decide +kernel
set_option maxRecDepth 100000 in
theorem c_X0_addStep (l : Launch) (E : xE) (a0 a1 a2 a3 a4 a5 : Nat) {T0 : Nat → Int32} {V1 : Nat → Int32} {V2 : Nat → Int32} {V3 : Nat → Int32} {V4 : Nat → Int32} {V5 : Nat → Int32} {x1 : Int32} {x2 : Int32} {x3 : Int32} {x4 : Int32} {z : Int32 × (Nat → Int32) × (Nat → Int32) × (Nat → Int32) × (Nat → Int32) × (Nat → Int32) × (Nat → Int32)} (hf : f_X0_addStep T0 V1 V2 V3 V4 V5 x1 x2 x3 x4 = some z) (sz : Nat) : Met l yX0_addStep (Cond.code yX0_addStep cX0_addStep 5 (some .boolean) :: gw) ({ frames := 1, cells := 0, slots := 0, locals := 24 }) (xPc E [.ref a0, .int x1, .int x2, .int x3, .int x4] [(a0, o0 T0 a1 a2 a3 a4 a5), (a1, ai E 60 V1), (a2, ai E 60 V2), (a3, ai E 60 V3), (a4, ai E 60 V4), (a5, ai E 60 V5)] sz) (xQi E z.1 [(a0, o0 T0 a1 a2 a3 a4 a5), (a1, ai E 60 V1), (a2, ai E 60 V2), (a3, ai E 60 V3), (a4, ai E 60 V4), (a5, ai E 60 V5)] [(a0, o0 z.2.1 a1 a2 a3 a4 a5), (a1, ai E 60 z.2.2.1), (a2, ai E 60 z.2.2.2.1), (a3, ai E 60 z.2.2.2.2.1), (a4, ai E 60 z.2.2.2.2.2.1), (a5, ai E 60 z.2.2.2.2.2.2)] sz) 0 0 (va_A [(a0, o0 T0 a1 a2 a3 a4 a5), (a1, ai E 60 V1), (a2, ai E 60 V2), (a3, ai E 60 V3), (a4, ai E 60 V4), (a5, ai E 60 V5)] sz) := by
  refine xM_i (by decide +kernel) (Nat.le_of_ble_eq_true rfl) ?_
  intro p e s m args below meth c A Q hx hb hml hown htg hK hG hA ret0 H locs ls hP hD hS hl
  have ret : ∀ (z' : Int32 × (Nat → Int32) × (Nat → Int32) × (Nat → Int32) × (Nat → Int32) × (Nat → Int32) × (Nat → Int32)) {H : Heap} {locs : List Loc} {pc : Nat} {ls : Array Slot}, some z' = some z → narrow .boolean (.int z'.1) = .int z'.1 → va_P E.1 vwCl [(a0, o0 z'.2.1 a1 a2 a3 a4 a5), (a1, ai E 60 z'.2.2.1), (a2, ai E 60 z'.2.2.2.1), (a3, ai E 60 z'.2.2.2.2.1), (a4, ai E 60 z'.2.2.2.2.2.1), (a5, ai E 60 z'.2.2.2.2.2.2)] H → va_S A s.heap H locs → decode cX0_addStep pc = .ok (.ireturn, 1) → W p l e ({ frames := 1, cells := 0, slots := 0, locals := 24 } : Room) s m args below meth c H locs 0 0 Q (F0 m pc ls [.int z'.1]) := by
    intro z' H locs pc ls h
    cases h
    exact ret0
  replace hl : lv_has ls 5 [(0, .ref a0), (1, .int x1), (2, .int x2), (3, .int x3), (4, .int x4)] := hl
  unfold f_X0_addStep at hf
  refine lv_aload_n hx hb dX0_addStep_0 rfl (lv_at hl 0 rfl) ?_
  refine lv_dup hx hb dX0_addStep_1 rfl ?_
  refine G0_29 hx hb htg hown hK hP 0 rfl dX0_addStep_2 ?_
  refine lv_iconst (v := 1) hx hb dX0_addStep_5 rfl ?_
  refine lv_iadd hx hb dX0_addStep_6 ?_
  refine P0_29 hx hb htg hown hK hP hD hS 0 rfl dX0_addStep_7 (fun H locs hP hD hS => ?_)
  refine lv_aload_n hx hb dX0_addStep_10 rfl (lv_at hl 0 rfl) ?_
  refine lv_iload_n hx hb dX0_addStep_11 rfl (lv_at hl 1 rfl) ?_
  refine lv_iload_n hx hb dX0_addStep_12 rfl (lv_at hl 2 rfl) ?_
  refine lv_iload_n hx hb dX0_addStep_13 rfl (lv_at hl 3 rfl) ?_
  refine lv_iload hx hb dX0_addStep_14 (lv_at hl 4 rfl) ?_
  obtain ⟨z16, hz16, hf⟩ := bind_s hf
  refine xV_iu hx hb hml hown htg L0_42 (c_X0_addLine l E a0 a1 a2 a3 a4 a5 hz16 _) ⟨⟨rfl, rfl⟩, Nat.le_of_ble_eq_true rfl, Nat.le_of_ble_eq_true rfl⟩ hK hG hA hP hD hS (is := [0, 1, 2, 3, 4, 5]) (sel := [some 0, some 1, some 2, some 3, some 4, some 5]) (ws2 := [(a0, o0 z16.2.1 a1 a2 a3 a4 a5), (a1, ai E 60 z16.2.2.1), (a2, ai E 60 z16.2.2.2.1), (a3, ai E 60 z16.2.2.2.2.1), (a4, ai E 60 z16.2.2.2.2.2.1), (a5, ai E 60 z16.2.2.2.2.2.2)]) rfl rfl rfl rfl rfl (xrecv hK hP (q0 := 0) (ci := 0) rfl rfl) rfl hl.1 rfl (Nat.le_of_ble_eq_true rfl) dX0_addStep_16 (fun H locs hP hD hS => ?_)
  obtain ⟨g19, hf⟩ := ck_s hf
  exact ret (z16.1, z16.2.1, z16.2.2.1, z16.2.2.2.1, z16.2.2.2.2.1, z16.2.2.2.2.2.1, z16.2.2.2.2.2.2) hf (bz_n g19).1 hP hS dX0_addStep_19
theorem dX0_hasLine_0 : decode cX0_hasLine 0 = .ok (.iload_n 1, 1) := by decide +kernel
theorem dX0_hasLine_1 : decode cX0_hasLine 1 = .ok (.iconst 0, 1) := by decide +kernel
theorem dX0_hasLine_2 : decode cX0_hasLine 2 = .ok (.aload_n 0, 1) := by decide +kernel
theorem dX0_hasLine_3 : decode cX0_hasLine 3 = .ok (.getfield 33, 3) := by decide +kernel
theorem dX0_hasLine_6 : decode cX0_hasLine 6 = .ok (.iconst 1, 1) := by decide +kernel
theorem dX0_hasLine_7 : decode cX0_hasLine 7 = .ok (.isub, 1) := by decide +kernel
theorem dX0_hasLine_8 : decode cX0_hasLine 8 = .ok (.invokestatic 52, 3) := by decide +kernel
theorem dX0_hasLine_11 : decode cX0_hasLine 11 = .ok (.ireturn, 1) := by decide +kernel
set_option maxRecDepth 100000 in
theorem c_X0_hasLine (l : Launch) (E : xE) (a0 : Nat) {T0 : Nat → Int32} {u0_3 u0_4 u0_5 u0_6 u0_7 : Nat} {x1 : Int32} {z : Int32} (hf : f_X0_hasLine T0 x1 = some z) (sz : Nat) : Met l yX0_hasLine (Cond.code yX0_hasLine cX0_hasLine 2 (some .boolean) :: gw) ({ frames := 1, cells := 0, slots := 0, locals := 22 }) (xPc E [.ref a0, .int x1] [(a0, o0 T0 u0_3 u0_4 u0_5 u0_6 u0_7)] sz) (xQi E z [(a0, o0 T0 u0_3 u0_4 u0_5 u0_6 u0_7)] [(a0, o0 T0 u0_3 u0_4 u0_5 u0_6 u0_7)] sz) 0 0 (va_A [(a0, o0 T0 u0_3 u0_4 u0_5 u0_6 u0_7)] sz) := by
  refine xM_i (by decide +kernel) (Nat.le_of_ble_eq_true rfl) ?_
  intro p e s m args below meth c A Q hx hb hml hown htg hK hG hA ret0 H locs ls hP hD hS hl
  have ret : ∀ (z' : Int32) {H : Heap} {locs : List Loc} {pc : Nat} {ls : Array Slot}, some z' = some z → narrow .boolean (.int z') = .int z' → va_P E.1 vwCl [(a0, o0 T0 u0_3 u0_4 u0_5 u0_6 u0_7)] H → va_S A s.heap H locs → decode cX0_hasLine pc = .ok (.ireturn, 1) → W p l e ({ frames := 1, cells := 0, slots := 0, locals := 22 } : Room) s m args below meth c H locs 0 0 Q (F0 m pc ls [.int z']) := by
    intro z' H locs pc ls h
    cases h
    exact ret0
  replace hl : lv_has ls 2 [(0, .ref a0), (1, .int x1)] := hl
  unfold f_X0_hasLine at hf
  refine lv_iload_n hx hb dX0_hasLine_0 rfl (lv_at hl 1 rfl) ?_
  refine lv_iconst (v := 0) hx hb dX0_hasLine_1 rfl ?_
  refine lv_aload_n hx hb dX0_hasLine_2 rfl (lv_at hl 0 rfl) ?_
  refine G0_33 hx hb htg hown hK hP 0 rfl dX0_hasLine_3 ?_
  refine lv_iconst (v := 1) hx hb dX0_hasLine_6 rfl ?_
  refine lv_isub hx hb dX0_hasLine_7 ?_
  obtain ⟨z8, hz8, hf⟩ := bind_s hf
  refine xN_ir hx hb hml hown htg L0_52 15 rfl (c_X11_within l E hz8 _) ⟨⟨rfl, rfl⟩, Nat.le_of_ble_eq_true rfl, Nat.le_of_ble_eq_true rfl⟩ hK hG hA hP hD hS (is := []) rfl rfl rfl hl.1 rfl (Nat.le_of_ble_eq_true rfl) dX0_hasLine_8 (fun H locs hP hD hS => ?_)
  obtain ⟨g11, hf⟩ := ck_s hf
  exact ret z8 hf (bz_n g11).1 hP hS dX0_hasLine_11
theorem dX0_addEnd_0 : decode cX0_addEnd 0 = .ok (.aload_n 0, 1) := by decide +kernel
theorem dX0_addEnd_1 : decode cX0_addEnd 1 = .ok (.iload_n 1, 1) := by decide +kernel
theorem dX0_addEnd_2 : decode cX0_addEnd 2 = .ok (.invokevirtual 46, 3) := by decide +kernel
theorem dX0_addEnd_5 : decode cX0_addEnd 5 = .ok (.ifCond .eq 39, 3) := by decide +kernel
theorem dX0_addEnd_8 : decode cX0_addEnd 8 = .ok (.aload_n 0, 1) := by decide +kernel
theorem dX0_addEnd_9 : decode cX0_addEnd 9 = .ok (.bipush 21, 2) := by decide +kernel
theorem dX0_addEnd_11 : decode cX0_addEnd 11 = .ok (.iconst 0, 1) := by decide +kernel
theorem dX0_addEnd_12 : decode cX0_addEnd 12 = .ok (.iconst 0, 1) := by decide +kernel
theorem dX0_addEnd_13 : decode cX0_addEnd 13 = .ok (.iconst 0, 1) := by decide +kernel
theorem dX0_addEnd_14 : decode cX0_addEnd 14 = .ok (.invokevirtual 42, 3) := by decide +kernel
theorem dX0_addEnd_17 : decode cX0_addEnd 17 = .ok (.ifCond .eq 27, 3) := by decide +kernel
theorem dX0_addEnd_20 : decode cX0_addEnd 20 = .ok (.aload_n 0, 1) := by decide +kernel
theorem dX0_addEnd_21 : decode cX0_addEnd 21 = .ok (.getfield 22, 3) := by decide +kernel
theorem dX0_addEnd_24 : decode cX0_addEnd 24 = .ok (.aload_n 0, 1) := by decide +kernel
theorem dX0_addEnd_25 : decode cX0_addEnd 25 = .ok (.getfield 33, 3) := by decide +kernel
theorem dX0_addEnd_28 : decode cX0_addEnd 28 = .ok (.iconst 1, 1) := by decide +kernel
theorem dX0_addEnd_29 : decode cX0_addEnd 29 = .ok (.isub, 1) := by decide +kernel
theorem dX0_addEnd_30 : decode cX0_addEnd 30 = .ok (.iload_n 1, 1) := by decide +kernel
theorem dX0_addEnd_31 : decode cX0_addEnd 31 = .ok (.iastore, 1) := by decide +kernel
theorem dX0_addEnd_32 : decode cX0_addEnd 32 = .ok (.aload_n 0, 1) := by decide +kernel
theorem dX0_addEnd_33 : decode cX0_addEnd 33 = .ok (.getfield 22, 3) := by decide +kernel
theorem dX0_addEnd_36 : decode cX0_addEnd 36 = .ok (.iload_n 1, 1) := by decide +kernel
theorem dX0_addEnd_37 : decode cX0_addEnd 37 = .ok (.aload_n 0, 1) := by decide +kernel
theorem dX0_addEnd_38 : decode cX0_addEnd 38 = .ok (.getfield 33, 3) := by decide +kernel
theorem dX0_addEnd_41 : decode cX0_addEnd 41 = .ok (.iconst 1, 1) := by decide +kernel
theorem dX0_addEnd_42 : decode cX0_addEnd 42 = .ok (.isub, 1) := by decide +kernel
theorem dX0_addEnd_43 : decode cX0_addEnd 43 = .ok (.iastore, 1) := by decide +kernel
theorem dX0_addEnd_44 : decode cX0_addEnd 44 = .ok (.return_, 1) := by decide +kernel
set_option maxRecDepth 100000 in
theorem c_X0_addEnd (l : Launch) (E : xE) (a0 a1 a2 a3 a4 a5 : Nat) {T0 : Nat → Int32} {V1 : Nat → Int32} {V2 : Nat → Int32} {V3 : Nat → Int32} {V4 : Nat → Int32} {V5 : Nat → Int32} {x1 : Int32} {z : (Nat → Int32) × (Nat → Int32) × (Nat → Int32) × (Nat → Int32) × (Nat → Int32) × (Nat → Int32)} (hf : f_X0_addEnd T0 V1 V2 V3 V4 V5 x1 = some z) (sz : Nat) : Met l yX0_addEnd (Cond.code yX0_addEnd cX0_addEnd 2 none :: gw) ({ frames := 2, cells := 0, slots := 0, locals := 43 }) (xPc E [.ref a0, .int x1] [(a0, o0 T0 a1 a2 a3 a4 a5), (a1, ai E 60 V1), (a2, ai E 60 V2), (a3, ai E 60 V3), (a4, ai E 60 V4), (a5, ai E 60 V5)] sz) (xQv E [(a0, o0 T0 a1 a2 a3 a4 a5), (a1, ai E 60 V1), (a2, ai E 60 V2), (a3, ai E 60 V3), (a4, ai E 60 V4), (a5, ai E 60 V5)] [(a0, o0 z.1 a1 a2 a3 a4 a5), (a1, ai E 60 z.2.1), (a2, ai E 60 z.2.2.1), (a3, ai E 60 z.2.2.2.1), (a4, ai E 60 z.2.2.2.2.1), (a5, ai E 60 z.2.2.2.2.2)] sz) 0 0 (va_A [(a0, o0 T0 a1 a2 a3 a4 a5), (a1, ai E 60 V1), (a2, ai E 60 V2), (a3, ai E 60 V3), (a4, ai E 60 V4), (a5, ai E 60 V5)] sz) := by
  refine xM_v (by decide +kernel) (Nat.le_of_ble_eq_true rfl) ?_
  intro p e s m args below meth c A Q hx hb hml hown htg hK hG hA ret0 H locs ls hP hD hS hl
  have ret : ∀ (z' : (Nat → Int32) × (Nat → Int32) × (Nat → Int32) × (Nat → Int32) × (Nat → Int32) × (Nat → Int32)) {H : Heap} {locs : List Loc} {pc : Nat} {ls : Array Slot}, some z' = some z → va_P E.1 vwCl [(a0, o0 z'.1 a1 a2 a3 a4 a5), (a1, ai E 60 z'.2.1), (a2, ai E 60 z'.2.2.1), (a3, ai E 60 z'.2.2.2.1), (a4, ai E 60 z'.2.2.2.2.1), (a5, ai E 60 z'.2.2.2.2.2)] H → va_S A s.heap H locs → decode cX0_addEnd pc = .ok (.return_, 1) → W p l e ({ frames := 2, cells := 0, slots := 0, locals := 43 } : Room) s m args below meth c H locs 0 0 Q (F0 m pc ls []) := by
    intro z' H locs pc ls h
    cases h
    exact ret0
  replace hl : lv_has ls 2 [(0, .ref a0), (1, .int x1)] := hl
  unfold f_X0_addEnd at hf
  refine lv_aload_n hx hb dX0_addEnd_0 rfl (lv_at hl 0 rfl) ?_
  refine lv_iload_n hx hb dX0_addEnd_1 rfl (lv_at hl 1 rfl) ?_
  obtain ⟨z2, hz2, hf⟩ := bind_s hf
  refine xV_ir hx hb hml hown htg L0_46 (c_X0_hasLine l E a0 hz2 _) ⟨⟨rfl, rfl⟩, Nat.le_of_ble_eq_true rfl, Nat.le_of_ble_eq_true rfl⟩ hK hG hA hP hD hS (is := [0]) rfl rfl (xrecv hK hP (q0 := 0) (ci := 0) rfl rfl) rfl hl.1 rfl (Nat.le_of_ble_eq_true rfl) dX0_addEnd_2 (fun H locs hP hD hS => ?_)
  refine lv_if_eq (tgt := 44) hx hb dX0_addEnd_5 (by decide) (fun c5 => ?_) (fun c5 => ?_)
  · have hf := it_t c5 hf
    exact ret (T0, V1, V2, V3, V4, V5) hf hP hS dX0_addEnd_44
  · have hf := it_f c5 hf
    refine lv_aload_n hx hb dX0_addEnd_8 rfl (lv_at hl 0 rfl) ?_
    refine lv_bipush (v := 21) hx hb dX0_addEnd_9 rfl ?_
    refine lv_iconst (v := 0) hx hb dX0_addEnd_11 rfl ?_
    refine lv_iconst (v := 0) hx hb dX0_addEnd_12 rfl ?_
    refine lv_iconst (v := 0) hx hb dX0_addEnd_13 rfl ?_
    obtain ⟨z14, hz14, hf⟩ := bind_s hf
    refine xV_iu hx hb hml hown htg L0_42 (c_X0_addLine l E a0 a1 a2 a3 a4 a5 hz14 _) ⟨⟨rfl, rfl⟩, Nat.le_of_ble_eq_true rfl, Nat.le_of_ble_eq_true rfl⟩ hK hG hA hP hD hS (is := [0, 1, 2, 3, 4, 5]) (sel := [some 0, some 1, some 2, some 3, some 4, some 5]) (ws2 := [(a0, o0 z14.2.1 a1 a2 a3 a4 a5), (a1, ai E 60 z14.2.2.1), (a2, ai E 60 z14.2.2.2.1), (a3, ai E 60 z14.2.2.2.2.1), (a4, ai E 60 z14.2.2.2.2.2.1), (a5, ai E 60 z14.2.2.2.2.2.2)]) rfl rfl rfl rfl rfl (xrecv hK hP (q0 := 0) (ci := 0) rfl rfl) rfl hl.1 rfl (Nat.le_of_ble_eq_true rfl) dX0_addEnd_14 (fun H locs hP hD hS => ?_)
    refine lv_if_eq (tgt := 44) hx hb dX0_addEnd_17 (by decide) (fun c17 => ?_) (fun c17 => ?_)
    · have hf := it_t c17 hf
      exact ret (z14.2.1, z14.2.2.1, z14.2.2.2.1, z14.2.2.2.2.1, z14.2.2.2.2.2.1, z14.2.2.2.2.2.2) hf hP hS dX0_addEnd_44
    · have hf := it_f c17 hf
      refine lv_aload_n hx hb dX0_addEnd_20 rfl (lv_at hl 0 rfl) ?_
      refine G0_22 hx hb htg hown hK hP 0 rfl dX0_addEnd_21 ?_
      refine lv_aload_n hx hb dX0_addEnd_24 rfl (lv_at hl 0 rfl) ?_
      refine G0_33 hx hb htg hown hK hP 0 rfl dX0_addEnd_25 ?_
      refine lv_iconst (v := 1) hx hb dX0_addEnd_28 rfl ?_
      refine lv_isub hx hb dX0_addEnd_29 ?_
      refine lv_iload_n hx hb dX0_addEnd_30 rfl (lv_at hl 1 rfl) ?_
      obtain ⟨g31, hf⟩ := ck_s hf
      refine xiast hx hb hK hP hD hS 5 rfl g31 dX0_addEnd_31 (fun H locs hP hD hS => ?_)
      refine lv_aload_n hx hb dX0_addEnd_32 rfl (lv_at hl 0 rfl) ?_
      refine G0_22 hx hb htg hown hK hP 0 rfl dX0_addEnd_33 ?_
      refine lv_iload_n hx hb dX0_addEnd_36 rfl (lv_at hl 1 rfl) ?_
      refine lv_aload_n hx hb dX0_addEnd_37 rfl (lv_at hl 0 rfl) ?_
      refine G0_33 hx hb htg hown hK hP 0 rfl dX0_addEnd_38 ?_
      refine lv_iconst (v := 1) hx hb dX0_addEnd_41 rfl ?_
      refine lv_isub hx hb dX0_addEnd_42 ?_
      obtain ⟨g43, hf⟩ := ck_s hf
      refine xiast hx hb hK hP hD hS 5 rfl g43 dX0_addEnd_43 (fun H locs hP hD hS => ?_)
      exact ret (z14.2.1, z14.2.2.1, z14.2.2.2.1, z14.2.2.2.2.1, z14.2.2.2.2.2.1, upd (upd z14.2.2.2.2.2.2 (Int32.toNatClampNeg ((z14.2.1 2) - 1)) x1) (Int32.toNatClampNeg x1) ((z14.2.1 2) - 1)) hf hP hS dX0_addEnd_44
theorem dX0_deed_0 : decode cX0_deed 0 = .ok (.aload_n 0, 1) := by decide +kernel
theorem dX0_deed_1 : decode cX0_deed 1 = .ok (.iload_n 1, 1) := by decide +kernel
theorem dX0_deed_2 : decode cX0_deed 2 = .ok (.invokevirtual 46, 3) := by decide +kernel
theorem dX0_deed_5 : decode cX0_deed 5 = .ok (.ifCond .eq 12, 3) := by decide +kernel
theorem dX0_deed_8 : decode cX0_deed 8 = .ok (.aload_n 0, 1) := by decide +kernel
theorem dX0_deed_9 : decode cX0_deed 9 = .ok (.getfield 9, 3) := by decide +kernel
theorem dX0_deed_12 : decode cX0_deed 12 = .ok (.iload_n 1, 1) := by decide +kernel
theorem dX0_deed_13 : decode cX0_deed 13 = .ok (.iaload, 1) := by decide +kernel
theorem dX0_deed_14 : decode cX0_deed 14 = .ok (.goto 5, 3) := by decide +kernel
theorem dX0_deed_17 : decode cX0_deed 17 = .ok (.bipush 22, 2) := by decide +kernel
theorem dX0_deed_19 : decode cX0_deed 19 = .ok (.ireturn, 1) := by decide +kernel
set_option maxRecDepth 100000 in
theorem c_X0_deed (l : Launch) (E : xE) (a0 a1 : Nat) {T0 : Nat → Int32} {V1 : Nat → Int32} {u0_4 u0_5 u0_6 u0_7 : Nat} {x1 : Int32} {z : Int32} (hf : f_X0_deed T0 V1 x1 = some z) (sz : Nat) : Met l yX0_deed (Cond.code yX0_deed cX0_deed 2 (some .int) :: gw) ({ frames := 2, cells := 0, slots := 0, locals := 43 }) (xPc E [.ref a0, .int x1] [(a0, o0 T0 a1 u0_4 u0_5 u0_6 u0_7), (a1, ai E 60 V1)] sz) (xQi E z [(a0, o0 T0 a1 u0_4 u0_5 u0_6 u0_7), (a1, ai E 60 V1)] [(a0, o0 T0 a1 u0_4 u0_5 u0_6 u0_7), (a1, ai E 60 V1)] sz) 0 0 (va_A [(a0, o0 T0 a1 u0_4 u0_5 u0_6 u0_7), (a1, ai E 60 V1)] sz) := by
  refine xM_i (by decide +kernel) (Nat.le_of_ble_eq_true rfl) ?_
  intro p e s m args below meth c A Q hx hb hml hown htg hK hG hA ret0 H locs ls hP hD hS hl
  have ret : ∀ (z' : Int32) {H : Heap} {locs : List Loc} {pc : Nat} {ls : Array Slot}, some z' = some z → narrow .int (.int z') = .int z' → va_P E.1 vwCl [(a0, o0 T0 a1 u0_4 u0_5 u0_6 u0_7), (a1, ai E 60 V1)] H → va_S A s.heap H locs → decode cX0_deed pc = .ok (.ireturn, 1) → W p l e ({ frames := 2, cells := 0, slots := 0, locals := 43 } : Room) s m args below meth c H locs 0 0 Q (F0 m pc ls [.int z']) := by
    intro z' H locs pc ls h
    cases h
    exact ret0
  replace hl : lv_has ls 2 [(0, .ref a0), (1, .int x1)] := hl
  unfold f_X0_deed at hf
  refine lv_aload_n hx hb dX0_deed_0 rfl (lv_at hl 0 rfl) ?_
  refine lv_iload_n hx hb dX0_deed_1 rfl (lv_at hl 1 rfl) ?_
  obtain ⟨z2, hz2, hf⟩ := bind_s hf
  refine xV_ir hx hb hml hown htg L0_46 (c_X0_hasLine l E a0 hz2 _) ⟨⟨rfl, rfl⟩, Nat.le_of_ble_eq_true rfl, Nat.le_of_ble_eq_true rfl⟩ hK hG hA hP hD hS (is := [0]) rfl rfl (xrecv hK hP (q0 := 0) (ci := 0) rfl rfl) rfl hl.1 rfl (Nat.le_of_ble_eq_true rfl) dX0_deed_2 (fun H locs hP hD hS => ?_)
  refine lv_if_eq (tgt := 17) hx hb dX0_deed_5 (by decide) (fun c5 => ?_) (fun c5 => ?_)
  · have hf := it_t c5 hf
    refine lv_bipush (v := 22) hx hb dX0_deed_17 rfl ?_
    exact ret 22 hf nzi hP hS dX0_deed_19
  · have hf := it_f c5 hf
    refine lv_aload_n hx hb dX0_deed_8 rfl (lv_at hl 0 rfl) ?_
    refine G0_9 hx hb htg hown hK hP 0 rfl dX0_deed_9 ?_
    refine lv_iload_n hx hb dX0_deed_12 rfl (lv_at hl 1 rfl) ?_
    obtain ⟨g13, hf⟩ := ck_s hf
    refine xiald hx hb hK hP 1 rfl g13 dX0_deed_13 ?_
    refine lv_goto (tgt := 19) hx hb dX0_deed_14 (by decide) ?_
    exact ret (V1 (Int32.toNatClampNeg x1)) hf nzi hP hS dX0_deed_19
theorem dX0_first_0 : decode cX0_first 0 = .ok (.aload_n 0, 1) := by decide +kernel
theorem dX0_first_1 : decode cX0_first 1 = .ok (.iload_n 1, 1) := by decide +kernel
theorem dX0_first_2 : decode cX0_first 2 = .ok (.invokevirtual 46, 3) := by decide +kernel
theorem dX0_first_5 : decode cX0_first 5 = .ok (.ifCond .eq 12, 3) := by decide +kernel
theorem dX0_first_8 : decode cX0_first 8 = .ok (.aload_n 0, 1) := by decide +kernel
theorem dX0_first_9 : decode cX0_first 9 = .ok (.getfield 13, 3) := by decide +kernel
theorem dX0_first_12 : decode cX0_first 12 = .ok (.iload_n 1, 1) := by decide +kernel
theorem dX0_first_13 : decode cX0_first 13 = .ok (.iaload, 1) := by decide +kernel
theorem dX0_first_14 : decode cX0_first 14 = .ok (.goto 4, 3) := by decide +kernel
theorem dX0_first_17 : decode cX0_first 17 = .ok (.iconst 0, 1) := by decide +kernel
theorem dX0_first_18 : decode cX0_first 18 = .ok (.ireturn, 1) := by decide +kernel
set_option maxRecDepth 100000 in
theorem c_X0_first (l : Launch) (E : xE) (a0 a1 : Nat) {T0 : Nat → Int32} {V1 : Nat → Int32} {u0_3 u0_5 u0_6 u0_7 : Nat} {x1 : Int32} {z : Int32} (hf : f_X0_first T0 V1 x1 = some z) (sz : Nat) : Met l yX0_first (Cond.code yX0_first cX0_first 2 (some .int) :: gw) ({ frames := 2, cells := 0, slots := 0, locals := 43 }) (xPc E [.ref a0, .int x1] [(a0, o0 T0 u0_3 a1 u0_5 u0_6 u0_7), (a1, ai E 60 V1)] sz) (xQi E z [(a0, o0 T0 u0_3 a1 u0_5 u0_6 u0_7), (a1, ai E 60 V1)] [(a0, o0 T0 u0_3 a1 u0_5 u0_6 u0_7), (a1, ai E 60 V1)] sz) 0 0 (va_A [(a0, o0 T0 u0_3 a1 u0_5 u0_6 u0_7), (a1, ai E 60 V1)] sz) := by
  refine xM_i (by decide +kernel) (Nat.le_of_ble_eq_true rfl) ?_
  intro p e s m args below meth c A Q hx hb hml hown htg hK hG hA ret0 H locs ls hP hD hS hl
  have ret : ∀ (z' : Int32) {H : Heap} {locs : List Loc} {pc : Nat} {ls : Array Slot}, some z' = some z → narrow .int (.int z') = .int z' → va_P E.1 vwCl [(a0, o0 T0 u0_3 a1 u0_5 u0_6 u0_7), (a1, ai E 60 V1)] H → va_S A s.heap H locs → decode cX0_first pc = .ok (.ireturn, 1) → W p l e ({ frames := 2, cells := 0, slots := 0, locals := 43 } : Room) s m args below meth c H locs 0 0 Q (F0 m pc ls [.int z']) := by
    intro z' H locs pc ls h
    cases h
    exact ret0
  replace hl : lv_has ls 2 [(0, .ref a0), (1, .int x1)] := hl
  unfold f_X0_first at hf
  refine lv_aload_n hx hb dX0_first_0 rfl (lv_at hl 0 rfl) ?_
  refine lv_iload_n hx hb dX0_first_1 rfl (lv_at hl 1 rfl) ?_
  obtain ⟨z2, hz2, hf⟩ := bind_s hf
  refine xV_ir hx hb hml hown htg L0_46 (c_X0_hasLine l E a0 hz2 _) ⟨⟨rfl, rfl⟩, Nat.le_of_ble_eq_true rfl, Nat.le_of_ble_eq_true rfl⟩ hK hG hA hP hD hS (is := [0]) rfl rfl (xrecv hK hP (q0 := 0) (ci := 0) rfl rfl) rfl hl.1 rfl (Nat.le_of_ble_eq_true rfl) dX0_first_2 (fun H locs hP hD hS => ?_)
  refine lv_if_eq (tgt := 17) hx hb dX0_first_5 (by decide) (fun c5 => ?_) (fun c5 => ?_)
  · have hf := it_t c5 hf
    refine lv_iconst (v := 0) hx hb dX0_first_17 rfl ?_
    exact ret 0 hf nzi hP hS dX0_first_18
  · have hf := it_f c5 hf
    refine lv_aload_n hx hb dX0_first_8 rfl (lv_at hl 0 rfl) ?_
    refine G0_13 hx hb htg hown hK hP 0 rfl dX0_first_9 ?_
    refine lv_iload_n hx hb dX0_first_12 rfl (lv_at hl 1 rfl) ?_
    obtain ⟨g13, hf⟩ := ck_s hf
    refine xiald hx hb hK hP 1 rfl g13 dX0_first_13 ?_
    refine lv_goto (tgt := 18) hx hb dX0_first_14 (by decide) ?_
    exact ret (V1 (Int32.toNatClampNeg x1)) hf nzi hP hS dX0_first_18
theorem dX0_second_0 : decode cX0_second 0 = .ok (.aload_n 0, 1) := by decide +kernel
theorem dX0_second_1 : decode cX0_second 1 = .ok (.iload_n 1, 1) := by decide +kernel
theorem dX0_second_2 : decode cX0_second 2 = .ok (.invokevirtual 46, 3) := by decide +kernel
theorem dX0_second_5 : decode cX0_second 5 = .ok (.ifCond .eq 12, 3) := by decide +kernel
theorem dX0_second_8 : decode cX0_second 8 = .ok (.aload_n 0, 1) := by decide +kernel
theorem dX0_second_9 : decode cX0_second 9 = .ok (.getfield 16, 3) := by decide +kernel
theorem dX0_second_12 : decode cX0_second 12 = .ok (.iload_n 1, 1) := by decide +kernel
theorem dX0_second_13 : decode cX0_second 13 = .ok (.iaload, 1) := by decide +kernel
theorem dX0_second_14 : decode cX0_second 14 = .ok (.goto 4, 3) := by decide +kernel
theorem dX0_second_17 : decode cX0_second 17 = .ok (.iconst 0, 1) := by decide +kernel
theorem dX0_second_18 : decode cX0_second 18 = .ok (.ireturn, 1) := by decide +kernel
set_option maxRecDepth 100000 in
theorem c_X0_second (l : Launch) (E : xE) (a0 a1 : Nat) {T0 : Nat → Int32} {V1 : Nat → Int32} {u0_3 u0_4 u0_6 u0_7 : Nat} {x1 : Int32} {z : Int32} (hf : f_X0_second T0 V1 x1 = some z) (sz : Nat) : Met l yX0_second (Cond.code yX0_second cX0_second 2 (some .int) :: gw) ({ frames := 2, cells := 0, slots := 0, locals := 43 }) (xPc E [.ref a0, .int x1] [(a0, o0 T0 u0_3 u0_4 a1 u0_6 u0_7), (a1, ai E 60 V1)] sz) (xQi E z [(a0, o0 T0 u0_3 u0_4 a1 u0_6 u0_7), (a1, ai E 60 V1)] [(a0, o0 T0 u0_3 u0_4 a1 u0_6 u0_7), (a1, ai E 60 V1)] sz) 0 0 (va_A [(a0, o0 T0 u0_3 u0_4 a1 u0_6 u0_7), (a1, ai E 60 V1)] sz) := by
  refine xM_i (by decide +kernel) (Nat.le_of_ble_eq_true rfl) ?_
  intro p e s m args below meth c A Q hx hb hml hown htg hK hG hA ret0 H locs ls hP hD hS hl
  have ret : ∀ (z' : Int32) {H : Heap} {locs : List Loc} {pc : Nat} {ls : Array Slot}, some z' = some z → narrow .int (.int z') = .int z' → va_P E.1 vwCl [(a0, o0 T0 u0_3 u0_4 a1 u0_6 u0_7), (a1, ai E 60 V1)] H → va_S A s.heap H locs → decode cX0_second pc = .ok (.ireturn, 1) → W p l e ({ frames := 2, cells := 0, slots := 0, locals := 43 } : Room) s m args below meth c H locs 0 0 Q (F0 m pc ls [.int z']) := by
    intro z' H locs pc ls h
    cases h
    exact ret0
  replace hl : lv_has ls 2 [(0, .ref a0), (1, .int x1)] := hl
  unfold f_X0_second at hf
  refine lv_aload_n hx hb dX0_second_0 rfl (lv_at hl 0 rfl) ?_
  refine lv_iload_n hx hb dX0_second_1 rfl (lv_at hl 1 rfl) ?_
  obtain ⟨z2, hz2, hf⟩ := bind_s hf
  refine xV_ir hx hb hml hown htg L0_46 (c_X0_hasLine l E a0 hz2 _) ⟨⟨rfl, rfl⟩, Nat.le_of_ble_eq_true rfl, Nat.le_of_ble_eq_true rfl⟩ hK hG hA hP hD hS (is := [0]) rfl rfl (xrecv hK hP (q0 := 0) (ci := 0) rfl rfl) rfl hl.1 rfl (Nat.le_of_ble_eq_true rfl) dX0_second_2 (fun H locs hP hD hS => ?_)
  refine lv_if_eq (tgt := 17) hx hb dX0_second_5 (by decide) (fun c5 => ?_) (fun c5 => ?_)
  · have hf := it_t c5 hf
    refine lv_iconst (v := 0) hx hb dX0_second_17 rfl ?_
    exact ret 0 hf nzi hP hS dX0_second_18
  · have hf := it_f c5 hf
    refine lv_aload_n hx hb dX0_second_8 rfl (lv_at hl 0 rfl) ?_
    refine G0_16 hx hb htg hown hK hP 0 rfl dX0_second_9 ?_
    refine lv_iload_n hx hb dX0_second_12 rfl (lv_at hl 1 rfl) ?_
    obtain ⟨g13, hf⟩ := ck_s hf
    refine xiald hx hb hK hP 1 rfl g13 dX0_second_13 ?_
    refine lv_goto (tgt := 18) hx hb dX0_second_14 (by decide) ?_
    exact ret (V1 (Int32.toNatClampNeg x1)) hf nzi hP hS dX0_second_18
theorem dX0_third_0 : decode cX0_third 0 = .ok (.aload_n 0, 1) := by decide +kernel
theorem dX0_third_1 : decode cX0_third 1 = .ok (.iload_n 1, 1) := by decide +kernel
theorem dX0_third_2 : decode cX0_third 2 = .ok (.invokevirtual 46, 3) := by decide +kernel
theorem dX0_third_5 : decode cX0_third 5 = .ok (.ifCond .eq 12, 3) := by decide +kernel
theorem dX0_third_8 : decode cX0_third 8 = .ok (.aload_n 0, 1) := by decide +kernel
theorem dX0_third_9 : decode cX0_third 9 = .ok (.getfield 19, 3) := by decide +kernel
theorem dX0_third_12 : decode cX0_third 12 = .ok (.iload_n 1, 1) := by decide +kernel
theorem dX0_third_13 : decode cX0_third 13 = .ok (.iaload, 1) := by decide +kernel
theorem dX0_third_14 : decode cX0_third 14 = .ok (.goto 4, 3) := by decide +kernel
theorem dX0_third_17 : decode cX0_third 17 = .ok (.iconst 0, 1) := by decide +kernel
theorem dX0_third_18 : decode cX0_third 18 = .ok (.ireturn, 1) := by decide +kernel
set_option maxRecDepth 100000 in
theorem c_X0_third (l : Launch) (E : xE) (a0 a1 : Nat) {T0 : Nat → Int32} {V1 : Nat → Int32} {u0_3 u0_4 u0_5 u0_7 : Nat} {x1 : Int32} {z : Int32} (hf : f_X0_third T0 V1 x1 = some z) (sz : Nat) : Met l yX0_third (Cond.code yX0_third cX0_third 2 (some .int) :: gw) ({ frames := 2, cells := 0, slots := 0, locals := 43 }) (xPc E [.ref a0, .int x1] [(a0, o0 T0 u0_3 u0_4 u0_5 a1 u0_7), (a1, ai E 60 V1)] sz) (xQi E z [(a0, o0 T0 u0_3 u0_4 u0_5 a1 u0_7), (a1, ai E 60 V1)] [(a0, o0 T0 u0_3 u0_4 u0_5 a1 u0_7), (a1, ai E 60 V1)] sz) 0 0 (va_A [(a0, o0 T0 u0_3 u0_4 u0_5 a1 u0_7), (a1, ai E 60 V1)] sz) := by
  refine xM_i (by decide +kernel) (Nat.le_of_ble_eq_true rfl) ?_
  intro p e s m args below meth c A Q hx hb hml hown htg hK hG hA ret0 H locs ls hP hD hS hl
  have ret : ∀ (z' : Int32) {H : Heap} {locs : List Loc} {pc : Nat} {ls : Array Slot}, some z' = some z → narrow .int (.int z') = .int z' → va_P E.1 vwCl [(a0, o0 T0 u0_3 u0_4 u0_5 a1 u0_7), (a1, ai E 60 V1)] H → va_S A s.heap H locs → decode cX0_third pc = .ok (.ireturn, 1) → W p l e ({ frames := 2, cells := 0, slots := 0, locals := 43 } : Room) s m args below meth c H locs 0 0 Q (F0 m pc ls [.int z']) := by
    intro z' H locs pc ls h
    cases h
    exact ret0
  replace hl : lv_has ls 2 [(0, .ref a0), (1, .int x1)] := hl
  unfold f_X0_third at hf
  refine lv_aload_n hx hb dX0_third_0 rfl (lv_at hl 0 rfl) ?_
  refine lv_iload_n hx hb dX0_third_1 rfl (lv_at hl 1 rfl) ?_
  obtain ⟨z2, hz2, hf⟩ := bind_s hf
  refine xV_ir hx hb hml hown htg L0_46 (c_X0_hasLine l E a0 hz2 _) ⟨⟨rfl, rfl⟩, Nat.le_of_ble_eq_true rfl, Nat.le_of_ble_eq_true rfl⟩ hK hG hA hP hD hS (is := [0]) rfl rfl (xrecv hK hP (q0 := 0) (ci := 0) rfl rfl) rfl hl.1 rfl (Nat.le_of_ble_eq_true rfl) dX0_third_2 (fun H locs hP hD hS => ?_)
  refine lv_if_eq (tgt := 17) hx hb dX0_third_5 (by decide) (fun c5 => ?_) (fun c5 => ?_)
  · have hf := it_t c5 hf
    refine lv_iconst (v := 0) hx hb dX0_third_17 rfl ?_
    exact ret 0 hf nzi hP hS dX0_third_18
  · have hf := it_f c5 hf
    refine lv_aload_n hx hb dX0_third_8 rfl (lv_at hl 0 rfl) ?_
    refine G0_19 hx hb htg hown hK hP 0 rfl dX0_third_9 ?_
    refine lv_iload_n hx hb dX0_third_12 rfl (lv_at hl 1 rfl) ?_
    obtain ⟨g13, hf⟩ := ck_s hf
    refine xiald hx hb hK hP 1 rfl g13 dX0_third_13 ?_
    refine lv_goto (tgt := 18) hx hb dX0_third_14 (by decide) ?_
    exact ret (V1 (Int32.toNatClampNeg x1)) hf nzi hP hS dX0_third_18
theorem dX0_partner_0 : decode cX0_partner 0 = .ok (.aload_n 0, 1) := by decide +kernel
theorem dX0_partner_1 : decode cX0_partner 1 = .ok (.iload_n 1, 1) := by decide +kernel
theorem dX0_partner_2 : decode cX0_partner 2 = .ok (.invokevirtual 46, 3) := by decide +kernel
theorem dX0_partner_5 : decode cX0_partner 5 = .ok (.ifCond .eq 12, 3) := by decide +kernel
theorem dX0_partner_8 : decode cX0_partner 8 = .ok (.aload_n 0, 1) := by decide +kernel
theorem dX0_partner_9 : decode cX0_partner 9 = .ok (.getfield 22, 3) := by decide +kernel
theorem dX0_partner_12 : decode cX0_partner 12 = .ok (.iload_n 1, 1) := by decide +kernel
theorem dX0_partner_13 : decode cX0_partner 13 = .ok (.iaload, 1) := by decide +kernel
theorem dX0_partner_14 : decode cX0_partner 14 = .ok (.goto 4, 3) := by decide +kernel
theorem dX0_partner_17 : decode cX0_partner 17 = .ok (.iload_n 1, 1) := by decide +kernel
theorem dX0_partner_18 : decode cX0_partner 18 = .ok (.ireturn, 1) := by decide +kernel
set_option maxRecDepth 100000 in
theorem c_X0_partner (l : Launch) (E : xE) (a0 a1 : Nat) {T0 : Nat → Int32} {V1 : Nat → Int32} {u0_3 u0_4 u0_5 u0_6 : Nat} {x1 : Int32} {z : Int32} (hf : f_X0_partner T0 V1 x1 = some z) (sz : Nat) : Met l yX0_partner (Cond.code yX0_partner cX0_partner 2 (some .int) :: gw) ({ frames := 2, cells := 0, slots := 0, locals := 43 }) (xPc E [.ref a0, .int x1] [(a0, o0 T0 u0_3 u0_4 u0_5 u0_6 a1), (a1, ai E 60 V1)] sz) (xQi E z [(a0, o0 T0 u0_3 u0_4 u0_5 u0_6 a1), (a1, ai E 60 V1)] [(a0, o0 T0 u0_3 u0_4 u0_5 u0_6 a1), (a1, ai E 60 V1)] sz) 0 0 (va_A [(a0, o0 T0 u0_3 u0_4 u0_5 u0_6 a1), (a1, ai E 60 V1)] sz) := by
  refine xM_i (by decide +kernel) (Nat.le_of_ble_eq_true rfl) ?_
  intro p e s m args below meth c A Q hx hb hml hown htg hK hG hA ret0 H locs ls hP hD hS hl
  have ret : ∀ (z' : Int32) {H : Heap} {locs : List Loc} {pc : Nat} {ls : Array Slot}, some z' = some z → narrow .int (.int z') = .int z' → va_P E.1 vwCl [(a0, o0 T0 u0_3 u0_4 u0_5 u0_6 a1), (a1, ai E 60 V1)] H → va_S A s.heap H locs → decode cX0_partner pc = .ok (.ireturn, 1) → W p l e ({ frames := 2, cells := 0, slots := 0, locals := 43 } : Room) s m args below meth c H locs 0 0 Q (F0 m pc ls [.int z']) := by
    intro z' H locs pc ls h
    cases h
    exact ret0
  replace hl : lv_has ls 2 [(0, .ref a0), (1, .int x1)] := hl
  unfold f_X0_partner at hf
  refine lv_aload_n hx hb dX0_partner_0 rfl (lv_at hl 0 rfl) ?_
  refine lv_iload_n hx hb dX0_partner_1 rfl (lv_at hl 1 rfl) ?_
  obtain ⟨z2, hz2, hf⟩ := bind_s hf
  refine xV_ir hx hb hml hown htg L0_46 (c_X0_hasLine l E a0 hz2 _) ⟨⟨rfl, rfl⟩, Nat.le_of_ble_eq_true rfl, Nat.le_of_ble_eq_true rfl⟩ hK hG hA hP hD hS (is := [0]) rfl rfl (xrecv hK hP (q0 := 0) (ci := 0) rfl rfl) rfl hl.1 rfl (Nat.le_of_ble_eq_true rfl) dX0_partner_2 (fun H locs hP hD hS => ?_)
  refine lv_if_eq (tgt := 17) hx hb dX0_partner_5 (by decide) (fun c5 => ?_) (fun c5 => ?_)
  · have hf := it_t c5 hf
    refine lv_iload_n hx hb dX0_partner_17 rfl (lv_at hl 1 rfl) ?_
    exact ret x1 hf nzi hP hS dX0_partner_18
  · have hf := it_f c5 hf
    refine lv_aload_n hx hb dX0_partner_8 rfl (lv_at hl 0 rfl) ?_
    refine G0_22 hx hb htg hown hK hP 0 rfl dX0_partner_9 ?_
    refine lv_iload_n hx hb dX0_partner_12 rfl (lv_at hl 1 rfl) ?_
    obtain ⟨g13, hf⟩ := ck_s hf
    refine xiald hx hb hK hP 1 rfl g13 dX0_partner_13 ?_
    refine lv_goto (tgt := 18) hx hb dX0_partner_14 (by decide) ?_
    exact ret (V1 (Int32.toNatClampNeg x1)) hf nzi hP hS dX0_partner_18
