theorem dX0_init_0 : decode cX0_init 0 = .ok (.aload_n 0, 1) := by decide +kernel
theorem dX0_init_1 : decode cX0_init 1 = .ok (.invokespecial 1, 3) := by decide +kernel
theorem dX0_init_4 : decode cX0_init 4 = .ok (.aload_n 0, 1) := by decide +kernel
theorem dX0_init_5 : decode cX0_init 5 = .ok (.bipush 60, 2) := by decide +kernel
theorem dX0_init_7 : decode cX0_init 7 = .ok (.newarray .int, 2) := by decide +kernel
theorem dX0_init_9 : decode cX0_init 9 = .ok (.putfield 9, 3) := by decide +kernel
theorem dX0_init_12 : decode cX0_init 12 = .ok (.aload_n 0, 1) := by decide +kernel
theorem dX0_init_13 : decode cX0_init 13 = .ok (.bipush 60, 2) := by decide +kernel
theorem dX0_init_15 : decode cX0_init 15 = .ok (.newarray .int, 2) := by decide +kernel
theorem dX0_init_17 : decode cX0_init 17 = .ok (.putfield 13, 3) := by decide +kernel
theorem dX0_init_20 : decode cX0_init 20 = .ok (.aload_n 0, 1) := by decide +kernel
theorem dX0_init_21 : decode cX0_init 21 = .ok (.bipush 60, 2) := by decide +kernel
theorem dX0_init_23 : decode cX0_init 23 = .ok (.newarray .int, 2) := by decide +kernel
theorem dX0_init_25 : decode cX0_init 25 = .ok (.putfield 16, 3) := by decide +kernel
theorem dX0_init_28 : decode cX0_init 28 = .ok (.aload_n 0, 1) := by decide +kernel
theorem dX0_init_29 : decode cX0_init 29 = .ok (.bipush 60, 2) := by decide +kernel
theorem dX0_init_31 : decode cX0_init 31 = .ok (.newarray .int, 2) := by decide +kernel
theorem dX0_init_33 : decode cX0_init 33 = .ok (.putfield 19, 3) := by decide +kernel
theorem dX0_init_36 : decode cX0_init 36 = .ok (.aload_n 0, 1) := by decide +kernel
theorem dX0_init_37 : decode cX0_init 37 = .ok (.bipush 60, 2) := by decide +kernel
theorem dX0_init_39 : decode cX0_init 39 = .ok (.newarray .int, 2) := by decide +kernel
theorem dX0_init_41 : decode cX0_init 41 = .ok (.putfield 22, 3) := by decide +kernel
theorem dX0_init_44 : decode cX0_init 44 = .ok (.return_, 1) := by decide +kernel
set_option maxRecDepth 100000 in
set_option maxHeartbeats 4000000 in
theorem i_X0_init (l : Launch) (E : xE) (a0 : Nat)  (sz : Nat) : Met l yX0_init (Cond.code yX0_init cX0_init 1 none :: gw) ({ frames := 1, cells := 5, slots := 300, locals := 12 }) (xPc E [.ref a0] [(a0, .inr (0, [.int 0, .int 0, .int 0, .null, .null, .null, .null, .null]))] sz) (xQc E (fun q => [(a0, o0 (fun _ => 0) (q 0) (q 1) (q 2) (q 3) (q 4)), ((q 0), ai E 60 (fun _ => 0)), ((q 1), ai E 60 (fun _ => 0)), ((q 2), ai E 60 (fun _ => 0)), ((q 3), ai E 60 (fun _ => 0)), ((q 4), ai E 60 (fun _ => 0))]) [(a0, .inr (0, [.int 0, .int 0, .int 0, .null, .null, .null, .null, .null]))] sz) 5 300 (va_A [(a0, .inr (0, [.int 0, .int 0, .int 0, .null, .null, .null, .null, .null]))] sz) := by
  refine xM_c (by decide +kernel) rfl (Nat.le_of_ble_eq_true rfl) ?_
  intro p e s m args below meth c A Q hx hb hml hown htg hK hG hA hin ret H locs ls hP hD hS hl
  replace hl : lv_has ls 1 [(0, .ref a0)] := hl
  refine lv_aload_n hx hb dX0_init_0 rfl (lv_at hl 0 rfl) ?_
  refine W.objInit hx hb hown (htg _ moX0_1) (htg _ imObj) (htg _ cwObj) rfl (by rw [hml]; exact hl.1) rfl dX0_init_1 (Nat.le_of_ble_eq_true rfl) (Nat.le_of_ble_eq_true rfl) ?_
  refine W.eq (g2 := F0 m 4 ls []) rfl ?_
  refine lv_aload_n hx hb dX0_init_4 rfl (lv_at hl 0 rfl) ?_
  refine lv_bipush (v := 60) hx hb dX0_init_5 rfl ?_
  refine xnewi (N := 60) hx hb htg hK hP hD hS hA (by decide) (by decide) (Nat.le_of_ble_eq_true rfl) (Nat.le_of_ble_eq_true rfl) (Nat.le_of_ble_eq_true rfl) dX0_init_7 (fun a1 H hP hD hS => ?_)
  replace hP : va_P E.1 vwCl [(a0, .inr (0, [.int 0, .int 0, .int 0, .null, .null, .null, .null, .null])), (a1, ai E 60 (fun _ => 0))] H := hP
  replace hD : va_D A [(a0, .inr (0, [.int 0, .int 0, .int 0, .null, .null, .null, .null, .null])), (a1, ai E 60 (fun _ => 0))] := hD
  refine W.widen (k := 1) (n := 60) (Nat.le_of_ble_eq_true rfl) (Nat.le_of_ble_eq_true rfl) ?_
  refine va_putF (D := E.1) (ci := 0) (v := .ref a1) (ty := (.array .int)) (C := RX0) (T := TX0) (N := 8) hx hb htg hwX0 tyX0 tyX0_ok nmX0 hown hK hP hD hS 0 rfl rfl 3 (by decide) (htg _ fl0_9) (fun _ h9 => h9) rfl hin rfl (by decide +kernel) rfl rfl (Nat.le_of_ble_eq_true rfl) dX0_init_9 (fun H locs hP hD hS => ?_)
  replace hP : va_P E.1 vwCl [(a0, .inr (0, [.int 0, .int 0, .int 0, .ref a1, .null, .null, .null, .null])), (a1, ai E 60 (fun _ => 0))] H := hP
  replace hD : va_D A [(a0, .inr (0, [.int 0, .int 0, .int 0, .ref a1, .null, .null, .null, .null])), (a1, ai E 60 (fun _ => 0))] := hD
  refine lv_aload_n hx hb dX0_init_12 rfl (lv_at hl 0 rfl) ?_
  refine lv_bipush (v := 60) hx hb dX0_init_13 rfl ?_
  refine xnewi (N := 60) hx hb htg hK hP hD hS hA (by decide) (by decide) (Nat.le_of_ble_eq_true rfl) (Nat.le_of_ble_eq_true rfl) (Nat.le_of_ble_eq_true rfl) dX0_init_15 (fun a2 H hP hD hS => ?_)
  replace hP : va_P E.1 vwCl [(a0, .inr (0, [.int 0, .int 0, .int 0, .ref a1, .null, .null, .null, .null])), (a1, ai E 60 (fun _ => 0)), (a2, ai E 60 (fun _ => 0))] H := hP
  replace hD : va_D A [(a0, .inr (0, [.int 0, .int 0, .int 0, .ref a1, .null, .null, .null, .null])), (a1, ai E 60 (fun _ => 0)), (a2, ai E 60 (fun _ => 0))] := hD
  refine W.widen (k := 2) (n := 120) (Nat.le_of_ble_eq_true rfl) (Nat.le_of_ble_eq_true rfl) ?_
  refine va_putF (D := E.1) (ci := 0) (v := .ref a2) (ty := (.array .int)) (C := RX0) (T := TX0) (N := 8) hx hb htg hwX0 tyX0 tyX0_ok nmX0 hown hK hP hD hS 0 rfl rfl 4 (by decide) (htg _ fl0_13) (fun _ h9 => h9) rfl hin rfl (by decide +kernel) rfl rfl (Nat.le_of_ble_eq_true rfl) dX0_init_17 (fun H locs hP hD hS => ?_)
  replace hP : va_P E.1 vwCl [(a0, .inr (0, [.int 0, .int 0, .int 0, .ref a1, .ref a2, .null, .null, .null])), (a1, ai E 60 (fun _ => 0)), (a2, ai E 60 (fun _ => 0))] H := hP
  replace hD : va_D A [(a0, .inr (0, [.int 0, .int 0, .int 0, .ref a1, .ref a2, .null, .null, .null])), (a1, ai E 60 (fun _ => 0)), (a2, ai E 60 (fun _ => 0))] := hD
  refine lv_aload_n hx hb dX0_init_20 rfl (lv_at hl 0 rfl) ?_
  refine lv_bipush (v := 60) hx hb dX0_init_21 rfl ?_
  refine xnewi (N := 60) hx hb htg hK hP hD hS hA (by decide) (by decide) (Nat.le_of_ble_eq_true rfl) (Nat.le_of_ble_eq_true rfl) (Nat.le_of_ble_eq_true rfl) dX0_init_23 (fun a3 H hP hD hS => ?_)
  replace hP : va_P E.1 vwCl [(a0, .inr (0, [.int 0, .int 0, .int 0, .ref a1, .ref a2, .null, .null, .null])), (a1, ai E 60 (fun _ => 0)), (a2, ai E 60 (fun _ => 0)), (a3, ai E 60 (fun _ => 0))] H := hP
  replace hD : va_D A [(a0, .inr (0, [.int 0, .int 0, .int 0, .ref a1, .ref a2, .null, .null, .null])), (a1, ai E 60 (fun _ => 0)), (a2, ai E 60 (fun _ => 0)), (a3, ai E 60 (fun _ => 0))] := hD
  refine W.widen (k := 3) (n := 180) (Nat.le_of_ble_eq_true rfl) (Nat.le_of_ble_eq_true rfl) ?_
  refine va_putF (D := E.1) (ci := 0) (v := .ref a3) (ty := (.array .int)) (C := RX0) (T := TX0) (N := 8) hx hb htg hwX0 tyX0 tyX0_ok nmX0 hown hK hP hD hS 0 rfl rfl 5 (by decide) (htg _ fl0_16) (fun _ h9 => h9) rfl hin rfl (by decide +kernel) rfl rfl (Nat.le_of_ble_eq_true rfl) dX0_init_25 (fun H locs hP hD hS => ?_)
  replace hP : va_P E.1 vwCl [(a0, .inr (0, [.int 0, .int 0, .int 0, .ref a1, .ref a2, .ref a3, .null, .null])), (a1, ai E 60 (fun _ => 0)), (a2, ai E 60 (fun _ => 0)), (a3, ai E 60 (fun _ => 0))] H := hP
  replace hD : va_D A [(a0, .inr (0, [.int 0, .int 0, .int 0, .ref a1, .ref a2, .ref a3, .null, .null])), (a1, ai E 60 (fun _ => 0)), (a2, ai E 60 (fun _ => 0)), (a3, ai E 60 (fun _ => 0))] := hD
  refine lv_aload_n hx hb dX0_init_28 rfl (lv_at hl 0 rfl) ?_
  refine lv_bipush (v := 60) hx hb dX0_init_29 rfl ?_
  refine xnewi (N := 60) hx hb htg hK hP hD hS hA (by decide) (by decide) (Nat.le_of_ble_eq_true rfl) (Nat.le_of_ble_eq_true rfl) (Nat.le_of_ble_eq_true rfl) dX0_init_31 (fun a4 H hP hD hS => ?_)
  replace hP : va_P E.1 vwCl [(a0, .inr (0, [.int 0, .int 0, .int 0, .ref a1, .ref a2, .ref a3, .null, .null])), (a1, ai E 60 (fun _ => 0)), (a2, ai E 60 (fun _ => 0)), (a3, ai E 60 (fun _ => 0)), (a4, ai E 60 (fun _ => 0))] H := hP
  replace hD : va_D A [(a0, .inr (0, [.int 0, .int 0, .int 0, .ref a1, .ref a2, .ref a3, .null, .null])), (a1, ai E 60 (fun _ => 0)), (a2, ai E 60 (fun _ => 0)), (a3, ai E 60 (fun _ => 0)), (a4, ai E 60 (fun _ => 0))] := hD
  refine W.widen (k := 4) (n := 240) (Nat.le_of_ble_eq_true rfl) (Nat.le_of_ble_eq_true rfl) ?_
  refine va_putF (D := E.1) (ci := 0) (v := .ref a4) (ty := (.array .int)) (C := RX0) (T := TX0) (N := 8) hx hb htg hwX0 tyX0 tyX0_ok nmX0 hown hK hP hD hS 0 rfl rfl 6 (by decide) (htg _ fl0_19) (fun _ h9 => h9) rfl hin rfl (by decide +kernel) rfl rfl (Nat.le_of_ble_eq_true rfl) dX0_init_33 (fun H locs hP hD hS => ?_)
  replace hP : va_P E.1 vwCl [(a0, .inr (0, [.int 0, .int 0, .int 0, .ref a1, .ref a2, .ref a3, .ref a4, .null])), (a1, ai E 60 (fun _ => 0)), (a2, ai E 60 (fun _ => 0)), (a3, ai E 60 (fun _ => 0)), (a4, ai E 60 (fun _ => 0))] H := hP
  replace hD : va_D A [(a0, .inr (0, [.int 0, .int 0, .int 0, .ref a1, .ref a2, .ref a3, .ref a4, .null])), (a1, ai E 60 (fun _ => 0)), (a2, ai E 60 (fun _ => 0)), (a3, ai E 60 (fun _ => 0)), (a4, ai E 60 (fun _ => 0))] := hD
  refine lv_aload_n hx hb dX0_init_36 rfl (lv_at hl 0 rfl) ?_
  refine lv_bipush (v := 60) hx hb dX0_init_37 rfl ?_
  refine xnewi (N := 60) hx hb htg hK hP hD hS hA (by decide) (by decide) (Nat.le_of_ble_eq_true rfl) (Nat.le_of_ble_eq_true rfl) (Nat.le_of_ble_eq_true rfl) dX0_init_39 (fun a5 H hP hD hS => ?_)
  replace hP : va_P E.1 vwCl [(a0, .inr (0, [.int 0, .int 0, .int 0, .ref a1, .ref a2, .ref a3, .ref a4, .null])), (a1, ai E 60 (fun _ => 0)), (a2, ai E 60 (fun _ => 0)), (a3, ai E 60 (fun _ => 0)), (a4, ai E 60 (fun _ => 0)), (a5, ai E 60 (fun _ => 0))] H := hP
  replace hD : va_D A [(a0, .inr (0, [.int 0, .int 0, .int 0, .ref a1, .ref a2, .ref a3, .ref a4, .null])), (a1, ai E 60 (fun _ => 0)), (a2, ai E 60 (fun _ => 0)), (a3, ai E 60 (fun _ => 0)), (a4, ai E 60 (fun _ => 0)), (a5, ai E 60 (fun _ => 0))] := hD
  refine W.widen (k := 5) (n := 300) (Nat.le_of_ble_eq_true rfl) (Nat.le_of_ble_eq_true rfl) ?_
  refine va_putF (D := E.1) (ci := 0) (v := .ref a5) (ty := (.array .int)) (C := RX0) (T := TX0) (N := 8) hx hb htg hwX0 tyX0 tyX0_ok nmX0 hown hK hP hD hS 0 rfl rfl 7 (by decide) (htg _ fl0_22) (fun _ h9 => h9) rfl hin rfl (by decide +kernel) rfl rfl (Nat.le_of_ble_eq_true rfl) dX0_init_41 (fun H locs hP hD hS => ?_)
  replace hP : va_P E.1 vwCl [(a0, .inr (0, [.int 0, .int 0, .int 0, .ref a1, .ref a2, .ref a3, .ref a4, .ref a5])), (a1, ai E 60 (fun _ => 0)), (a2, ai E 60 (fun _ => 0)), (a3, ai E 60 (fun _ => 0)), (a4, ai E 60 (fun _ => 0)), (a5, ai E 60 (fun _ => 0))] H := hP
  replace hD : va_D A [(a0, .inr (0, [.int 0, .int 0, .int 0, .ref a1, .ref a2, .ref a3, .ref a4, .ref a5])), (a1, ai E 60 (fun _ => 0)), (a2, ai E 60 (fun _ => 0)), (a3, ai E 60 (fun _ => 0)), (a4, ai E 60 (fun _ => 0)), (a5, ai E 60 (fun _ => 0))] := hD
  exact ret (fun k => match k with | 0 => a1 | 1 => a2 | 2 => a3 | 3 => a4 | _ => a5) hP hD hS dX0_init_44
theorem dX1_init_0 : decode cX1_init 0 = .ok (.aload_n 0, 1) := by decide +kernel
theorem dX1_init_1 : decode cX1_init 1 = .ok (.invokespecial 3, 3) := by decide +kernel
theorem dX1_init_4 : decode cX1_init 4 = .ok (.aload_n 0, 1) := by decide +kernel
theorem dX1_init_5 : decode cX1_init 5 = .ok (.iconst 4, 1) := by decide +kernel
theorem dX1_init_6 : decode cX1_init 6 = .ok (.newarray .long, 2) := by decide +kernel
theorem dX1_init_8 : decode cX1_init 8 = .ok (.putfield 9, 3) := by decide +kernel
theorem dX1_init_11 : decode cX1_init 11 = .ok (.aload_n 0, 1) := by decide +kernel
theorem dX1_init_12 : decode cX1_init 12 = .ok (.bipush 13, 2) := by decide +kernel
theorem dX1_init_14 : decode cX1_init 14 = .ok (.newarray .long, 2) := by decide +kernel
theorem dX1_init_16 : decode cX1_init 16 = .ok (.putfield 15, 3) := by decide +kernel
theorem dX1_init_19 : decode cX1_init 19 = .ok (.return_, 1) := by decide +kernel
set_option maxRecDepth 100000 in
set_option maxHeartbeats 4000000 in
theorem i_X1_init (l : Launch) (E : xE) (a0 : Nat)  (sz : Nat) : Met l yX1_init (Cond.code yX1_init cX1_init 1 none :: gw) ({ frames := 1, cells := 2, slots := 17, locals := 12 }) (xPc E [.ref a0] [(a0, .inr (1, [.null, .null]))] sz) (xQc E (fun q => [(a0, o1 (q 0) (q 1)), ((q 0), al E 4 (fun _ => 0)), ((q 1), al E 13 (fun _ => 0))]) [(a0, .inr (1, [.null, .null]))] sz) 2 17 (va_A [(a0, .inr (1, [.null, .null]))] sz) := by
  refine xM_c (by decide +kernel) rfl (Nat.le_of_ble_eq_true rfl) ?_
  intro p e s m args below meth c A Q hx hb hml hown htg hK hG hA hin ret H locs ls hP hD hS hl
  replace hl : lv_has ls 1 [(0, .ref a0)] := hl
  refine lv_aload_n hx hb dX1_init_0 rfl (lv_at hl 0 rfl) ?_
  refine W.objInit hx hb hown (htg _ moX1_3) (htg _ imObj) (htg _ cwObj) rfl (by rw [hml]; exact hl.1) rfl dX1_init_1 (Nat.le_of_ble_eq_true rfl) (Nat.le_of_ble_eq_true rfl) ?_
  refine W.eq (g2 := F0 m 4 ls []) rfl ?_
  refine lv_aload_n hx hb dX1_init_4 rfl (lv_at hl 0 rfl) ?_
  refine lv_iconst (v := 4) hx hb dX1_init_5 rfl ?_
  refine xnewl (N := 4) hx hb htg hK hP hD hS hA (by decide) (by decide) (Nat.le_of_ble_eq_true rfl) (Nat.le_of_ble_eq_true rfl) (Nat.le_of_ble_eq_true rfl) dX1_init_6 (fun a1 H hP hD hS => ?_)
  replace hP : va_P E.1 vwCl [(a0, .inr (1, [.null, .null])), (a1, al E 4 (fun _ => 0))] H := hP
  replace hD : va_D A [(a0, .inr (1, [.null, .null])), (a1, al E 4 (fun _ => 0))] := hD
  refine W.widen (k := 1) (n := 4) (Nat.le_of_ble_eq_true rfl) (Nat.le_of_ble_eq_true rfl) ?_
  refine va_putF (D := E.1) (ci := 1) (v := .ref a1) (ty := (.array .long)) (C := RX1) (T := TX1) (N := 2) hx hb htg hwX1 tyX1 tyX1_ok nmX1 hown hK hP hD hS 0 rfl rfl 0 (by decide) (htg _ fl1_9) (fun _ h9 => h9) rfl hin rfl (by decide +kernel) rfl rfl (Nat.le_of_ble_eq_true rfl) dX1_init_8 (fun H locs hP hD hS => ?_)
  replace hP : va_P E.1 vwCl [(a0, .inr (1, [.ref a1, .null])), (a1, al E 4 (fun _ => 0))] H := hP
  replace hD : va_D A [(a0, .inr (1, [.ref a1, .null])), (a1, al E 4 (fun _ => 0))] := hD
  refine lv_aload_n hx hb dX1_init_11 rfl (lv_at hl 0 rfl) ?_
  refine lv_bipush (v := 13) hx hb dX1_init_12 rfl ?_
  refine xnewl (N := 13) hx hb htg hK hP hD hS hA (by decide) (by decide) (Nat.le_of_ble_eq_true rfl) (Nat.le_of_ble_eq_true rfl) (Nat.le_of_ble_eq_true rfl) dX1_init_14 (fun a2 H hP hD hS => ?_)
  replace hP : va_P E.1 vwCl [(a0, .inr (1, [.ref a1, .null])), (a1, al E 4 (fun _ => 0)), (a2, al E 13 (fun _ => 0))] H := hP
  replace hD : va_D A [(a0, .inr (1, [.ref a1, .null])), (a1, al E 4 (fun _ => 0)), (a2, al E 13 (fun _ => 0))] := hD
  refine W.widen (k := 2) (n := 17) (Nat.le_of_ble_eq_true rfl) (Nat.le_of_ble_eq_true rfl) ?_
  refine va_putF (D := E.1) (ci := 1) (v := .ref a2) (ty := (.array .long)) (C := RX1) (T := TX1) (N := 2) hx hb htg hwX1 tyX1 tyX1_ok nmX1 hown hK hP hD hS 0 rfl rfl 1 (by decide) (htg _ fl1_15) (fun _ h9 => h9) rfl hin rfl (by decide +kernel) rfl rfl (Nat.le_of_ble_eq_true rfl) dX1_init_16 (fun H locs hP hD hS => ?_)
  replace hP : va_P E.1 vwCl [(a0, .inr (1, [.ref a1, .ref a2])), (a1, al E 4 (fun _ => 0)), (a2, al E 13 (fun _ => 0))] H := hP
  replace hD : va_D A [(a0, .inr (1, [.ref a1, .ref a2])), (a1, al E 4 (fun _ => 0)), (a2, al E 13 (fun _ => 0))] := hD
  exact ret (fun k => match k with | 0 => a1 | _ => a2) hP hD hS dX1_init_19
theorem dX2_init_0 : decode cX2_init 0 = .ok (.aload_n 0, 1) := by decide +kernel
theorem dX2_init_1 : decode cX2_init 1 = .ok (.invokespecial 3, 3) := by decide +kernel
theorem dX2_init_4 : decode cX2_init 4 = .ok (.aload_n 0, 1) := by decide +kernel
theorem dX2_init_5 : decode cX2_init 5 = .ok (.bipush 32, 2) := by decide +kernel
theorem dX2_init_7 : decode cX2_init 7 = .ok (.newarray .int, 2) := by decide +kernel
theorem dX2_init_9 : decode cX2_init 9 = .ok (.putfield 11, 3) := by decide +kernel
theorem dX2_init_12 : decode cX2_init 12 = .ok (.aload_n 0, 1) := by decide +kernel
theorem dX2_init_13 : decode cX2_init 13 = .ok (.bipush 32, 2) := by decide +kernel
theorem dX2_init_15 : decode cX2_init 15 = .ok (.newarray .int, 2) := by decide +kernel
theorem dX2_init_17 : decode cX2_init 17 = .ok (.putfield 15, 3) := by decide +kernel
theorem dX2_init_20 : decode cX2_init 20 = .ok (.return_, 1) := by decide +kernel
set_option maxRecDepth 100000 in
set_option maxHeartbeats 4000000 in
theorem i_X2_init (l : Launch) (E : xE) (a0 : Nat)  (sz : Nat) : Met l yX2_init (Cond.code yX2_init cX2_init 1 none :: gw) ({ frames := 1, cells := 2, slots := 64, locals := 12 }) (xPc E [.ref a0] [(a0, .inr (2, [.null, .null]))] sz) (xQc E (fun q => [(a0, o2 (q 0) (q 1)), ((q 0), ai E 32 (fun _ => 0)), ((q 1), ai E 32 (fun _ => 0))]) [(a0, .inr (2, [.null, .null]))] sz) 2 64 (va_A [(a0, .inr (2, [.null, .null]))] sz) := by
  refine xM_c (by decide +kernel) rfl (Nat.le_of_ble_eq_true rfl) ?_
  intro p e s m args below meth c A Q hx hb hml hown htg hK hG hA hin ret H locs ls hP hD hS hl
  replace hl : lv_has ls 1 [(0, .ref a0)] := hl
  refine lv_aload_n hx hb dX2_init_0 rfl (lv_at hl 0 rfl) ?_
  refine W.objInit hx hb hown (htg _ moX2_3) (htg _ imObj) (htg _ cwObj) rfl (by rw [hml]; exact hl.1) rfl dX2_init_1 (Nat.le_of_ble_eq_true rfl) (Nat.le_of_ble_eq_true rfl) ?_
  refine W.eq (g2 := F0 m 4 ls []) rfl ?_
  refine lv_aload_n hx hb dX2_init_4 rfl (lv_at hl 0 rfl) ?_
  refine lv_bipush (v := 32) hx hb dX2_init_5 rfl ?_
  refine xnewi (N := 32) hx hb htg hK hP hD hS hA (by decide) (by decide) (Nat.le_of_ble_eq_true rfl) (Nat.le_of_ble_eq_true rfl) (Nat.le_of_ble_eq_true rfl) dX2_init_7 (fun a1 H hP hD hS => ?_)
  replace hP : va_P E.1 vwCl [(a0, .inr (2, [.null, .null])), (a1, ai E 32 (fun _ => 0))] H := hP
  replace hD : va_D A [(a0, .inr (2, [.null, .null])), (a1, ai E 32 (fun _ => 0))] := hD
  refine W.widen (k := 1) (n := 32) (Nat.le_of_ble_eq_true rfl) (Nat.le_of_ble_eq_true rfl) ?_
  refine va_putF (D := E.1) (ci := 2) (v := .ref a1) (ty := (.array .int)) (C := RX2) (T := TX2) (N := 2) hx hb htg hwX2 tyX2 tyX2_ok nmX2 hown hK hP hD hS 0 rfl rfl 0 (by decide) (htg _ fl2_11) (fun _ h9 => h9) rfl hin rfl (by decide +kernel) rfl rfl (Nat.le_of_ble_eq_true rfl) dX2_init_9 (fun H locs hP hD hS => ?_)
  replace hP : va_P E.1 vwCl [(a0, .inr (2, [.ref a1, .null])), (a1, ai E 32 (fun _ => 0))] H := hP
  replace hD : va_D A [(a0, .inr (2, [.ref a1, .null])), (a1, ai E 32 (fun _ => 0))] := hD
  refine lv_aload_n hx hb dX2_init_12 rfl (lv_at hl 0 rfl) ?_
  refine lv_bipush (v := 32) hx hb dX2_init_13 rfl ?_
  refine xnewi (N := 32) hx hb htg hK hP hD hS hA (by decide) (by decide) (Nat.le_of_ble_eq_true rfl) (Nat.le_of_ble_eq_true rfl) (Nat.le_of_ble_eq_true rfl) dX2_init_15 (fun a2 H hP hD hS => ?_)
  replace hP : va_P E.1 vwCl [(a0, .inr (2, [.ref a1, .null])), (a1, ai E 32 (fun _ => 0)), (a2, ai E 32 (fun _ => 0))] H := hP
  replace hD : va_D A [(a0, .inr (2, [.ref a1, .null])), (a1, ai E 32 (fun _ => 0)), (a2, ai E 32 (fun _ => 0))] := hD
  refine W.widen (k := 2) (n := 64) (Nat.le_of_ble_eq_true rfl) (Nat.le_of_ble_eq_true rfl) ?_
  refine va_putF (D := E.1) (ci := 2) (v := .ref a2) (ty := (.array .int)) (C := RX2) (T := TX2) (N := 2) hx hb htg hwX2 tyX2 tyX2_ok nmX2 hown hK hP hD hS 0 rfl rfl 1 (by decide) (htg _ fl2_15) (fun _ h9 => h9) rfl hin rfl (by decide +kernel) rfl rfl (Nat.le_of_ble_eq_true rfl) dX2_init_17 (fun H locs hP hD hS => ?_)
  replace hP : va_P E.1 vwCl [(a0, .inr (2, [.ref a1, .ref a2])), (a1, ai E 32 (fun _ => 0)), (a2, ai E 32 (fun _ => 0))] H := hP
  replace hD : va_D A [(a0, .inr (2, [.ref a1, .ref a2])), (a1, ai E 32 (fun _ => 0)), (a2, ai E 32 (fun _ => 0))] := hD
  exact ret (fun k => match k with | 0 => a1 | _ => a2) hP hD hS dX2_init_20
theorem dX4_init_0 : decode cX4_init 0 = .ok (.aload_n 0, 1) := by decide +kernel
theorem dX4_init_1 : decode cX4_init 1 = .ok (.invokespecial 3, 3) := by decide +kernel
theorem dX4_init_4 : decode cX4_init 4 = .ok (.return_, 1) := by decide +kernel
set_option maxRecDepth 100000 in
set_option maxHeartbeats 4000000 in
theorem i_X4_init (l : Launch) (E : xE) (a0 : Nat)  (sz : Nat) : Met l yX4_init (Cond.code yX4_init cX4_init 1 none :: gw) ({ frames := 1, cells := 0, slots := 0, locals := 12 }) (xPc E [.ref a0] [(a0, .inr (4, [.null, .int 0, .int 0]))] sz) (xQc E (fun q => [(a0, o4 (fun _ => 0) (.null))]) [(a0, .inr (4, [.null, .int 0, .int 0]))] sz) 0 0 (va_A [(a0, .inr (4, [.null, .int 0, .int 0]))] sz) := by
  refine xM_c (by decide +kernel) rfl (Nat.le_of_ble_eq_true rfl) ?_
  intro p e s m args below meth c A Q hx hb hml hown htg hK hG hA hin ret H locs ls hP hD hS hl
  replace hl : lv_has ls 1 [(0, .ref a0)] := hl
  refine lv_aload_n hx hb dX4_init_0 rfl (lv_at hl 0 rfl) ?_
  refine W.objInit hx hb hown (htg _ moX4_3) (htg _ imObj) (htg _ cwObj) rfl (by rw [hml]; exact hl.1) rfl dX4_init_1 (Nat.le_of_ble_eq_true rfl) (Nat.le_of_ble_eq_true rfl) ?_
  refine W.eq (g2 := F0 m 4 ls []) rfl ?_
  exact ret (fun _ => 0) hP hD hS dX4_init_4
theorem dX10_init_0 : decode cX10_init 0 = .ok (.aload_n 0, 1) := by decide +kernel
theorem dX10_init_1 : decode cX10_init 1 = .ok (.invokespecial 3, 3) := by decide +kernel
theorem dX10_init_4 : decode cX10_init 4 = .ok (.aload_n 0, 1) := by decide +kernel
theorem dX10_init_5 : decode cX10_init 5 = .ok (.iconst 3, 1) := by decide +kernel
theorem dX10_init_6 : decode cX10_init 6 = .ok (.newarray .int, 2) := by decide +kernel
theorem dX10_init_8 : decode cX10_init 8 = .ok (.putfield 11, 3) := by decide +kernel
theorem dX10_init_11 : decode cX10_init 11 = .ok (.return_, 1) := by decide +kernel
set_option maxRecDepth 100000 in
set_option maxHeartbeats 4000000 in
theorem i_X10_init (l : Launch) (E : xE) (a0 : Nat)  (sz : Nat) : Met l yX10_init (Cond.code yX10_init cX10_init 1 none :: gw) ({ frames := 1, cells := 1, slots := 3, locals := 12 }) (xPc E [.ref a0] [(a0, .inr (10, [.null, .null, .null, .int 0, .int 0, .int 0, .int 0, .int 0, .int 0]))] sz) (xQc E (fun q => [(a0, o10 (fun _ => 0) (.null) (.null) (q 0)), ((q 0), ai E 3 (fun _ => 0))]) [(a0, .inr (10, [.null, .null, .null, .int 0, .int 0, .int 0, .int 0, .int 0, .int 0]))] sz) 1 3 (va_A [(a0, .inr (10, [.null, .null, .null, .int 0, .int 0, .int 0, .int 0, .int 0, .int 0]))] sz) := by
  refine xM_c (by decide +kernel) rfl (Nat.le_of_ble_eq_true rfl) ?_
  intro p e s m args below meth c A Q hx hb hml hown htg hK hG hA hin ret H locs ls hP hD hS hl
  replace hl : lv_has ls 1 [(0, .ref a0)] := hl
  refine lv_aload_n hx hb dX10_init_0 rfl (lv_at hl 0 rfl) ?_
  refine W.objInit hx hb hown (htg _ moX10_3) (htg _ imObj) (htg _ cwObj) rfl (by rw [hml]; exact hl.1) rfl dX10_init_1 (Nat.le_of_ble_eq_true rfl) (Nat.le_of_ble_eq_true rfl) ?_
  refine W.eq (g2 := F0 m 4 ls []) rfl ?_
  refine lv_aload_n hx hb dX10_init_4 rfl (lv_at hl 0 rfl) ?_
  refine lv_iconst (v := 3) hx hb dX10_init_5 rfl ?_
  refine xnewi (N := 3) hx hb htg hK hP hD hS hA (by decide) (by decide) (Nat.le_of_ble_eq_true rfl) (Nat.le_of_ble_eq_true rfl) (Nat.le_of_ble_eq_true rfl) dX10_init_6 (fun a1 H hP hD hS => ?_)
  replace hP : va_P E.1 vwCl [(a0, .inr (10, [.null, .null, .null, .int 0, .int 0, .int 0, .int 0, .int 0, .int 0])), (a1, ai E 3 (fun _ => 0))] H := hP
  replace hD : va_D A [(a0, .inr (10, [.null, .null, .null, .int 0, .int 0, .int 0, .int 0, .int 0, .int 0])), (a1, ai E 3 (fun _ => 0))] := hD
  refine W.widen (k := 1) (n := 3) (Nat.le_of_ble_eq_true rfl) (Nat.le_of_ble_eq_true rfl) ?_
  refine va_putF (D := E.1) (ci := 10) (v := .ref a1) (ty := (.array .int)) (C := RX10) (T := TX10) (N := 9) hx hb htg hwX10 tyX10 tyX10_ok nmX10 hown hK hP hD hS 0 rfl rfl 2 (by decide) (htg _ fl10_11) (fun _ h9 => h9) rfl hin rfl (by decide +kernel) rfl rfl (Nat.le_of_ble_eq_true rfl) dX10_init_8 (fun H locs hP hD hS => ?_)
  replace hP : va_P E.1 vwCl [(a0, .inr (10, [.null, .null, .ref a1, .int 0, .int 0, .int 0, .int 0, .int 0, .int 0])), (a1, ai E 3 (fun _ => 0))] H := hP
  replace hD : va_D A [(a0, .inr (10, [.null, .null, .ref a1, .int 0, .int 0, .int 0, .int 0, .int 0, .int 0])), (a1, ai E 3 (fun _ => 0))] := hD
  exact ret (fun k => match k with | _ => a1) hP hD hS dX10_init_11
theorem dX7_init_0 : decode cX7_init 0 = .ok (.aload_n 0, 1) := by decide +kernel
theorem dX7_init_1 : decode cX7_init 1 = .ok (.invokespecial 3, 3) := by decide +kernel
theorem dX7_init_4 : decode cX7_init 4 = .ok (.aload_n 0, 1) := by decide +kernel
theorem dX7_init_5 : decode cX7_init 5 = .ok (.sipush 144, 3) := by decide +kernel
theorem dX7_init_8 : decode cX7_init 8 = .ok (.newarray .int, 2) := by decide +kernel
theorem dX7_init_10 : decode cX7_init 10 = .ok (.putfield 9, 3) := by decide +kernel
theorem dX7_init_13 : decode cX7_init 13 = .ok (.return_, 1) := by decide +kernel
set_option maxRecDepth 100000 in
set_option maxHeartbeats 4000000 in
theorem i_X7_init (l : Launch) (E : xE) (a0 : Nat)  (sz : Nat) : Met l yX7_init (Cond.code yX7_init cX7_init 1 none :: gw) ({ frames := 1, cells := 1, slots := 144, locals := 12 }) (xPc E [.ref a0] [(a0, .inr (7, [.null]))] sz) (xQc E (fun q => [(a0, o7 (q 0)), ((q 0), ai E 144 (fun _ => 0))]) [(a0, .inr (7, [.null]))] sz) 1 144 (va_A [(a0, .inr (7, [.null]))] sz) := by
  refine xM_c (by decide +kernel) rfl (Nat.le_of_ble_eq_true rfl) ?_
  intro p e s m args below meth c A Q hx hb hml hown htg hK hG hA hin ret H locs ls hP hD hS hl
  replace hl : lv_has ls 1 [(0, .ref a0)] := hl
  refine lv_aload_n hx hb dX7_init_0 rfl (lv_at hl 0 rfl) ?_
  refine W.objInit hx hb hown (htg _ moX7_3) (htg _ imObj) (htg _ cwObj) rfl (by rw [hml]; exact hl.1) rfl dX7_init_1 (Nat.le_of_ble_eq_true rfl) (Nat.le_of_ble_eq_true rfl) ?_
  refine W.eq (g2 := F0 m 4 ls []) rfl ?_
  refine lv_aload_n hx hb dX7_init_4 rfl (lv_at hl 0 rfl) ?_
  refine lv_sipush (v := 144) hx hb dX7_init_5 rfl ?_
  refine xnewi (N := 144) hx hb htg hK hP hD hS hA (by decide) (by decide) (Nat.le_of_ble_eq_true rfl) (Nat.le_of_ble_eq_true rfl) (Nat.le_of_ble_eq_true rfl) dX7_init_8 (fun a1 H hP hD hS => ?_)
  replace hP : va_P E.1 vwCl [(a0, .inr (7, [.null])), (a1, ai E 144 (fun _ => 0))] H := hP
  replace hD : va_D A [(a0, .inr (7, [.null])), (a1, ai E 144 (fun _ => 0))] := hD
  refine W.widen (k := 1) (n := 144) (Nat.le_of_ble_eq_true rfl) (Nat.le_of_ble_eq_true rfl) ?_
  refine va_putF (D := E.1) (ci := 7) (v := .ref a1) (ty := (.array .int)) (C := RX7) (T := TX7) (N := 1) hx hb htg hwX7 tyX7 tyX7_ok nmX7 hown hK hP hD hS 0 rfl rfl 0 (by decide) (htg _ fl7_9) (fun _ h9 => h9) rfl hin rfl (by decide +kernel) rfl rfl (Nat.le_of_ble_eq_true rfl) dX7_init_10 (fun H locs hP hD hS => ?_)
  replace hP : va_P E.1 vwCl [(a0, .inr (7, [.ref a1])), (a1, ai E 144 (fun _ => 0))] H := hP
  replace hD : va_D A [(a0, .inr (7, [.ref a1])), (a1, ai E 144 (fun _ => 0))] := hD
  exact ret (fun k => match k with | _ => a1) hP hD hS dX7_init_13
theorem dX6_init_0 : decode cX6_init 0 = .ok (.aload_n 0, 1) := by decide +kernel
theorem dX6_init_1 : decode cX6_init 1 = .ok (.invokespecial 3, 3) := by decide +kernel
theorem dX6_init_4 : decode cX6_init 4 = .ok (.aload_n 0, 1) := by decide +kernel
theorem dX6_init_5 : decode cX6_init 5 = .ok (.bipush 36, 2) := by decide +kernel
theorem dX6_init_7 : decode cX6_init 7 = .ok (.newarray .int, 2) := by decide +kernel
theorem dX6_init_9 : decode cX6_init 9 = .ok (.putfield 9, 3) := by decide +kernel
theorem dX6_init_12 : decode cX6_init 12 = .ok (.aload_n 0, 1) := by decide +kernel
theorem dX6_init_13 : decode cX6_init 13 = .ok (.bipush 36, 2) := by decide +kernel
theorem dX6_init_15 : decode cX6_init 15 = .ok (.newarray .int, 2) := by decide +kernel
theorem dX6_init_17 : decode cX6_init 17 = .ok (.putfield 15, 3) := by decide +kernel
theorem dX6_init_20 : decode cX6_init 20 = .ok (.aload_n 0, 1) := by decide +kernel
theorem dX6_init_21 : decode cX6_init 21 = .ok (.bipush 37, 2) := by decide +kernel
theorem dX6_init_23 : decode cX6_init 23 = .ok (.newarray .int, 2) := by decide +kernel
theorem dX6_init_25 : decode cX6_init 25 = .ok (.putfield 18, 3) := by decide +kernel
theorem dX6_init_28 : decode cX6_init 28 = .ok (.return_, 1) := by decide +kernel
set_option maxRecDepth 100000 in
set_option maxHeartbeats 4000000 in
theorem i_X6_init (l : Launch) (E : xE) (a0 : Nat)  (sz : Nat) : Met l yX6_init (Cond.code yX6_init cX6_init 1 none :: gw) ({ frames := 1, cells := 3, slots := 109, locals := 12 }) (xPc E [.ref a0] [(a0, .inr (6, [.null, .null, .null, .int 0, .int 0, .int 0]))] sz) (xQc E (fun q => [(a0, o6 (fun _ => 0) (q 0) (q 1) (q 2)), ((q 0), ai E 36 (fun _ => 0)), ((q 1), ai E 36 (fun _ => 0)), ((q 2), ai E 37 (fun _ => 0))]) [(a0, .inr (6, [.null, .null, .null, .int 0, .int 0, .int 0]))] sz) 3 109 (va_A [(a0, .inr (6, [.null, .null, .null, .int 0, .int 0, .int 0]))] sz) := by
  refine xM_c (by decide +kernel) rfl (Nat.le_of_ble_eq_true rfl) ?_
  intro p e s m args below meth c A Q hx hb hml hown htg hK hG hA hin ret H locs ls hP hD hS hl
  replace hl : lv_has ls 1 [(0, .ref a0)] := hl
  refine lv_aload_n hx hb dX6_init_0 rfl (lv_at hl 0 rfl) ?_
  refine W.objInit hx hb hown (htg _ moX6_3) (htg _ imObj) (htg _ cwObj) rfl (by rw [hml]; exact hl.1) rfl dX6_init_1 (Nat.le_of_ble_eq_true rfl) (Nat.le_of_ble_eq_true rfl) ?_
  refine W.eq (g2 := F0 m 4 ls []) rfl ?_
  refine lv_aload_n hx hb dX6_init_4 rfl (lv_at hl 0 rfl) ?_
  refine lv_bipush (v := 36) hx hb dX6_init_5 rfl ?_
  refine xnewi (N := 36) hx hb htg hK hP hD hS hA (by decide) (by decide) (Nat.le_of_ble_eq_true rfl) (Nat.le_of_ble_eq_true rfl) (Nat.le_of_ble_eq_true rfl) dX6_init_7 (fun a1 H hP hD hS => ?_)
  replace hP : va_P E.1 vwCl [(a0, .inr (6, [.null, .null, .null, .int 0, .int 0, .int 0])), (a1, ai E 36 (fun _ => 0))] H := hP
  replace hD : va_D A [(a0, .inr (6, [.null, .null, .null, .int 0, .int 0, .int 0])), (a1, ai E 36 (fun _ => 0))] := hD
  refine W.widen (k := 1) (n := 36) (Nat.le_of_ble_eq_true rfl) (Nat.le_of_ble_eq_true rfl) ?_
  refine va_putF (D := E.1) (ci := 6) (v := .ref a1) (ty := (.array .int)) (C := RX6) (T := TX6) (N := 6) hx hb htg hwX6 tyX6 tyX6_ok nmX6 hown hK hP hD hS 0 rfl rfl 0 (by decide) (htg _ fl6_9) (fun _ h9 => h9) rfl hin rfl (by decide +kernel) rfl rfl (Nat.le_of_ble_eq_true rfl) dX6_init_9 (fun H locs hP hD hS => ?_)
  replace hP : va_P E.1 vwCl [(a0, .inr (6, [.ref a1, .null, .null, .int 0, .int 0, .int 0])), (a1, ai E 36 (fun _ => 0))] H := hP
  replace hD : va_D A [(a0, .inr (6, [.ref a1, .null, .null, .int 0, .int 0, .int 0])), (a1, ai E 36 (fun _ => 0))] := hD
  refine lv_aload_n hx hb dX6_init_12 rfl (lv_at hl 0 rfl) ?_
  refine lv_bipush (v := 36) hx hb dX6_init_13 rfl ?_
  refine xnewi (N := 36) hx hb htg hK hP hD hS hA (by decide) (by decide) (Nat.le_of_ble_eq_true rfl) (Nat.le_of_ble_eq_true rfl) (Nat.le_of_ble_eq_true rfl) dX6_init_15 (fun a2 H hP hD hS => ?_)
  replace hP : va_P E.1 vwCl [(a0, .inr (6, [.ref a1, .null, .null, .int 0, .int 0, .int 0])), (a1, ai E 36 (fun _ => 0)), (a2, ai E 36 (fun _ => 0))] H := hP
  replace hD : va_D A [(a0, .inr (6, [.ref a1, .null, .null, .int 0, .int 0, .int 0])), (a1, ai E 36 (fun _ => 0)), (a2, ai E 36 (fun _ => 0))] := hD
  refine W.widen (k := 2) (n := 72) (Nat.le_of_ble_eq_true rfl) (Nat.le_of_ble_eq_true rfl) ?_
  refine va_putF (D := E.1) (ci := 6) (v := .ref a2) (ty := (.array .int)) (C := RX6) (T := TX6) (N := 6) hx hb htg hwX6 tyX6 tyX6_ok nmX6 hown hK hP hD hS 0 rfl rfl 1 (by decide) (htg _ fl6_15) (fun _ h9 => h9) rfl hin rfl (by decide +kernel) rfl rfl (Nat.le_of_ble_eq_true rfl) dX6_init_17 (fun H locs hP hD hS => ?_)
  replace hP : va_P E.1 vwCl [(a0, .inr (6, [.ref a1, .ref a2, .null, .int 0, .int 0, .int 0])), (a1, ai E 36 (fun _ => 0)), (a2, ai E 36 (fun _ => 0))] H := hP
  replace hD : va_D A [(a0, .inr (6, [.ref a1, .ref a2, .null, .int 0, .int 0, .int 0])), (a1, ai E 36 (fun _ => 0)), (a2, ai E 36 (fun _ => 0))] := hD
  refine lv_aload_n hx hb dX6_init_20 rfl (lv_at hl 0 rfl) ?_
  refine lv_bipush (v := 37) hx hb dX6_init_21 rfl ?_
  refine xnewi (N := 37) hx hb htg hK hP hD hS hA (by decide) (by decide) (Nat.le_of_ble_eq_true rfl) (Nat.le_of_ble_eq_true rfl) (Nat.le_of_ble_eq_true rfl) dX6_init_23 (fun a3 H hP hD hS => ?_)
  replace hP : va_P E.1 vwCl [(a0, .inr (6, [.ref a1, .ref a2, .null, .int 0, .int 0, .int 0])), (a1, ai E 36 (fun _ => 0)), (a2, ai E 36 (fun _ => 0)), (a3, ai E 37 (fun _ => 0))] H := hP
  replace hD : va_D A [(a0, .inr (6, [.ref a1, .ref a2, .null, .int 0, .int 0, .int 0])), (a1, ai E 36 (fun _ => 0)), (a2, ai E 36 (fun _ => 0)), (a3, ai E 37 (fun _ => 0))] := hD
  refine W.widen (k := 3) (n := 109) (Nat.le_of_ble_eq_true rfl) (Nat.le_of_ble_eq_true rfl) ?_
  refine va_putF (D := E.1) (ci := 6) (v := .ref a3) (ty := (.array .int)) (C := RX6) (T := TX6) (N := 6) hx hb htg hwX6 tyX6 tyX6_ok nmX6 hown hK hP hD hS 0 rfl rfl 2 (by decide) (htg _ fl6_18) (fun _ h9 => h9) rfl hin rfl (by decide +kernel) rfl rfl (Nat.le_of_ble_eq_true rfl) dX6_init_25 (fun H locs hP hD hS => ?_)
  replace hP : va_P E.1 vwCl [(a0, .inr (6, [.ref a1, .ref a2, .ref a3, .int 0, .int 0, .int 0])), (a1, ai E 36 (fun _ => 0)), (a2, ai E 36 (fun _ => 0)), (a3, ai E 37 (fun _ => 0))] H := hP
  replace hD : va_D A [(a0, .inr (6, [.ref a1, .ref a2, .ref a3, .int 0, .int 0, .int 0])), (a1, ai E 36 (fun _ => 0)), (a2, ai E 36 (fun _ => 0)), (a3, ai E 37 (fun _ => 0))] := hD
  exact ret (fun k => match k with | 0 => a1 | 1 => a2 | _ => a3) hP hD hS dX6_init_28
theorem dX5_init_0 : decode cX5_init 0 = .ok (.aload_n 0, 1) := by decide +kernel
theorem dX5_init_1 : decode cX5_init 1 = .ok (.invokespecial 3, 3) := by decide +kernel
theorem dX5_init_4 : decode cX5_init 4 = .ok (.aload_n 0, 1) := by decide +kernel
theorem dX5_init_5 : decode cX5_init 5 = .ok (.iconst 5, 1) := by decide +kernel
theorem dX5_init_6 : decode cX5_init 6 = .ok (.newarray .int, 2) := by decide +kernel
theorem dX5_init_8 : decode cX5_init 8 = .ok (.putfield 11, 3) := by decide +kernel
theorem dX5_init_11 : decode cX5_init 11 = .ok (.aload_n 0, 1) := by decide +kernel
theorem dX5_init_12 : decode cX5_init 12 = .ok (.iconst 5, 1) := by decide +kernel
theorem dX5_init_13 : decode cX5_init 13 = .ok (.newarray .int, 2) := by decide +kernel
theorem dX5_init_15 : decode cX5_init 15 = .ok (.putfield 15, 3) := by decide +kernel
theorem dX5_init_18 : decode cX5_init 18 = .ok (.aload_n 0, 1) := by decide +kernel
theorem dX5_init_19 : decode cX5_init 19 = .ok (.bipush 60, 2) := by decide +kernel
theorem dX5_init_21 : decode cX5_init 21 = .ok (.newarray .int, 2) := by decide +kernel
theorem dX5_init_23 : decode cX5_init 23 = .ok (.putfield 20, 3) := by decide +kernel
theorem dX5_init_26 : decode cX5_init 26 = .ok (.aload_n 0, 1) := by decide +kernel
theorem dX5_init_27 : decode cX5_init 27 = .ok (.new 23, 3) := by decide +kernel
theorem dX5_init_30 : decode cX5_init 30 = .ok (.dup, 1) := by decide +kernel
theorem dX5_init_31 : decode cX5_init 31 = .ok (.invokespecial 25, 3) := by decide +kernel
theorem dX5_init_34 : decode cX5_init 34 = .ok (.putfield 26, 3) := by decide +kernel
theorem dX5_init_37 : decode cX5_init 37 = .ok (.aload_n 0, 1) := by decide +kernel
theorem dX5_init_38 : decode cX5_init 38 = .ok (.new 30, 3) := by decide +kernel
theorem dX5_init_41 : decode cX5_init 41 = .ok (.dup, 1) := by decide +kernel
theorem dX5_init_42 : decode cX5_init 42 = .ok (.invokespecial 32, 3) := by decide +kernel
theorem dX5_init_45 : decode cX5_init 45 = .ok (.putfield 33, 3) := by decide +kernel
theorem dX5_init_48 : decode cX5_init 48 = .ok (.return_, 1) := by decide +kernel
set_option maxRecDepth 100000 in
set_option maxHeartbeats 4000000 in
theorem i_X5_init (l : Launch) (E : xE) (a0 : Nat)  (sz : Nat) : Met l yX5_init (Cond.code yX5_init cX5_init 1 none :: gw) ({ frames := 2, cells := 9, slots := 330, locals := 32 }) (xPc E [.ref a0] [(a0, .inr (5, [.null, .null, .int 0, .null, .null, .null, .int 0]))] sz) (xQc E (fun q => [(a0, o5 (fun _ => 0) (q 0) (q 1) (q 2) (q 3) (q 5)), ((q 0), ai E 5 (fun _ => 0)), ((q 1), ai E 5 (fun _ => 0)), ((q 2), ai E 60 (fun _ => 0)), ((q 3), o7 (q 4)), ((q 4), ai E 144 (fun _ => 0)), ((q 5), o6 (fun _ => 0) (q 6) (q 7) (q 8)), ((q 6), ai E 36 (fun _ => 0)), ((q 7), ai E 36 (fun _ => 0)), ((q 8), ai E 37 (fun _ => 0))]) [(a0, .inr (5, [.null, .null, .int 0, .null, .null, .null, .int 0]))] sz) 9 330 (va_A [(a0, .inr (5, [.null, .null, .int 0, .null, .null, .null, .int 0]))] sz) := by
  refine xM_c (by decide +kernel) rfl (Nat.le_of_ble_eq_true rfl) ?_
  intro p e s m args below meth c A Q hx hb hml hown htg hK hG hA hin ret H locs ls hP hD hS hl
  replace hl : lv_has ls 1 [(0, .ref a0)] := hl
  refine lv_aload_n hx hb dX5_init_0 rfl (lv_at hl 0 rfl) ?_
  refine W.objInit hx hb hown (htg _ moX5_3) (htg _ imObj) (htg _ cwObj) rfl (by rw [hml]; exact hl.1) rfl dX5_init_1 (Nat.le_of_ble_eq_true rfl) (Nat.le_of_ble_eq_true rfl) ?_
  refine W.eq (g2 := F0 m 4 ls []) rfl ?_
  refine lv_aload_n hx hb dX5_init_4 rfl (lv_at hl 0 rfl) ?_
  refine lv_iconst (v := 5) hx hb dX5_init_5 rfl ?_
  refine xnewi (N := 5) hx hb htg hK hP hD hS hA (by decide) (by decide) (Nat.le_of_ble_eq_true rfl) (Nat.le_of_ble_eq_true rfl) (Nat.le_of_ble_eq_true rfl) dX5_init_6 (fun a1 H hP hD hS => ?_)
  replace hP : va_P E.1 vwCl [(a0, .inr (5, [.null, .null, .int 0, .null, .null, .null, .int 0])), (a1, ai E 5 (fun _ => 0))] H := hP
  replace hD : va_D A [(a0, .inr (5, [.null, .null, .int 0, .null, .null, .null, .int 0])), (a1, ai E 5 (fun _ => 0))] := hD
  refine W.widen (k := 1) (n := 5) (Nat.le_of_ble_eq_true rfl) (Nat.le_of_ble_eq_true rfl) ?_
  refine va_putF (D := E.1) (ci := 5) (v := .ref a1) (ty := (.array .int)) (C := RX5) (T := TX5) (N := 7) hx hb htg hwX5 tyX5 tyX5_ok nmX5 hown hK hP hD hS 0 rfl rfl 0 (by decide) (htg _ fl5_11) (fun _ h9 => h9) rfl hin rfl (by decide +kernel) rfl rfl (Nat.le_of_ble_eq_true rfl) dX5_init_8 (fun H locs hP hD hS => ?_)
  replace hP : va_P E.1 vwCl [(a0, .inr (5, [.ref a1, .null, .int 0, .null, .null, .null, .int 0])), (a1, ai E 5 (fun _ => 0))] H := hP
  replace hD : va_D A [(a0, .inr (5, [.ref a1, .null, .int 0, .null, .null, .null, .int 0])), (a1, ai E 5 (fun _ => 0))] := hD
  refine lv_aload_n hx hb dX5_init_11 rfl (lv_at hl 0 rfl) ?_
  refine lv_iconst (v := 5) hx hb dX5_init_12 rfl ?_
  refine xnewi (N := 5) hx hb htg hK hP hD hS hA (by decide) (by decide) (Nat.le_of_ble_eq_true rfl) (Nat.le_of_ble_eq_true rfl) (Nat.le_of_ble_eq_true rfl) dX5_init_13 (fun a2 H hP hD hS => ?_)
  replace hP : va_P E.1 vwCl [(a0, .inr (5, [.ref a1, .null, .int 0, .null, .null, .null, .int 0])), (a1, ai E 5 (fun _ => 0)), (a2, ai E 5 (fun _ => 0))] H := hP
  replace hD : va_D A [(a0, .inr (5, [.ref a1, .null, .int 0, .null, .null, .null, .int 0])), (a1, ai E 5 (fun _ => 0)), (a2, ai E 5 (fun _ => 0))] := hD
  refine W.widen (k := 2) (n := 10) (Nat.le_of_ble_eq_true rfl) (Nat.le_of_ble_eq_true rfl) ?_
  refine va_putF (D := E.1) (ci := 5) (v := .ref a2) (ty := (.array .int)) (C := RX5) (T := TX5) (N := 7) hx hb htg hwX5 tyX5 tyX5_ok nmX5 hown hK hP hD hS 0 rfl rfl 1 (by decide) (htg _ fl5_15) (fun _ h9 => h9) rfl hin rfl (by decide +kernel) rfl rfl (Nat.le_of_ble_eq_true rfl) dX5_init_15 (fun H locs hP hD hS => ?_)
  replace hP : va_P E.1 vwCl [(a0, .inr (5, [.ref a1, .ref a2, .int 0, .null, .null, .null, .int 0])), (a1, ai E 5 (fun _ => 0)), (a2, ai E 5 (fun _ => 0))] H := hP
  replace hD : va_D A [(a0, .inr (5, [.ref a1, .ref a2, .int 0, .null, .null, .null, .int 0])), (a1, ai E 5 (fun _ => 0)), (a2, ai E 5 (fun _ => 0))] := hD
  refine lv_aload_n hx hb dX5_init_18 rfl (lv_at hl 0 rfl) ?_
  refine lv_bipush (v := 60) hx hb dX5_init_19 rfl ?_
  refine xnewi (N := 60) hx hb htg hK hP hD hS hA (by decide) (by decide) (Nat.le_of_ble_eq_true rfl) (Nat.le_of_ble_eq_true rfl) (Nat.le_of_ble_eq_true rfl) dX5_init_21 (fun a3 H hP hD hS => ?_)
  replace hP : va_P E.1 vwCl [(a0, .inr (5, [.ref a1, .ref a2, .int 0, .null, .null, .null, .int 0])), (a1, ai E 5 (fun _ => 0)), (a2, ai E 5 (fun _ => 0)), (a3, ai E 60 (fun _ => 0))] H := hP
  replace hD : va_D A [(a0, .inr (5, [.ref a1, .ref a2, .int 0, .null, .null, .null, .int 0])), (a1, ai E 5 (fun _ => 0)), (a2, ai E 5 (fun _ => 0)), (a3, ai E 60 (fun _ => 0))] := hD
  refine W.widen (k := 3) (n := 70) (Nat.le_of_ble_eq_true rfl) (Nat.le_of_ble_eq_true rfl) ?_
  refine va_putF (D := E.1) (ci := 5) (v := .ref a3) (ty := (.array .int)) (C := RX5) (T := TX5) (N := 7) hx hb htg hwX5 tyX5 tyX5_ok nmX5 hown hK hP hD hS 0 rfl rfl 3 (by decide) (htg _ fl5_20) (fun _ h9 => h9) rfl hin rfl (by decide +kernel) rfl rfl (Nat.le_of_ble_eq_true rfl) dX5_init_23 (fun H locs hP hD hS => ?_)
  replace hP : va_P E.1 vwCl [(a0, .inr (5, [.ref a1, .ref a2, .int 0, .ref a3, .null, .null, .int 0])), (a1, ai E 5 (fun _ => 0)), (a2, ai E 5 (fun _ => 0)), (a3, ai E 60 (fun _ => 0))] H := hP
  replace hD : va_D A [(a0, .inr (5, [.ref a1, .ref a2, .int 0, .ref a3, .null, .null, .int 0])), (a1, ai E 5 (fun _ => 0)), (a2, ai E 5 (fun _ => 0)), (a3, ai E 60 (fun _ => 0))] := hD
  refine lv_aload_n hx hb dX5_init_26 rfl (lv_at hl 0 rfl) ?_
  refine va_new (ci := 7) (fs := [.null]) (C := RX7) (T := TX7) (N := 1) hx hb htg hwX7 tyX7 tyX7_ok hown (htg _ clX5_23) (htg _ is_X7) (htg _ inX7) hK hP hD hS hA rfl (fun j hj => by rcases (show j = 0 by omega) with rfl <;> rfl) (Nat.le_of_ble_eq_true rfl) (Nat.le_of_ble_eq_true rfl) dX5_init_27 (fun a4 H hP hD hS => ?_)
  replace hP : va_P E.1 vwCl [(a0, .inr (5, [.ref a1, .ref a2, .int 0, .ref a3, .null, .null, .int 0])), (a1, ai E 5 (fun _ => 0)), (a2, ai E 5 (fun _ => 0)), (a3, ai E 60 (fun _ => 0)), (a4, .inr (7, [.null]))] H := hP
  replace hD : va_D A [(a0, .inr (5, [.ref a1, .ref a2, .int 0, .ref a3, .null, .null, .int 0])), (a1, ai E 5 (fun _ => 0)), (a2, ai E 5 (fun _ => 0)), (a3, ai E 60 (fun _ => 0)), (a4, .inr (7, [.null]))] := hD
  refine W.widen (k := 4) (n := 71) (Nat.le_of_ble_eq_true rfl) (Nat.le_of_ble_eq_true rfl) ?_
  refine lv_dup hx hb dX5_init_30 rfl ?_
  refine xnewv (y := yX7_init) (bytes := cX7_init) (maxL := 1) (index := 25) (rm := ({ frames := 1, cells := 1, slots := 144, locals := 12 })) (k := 4) (isR := [0, 1, 2, 3]) (wr := [(a0, .inr (5, [.ref a1, .ref a2, .int 0, .ref a3, .null, .null, .int 0])), (a1, ai E 5 (fun _ => 0)), (a2, ai E 5 (fun _ => 0)), (a3, ai E 60 (fun _ => 0))]) (xrunIN hx hb hml hown htg (i_X7_init l E a4  _) 7 rfl imX7_init inX7 cwX7_init rfl ⟨by decide +kernel, by decide +kernel, by decide +kernel⟩ ⟨⟨rfl, rfl⟩, (Nat.le_of_ble_eq_true rfl), (Nat.le_of_ble_eq_true rfl)⟩ ⟨(Nat.le_of_ble_eq_true rfl), (Nat.le_of_ble_eq_true rfl)⟩ hK hG hA hP hD hS (k := 4) rfl hl.1 rfl (Nat.le_of_ble_eq_true rfl) dX5_init_31) hP hD hS hA rfl rfl rfl (by decide) (fun q31 H locs hP hD hS => ?_)
  obtain ⟨a5, e5⟩ : ∃ z, z = q31 0 := ⟨_, rfl⟩
  replace hP : va_P E.1 vwCl [(a0, .inr (5, [.ref a1, .ref a2, .int 0, .ref a3, .null, .null, .int 0])), (a1, ai E 5 (fun _ => 0)), (a2, ai E 5 (fun _ => 0)), (a3, ai E 60 (fun _ => 0)), (a4, o7 (q31 0)), ((q31 0), ai E 144 (fun _ => 0))] H := hP
  replace hD : va_D A [(a0, .inr (5, [.ref a1, .ref a2, .int 0, .ref a3, .null, .null, .int 0])), (a1, ai E 5 (fun _ => 0)), (a2, ai E 5 (fun _ => 0)), (a3, ai E 60 (fun _ => 0)), (a4, o7 (q31 0)), ((q31 0), ai E 144 (fun _ => 0))] := hD
  rw [← e5] at hP hD
  refine W.widen (k := 5) (n := 215) (Nat.le_of_ble_eq_true rfl) (Nat.le_of_ble_eq_true rfl) ?_
  refine va_putF (D := E.1) (ci := 5) (v := .ref a4) (ty := (.object "SighChart$Survey")) (C := RX5) (T := TX5) (N := 7) hx hb htg hwX5 tyX5 tyX5_ok nmX5 hown hK hP hD hS 0 rfl rfl 4 (by decide) (htg _ fl5_26) (fun _ h9 => h9) rfl hin rfl (by decide +kernel) rfl rfl (Nat.le_of_ble_eq_true rfl) dX5_init_34 (fun H locs hP hD hS => ?_)
  replace hP : va_P E.1 vwCl [(a0, .inr (5, [.ref a1, .ref a2, .int 0, .ref a3, .ref a4, .null, .int 0])), (a1, ai E 5 (fun _ => 0)), (a2, ai E 5 (fun _ => 0)), (a3, ai E 60 (fun _ => 0)), (a4, o7 a5), (a5, ai E 144 (fun _ => 0))] H := hP
  replace hD : va_D A [(a0, .inr (5, [.ref a1, .ref a2, .int 0, .ref a3, .ref a4, .null, .int 0])), (a1, ai E 5 (fun _ => 0)), (a2, ai E 5 (fun _ => 0)), (a3, ai E 60 (fun _ => 0)), (a4, o7 a5), (a5, ai E 144 (fun _ => 0))] := hD
  refine lv_aload_n hx hb dX5_init_37 rfl (lv_at hl 0 rfl) ?_
  refine va_new (ci := 6) (fs := [.null, .null, .null, .int 0, .int 0, .int 0]) (C := RX6) (T := TX6) (N := 6) hx hb htg hwX6 tyX6 tyX6_ok hown (htg _ clX5_30) (htg _ is_X6) (htg _ inX6) hK hP hD hS hA rfl (fun j hj => by rcases (show j = 0 ∨ j = 1 ∨ j = 2 ∨ j = 3 ∨ j = 4 ∨ j = 5 by omega) with rfl | rfl | rfl | rfl | rfl | rfl <;> rfl) (Nat.le_of_ble_eq_true rfl) (Nat.le_of_ble_eq_true rfl) dX5_init_38 (fun a6 H hP hD hS => ?_)
  replace hP : va_P E.1 vwCl [(a0, .inr (5, [.ref a1, .ref a2, .int 0, .ref a3, .ref a4, .null, .int 0])), (a1, ai E 5 (fun _ => 0)), (a2, ai E 5 (fun _ => 0)), (a3, ai E 60 (fun _ => 0)), (a4, o7 a5), (a5, ai E 144 (fun _ => 0)), (a6, .inr (6, [.null, .null, .null, .int 0, .int 0, .int 0]))] H := hP
  replace hD : va_D A [(a0, .inr (5, [.ref a1, .ref a2, .int 0, .ref a3, .ref a4, .null, .int 0])), (a1, ai E 5 (fun _ => 0)), (a2, ai E 5 (fun _ => 0)), (a3, ai E 60 (fun _ => 0)), (a4, o7 a5), (a5, ai E 144 (fun _ => 0)), (a6, .inr (6, [.null, .null, .null, .int 0, .int 0, .int 0]))] := hD
  refine W.widen (k := 6) (n := 221) (Nat.le_of_ble_eq_true rfl) (Nat.le_of_ble_eq_true rfl) ?_
  refine lv_dup hx hb dX5_init_41 rfl ?_
  refine xnewv (y := yX6_init) (bytes := cX6_init) (maxL := 1) (index := 32) (rm := ({ frames := 1, cells := 3, slots := 109, locals := 12 })) (k := 6) (isR := [0, 1, 2, 3, 4, 5]) (wr := [(a0, .inr (5, [.ref a1, .ref a2, .int 0, .ref a3, .ref a4, .null, .int 0])), (a1, ai E 5 (fun _ => 0)), (a2, ai E 5 (fun _ => 0)), (a3, ai E 60 (fun _ => 0)), (a4, o7 a5), (a5, ai E 144 (fun _ => 0))]) (xrunIN hx hb hml hown htg (i_X6_init l E a6  _) 8 rfl imX6_init inX6 cwX6_init rfl ⟨by decide +kernel, by decide +kernel, by decide +kernel⟩ ⟨⟨rfl, rfl⟩, (Nat.le_of_ble_eq_true rfl), (Nat.le_of_ble_eq_true rfl)⟩ ⟨(Nat.le_of_ble_eq_true rfl), (Nat.le_of_ble_eq_true rfl)⟩ hK hG hA hP hD hS (k := 6) rfl hl.1 rfl (Nat.le_of_ble_eq_true rfl) dX5_init_42) hP hD hS hA rfl rfl rfl (by decide) (fun q42 H locs hP hD hS => ?_)
  obtain ⟨a7, e7⟩ : ∃ z, z = q42 0 := ⟨_, rfl⟩
  obtain ⟨a8, e8⟩ : ∃ z, z = q42 1 := ⟨_, rfl⟩
  obtain ⟨a9, e9⟩ : ∃ z, z = q42 2 := ⟨_, rfl⟩
  replace hP : va_P E.1 vwCl [(a0, .inr (5, [.ref a1, .ref a2, .int 0, .ref a3, .ref a4, .null, .int 0])), (a1, ai E 5 (fun _ => 0)), (a2, ai E 5 (fun _ => 0)), (a3, ai E 60 (fun _ => 0)), (a4, o7 a5), (a5, ai E 144 (fun _ => 0)), (a6, o6 (fun _ => 0) (q42 0) (q42 1) (q42 2)), ((q42 0), ai E 36 (fun _ => 0)), ((q42 1), ai E 36 (fun _ => 0)), ((q42 2), ai E 37 (fun _ => 0))] H := hP
  replace hD : va_D A [(a0, .inr (5, [.ref a1, .ref a2, .int 0, .ref a3, .ref a4, .null, .int 0])), (a1, ai E 5 (fun _ => 0)), (a2, ai E 5 (fun _ => 0)), (a3, ai E 60 (fun _ => 0)), (a4, o7 a5), (a5, ai E 144 (fun _ => 0)), (a6, o6 (fun _ => 0) (q42 0) (q42 1) (q42 2)), ((q42 0), ai E 36 (fun _ => 0)), ((q42 1), ai E 36 (fun _ => 0)), ((q42 2), ai E 37 (fun _ => 0))] := hD
  rw [← e7, ← e8, ← e9] at hP hD
  refine W.widen (k := 9) (n := 330) (Nat.le_of_ble_eq_true rfl) (Nat.le_of_ble_eq_true rfl) ?_
  refine va_putF (D := E.1) (ci := 5) (v := .ref a6) (ty := (.object "SighChart$Route")) (C := RX5) (T := TX5) (N := 7) hx hb htg hwX5 tyX5 tyX5_ok nmX5 hown hK hP hD hS 0 rfl rfl 5 (by decide) (htg _ fl5_33) (fun _ h9 => h9) rfl hin rfl (by decide +kernel) rfl rfl (Nat.le_of_ble_eq_true rfl) dX5_init_45 (fun H locs hP hD hS => ?_)
  replace hP : va_P E.1 vwCl [(a0, .inr (5, [.ref a1, .ref a2, .int 0, .ref a3, .ref a4, .ref a6, .int 0])), (a1, ai E 5 (fun _ => 0)), (a2, ai E 5 (fun _ => 0)), (a3, ai E 60 (fun _ => 0)), (a4, o7 a5), (a5, ai E 144 (fun _ => 0)), (a6, o6 (fun _ => 0) a7 a8 a9), (a7, ai E 36 (fun _ => 0)), (a8, ai E 36 (fun _ => 0)), (a9, ai E 37 (fun _ => 0))] H := hP
  replace hD : va_D A [(a0, .inr (5, [.ref a1, .ref a2, .int 0, .ref a3, .ref a4, .ref a6, .int 0])), (a1, ai E 5 (fun _ => 0)), (a2, ai E 5 (fun _ => 0)), (a3, ai E 60 (fun _ => 0)), (a4, o7 a5), (a5, ai E 144 (fun _ => 0)), (a6, o6 (fun _ => 0) a7 a8 a9), (a7, ai E 36 (fun _ => 0)), (a8, ai E 36 (fun _ => 0)), (a9, ai E 37 (fun _ => 0))] := hD
  exact ret (fun k => match k with | 0 => a1 | 1 => a2 | 2 => a3 | 3 => a4 | 4 => a5 | 5 => a6 | 6 => a7 | 7 => a8 | _ => a9) hP hD hS dX5_init_48
theorem dX3_init_0 : decode cX3_init 0 = .ok (.aload_n 0, 1) := by decide +kernel
theorem dX3_init_1 : decode cX3_init 1 = .ok (.invokespecial 3, 3) := by decide +kernel
theorem dX3_init_4 : decode cX3_init 4 = .ok (.aload_n 0, 1) := by decide +kernel
theorem dX3_init_5 : decode cX3_init 5 = .ok (.iconst 4, 1) := by decide +kernel
theorem dX3_init_6 : decode cX3_init 6 = .ok (.putfield 11, 3) := by decide +kernel
theorem dX3_init_9 : decode cX3_init 9 = .ok (.aload_n 0, 1) := by decide +kernel
theorem dX3_init_10 : decode cX3_init 10 = .ok (.bipush 36, 2) := by decide +kernel
theorem dX3_init_12 : decode cX3_init 12 = .ok (.newarray .int, 2) := by decide +kernel
theorem dX3_init_14 : decode cX3_init 14 = .ok (.putfield 15, 3) := by decide +kernel
theorem dX3_init_17 : decode cX3_init 17 = .ok (.aload_n 0, 1) := by decide +kernel
theorem dX3_init_18 : decode cX3_init 18 = .ok (.iconst 5, 1) := by decide +kernel
theorem dX3_init_19 : decode cX3_init 19 = .ok (.newarray .int, 2) := by decide +kernel
theorem dX3_init_21 : decode cX3_init 21 = .ok (.putfield 19, 3) := by decide +kernel
theorem dX3_init_24 : decode cX3_init 24 = .ok (.aload_n 0, 1) := by decide +kernel
theorem dX3_init_25 : decode cX3_init 25 = .ok (.iconst 5, 1) := by decide +kernel
theorem dX3_init_26 : decode cX3_init 26 = .ok (.newarray .long, 2) := by decide +kernel
theorem dX3_init_28 : decode cX3_init 28 = .ok (.putfield 22, 3) := by decide +kernel
theorem dX3_init_31 : decode cX3_init 31 = .ok (.aload_n 0, 1) := by decide +kernel
theorem dX3_init_32 : decode cX3_init 32 = .ok (.bipush 12, 2) := by decide +kernel
theorem dX3_init_34 : decode cX3_init 34 = .ok (.newarray .int, 2) := by decide +kernel
theorem dX3_init_36 : decode cX3_init 36 = .ok (.putfield 26, 3) := by decide +kernel
theorem dX3_init_39 : decode cX3_init 39 = .ok (.aload_n 0, 1) := by decide +kernel
theorem dX3_init_40 : decode cX3_init 40 = .ok (.bipush 12, 2) := by decide +kernel
theorem dX3_init_42 : decode cX3_init 42 = .ok (.newarray .int, 2) := by decide +kernel
theorem dX3_init_44 : decode cX3_init 44 = .ok (.putfield 29, 3) := by decide +kernel
theorem dX3_init_47 : decode cX3_init 47 = .ok (.aload_n 0, 1) := by decide +kernel
theorem dX3_init_48 : decode cX3_init 48 = .ok (.bipush 12, 2) := by decide +kernel
theorem dX3_init_50 : decode cX3_init 50 = .ok (.newarray .int, 2) := by decide +kernel
theorem dX3_init_52 : decode cX3_init 52 = .ok (.putfield 32, 3) := by decide +kernel
theorem dX3_init_55 : decode cX3_init 55 = .ok (.aload_n 0, 1) := by decide +kernel
theorem dX3_init_56 : decode cX3_init 56 = .ok (.bipush 12, 2) := by decide +kernel
theorem dX3_init_58 : decode cX3_init 58 = .ok (.newarray .int, 2) := by decide +kernel
theorem dX3_init_60 : decode cX3_init 60 = .ok (.putfield 35, 3) := by decide +kernel
theorem dX3_init_63 : decode cX3_init 63 = .ok (.aload_n 0, 1) := by decide +kernel
theorem dX3_init_64 : decode cX3_init 64 = .ok (.new 38, 3) := by decide +kernel
theorem dX3_init_67 : decode cX3_init 67 = .ok (.dup, 1) := by decide +kernel
theorem dX3_init_68 : decode cX3_init 68 = .ok (.invokespecial 40, 3) := by decide +kernel
theorem dX3_init_71 : decode cX3_init 71 = .ok (.putfield 41, 3) := by decide +kernel
theorem dX3_init_74 : decode cX3_init 74 = .ok (.return_, 1) := by decide +kernel
set_option maxRecDepth 100000 in
set_option maxHeartbeats 4000000 in
theorem i_X3_init (l : Launch) (E : xE) (a0 : Nat)  (sz : Nat) : Met l yX3_init (Cond.code yX3_init cX3_init 1 none :: gw) ({ frames := 2, cells := 13, slots := 402, locals := 32 }) (xPc E [.ref a0] [(a0, .inr (3, [.int 0, .int 0, .int 0, .int 0, .int 0, .int 0, .int 0, .null, .null, .null, .null, .null, .null, .null, .null]))] sz) (xQc E (fun q => [(a0, o3 (upd (fun _ => 0) 2 4) (q 0) (q 1) (q 2) (q 3) (q 4) (q 5) (q 6) (q 7)), ((q 0), ai E 36 (fun _ => 0)), ((q 1), ai E 5 (fun _ => 0)), ((q 2), al E 5 (fun _ => 0)), ((q 3), ai E 12 (fun _ => 0)), ((q 4), ai E 12 (fun _ => 0)), ((q 5), ai E 12 (fun _ => 0)), ((q 6), ai E 12 (fun _ => 0)), ((q 7), o0 (fun _ => 0) (q 8) (q 9) (q 10) (q 11) (q 12)), ((q 8), ai E 60 (fun _ => 0)), ((q 9), ai E 60 (fun _ => 0)), ((q 10), ai E 60 (fun _ => 0)), ((q 11), ai E 60 (fun _ => 0)), ((q 12), ai E 60 (fun _ => 0))]) [(a0, .inr (3, [.int 0, .int 0, .int 0, .int 0, .int 0, .int 0, .int 0, .null, .null, .null, .null, .null, .null, .null, .null]))] sz) 13 402 (va_A [(a0, .inr (3, [.int 0, .int 0, .int 0, .int 0, .int 0, .int 0, .int 0, .null, .null, .null, .null, .null, .null, .null, .null]))] sz) := by
  refine xM_c (by decide +kernel) rfl (Nat.le_of_ble_eq_true rfl) ?_
  intro p e s m args below meth c A Q hx hb hml hown htg hK hG hA hin ret H locs ls hP hD hS hl
  replace hl : lv_has ls 1 [(0, .ref a0)] := hl
  refine lv_aload_n hx hb dX3_init_0 rfl (lv_at hl 0 rfl) ?_
  refine W.objInit hx hb hown (htg _ moX3_3) (htg _ imObj) (htg _ cwObj) rfl (by rw [hml]; exact hl.1) rfl dX3_init_1 (Nat.le_of_ble_eq_true rfl) (Nat.le_of_ble_eq_true rfl) ?_
  refine W.eq (g2 := F0 m 4 ls []) rfl ?_
  refine lv_aload_n hx hb dX3_init_4 rfl (lv_at hl 0 rfl) ?_
  refine lv_iconst (v := 4) hx hb dX3_init_5 rfl ?_
  refine va_put (D := E.1) (ci := 3) (v := .int 4) (ty := .int) (C := RX3) (T := TX3) (N := 15) hx hb htg hwX3 tyX3 tyX3_ok nmX3 hown hK hP hD hS 0 rfl rfl 2 (by decide) (htg _ fl3_11) (fun _ h9 => h9) rfl (by decide +kernel) rfl rfl (Nat.le_of_ble_eq_true rfl) dX3_init_6 (fun H locs hP hD hS => ?_)
  replace hP : va_P E.1 vwCl [(a0, .inr (3, [.int 0, .int 0, .int 4, .int 0, .int 0, .int 0, .int 0, .null, .null, .null, .null, .null, .null, .null, .null]))] H := hP
  replace hD : va_D A [(a0, .inr (3, [.int 0, .int 0, .int 4, .int 0, .int 0, .int 0, .int 0, .null, .null, .null, .null, .null, .null, .null, .null]))] := hD
  refine lv_aload_n hx hb dX3_init_9 rfl (lv_at hl 0 rfl) ?_
  refine lv_bipush (v := 36) hx hb dX3_init_10 rfl ?_
  refine xnewi (N := 36) hx hb htg hK hP hD hS hA (by decide) (by decide) (Nat.le_of_ble_eq_true rfl) (Nat.le_of_ble_eq_true rfl) (Nat.le_of_ble_eq_true rfl) dX3_init_12 (fun a1 H hP hD hS => ?_)
  replace hP : va_P E.1 vwCl [(a0, .inr (3, [.int 0, .int 0, .int 4, .int 0, .int 0, .int 0, .int 0, .null, .null, .null, .null, .null, .null, .null, .null])), (a1, ai E 36 (fun _ => 0))] H := hP
  replace hD : va_D A [(a0, .inr (3, [.int 0, .int 0, .int 4, .int 0, .int 0, .int 0, .int 0, .null, .null, .null, .null, .null, .null, .null, .null])), (a1, ai E 36 (fun _ => 0))] := hD
  refine W.widen (k := 1) (n := 36) (Nat.le_of_ble_eq_true rfl) (Nat.le_of_ble_eq_true rfl) ?_
  refine va_putF (D := E.1) (ci := 3) (v := .ref a1) (ty := (.array .int)) (C := RX3) (T := TX3) (N := 15) hx hb htg hwX3 tyX3 tyX3_ok nmX3 hown hK hP hD hS 0 rfl rfl 7 (by decide) (htg _ fl3_15) (fun _ h9 => h9) rfl hin rfl (by decide +kernel) rfl rfl (Nat.le_of_ble_eq_true rfl) dX3_init_14 (fun H locs hP hD hS => ?_)
  replace hP : va_P E.1 vwCl [(a0, .inr (3, [.int 0, .int 0, .int 4, .int 0, .int 0, .int 0, .int 0, .ref a1, .null, .null, .null, .null, .null, .null, .null])), (a1, ai E 36 (fun _ => 0))] H := hP
  replace hD : va_D A [(a0, .inr (3, [.int 0, .int 0, .int 4, .int 0, .int 0, .int 0, .int 0, .ref a1, .null, .null, .null, .null, .null, .null, .null])), (a1, ai E 36 (fun _ => 0))] := hD
  refine lv_aload_n hx hb dX3_init_17 rfl (lv_at hl 0 rfl) ?_
  refine lv_iconst (v := 5) hx hb dX3_init_18 rfl ?_
  refine xnewi (N := 5) hx hb htg hK hP hD hS hA (by decide) (by decide) (Nat.le_of_ble_eq_true rfl) (Nat.le_of_ble_eq_true rfl) (Nat.le_of_ble_eq_true rfl) dX3_init_19 (fun a2 H hP hD hS => ?_)
  replace hP : va_P E.1 vwCl [(a0, .inr (3, [.int 0, .int 0, .int 4, .int 0, .int 0, .int 0, .int 0, .ref a1, .null, .null, .null, .null, .null, .null, .null])), (a1, ai E 36 (fun _ => 0)), (a2, ai E 5 (fun _ => 0))] H := hP
  replace hD : va_D A [(a0, .inr (3, [.int 0, .int 0, .int 4, .int 0, .int 0, .int 0, .int 0, .ref a1, .null, .null, .null, .null, .null, .null, .null])), (a1, ai E 36 (fun _ => 0)), (a2, ai E 5 (fun _ => 0))] := hD
  refine W.widen (k := 2) (n := 41) (Nat.le_of_ble_eq_true rfl) (Nat.le_of_ble_eq_true rfl) ?_
  refine va_putF (D := E.1) (ci := 3) (v := .ref a2) (ty := (.array .int)) (C := RX3) (T := TX3) (N := 15) hx hb htg hwX3 tyX3 tyX3_ok nmX3 hown hK hP hD hS 0 rfl rfl 8 (by decide) (htg _ fl3_19) (fun _ h9 => h9) rfl hin rfl (by decide +kernel) rfl rfl (Nat.le_of_ble_eq_true rfl) dX3_init_21 (fun H locs hP hD hS => ?_)
  replace hP : va_P E.1 vwCl [(a0, .inr (3, [.int 0, .int 0, .int 4, .int 0, .int 0, .int 0, .int 0, .ref a1, .ref a2, .null, .null, .null, .null, .null, .null])), (a1, ai E 36 (fun _ => 0)), (a2, ai E 5 (fun _ => 0))] H := hP
  replace hD : va_D A [(a0, .inr (3, [.int 0, .int 0, .int 4, .int 0, .int 0, .int 0, .int 0, .ref a1, .ref a2, .null, .null, .null, .null, .null, .null])), (a1, ai E 36 (fun _ => 0)), (a2, ai E 5 (fun _ => 0))] := hD
  refine lv_aload_n hx hb dX3_init_24 rfl (lv_at hl 0 rfl) ?_
  refine lv_iconst (v := 5) hx hb dX3_init_25 rfl ?_
  refine xnewl (N := 5) hx hb htg hK hP hD hS hA (by decide) (by decide) (Nat.le_of_ble_eq_true rfl) (Nat.le_of_ble_eq_true rfl) (Nat.le_of_ble_eq_true rfl) dX3_init_26 (fun a3 H hP hD hS => ?_)
  replace hP : va_P E.1 vwCl [(a0, .inr (3, [.int 0, .int 0, .int 4, .int 0, .int 0, .int 0, .int 0, .ref a1, .ref a2, .null, .null, .null, .null, .null, .null])), (a1, ai E 36 (fun _ => 0)), (a2, ai E 5 (fun _ => 0)), (a3, al E 5 (fun _ => 0))] H := hP
  replace hD : va_D A [(a0, .inr (3, [.int 0, .int 0, .int 4, .int 0, .int 0, .int 0, .int 0, .ref a1, .ref a2, .null, .null, .null, .null, .null, .null])), (a1, ai E 36 (fun _ => 0)), (a2, ai E 5 (fun _ => 0)), (a3, al E 5 (fun _ => 0))] := hD
  refine W.widen (k := 3) (n := 46) (Nat.le_of_ble_eq_true rfl) (Nat.le_of_ble_eq_true rfl) ?_
  refine va_putF (D := E.1) (ci := 3) (v := .ref a3) (ty := (.array .long)) (C := RX3) (T := TX3) (N := 15) hx hb htg hwX3 tyX3 tyX3_ok nmX3 hown hK hP hD hS 0 rfl rfl 9 (by decide) (htg _ fl3_22) (fun _ h9 => h9) rfl hin rfl (by decide +kernel) rfl rfl (Nat.le_of_ble_eq_true rfl) dX3_init_28 (fun H locs hP hD hS => ?_)
  replace hP : va_P E.1 vwCl [(a0, .inr (3, [.int 0, .int 0, .int 4, .int 0, .int 0, .int 0, .int 0, .ref a1, .ref a2, .ref a3, .null, .null, .null, .null, .null])), (a1, ai E 36 (fun _ => 0)), (a2, ai E 5 (fun _ => 0)), (a3, al E 5 (fun _ => 0))] H := hP
  replace hD : va_D A [(a0, .inr (3, [.int 0, .int 0, .int 4, .int 0, .int 0, .int 0, .int 0, .ref a1, .ref a2, .ref a3, .null, .null, .null, .null, .null])), (a1, ai E 36 (fun _ => 0)), (a2, ai E 5 (fun _ => 0)), (a3, al E 5 (fun _ => 0))] := hD
  refine lv_aload_n hx hb dX3_init_31 rfl (lv_at hl 0 rfl) ?_
  refine lv_bipush (v := 12) hx hb dX3_init_32 rfl ?_
  refine xnewi (N := 12) hx hb htg hK hP hD hS hA (by decide) (by decide) (Nat.le_of_ble_eq_true rfl) (Nat.le_of_ble_eq_true rfl) (Nat.le_of_ble_eq_true rfl) dX3_init_34 (fun a4 H hP hD hS => ?_)
  replace hP : va_P E.1 vwCl [(a0, .inr (3, [.int 0, .int 0, .int 4, .int 0, .int 0, .int 0, .int 0, .ref a1, .ref a2, .ref a3, .null, .null, .null, .null, .null])), (a1, ai E 36 (fun _ => 0)), (a2, ai E 5 (fun _ => 0)), (a3, al E 5 (fun _ => 0)), (a4, ai E 12 (fun _ => 0))] H := hP
  replace hD : va_D A [(a0, .inr (3, [.int 0, .int 0, .int 4, .int 0, .int 0, .int 0, .int 0, .ref a1, .ref a2, .ref a3, .null, .null, .null, .null, .null])), (a1, ai E 36 (fun _ => 0)), (a2, ai E 5 (fun _ => 0)), (a3, al E 5 (fun _ => 0)), (a4, ai E 12 (fun _ => 0))] := hD
  refine W.widen (k := 4) (n := 58) (Nat.le_of_ble_eq_true rfl) (Nat.le_of_ble_eq_true rfl) ?_
  refine va_putF (D := E.1) (ci := 3) (v := .ref a4) (ty := (.array .int)) (C := RX3) (T := TX3) (N := 15) hx hb htg hwX3 tyX3 tyX3_ok nmX3 hown hK hP hD hS 0 rfl rfl 10 (by decide) (htg _ fl3_26) (fun _ h9 => h9) rfl hin rfl (by decide +kernel) rfl rfl (Nat.le_of_ble_eq_true rfl) dX3_init_36 (fun H locs hP hD hS => ?_)
  replace hP : va_P E.1 vwCl [(a0, .inr (3, [.int 0, .int 0, .int 4, .int 0, .int 0, .int 0, .int 0, .ref a1, .ref a2, .ref a3, .ref a4, .null, .null, .null, .null])), (a1, ai E 36 (fun _ => 0)), (a2, ai E 5 (fun _ => 0)), (a3, al E 5 (fun _ => 0)), (a4, ai E 12 (fun _ => 0))] H := hP
  replace hD : va_D A [(a0, .inr (3, [.int 0, .int 0, .int 4, .int 0, .int 0, .int 0, .int 0, .ref a1, .ref a2, .ref a3, .ref a4, .null, .null, .null, .null])), (a1, ai E 36 (fun _ => 0)), (a2, ai E 5 (fun _ => 0)), (a3, al E 5 (fun _ => 0)), (a4, ai E 12 (fun _ => 0))] := hD
  refine lv_aload_n hx hb dX3_init_39 rfl (lv_at hl 0 rfl) ?_
  refine lv_bipush (v := 12) hx hb dX3_init_40 rfl ?_
  refine xnewi (N := 12) hx hb htg hK hP hD hS hA (by decide) (by decide) (Nat.le_of_ble_eq_true rfl) (Nat.le_of_ble_eq_true rfl) (Nat.le_of_ble_eq_true rfl) dX3_init_42 (fun a5 H hP hD hS => ?_)
  replace hP : va_P E.1 vwCl [(a0, .inr (3, [.int 0, .int 0, .int 4, .int 0, .int 0, .int 0, .int 0, .ref a1, .ref a2, .ref a3, .ref a4, .null, .null, .null, .null])), (a1, ai E 36 (fun _ => 0)), (a2, ai E 5 (fun _ => 0)), (a3, al E 5 (fun _ => 0)), (a4, ai E 12 (fun _ => 0)), (a5, ai E 12 (fun _ => 0))] H := hP
  replace hD : va_D A [(a0, .inr (3, [.int 0, .int 0, .int 4, .int 0, .int 0, .int 0, .int 0, .ref a1, .ref a2, .ref a3, .ref a4, .null, .null, .null, .null])), (a1, ai E 36 (fun _ => 0)), (a2, ai E 5 (fun _ => 0)), (a3, al E 5 (fun _ => 0)), (a4, ai E 12 (fun _ => 0)), (a5, ai E 12 (fun _ => 0))] := hD
  refine W.widen (k := 5) (n := 70) (Nat.le_of_ble_eq_true rfl) (Nat.le_of_ble_eq_true rfl) ?_
  refine va_putF (D := E.1) (ci := 3) (v := .ref a5) (ty := (.array .int)) (C := RX3) (T := TX3) (N := 15) hx hb htg hwX3 tyX3 tyX3_ok nmX3 hown hK hP hD hS 0 rfl rfl 11 (by decide) (htg _ fl3_29) (fun _ h9 => h9) rfl hin rfl (by decide +kernel) rfl rfl (Nat.le_of_ble_eq_true rfl) dX3_init_44 (fun H locs hP hD hS => ?_)
  replace hP : va_P E.1 vwCl [(a0, .inr (3, [.int 0, .int 0, .int 4, .int 0, .int 0, .int 0, .int 0, .ref a1, .ref a2, .ref a3, .ref a4, .ref a5, .null, .null, .null])), (a1, ai E 36 (fun _ => 0)), (a2, ai E 5 (fun _ => 0)), (a3, al E 5 (fun _ => 0)), (a4, ai E 12 (fun _ => 0)), (a5, ai E 12 (fun _ => 0))] H := hP
  replace hD : va_D A [(a0, .inr (3, [.int 0, .int 0, .int 4, .int 0, .int 0, .int 0, .int 0, .ref a1, .ref a2, .ref a3, .ref a4, .ref a5, .null, .null, .null])), (a1, ai E 36 (fun _ => 0)), (a2, ai E 5 (fun _ => 0)), (a3, al E 5 (fun _ => 0)), (a4, ai E 12 (fun _ => 0)), (a5, ai E 12 (fun _ => 0))] := hD
  refine lv_aload_n hx hb dX3_init_47 rfl (lv_at hl 0 rfl) ?_
  refine lv_bipush (v := 12) hx hb dX3_init_48 rfl ?_
  refine xnewi (N := 12) hx hb htg hK hP hD hS hA (by decide) (by decide) (Nat.le_of_ble_eq_true rfl) (Nat.le_of_ble_eq_true rfl) (Nat.le_of_ble_eq_true rfl) dX3_init_50 (fun a6 H hP hD hS => ?_)
  replace hP : va_P E.1 vwCl [(a0, .inr (3, [.int 0, .int 0, .int 4, .int 0, .int 0, .int 0, .int 0, .ref a1, .ref a2, .ref a3, .ref a4, .ref a5, .null, .null, .null])), (a1, ai E 36 (fun _ => 0)), (a2, ai E 5 (fun _ => 0)), (a3, al E 5 (fun _ => 0)), (a4, ai E 12 (fun _ => 0)), (a5, ai E 12 (fun _ => 0)), (a6, ai E 12 (fun _ => 0))] H := hP
  replace hD : va_D A [(a0, .inr (3, [.int 0, .int 0, .int 4, .int 0, .int 0, .int 0, .int 0, .ref a1, .ref a2, .ref a3, .ref a4, .ref a5, .null, .null, .null])), (a1, ai E 36 (fun _ => 0)), (a2, ai E 5 (fun _ => 0)), (a3, al E 5 (fun _ => 0)), (a4, ai E 12 (fun _ => 0)), (a5, ai E 12 (fun _ => 0)), (a6, ai E 12 (fun _ => 0))] := hD
  refine W.widen (k := 6) (n := 82) (Nat.le_of_ble_eq_true rfl) (Nat.le_of_ble_eq_true rfl) ?_
  refine va_putF (D := E.1) (ci := 3) (v := .ref a6) (ty := (.array .int)) (C := RX3) (T := TX3) (N := 15) hx hb htg hwX3 tyX3 tyX3_ok nmX3 hown hK hP hD hS 0 rfl rfl 12 (by decide) (htg _ fl3_32) (fun _ h9 => h9) rfl hin rfl (by decide +kernel) rfl rfl (Nat.le_of_ble_eq_true rfl) dX3_init_52 (fun H locs hP hD hS => ?_)
  replace hP : va_P E.1 vwCl [(a0, .inr (3, [.int 0, .int 0, .int 4, .int 0, .int 0, .int 0, .int 0, .ref a1, .ref a2, .ref a3, .ref a4, .ref a5, .ref a6, .null, .null])), (a1, ai E 36 (fun _ => 0)), (a2, ai E 5 (fun _ => 0)), (a3, al E 5 (fun _ => 0)), (a4, ai E 12 (fun _ => 0)), (a5, ai E 12 (fun _ => 0)), (a6, ai E 12 (fun _ => 0))] H := hP
  replace hD : va_D A [(a0, .inr (3, [.int 0, .int 0, .int 4, .int 0, .int 0, .int 0, .int 0, .ref a1, .ref a2, .ref a3, .ref a4, .ref a5, .ref a6, .null, .null])), (a1, ai E 36 (fun _ => 0)), (a2, ai E 5 (fun _ => 0)), (a3, al E 5 (fun _ => 0)), (a4, ai E 12 (fun _ => 0)), (a5, ai E 12 (fun _ => 0)), (a6, ai E 12 (fun _ => 0))] := hD
  refine lv_aload_n hx hb dX3_init_55 rfl (lv_at hl 0 rfl) ?_
  refine lv_bipush (v := 12) hx hb dX3_init_56 rfl ?_
  refine xnewi (N := 12) hx hb htg hK hP hD hS hA (by decide) (by decide) (Nat.le_of_ble_eq_true rfl) (Nat.le_of_ble_eq_true rfl) (Nat.le_of_ble_eq_true rfl) dX3_init_58 (fun a7 H hP hD hS => ?_)
  replace hP : va_P E.1 vwCl [(a0, .inr (3, [.int 0, .int 0, .int 4, .int 0, .int 0, .int 0, .int 0, .ref a1, .ref a2, .ref a3, .ref a4, .ref a5, .ref a6, .null, .null])), (a1, ai E 36 (fun _ => 0)), (a2, ai E 5 (fun _ => 0)), (a3, al E 5 (fun _ => 0)), (a4, ai E 12 (fun _ => 0)), (a5, ai E 12 (fun _ => 0)), (a6, ai E 12 (fun _ => 0)), (a7, ai E 12 (fun _ => 0))] H := hP
  replace hD : va_D A [(a0, .inr (3, [.int 0, .int 0, .int 4, .int 0, .int 0, .int 0, .int 0, .ref a1, .ref a2, .ref a3, .ref a4, .ref a5, .ref a6, .null, .null])), (a1, ai E 36 (fun _ => 0)), (a2, ai E 5 (fun _ => 0)), (a3, al E 5 (fun _ => 0)), (a4, ai E 12 (fun _ => 0)), (a5, ai E 12 (fun _ => 0)), (a6, ai E 12 (fun _ => 0)), (a7, ai E 12 (fun _ => 0))] := hD
  refine W.widen (k := 7) (n := 94) (Nat.le_of_ble_eq_true rfl) (Nat.le_of_ble_eq_true rfl) ?_
  refine va_putF (D := E.1) (ci := 3) (v := .ref a7) (ty := (.array .int)) (C := RX3) (T := TX3) (N := 15) hx hb htg hwX3 tyX3 tyX3_ok nmX3 hown hK hP hD hS 0 rfl rfl 13 (by decide) (htg _ fl3_35) (fun _ h9 => h9) rfl hin rfl (by decide +kernel) rfl rfl (Nat.le_of_ble_eq_true rfl) dX3_init_60 (fun H locs hP hD hS => ?_)
  replace hP : va_P E.1 vwCl [(a0, .inr (3, [.int 0, .int 0, .int 4, .int 0, .int 0, .int 0, .int 0, .ref a1, .ref a2, .ref a3, .ref a4, .ref a5, .ref a6, .ref a7, .null])), (a1, ai E 36 (fun _ => 0)), (a2, ai E 5 (fun _ => 0)), (a3, al E 5 (fun _ => 0)), (a4, ai E 12 (fun _ => 0)), (a5, ai E 12 (fun _ => 0)), (a6, ai E 12 (fun _ => 0)), (a7, ai E 12 (fun _ => 0))] H := hP
  replace hD : va_D A [(a0, .inr (3, [.int 0, .int 0, .int 4, .int 0, .int 0, .int 0, .int 0, .ref a1, .ref a2, .ref a3, .ref a4, .ref a5, .ref a6, .ref a7, .null])), (a1, ai E 36 (fun _ => 0)), (a2, ai E 5 (fun _ => 0)), (a3, al E 5 (fun _ => 0)), (a4, ai E 12 (fun _ => 0)), (a5, ai E 12 (fun _ => 0)), (a6, ai E 12 (fun _ => 0)), (a7, ai E 12 (fun _ => 0))] := hD
  refine lv_aload_n hx hb dX3_init_63 rfl (lv_at hl 0 rfl) ?_
  refine va_new (ci := 0) (fs := [.int 0, .int 0, .int 0, .null, .null, .null, .null, .null]) (C := RX0) (T := TX0) (N := 8) hx hb htg hwX0 tyX0 tyX0_ok hown (htg _ clX3_38) (htg _ is_X0) (htg _ inX0) hK hP hD hS hA rfl (fun j hj => by rcases (show j = 0 ∨ j = 1 ∨ j = 2 ∨ j = 3 ∨ j = 4 ∨ j = 5 ∨ j = 6 ∨ j = 7 by omega) with rfl | rfl | rfl | rfl | rfl | rfl | rfl | rfl <;> rfl) (Nat.le_of_ble_eq_true rfl) (Nat.le_of_ble_eq_true rfl) dX3_init_64 (fun a8 H hP hD hS => ?_)
  replace hP : va_P E.1 vwCl [(a0, .inr (3, [.int 0, .int 0, .int 4, .int 0, .int 0, .int 0, .int 0, .ref a1, .ref a2, .ref a3, .ref a4, .ref a5, .ref a6, .ref a7, .null])), (a1, ai E 36 (fun _ => 0)), (a2, ai E 5 (fun _ => 0)), (a3, al E 5 (fun _ => 0)), (a4, ai E 12 (fun _ => 0)), (a5, ai E 12 (fun _ => 0)), (a6, ai E 12 (fun _ => 0)), (a7, ai E 12 (fun _ => 0)), (a8, .inr (0, [.int 0, .int 0, .int 0, .null, .null, .null, .null, .null]))] H := hP
  replace hD : va_D A [(a0, .inr (3, [.int 0, .int 0, .int 4, .int 0, .int 0, .int 0, .int 0, .ref a1, .ref a2, .ref a3, .ref a4, .ref a5, .ref a6, .ref a7, .null])), (a1, ai E 36 (fun _ => 0)), (a2, ai E 5 (fun _ => 0)), (a3, al E 5 (fun _ => 0)), (a4, ai E 12 (fun _ => 0)), (a5, ai E 12 (fun _ => 0)), (a6, ai E 12 (fun _ => 0)), (a7, ai E 12 (fun _ => 0)), (a8, .inr (0, [.int 0, .int 0, .int 0, .null, .null, .null, .null, .null]))] := hD
  refine W.widen (k := 8) (n := 102) (Nat.le_of_ble_eq_true rfl) (Nat.le_of_ble_eq_true rfl) ?_
  refine lv_dup hx hb dX3_init_67 rfl ?_
  refine xnewv (y := yX0_init) (bytes := cX0_init) (maxL := 1) (index := 40) (rm := ({ frames := 1, cells := 5, slots := 300, locals := 12 })) (k := 8) (isR := [0, 1, 2, 3, 4, 5, 6, 7]) (wr := [(a0, .inr (3, [.int 0, .int 0, .int 4, .int 0, .int 0, .int 0, .int 0, .ref a1, .ref a2, .ref a3, .ref a4, .ref a5, .ref a6, .ref a7, .null])), (a1, ai E 36 (fun _ => 0)), (a2, ai E 5 (fun _ => 0)), (a3, al E 5 (fun _ => 0)), (a4, ai E 12 (fun _ => 0)), (a5, ai E 12 (fun _ => 0)), (a6, ai E 12 (fun _ => 0)), (a7, ai E 12 (fun _ => 0))]) (xrunIN hx hb hml hown htg (i_X0_init l E a8  _) 10 rfl imX0_init inX0 cwX0_init rfl ⟨by decide +kernel, by decide +kernel, by decide +kernel⟩ ⟨⟨rfl, rfl⟩, (Nat.le_of_ble_eq_true rfl), (Nat.le_of_ble_eq_true rfl)⟩ ⟨(Nat.le_of_ble_eq_true rfl), (Nat.le_of_ble_eq_true rfl)⟩ hK hG hA hP hD hS (k := 8) rfl hl.1 rfl (Nat.le_of_ble_eq_true rfl) dX3_init_68) hP hD hS hA rfl rfl rfl (by decide) (fun q68 H locs hP hD hS => ?_)
  obtain ⟨a9, e9⟩ : ∃ z, z = q68 0 := ⟨_, rfl⟩
  obtain ⟨a10, e10⟩ : ∃ z, z = q68 1 := ⟨_, rfl⟩
  obtain ⟨a11, e11⟩ : ∃ z, z = q68 2 := ⟨_, rfl⟩
  obtain ⟨a12, e12⟩ : ∃ z, z = q68 3 := ⟨_, rfl⟩
  obtain ⟨a13, e13⟩ : ∃ z, z = q68 4 := ⟨_, rfl⟩
  replace hP : va_P E.1 vwCl [(a0, .inr (3, [.int 0, .int 0, .int 4, .int 0, .int 0, .int 0, .int 0, .ref a1, .ref a2, .ref a3, .ref a4, .ref a5, .ref a6, .ref a7, .null])), (a1, ai E 36 (fun _ => 0)), (a2, ai E 5 (fun _ => 0)), (a3, al E 5 (fun _ => 0)), (a4, ai E 12 (fun _ => 0)), (a5, ai E 12 (fun _ => 0)), (a6, ai E 12 (fun _ => 0)), (a7, ai E 12 (fun _ => 0)), (a8, o0 (fun _ => 0) (q68 0) (q68 1) (q68 2) (q68 3) (q68 4)), ((q68 0), ai E 60 (fun _ => 0)), ((q68 1), ai E 60 (fun _ => 0)), ((q68 2), ai E 60 (fun _ => 0)), ((q68 3), ai E 60 (fun _ => 0)), ((q68 4), ai E 60 (fun _ => 0))] H := hP
  replace hD : va_D A [(a0, .inr (3, [.int 0, .int 0, .int 4, .int 0, .int 0, .int 0, .int 0, .ref a1, .ref a2, .ref a3, .ref a4, .ref a5, .ref a6, .ref a7, .null])), (a1, ai E 36 (fun _ => 0)), (a2, ai E 5 (fun _ => 0)), (a3, al E 5 (fun _ => 0)), (a4, ai E 12 (fun _ => 0)), (a5, ai E 12 (fun _ => 0)), (a6, ai E 12 (fun _ => 0)), (a7, ai E 12 (fun _ => 0)), (a8, o0 (fun _ => 0) (q68 0) (q68 1) (q68 2) (q68 3) (q68 4)), ((q68 0), ai E 60 (fun _ => 0)), ((q68 1), ai E 60 (fun _ => 0)), ((q68 2), ai E 60 (fun _ => 0)), ((q68 3), ai E 60 (fun _ => 0)), ((q68 4), ai E 60 (fun _ => 0))] := hD
  rw [← e9, ← e10, ← e11, ← e12, ← e13] at hP hD
  refine W.widen (k := 13) (n := 402) (Nat.le_of_ble_eq_true rfl) (Nat.le_of_ble_eq_true rfl) ?_
  refine va_put (D := E.1) (ci := 3) (v := .ref a8) (ty := (.object "SighChart$Almanac")) (C := RX3) (T := TX3) (N := 15) hx hb htg hwX3 tyX3 tyX3_ok nmX3 hown hK hP hD hS 0 rfl rfl 14 (by decide) (htg _ fl3_41) (fun _ h9 => h9) rfl (by decide +kernel) rfl rfl (Nat.le_of_ble_eq_true rfl) dX3_init_71 (fun H locs hP hD hS => ?_)
  replace hP : va_P E.1 vwCl [(a0, .inr (3, [.int 0, .int 0, .int 4, .int 0, .int 0, .int 0, .int 0, .ref a1, .ref a2, .ref a3, .ref a4, .ref a5, .ref a6, .ref a7, .ref a8])), (a1, ai E 36 (fun _ => 0)), (a2, ai E 5 (fun _ => 0)), (a3, al E 5 (fun _ => 0)), (a4, ai E 12 (fun _ => 0)), (a5, ai E 12 (fun _ => 0)), (a6, ai E 12 (fun _ => 0)), (a7, ai E 12 (fun _ => 0)), (a8, o0 (fun _ => 0) a9 a10 a11 a12 a13), (a9, ai E 60 (fun _ => 0)), (a10, ai E 60 (fun _ => 0)), (a11, ai E 60 (fun _ => 0)), (a12, ai E 60 (fun _ => 0)), (a13, ai E 60 (fun _ => 0))] H := hP
  replace hD : va_D A [(a0, .inr (3, [.int 0, .int 0, .int 4, .int 0, .int 0, .int 0, .int 0, .ref a1, .ref a2, .ref a3, .ref a4, .ref a5, .ref a6, .ref a7, .ref a8])), (a1, ai E 36 (fun _ => 0)), (a2, ai E 5 (fun _ => 0)), (a3, al E 5 (fun _ => 0)), (a4, ai E 12 (fun _ => 0)), (a5, ai E 12 (fun _ => 0)), (a6, ai E 12 (fun _ => 0)), (a7, ai E 12 (fun _ => 0)), (a8, o0 (fun _ => 0) a9 a10 a11 a12 a13), (a9, ai E 60 (fun _ => 0)), (a10, ai E 60 (fun _ => 0)), (a11, ai E 60 (fun _ => 0)), (a12, ai E 60 (fun _ => 0)), (a13, ai E 60 (fun _ => 0))] := hD
  exact ret (fun k => match k with | 0 => a1 | 1 => a2 | 2 => a3 | 3 => a4 | 4 => a5 | 5 => a6 | 6 => a7 | 7 => a8 | 8 => a9 | 9 => a10 | 10 => a11 | 11 => a12 | _ => a13) hP hD hS dX3_init_74
