theorem dX0_init_0 : decode cX0_init 0 = .ok (.aload_n 0, 1) := by decide +kernel
theorem dX0_init_1 : decode cX0_init 1 = .ok (.invokespecial 1, 3) := by decide +kernel
theorem dX0_init_4 : decode cX0_init 4 = .ok (.aload_n 0, 1) := by decide +kernel
theorem dX0_init_5 : decode cX0_init 5 = .ok (.bipush 60, 2) := by decide +kernel
theorem dX0_init_7 : decode cX0_init 7 = .ok (.newarray .int, 2) := by decide +kernel
theorem dX0_init_9 : decode cX0_init 9 = .ok (.putfield 9, 3) := by decide +kernel
theorem dX0_init_12 : decode cX0_init 12 = .ok (.aload_n 0, 1) := by decide +kernel
theorem dX0_init_13 : decode cX0_init 13 = .ok (.bipush 60, 2) := by decide +kernel
theorem dX0_init_15 : decode cX0_init 15 = .ok (.newarray .int, 2) := by decide +kernel
theorem dX0_init_17 : decode cX0_init 17 = .ok (.putfield 13, 3) := by decide +kernel
theorem dX0_init_20 : decode cX0_init 20 = .ok (.aload_n 0, 1) := by decide +kernel
theorem dX0_init_21 : decode cX0_init 21 = .ok (.bipush 60, 2) := by decide +kernel
theorem dX0_init_23 : decode cX0_init 23 = .ok (.newarray .int, 2) := by decide +kernel
theorem dX0_init_25 : decode cX0_init 25 = .ok (.putfield 16, 3) := by decide +kernel
theorem dX0_init_28 : decode cX0_init 28 = .ok (.aload_n 0, 1) := by decide +kernel
theorem dX0_init_29 : decode cX0_init 29 = .ok (.bipush 60, 2) := by decide +kernel
theorem dX0_init_31 : decode cX0_init 31 = .ok (.newarray .int, 2) := by decide +kernel
theorem dX0_init_33 : decode cX0_init 33 = .ok (.putfield 19, 3) := by decide +kernel
theorem dX0_init_36 : decode cX0_init 36 = .ok (.aload_n 0, 1) := by decide +kernel
theorem dX0_init_37 : decode cX0_init 37 = .ok (.bipush 60, 2) := by decide +kernel
theorem dX0_init_39 : decode cX0_init 39 = .ok (.newarray .int, 2) := by decide +kernel
theorem dX0_init_41 : decode cX0_init 41 = .ok (.putfield 22, 3) := by decide +kernel
theorem dX0_init_44 : decode cX0_init 44 = .ok (.return_, 1) := by decide +kernel
set_option maxRecDepth 100000 in
set_option maxHeartbeats 4000000 in
theorem i_X0_init (l : Launch) (E : xE) (a0 : Nat)  (sz : Nat) : Met l yX0_init (Cond.code yX0_init cX0_init 1 none :: gw) ({ frames := 1, cells := 5, slots := 300, locals := 12 }) (xPc E [.ref a0] [(a0, .inr (0, [.int 0, .int 0, .int 0, .null, .null, .null, .null, .null]))] sz) (xQc E (fun q => [(a0, o0 (fun _ => 0) (q 0) (q 1) (q 2) (q 3) (q 4)), ((q 0), ai E 60 (fun _ => 0)), ((q 1), ai E 60 (fun _ => 0)), ((q 2), ai E 60 (fun _ => 0)), ((q 3), ai E 60 (fun _ => 0)), ((q 4), ai E 60 (fun _ => 0))]) [(a0, .inr (0, [.int 0, .int 0, .int 0, .null, .null, .null, .null, .null]))] sz) 5 300 (va_A [(a0, .inr (0, [.int 0, .int 0, .int 0, .null, .null, .null, .null, .null]))] sz) := by
  refine xM_c (by decide +kernel) rfl (Nat.le_of_ble_eq_true rfl) ?_
  intro p e s m args below meth c A Q hx hb hml hown htg hK hG hA hin ret H locs ls hP hD hS hl
  replace hl : lv_has ls 1 [(0, .ref a0)] := hl
  refine lv_aload_n hx hb dX0_init_0 rfl (lv_at hl 0 rfl) ?_
  refine W.objInit hx hb hown (htg _ moX0_1) (htg _ imObj) (htg _ cwObj) rfl (by rw [hml]; exact hl.1) rfl dX0_init_1 (Nat.le_of_ble_eq_true rfl) (Nat.le_of_ble_eq_true rfl) ?_
  refine W.eq (g2 := F0 m 4 ls []) rfl ?_
  refine lv_aload_n hx hb dX0_init_4 rfl (lv_at hl 0 rfl) ?_
  refine lv_bipush (v := 60) hx hb dX0_init_5 rfl ?_
  refine xnewi (N := 60) hx hb htg hK hP hD hS hA (by decide) (by decide) (Nat.le_of_ble_eq_true rfl) (Nat.le_of_ble_eq_true rfl) (Nat.le_of_ble_eq_true rfl) dX0_init_7 (fun a1 H hP hD hS => ?_)
  replace hP : va_P E.1 vwCl [(a0, .inr (0, [.int 0, .int 0, .int 0, .null, .null, .null, .null, .null])), (a1, ai E 60 (fun _ => 0))] H := hP
  replace hD : va_D A [(a0, .inr (0, [.int 0, .int 0, .int 0, .null, .null, .null, .null, .null])), (a1, ai E 60 (fun _ => 0))] := hD
  refine W.widen (k := 1) (n := 60) (Nat.le_of_ble_eq_true rfl) (Nat.le_of_ble_eq_true rfl) ?_
  refine va_putF (D := E.1) (ci := 0) (v := .ref a1) (ty := (.array .int)) (C := RX0) (T := TX0) (N := 8) hx hb htg hwX0 tyX0 tyX0_ok nmX0 hown hK hP hD hS 0 rfl rfl 3 (by decide) (htg _ fl0_9) (fun _ h9 => h9) rfl hin rfl (by decide +kernel) rfl rfl (Nat.le_of_ble_eq_true rfl) dX0_init_9 (fun H locs hP hD hS => ?_)
  replace hP : va_P E.1 vwCl [(a0, .inr (0, [.int 0, .int 0, .int 0, .ref a1, .null, .null, .null, .null])), (a1, ai E 60 (fun _ => 0))] H := hP
  replace hD : va_D A [(a0, .inr (0, [.int 0, .int 0, .int 0, .ref a1, .null, .null, .null, .null])), (a1, ai E 60 (fun _ => 0))] := hD
  refine lv_aload_n hx hb dX0_init_12 rfl (lv_at hl 0 rfl) ?_
  refine lv_bipush (v := 60) hx hb dX0_init_13 rfl ?_
  refine xnewi (N := 60) hx hb htg hK hP hD hS hA (by decide) (by decide) (Nat.le_of_ble_eq_true rfl) (Nat.le_of_ble_eq_true rfl) (Nat.le_of_ble_eq_true rfl) dX0_init_15 (fun a2 H hP hD hS => ?_)
  replace hP : va_P E.1 vwCl [(a0, .inr (0, [.int 0, .int 0, .int 0, .ref a1, .null, .null, .null, .null])), (a1, ai E 60 (fun _ => 0)), (a2, ai E 60 (fun _ => 0))] H := hP
  replace hD : va_D A [(a0, .inr (0, [.int 0, .int 0, .int 0, .ref a1, .null, .null, .null, .null])), (a1, ai E 60 (fun _ => 0)), (a2, ai E 60 (fun _ => 0))] := hD
  refine W.widen (k := 2) (n := 120) (Nat.le_of_ble_eq_true rfl) (Nat.le_of_ble_eq_true rfl) ?_
  refine va_putF (D := E.1) (ci := 0) (v := .ref a2) (ty := (.array .int)) (C := RX0) (T := TX0) (N := 8) hx hb htg hwX0 tyX0 tyX0_ok nmX0 hown hK hP hD hS 0 rfl rfl 4 (by decide) (htg _ fl0_13) (fun _ h9 => h9) rfl hin rfl (by decide +kernel) rfl rfl (Nat.le_of_ble_eq_true rfl) dX0_init_17 (fun H locs hP hD hS => ?_)
  replace hP : va_P E.1 vwCl [(a0, .inr (0, [.int 0, .int 0, .int 0, .ref a1, .ref a2, .null, .null, .null])), (a1, ai E 60 (fun _ => 0)), (a2, ai E 60 (fun _ => 0))] H := hP
  replace hD : va_D A [(a0, .inr (0, [.int 0, .int 0, .int 0, .ref a1, .ref a2, .null, .null, .null])), (a1, ai E 60 (fun _ => 0)), (a2, ai E 60 (fun _ => 0))] := hD
  refine lv_aload_n hx hb dX0_init_20 rfl (lv_at hl 0 rfl) ?_
  refine lv_bipush (v := 60) hx hb dX0_init_21 rfl ?_
  refine xnewi (N := 60) hx hb htg hK hP hD hS hA (by decide) (by decide) (Nat.le_of_ble_eq_true rfl) (Nat.le_of_ble_eq_true rfl) (Nat.le_of_ble_eq_true rfl) dX0_init_23 (fun a3 H hP hD hS => ?_)
  replace hP : va_P E.1 vwCl [(a0, .inr (0, [.int 0, .int 0, .int 0, .ref a1, .ref a2, .null, .null, .null])), (a1, ai E 60 (fun _ => 0)), (a2, ai E 60 (fun _ => 0)), (a3, ai E 60 (fun _ => 0))] H := hP
  replace hD : va_D A [(a0, .inr (0, [.int 0, .int 0, .int 0, .ref a1, .ref a2, .null, .null, .null])), (a1, ai E 60 (fun _ => 0)), (a2, ai E 60 (fun _ => 0)), (a3, ai E 60 (fun _ => 0))] := hD
  refine W.widen (k := 3) (n := 180) (Nat.le_of_ble_eq_true rfl) (Nat.le_of_ble_eq_true rfl) ?_
  refine va_putF (D := E.1) (ci := 0) (v := .ref a3) (ty := (.array .int)) (C := RX0) (T := TX0) (N := 8) hx hb htg hwX0 tyX0 tyX0_ok nmX0 hown hK hP hD hS 0 rfl rfl 5 (by decide) (htg _ fl0_16) (fun _ h9 => h9) rfl hin rfl (by decide +kernel) rfl rfl (Nat.le_of_ble_eq_true rfl) dX0_init_25 (fun H locs hP hD hS => ?_)
  replace hP : va_P E.1 vwCl [(a0, .inr (0, [.int 0, .int 0, .int 0, .ref a1, .ref a2, .ref a3, .null, .null])), (a1, ai E 60 (fun _ => 0)), (a2, ai E 60 (fun _ => 0)), (a3, ai E 60 (fun _ => 0))] H := hP
  replace hD : va_D A [(a0, .inr (0, [.int 0, .int 0, .int 0, .ref a1, .ref a2, .ref a3, .null, .null])), (a1, ai E 60 (fun _ => 0)), (a2, ai E 60 (fun _ => 0)), (a3, ai E 60 (fun _ => 0))] := hD
  refine lv_aload_n hx hb dX0_init_28 rfl (lv_at hl 0 rfl) ?_
  refine lv_bipush (v := 60) hx hb dX0_init_29 rfl ?_
  refine xnewi (N := 60) hx hb htg hK hP hD hS hA (by decide) (by decide) (Nat.le_of_ble_eq_true rfl) (Nat.le_of_ble_eq_true rfl) (Nat.le_of_ble_eq_true rfl) dX0_init_31 (fun a4 H hP hD hS => ?_)
  replace hP : va_P E.1 vwCl [(a0, .inr (0, [.int 0, .int 0, .int 0, .ref a1, .ref a2, .ref a3, .null, .null])), (a1, ai E 60 (fun _ => 0)), (a2, ai E 60 (fun _ => 0)), (a3, ai E 60 (fun _ => 0)), (a4, ai E 60 (fun _ => 0))] H := hP
  replace hD : va_D A [(a0, .inr (0, [.int 0, .int 0, .int 0, .ref a1, .ref a2, .ref a3, .null, .null])), (a1, ai E 60 (fun _ => 0)), (a2, ai E 60 (fun _ => 0)), (a3, ai E 60 (fun _ => 0)), (a4, ai E 60 (fun _ => 0))] := hD
  refine W.widen (k := 4) (n := 240) (Nat.le_of_ble_eq_true rfl) (Nat.le_of_ble_eq_true rfl) ?_
  refine va_putF (D := E.1) (ci := 0) (v := .ref a4) (ty := (.array .int)) (C := RX0) (T := TX0) (N := 8) hx hb htg hwX0 tyX0 tyX0_ok nmX0 hown hK hP hD hS 0 rfl rfl 6 (by decide) (htg _ fl0_19) (fun _ h9 => h9) rfl hin rfl (by decide +kernel) rfl rfl (Nat.le_of_ble_eq_true rfl) dX0_init_33 (fun H locs hP hD hS => ?_)
  replace hP : va_P E.1 vwCl [(a0, .inr (0, [.int 0, .int 0, .int 0, .ref a1, .ref a2, .ref a3, .ref a4, .null])), (a1, ai E 60 (fun _ => 0)), (a2, ai E 60 (fun _ => 0)), (a3, ai E 60 (fun _ => 0)), (a4, ai E 60 (fun _ => 0))] H := hP
  replace hD : va_D A [(a0, .inr (0, [.int 0, .int 0, .int 0, .ref a1, .ref a2, .ref a3, .ref a4, .null])), (a1, ai E 60 (fun _ => 0)), (a2, ai E 60 (fun _ => 0)), (a3, ai E 60 (fun _ => 0)), (a4, ai E 60 (fun _ => 0))] := hD
  refine lv_aload_n hx hb dX0_init_36 rfl (lv_at hl 0 rfl) ?_
  refine lv_bipush (v := 60) hx hb dX0_init_37 rfl ?_
  refine xnewi (N := 60) hx hb htg hK hP hD hS hA (by decide) (by decide) (Nat.le_of_ble_eq_true rfl) (Nat.le_of_ble_eq_true rfl) (Nat.le_of_ble_eq_true rfl) dX0_init_39 (fun a5 H hP hD hS => ?_)
  replace hP : va_P E.1 vwCl [(a0, .inr (0, [.int 0, .int 0, .int 0, .ref a1, .ref a2, .ref a3, .ref a4, .null])), (a1, ai E 60 (fun _ => 0)), (a2, ai E 60 (fun _ => 0)), (a3, ai E 60 (fun _ => 0)), (a4, ai E 60 (fun _ => 0)), (a5, ai E 60 (fun _ => 0))] H := hP
  replace hD : va_D A [(a0, .inr (0, [.int 0, .int 0, .int 0, .ref a1, .ref a2, .ref a3, .ref a4, .null])), (a1, ai E 60 (fun _ => 0)), (a2, ai E 60 (fun _ => 0)), (a3, ai E 60 (fun _ => 0)), (a4, ai E 60 (fun _ => 0)), (a5, ai E 60 (fun _ => 0))] := hD
  refine W.widen (k := 5) (n := 300) (Nat.le_of_ble_eq_true rfl) (Nat.le_of_ble_eq_true rfl) ?_
  refine va_putF (D := E.1) (ci := 0) (v := .ref a5) (ty := (.array .int)) (C := RX0) (T := TX0) (N := 8) hx hb htg hwX0 tyX0 tyX0_ok nmX0 hown hK hP hD hS 0 rfl rfl 7 (by decide) (htg _ fl0_22) (fun _ h9 => h9) rfl hin rfl (by decide +kernel) rfl rfl (Nat.le_of_ble_eq_true rfl) dX0_init_41 (fun H locs hP hD hS => ?_)
  replace hP : va_P E.1 vwCl [(a0, .inr (0, [.int 0, .int 0, .int 0, .ref a1, .ref a2, .ref a3, .ref a4, .ref a5])), (a1, ai E 60 (fun _ => 0)), (a2, ai E 60 (fun _ => 0)), (a3, ai E 60 (fun _ => 0)), (a4, ai E 60 (fun _ => 0)), (a5, ai E 60 (fun _ => 0))] H := hP
  replace hD : va_D A [(a0, .inr (0, [.int 0, .int 0, .int 0, .ref a1, .ref a2, .ref a3, .ref a4, .ref a5])), (a1, ai E 60 (fun _ => 0)), (a2, ai E 60 (fun _ => 0)), (a3, ai E 60 (fun _ => 0)), (a4, ai E 60 (fun _ => 0)), (a5, ai E 60 (fun _ => 0))] := hD
  exact ret (fun k => match k with | 0 => a1 | 1 => a2 | 2 => a3 | 3 => a4 | _ => a5) hP hD hS dX0_init_44
theorem dX1_init_0 : decode cX1_init 0 = .ok (.aload_n 0, 1) := by decide +kernel
theorem dX1_init_1 : decode cX1_init 1 = .ok (.invokespecial 3, 3) := by decide +kernel
theorem dX1_init_4 : decode cX1_init 4 = .ok (.aload_n 0, 1) := by decide +kernel
theorem dX1_init_5 : decode cX1_init 5 = .ok (.iconst 4, 1) := by decide +kernel
theorem dX1_init_6 : decode cX1_init 6 = .ok (.newarray .long, 2) := by decide +kernel
theorem dX1_init_8 : decode cX1_init 8 = .ok (.putfield 9, 3) := by decide +kernel
theorem dX1_init_11 : decode cX1_init 11 = .ok (.aload_n 0, 1) := by decide +kernel
theorem dX1_init_12 : decode cX1_init 12 = .ok (.bipush 13, 2) := by decide +kernel
theorem dX1_init_14 : decode cX1_init 14 = .ok (.newarray .long, 2) := by decide +kernel
theorem dX1_init_16 : decode cX1_init 16 = .ok (.putfield 15, 3) := by decide +kernel
theorem dX1_init_19 : decode cX1_init 19 = .ok (.return_, 1) := by decide +kernel
set_option maxRecDepth 100000 in
set_option maxHeartbeats 4000000 in
theorem i_X1_init (l : Launch) (E : xE) (a0 : Nat)  (sz : Nat) : Met l yX1_init (Cond.code yX1_init cX1_init 1 none :: gw) ({ frames := 1, cells := 2, slots := 17, locals := 12 }) (xPc E [.ref a0] [(a0, .inr (1, [.null, .null]))] sz) (xQc E (fun q => [(a0, o1 (q 0) (q 1)), ((q 0), al E 4 (fun _ => 0)), ((q 1), al E 13 (fun _ => 0))]) [(a0, .inr (1, [.null, .null]))] sz) 2 17 (va_A [(a0, .inr (1, [.null, .null]))] sz) := by
  refine xM_c (by decide +kernel) rfl (Nat.le_of_ble_eq_true rfl) ?_
  intro p e s m args below meth c A Q hx hb hml hown htg hK hG hA hin ret H locs ls hP hD hS hl
  replace hl : lv_has ls 1 [(0, .ref a0)] := hl
  refine lv_aload_n hx hb dX1_init_0 rfl (lv_at hl 0 rfl) ?_
  refine W.objInit hx hb hown (htg _ moX1_3) (htg _ imObj) (htg _ cwObj) rfl (by rw [hml]; exact hl.1) rfl dX1_init_1 (Nat.le_of_ble_eq_true rfl) (Nat.le_of_ble_eq_true rfl) ?_
  refine W.eq (g2 := F0 m 4 ls []) rfl ?_
  refine lv_aload_n hx hb dX1_init_4 rfl (lv_at hl 0 rfl) ?_
  refine lv_iconst (v := 4) hx hb dX1_init_5 rfl ?_
  refine xnewl (N := 4) hx hb htg hK hP hD hS hA (by decide) (by decide) (Nat.le_of_ble_eq_true rfl) (Nat.le_of_ble_eq_true rfl) (Nat.le_of_ble_eq_true rfl) dX1_init_6 (fun a1 H hP hD hS => ?_)
  replace hP : va_P E.1 vwCl [(a0, .inr (1, [.null, .null])), (a1, al E 4 (fun _ => 0))] H := hP
  replace hD : va_D A [(a0, .inr (1, [.null, .null])), (a1, al E 4 (fun _ => 0))] := hD
  refine W.widen (k := 1) (n := 4) (Nat.le_of_ble_eq_true rfl) (Nat.le_of_ble_eq_true rfl) ?_
  refine va_putF (D := E.1) (ci := 1) (v := .ref a1) (ty := (.array .long)) (C := RX1) (T := TX1) (N := 2) hx hb htg hwX1 tyX1 tyX1_ok nmX1 hown hK hP hD hS 0 rfl rfl 0 (by decide) (htg _ fl1_9) (fun _ h9 => h9) rfl hin rfl (by decide +kernel) rfl rfl (Nat.le_of_ble_eq_true rfl) dX1_init_8 (fun H locs hP hD hS => ?_)
  replace hP : va_P E.1 vwCl [(a0, .inr (1, [.ref a1, .null])), (a1, al E 4 (fun _ => 0))] H := hP
  replace hD : va_D A [(a0, .inr (1, [.ref a1, .null])), (a1, al E 4 (fun _ => 0))] := hD
  refine lv_aload_n hx hb dX1_init_11 rfl (lv_at hl 0 rfl) ?_
  refine lv_bipush (v := 13) hx hb dX1_init_12 rfl ?_
  refine xnewl (N := 13) hx hb htg hK hP hD hS hA (by decide) (by decide) (Nat.le_of_ble_eq_true rfl) (Nat.le_of_ble_eq_true rfl) (Nat.le_of_ble_eq_true rfl) dX1_init_14 (fun a2 H hP hD hS => ?_)
  replace hP : va_P E.1 vwCl [(a0, .inr (1, [.ref a1, .null])), (a1, al E 4 (fun _ => 0)), (a2, al E 13 (fun _ => 0))] H := hP
  replace hD : va_D A [(a0, .inr (1, [.ref a1, .null])), (a1, al E 4 (fun _ => 0)), (a2, al E 13 (fun _ => 0))] := hD
  refine W.widen (k := 2) (n := 17) (Nat.le_of_ble_eq_true rfl) (Nat.le_of_ble_eq_true rfl) ?_
  refine va_putF (D := E.1) (ci := 1) (v := .ref a2) (ty := (.array .long)) (C := RX1) (T := TX1) (N := 2) hx hb htg hwX1 tyX1 tyX1_ok nmX1 hown hK hP hD hS 0 rfl rfl 1 (by decide) (htg _ fl1_15) (fun _ h9 => h9) rfl hin rfl (by decide +kernel) rfl rfl (Nat.le_of_ble_eq_true rfl) dX1_init_16 (fun H locs hP hD hS => ?_)
  replace hP : va_P E.1 vwCl [(a0, .inr (1, [.ref a1, .ref a2])), (a1, al E 4 (fun _ => 0)), (a2, al E 13 (fun _ => 0))] H := hP
  replace hD : va_D A [(a0, .inr (1, [.ref a1, .ref a2])), (a1, al E 4 (fun _ => 0)), (a2, al E 13 (fun _ => 0))] := hD
  exact ret (fun k => match k with | 0 => a1 | _ => a2) hP hD hS dX1_init_19
theorem dX2_init_0 : decode cX2_init 0 = .ok (.aload_n 0, 1) := by decide +kernel
theorem dX2_init_1 : decode cX2_init 1 = .ok (.invokespecial 3, 3) := by decide +kernel
theorem dX2_init_4 : decode cX2_init 4 = .ok (.aload_n 0, 1) := by decide +kernel
theorem dX2_init_5 : decode cX2_init 5 = .ok (.bipush 32, 2) := by decide +kernel
theorem dX2_init_7 : decode cX2_init 7 = .ok (.newarray .int, 2) := by decide +kernel
theorem dX2_init_9 : decode cX2_init 9 = .ok (.putfield 11, 3) := by decide +kernel
theorem dX2_init_12 : decode cX2_init 12 = .ok (.aload_n 0, 1) := by decide +kernel
theorem dX2_init_13 : decode cX2_init 13 = .ok (.bipush 32, 2) := by decide +kernel
theorem dX2_init_15 : decode cX2_init 15 = .ok (.newarray .int, 2) := by decide +kernel
theorem dX2_init_17 : decode cX2_init 17 = .ok (.putfield 15, 3) := by decide +kernel
theorem dX2_init_20 : decode cX2_init 20 = .ok (.return_, 1) := by decide +kernel
set_option maxRecDepth 100000 in
set_option maxHeartbeats 4000000 in
theorem i_X2_init (l : Launch) (E : xE) (a0 : Nat)  (sz : Nat) : Met l yX2_init (Cond.code yX2_init cX2_init 1 none :: gw) ({ frames := 1, cells := 2, slots := 64, locals := 12 }) (xPc E [.ref a0] [(a0, .inr (2, [.null, .null]))] sz) (xQc E (fun q => [(a0, o2 (q 0) (q 1)), ((q 0), ai E 32 (fun _ => 0)), ((q 1), ai E 32 (fun _ => 0))]) [(a0, .inr (2, [.null, .null]))] sz) 2 64 (va_A [(a0, .inr (2, [.null, .null]))] sz) := by
  refine xM_c (by decide +kernel) rfl (Nat.le_of_ble_eq_true rfl) ?_
  intro p e s m args below meth c A Q hx hb hml hown htg hK hG hA hin ret H locs ls hP hD hS hl
  replace hl : lv_has ls 1 [(0, .ref a0)] := hl
  refine lv_aload_n hx hb dX2_init_0 rfl (lv_at hl 0 rfl) ?_
  refine W.objInit hx hb hown (htg _ moX2_3) (htg _ imObj) (htg _ cwObj) rfl (by rw [hml]; exact hl.1) rfl dX2_init_1 (Nat.le_of_ble_eq_true rfl) (Nat.le_of_ble_eq_true rfl) ?_
  refine W.eq (g2 := F0 m 4 ls []) rfl ?_
  refine lv_aload_n hx hb dX2_init_4 rfl (lv_at hl 0 rfl) ?_
  refine lv_bipush (v := 32) hx hb dX2_init_5 rfl ?_
  refine xnewi (N := 32) hx hb htg hK hP hD hS hA (by decide) (by decide) (Nat.le_of_ble_eq_true rfl) (Nat.le_of_ble_eq_true rfl) (Nat.le_of_ble_eq_true rfl) dX2_init_7 (fun a1 H hP hD hS => ?_)
  replace hP : va_P E.1 vwCl [(a0, .inr (2, [.null, .null])), (a1, ai E 32 (fun _ => 0))] H := hP
  replace hD : va_D A [(a0, .inr (2, [.null, .null])), (a1, ai E 32 (fun _ => 0))] := hD
  refine W.widen (k := 1) (n := 32) (Nat.le_of_ble_eq_true rfl) (Nat.le_of_ble_eq_true rfl) ?_
  refine va_putF (D := E.1) (ci := 2) (v := .ref a1) (ty := (.array .int)) (C := RX2) (T := TX2) (N := 2) hx hb htg hwX2 tyX2 tyX2_ok nmX2 hown hK hP hD hS 0 rfl rfl 0 (by decide) (htg _ fl2_11) (fun _ h9 => h9) rfl hin rfl (by decide +kernel) rfl rfl (Nat.le_of_ble_eq_true rfl) dX2_init_9 (fun H locs hP hD hS => ?_)
  replace hP : va_P E.1 vwCl [(a0, .inr (2, [.ref a1, .null])), (a1, ai E 32 (fun _ => 0))] H := hP
  replace hD : va_D A [(a0, .inr (2, [.ref a1, .null])), (a1, ai E 32 (fun _ => 0))] := hD
  refine lv_aload_n hx hb dX2_init_12 rfl (lv_at hl 0 rfl) ?_
  refine lv_bipush (v := 32) hx hb dX2_init_13 rfl ?_
  refine xnewi (N := 32) hx hb htg hK hP hD hS hA (by decide) (by decide) (Nat.le_of_ble_eq_true rfl) (Nat.le_of_ble_eq_true rfl) (Nat.le_of_ble_eq_true rfl) dX2_init_15 (fun a2 H hP hD hS => ?_)
  replace hP : va_P E.1 vwCl [(a0, .inr (2, [.ref a1, .null])), (a1, ai E 32 (fun _ => 0)), (a2, ai E 32 (fun _ => 0))] H := hP
  replace hD : va_D A [(a0, .inr (2, [.ref a1, .null])), (a1, ai E 32 (fun _ => 0)), (a2, ai E 32 (fun _ => 0))] := hD
  refine W.widen (k := 2) (n := 64) (Nat.le_of_ble_eq_true rfl) (Nat.le_of_ble_eq_true rfl) ?_
  refine va_putF (D := E.1) (ci := 2) (v := .ref a2) (ty := (.array .int)) (C := RX2) (T := TX2) (N := 2) hx hb htg hwX2 tyX2 tyX2_ok nmX2 hown hK hP hD hS 0 rfl rfl 1 (by decide) (htg _ fl2_15) (fun _ h9 => h9) rfl hin rfl (by decide +kernel) rfl rfl (Nat.le_of_ble_eq_true rfl) dX2_init_17 (fun H locs hP hD hS => ?_)
  replace hP : va_P E.1 vwCl [(a0, .inr (2, [.ref a1, .ref a2])), (a1, ai E 32 (fun _ => 0)), (a2, ai E 32 (fun _ => 0))] H := hP
  replace hD : va_D A [(a0, .inr (2, [.ref a1, .ref a2])), (a1, ai E 32 (fun _ => 0)), (a2, ai E 32 (fun _ => 0))] := hD
  exact ret (fun k => match k with | 0 => a1 | _ => a2) hP hD hS dX2_init_20
theorem dX4_init_0 : decode cX4_init 0 = .ok (.aload_n 0, 1) := by decide +kernel
theorem dX4_init_1 : decode cX4_init 1 = .ok (.invokespecial 3, 3) := by decide +kernel
theorem dX4_init_4 : decode cX4_init 4 = .ok (.return_, 1) := by decide +kernel
set_option maxRecDepth 100000 in
set_option maxHeartbeats 4000000 in
theorem i_X4_init (l : Launch) (E : xE) (a0 : Nat)  (sz : Nat) : Met l yX4_init (Cond.code yX4_init cX4_init 1 none :: gw) ({ frames := 1, cells := 0, slots := 0, locals := 12 }) (xPc E [.ref a0] [(a0, .inr (4, [.int 0, .int 0]))] sz) (xQc E (fun q => [(a0, o4 (fun _ => 0))]) [(a0, .inr (4, [.int 0, .int 0]))] sz) 0 0 (va_A [(a0, .inr (4, [.int 0, .int 0]))] sz) := by
  refine xM_c (by decide +kernel) rfl (Nat.le_of_ble_eq_true rfl) ?_
  intro p e s m args below meth c A Q hx hb hml hown htg hK hG hA hin ret H locs ls hP hD hS hl
  replace hl : lv_has ls 1 [(0, .ref a0)] := hl
  refine lv_aload_n hx hb dX4_init_0 rfl (lv_at hl 0 rfl) ?_
  refine W.objInit hx hb hown (htg _ moX4_3) (htg _ imObj) (htg _ cwObj) rfl (by rw [hml]; exact hl.1) rfl dX4_init_1 (Nat.le_of_ble_eq_true rfl) (Nat.le_of_ble_eq_true rfl) ?_
  refine W.eq (g2 := F0 m 4 ls []) rfl ?_
  exact ret (fun _ => 0) hP hD hS dX4_init_4
theorem dX10_init_0 : decode cX10_init 0 = .ok (.aload_n 0, 1) := by decide +kernel
theorem dX10_init_1 : decode cX10_init 1 = .ok (.invokespecial 3, 3) := by decide +kernel
theorem dX10_init_4 : decode cX10_init 4 = .ok (.aload_n 0, 1) := by decide +kernel
theorem dX10_init_5 : decode cX10_init 5 = .ok (.iconst 3, 1) := by decide +kernel
theorem dX10_init_6 : decode cX10_init 6 = .ok (.newarray .int, 2) := by decide +kernel
theorem dX10_init_8 : decode cX10_init 8 = .ok (.putfield 11, 3) := by decide +kernel
theorem dX10_init_11 : decode cX10_init 11 = .ok (.return_, 1) := by decide +kernel
set_option maxRecDepth 100000 in
set_option maxHeartbeats 4000000 in
theorem i_X10_init (l : Launch) (E : xE) (a0 : Nat)  (sz : Nat) : Met l yX10_init (Cond.code yX10_init cX10_init 1 none :: gw) ({ frames := 1, cells := 1, slots := 3, locals := 12 }) (xPc E [.ref a0] [(a0, .inr (10, [.null, .int 0, .int 0, .int 0, .int 0, .int 0, .int 0]))] sz) (xQc E (fun q => [(a0, o10 (fun _ => 0) (q 0)), ((q 0), ai E 3 (fun _ => 0))]) [(a0, .inr (10, [.null, .int 0, .int 0, .int 0, .int 0, .int 0, .int 0]))] sz) 1 3 (va_A [(a0, .inr (10, [.null, .int 0, .int 0, .int 0, .int 0, .int 0, .int 0]))] sz) := by
  refine xM_c (by decide +kernel) rfl (Nat.le_of_ble_eq_true rfl) ?_
  intro p e s m args below meth c A Q hx hb hml hown htg hK hG hA hin ret H locs ls hP hD hS hl
  replace hl : lv_has ls 1 [(0, .ref a0)] := hl
  refine lv_aload_n hx hb dX10_init_0 rfl (lv_at hl 0 rfl) ?_
  refine W.objInit hx hb hown (htg _ moX10_3) (htg _ imObj) (htg _ cwObj) rfl (by rw [hml]; exact hl.1) rfl dX10_init_1 (Nat.le_of_ble_eq_true rfl) (Nat.le_of_ble_eq_true rfl) ?_
  refine W.eq (g2 := F0 m 4 ls []) rfl ?_
  refine lv_aload_n hx hb dX10_init_4 rfl (lv_at hl 0 rfl) ?_
  refine lv_iconst (v := 3) hx hb dX10_init_5 rfl ?_
  refine xnewi (N := 3) hx hb htg hK hP hD hS hA (by decide) (by decide) (Nat.le_of_ble_eq_true rfl) (Nat.le_of_ble_eq_true rfl) (Nat.le_of_ble_eq_true rfl) dX10_init_6 (fun a1 H hP hD hS => ?_)
  replace hP : va_P E.1 vwCl [(a0, .inr (10, [.null, .int 0, .int 0, .int 0, .int 0, .int 0, .int 0])), (a1, ai E 3 (fun _ => 0))] H := hP
  replace hD : va_D A [(a0, .inr (10, [.null, .int 0, .int 0, .int 0, .int 0, .int 0, .int 0])), (a1, ai E 3 (fun _ => 0))] := hD
  refine W.widen (k := 1) (n := 3) (Nat.le_of_ble_eq_true rfl) (Nat.le_of_ble_eq_true rfl) ?_
  refine va_putF (D := E.1) (ci := 10) (v := .ref a1) (ty := (.array .int)) (C := RX10) (T := TX10) (N := 7) hx hb htg hwX10 tyX10 tyX10_ok nmX10 hown hK hP hD hS 0 rfl rfl 0 (by decide) (htg _ fl10_11) (fun _ h9 => h9) rfl hin rfl (by decide +kernel) rfl rfl (Nat.le_of_ble_eq_true rfl) dX10_init_8 (fun H locs hP hD hS => ?_)
  replace hP : va_P E.1 vwCl [(a0, .inr (10, [.ref a1, .int 0, .int 0, .int 0, .int 0, .int 0, .int 0])), (a1, ai E 3 (fun _ => 0))] H := hP
  replace hD : va_D A [(a0, .inr (10, [.ref a1, .int 0, .int 0, .int 0, .int 0, .int 0, .int 0])), (a1, ai E 3 (fun _ => 0))] := hD
  exact ret (fun k => match k with | _ => a1) hP hD hS dX10_init_11
theorem dX7_init_0 : decode cX7_init 0 = .ok (.aload_n 0, 1) := by decide +kernel
theorem dX7_init_1 : decode cX7_init 1 = .ok (.invokespecial 3, 3) := by decide +kernel
theorem dX7_init_4 : decode cX7_init 4 = .ok (.aload_n 0, 1) := by decide +kernel
theorem dX7_init_5 : decode cX7_init 5 = .ok (.sipush 144, 3) := by decide +kernel
theorem dX7_init_8 : decode cX7_init 8 = .ok (.newarray .int, 2) := by decide +kernel
theorem dX7_init_10 : decode cX7_init 10 = .ok (.putfield 9, 3) := by decide +kernel
theorem dX7_init_13 : decode cX7_init 13 = .ok (.return_, 1) := by decide +kernel
set_option maxRecDepth 100000 in
set_option maxHeartbeats 4000000 in
theorem i_X7_init (l : Launch) (E : xE) (a0 : Nat)  (sz : Nat) : Met l yX7_init (Cond.code yX7_init cX7_init 1 none :: gw) ({ frames := 1, cells := 1, slots := 144, locals := 12 }) (xPc E [.ref a0] [(a0, .inr (7, [.null]))] sz) (xQc E (fun q => [(a0, o7 (q 0)), ((q 0), ai E 144 (fun _ => 0))]) [(a0, .inr (7, [.null]))] sz) 1 144 (va_A [(a0, .inr (7, [.null]))] sz) := by
  refine xM_c (by decide +kernel) rfl (Nat.le_of_ble_eq_true rfl) ?_
  intro p e s m args below meth c A Q hx hb hml hown htg hK hG hA hin ret H locs ls hP hD hS hl
  replace hl : lv_has ls 1 [(0, .ref a0)] := hl
  refine lv_aload_n hx hb dX7_init_0 rfl (lv_at hl 0 rfl) ?_
  refine W.objInit hx hb hown (htg _ moX7_3) (htg _ imObj) (htg _ cwObj) rfl (by rw [hml]; exact hl.1) rfl dX7_init_1 (Nat.le_of_ble_eq_true rfl) (Nat.le_of_ble_eq_true rfl) ?_
  refine W.eq (g2 := F0 m 4 ls []) rfl ?_
  refine lv_aload_n hx hb dX7_init_4 rfl (lv_at hl 0 rfl) ?_
  refine lv_sipush (v := 144) hx hb dX7_init_5 rfl ?_
  refine xnewi (N := 144) hx hb htg hK hP hD hS hA (by decide) (by decide) (Nat.le_of_ble_eq_true rfl) (Nat.le_of_ble_eq_true rfl) (Nat.le_of_ble_eq_true rfl) dX7_init_8 (fun a1 H hP hD hS => ?_)
  replace hP : va_P E.1 vwCl [(a0, .inr (7, [.null])), (a1, ai E 144 (fun _ => 0))] H := hP
  replace hD : va_D A [(a0, .inr (7, [.null])), (a1, ai E 144 (fun _ => 0))] := hD
  refine W.widen (k := 1) (n := 144) (Nat.le_of_ble_eq_true rfl) (Nat.le_of_ble_eq_true rfl) ?_
  refine va_putF (D := E.1) (ci := 7) (v := .ref a1) (ty := (.array .int)) (C := RX7) (T := TX7) (N := 1) hx hb htg hwX7 tyX7 tyX7_ok nmX7 hown hK hP hD hS 0 rfl rfl 0 (by decide) (htg _ fl7_9) (fun _ h9 => h9) rfl hin rfl (by decide +kernel) rfl rfl (Nat.le_of_ble_eq_true rfl) dX7_init_10 (fun H locs hP hD hS => ?_)
  replace hP : va_P E.1 vwCl [(a0, .inr (7, [.ref a1])), (a1, ai E 144 (fun _ => 0))] H := hP
  replace hD : va_D A [(a0, .inr (7, [.ref a1])), (a1, ai E 144 (fun _ => 0))] := hD
  exact ret (fun k => match k with | _ => a1) hP hD hS dX7_init_13
theorem dX6_init_0 : decode cX6_init 0 = .ok (.aload_n 0, 1) := by decide +kernel
theorem dX6_init_1 : decode cX6_init 1 = .ok (.invokespecial 3, 3) := by decide +kernel
theorem dX6_init_4 : decode cX6_init 4 = .ok (.aload_n 0, 1) := by decide +kernel
theorem dX6_init_5 : decode cX6_init 5 = .ok (.bipush 36, 2) := by decide +kernel
theorem dX6_init_7 : decode cX6_init 7 = .ok (.newarray .int, 2) := by decide +kernel
theorem dX6_init_9 : decode cX6_init 9 = .ok (.putfield 9, 3) := by decide +kernel
theorem dX6_init_12 : decode cX6_init 12 = .ok (.aload_n 0, 1) := by decide +kernel
theorem dX6_init_13 : decode cX6_init 13 = .ok (.bipush 36, 2) := by decide +kernel
theorem dX6_init_15 : decode cX6_init 15 = .ok (.newarray .int, 2) := by decide +kernel
theorem dX6_init_17 : decode cX6_init 17 = .ok (.putfield 15, 3) := by decide +kernel
theorem dX6_init_20 : decode cX6_init 20 = .ok (.aload_n 0, 1) := by decide +kernel
theorem dX6_init_21 : decode cX6_init 21 = .ok (.bipush 37, 2) := by decide +kernel
theorem dX6_init_23 : decode cX6_init 23 = .ok (.newarray .int, 2) := by decide +kernel
theorem dX6_init_25 : decode cX6_init 25 = .ok (.putfield 18, 3) := by decide +kernel
theorem dX6_init_28 : decode cX6_init 28 = .ok (.return_, 1) := by decide +kernel
set_option maxRecDepth 100000 in
set_option maxHeartbeats 4000000 in
theorem i_X6_init (l : Launch) (E : xE) (a0 : Nat)  (sz : Nat) : Met l yX6_init (Cond.code yX6_init cX6_init 1 none :: gw) ({ frames := 1, cells := 3, slots := 109, locals := 12 }) (xPc E [.ref a0] [(a0, .inr (6, [.null, .null, .null, .int 0, .int 0, .int 0]))] sz) (xQc E (fun q => [(a0, o6 (fun _ => 0) (q 0) (q 1) (q 2)), ((q 0), ai E 36 (fun _ => 0)), ((q 1), ai E 36 (fun _ => 0)), ((q 2), ai E 37 (fun _ => 0))]) [(a0, .inr (6, [.null, .null, .null, .int 0, .int 0, .int 0]))] sz) 3 109 (va_A [(a0, .inr (6, [.null, .null, .null, .int 0, .int 0, .int 0]))] sz) := by
  refine xM_c (by decide +kernel) rfl (Nat.le_of_ble_eq_true rfl) ?_
  intro p e s m args below meth c A Q hx hb hml hown htg hK hG hA hin ret H locs ls hP hD hS hl
  replace hl : lv_has ls 1 [(0, .ref a0)] := hl
  refine lv_aload_n hx hb dX6_init_0 rfl (lv_at hl 0 rfl) ?_
  refine W.objInit hx hb hown (htg _ moX6_3) (htg _ imObj) (htg _ cwObj) rfl (by rw [hml]; exact hl.1) rfl dX6_init_1 (Nat.le_of_ble_eq_true rfl) (Nat.le_of_ble_eq_true rfl) ?_
  refine W.eq (g2 := F0 m 4 ls []) rfl ?_
  refine lv_aload_n hx hb dX6_init_4 rfl (lv_at hl 0 rfl) ?_
  refine lv_bipush (v := 36) hx hb dX6_init_5 rfl ?_
  refine xnewi (N := 36) hx hb htg hK hP hD hS hA (by decide) (by decide) (Nat.le_of_ble_eq_true rfl) (Nat.le_of_ble_eq_true rfl) (Nat.le_of_ble_eq_true rfl) dX6_init_7 (fun a1 H hP hD hS => ?_)
  replace hP : va_P E.1 vwCl [(a0, .inr (6, [.null, .null, .null, .int 0, .int 0, .int 0])), (a1, ai E 36 (fun _ => 0))] H := hP
  replace hD : va_D A [(a0, .inr (6, [.null, .null, .null, .int 0, .int 0, .int 0])), (a1, ai E 36 (fun _ => 0))] := hD
  refine W.widen (k := 1) (n := 36) (Nat.le_of_ble_eq_true rfl) (Nat.le_of_ble_eq_true rfl) ?_
  refine va_putF (D := E.1) (ci := 6) (v := .ref a1) (ty := (.array .int)) (C := RX6) (T := TX6) (N := 6) hx hb htg hwX6 tyX6 tyX6_ok nmX6 hown hK hP hD hS 0 rfl rfl 0 (by decide) (htg _ fl6_9) (fun _ h9 => h9) rfl hin rfl (by decide +kernel) rfl rfl (Nat.le_of_ble_eq_true rfl) dX6_init_9 (fun H locs hP hD hS => ?_)
  replace hP : va_P E.1 vwCl [(a0, .inr (6, [.ref a1, .null, .null, .int 0, .int 0, .int 0])), (a1, ai E 36 (fun _ => 0))] H := hP
  replace hD : va_D A [(a0, .inr (6, [.ref a1, .null, .null, .int 0, .int 0, .int 0])), (a1, ai E 36 (fun _ => 0))] := hD
  refine lv_aload_n hx hb dX6_init_12 rfl (lv_at hl 0 rfl) ?_
  refine lv_bipush (v := 36) hx hb dX6_init_13 rfl ?_
  refine xnewi (N := 36) hx hb htg hK hP hD hS hA (by decide) (by decide) (Nat.le_of_ble_eq_true rfl) (Nat.le_of_ble_eq_true rfl) (Nat.le_of_ble_eq_true rfl) dX6_init_15 (fun a2 H hP hD hS => ?_)
  replace hP : va_P E.1 vwCl [(a0, .inr (6, [.ref a1, .null, .null, .int 0, .int 0, .int 0])), (a1, ai E 36 (fun _ => 0)), (a2, ai E 36 (fun _ => 0))] H := hP
  replace hD : va_D A [(a0, .inr (6, [.ref a1, .null, .null, .int 0, .int 0, .int 0])), (a1, ai E 36 (fun _ => 0)), (a2, ai E 36 (fun _ => 0))] := hD
  refine W.widen (k := 2) (n := 72) (Nat.le_of_ble_eq_true rfl) (Nat.le_of_ble_eq_true rfl) ?_
  refine va_putF (D := E.1) (ci := 6) (v := .ref a2) (ty := (.array .int)) (C := RX6) (T := TX6) (N := 6) hx hb htg hwX6 tyX6 tyX6_ok nmX6 hown hK hP hD hS 0 rfl rfl 1 (by decide) (htg _ fl6_15) (fun _ h9 => h9) rfl hin rfl (by decide +kernel) rfl rfl (Nat.le_of_ble_eq_true rfl) dX6_init_17 (fun H locs hP hD hS => ?_)
  replace hP : va_P E.1 vwCl [(a0, .inr (6, [.ref a1, .ref a2, .null, .int 0, .int 0, .int 0])), (a1, ai E 36 (fun _ => 0)), (a2, ai E 36 (fun _ => 0))] H := hP
  replace hD : va_D A [(a0, .inr (6, [.ref a1, .ref a2, .null, .int 0, .int 0, .int 0])), (a1, ai E 36 (fun _ => 0)), (a2, ai E 36 (fun _ => 0))] := hD
  refine lv_aload_n hx hb dX6_init_20 rfl (lv_at hl 0 rfl) ?_
  refine lv_bipush (v := 37) hx hb dX6_init_21 rfl ?_
  refine xnewi (N := 37) hx hb htg hK hP hD hS hA (by decide) (by decide) (Nat.le_of_ble_eq_true rfl) (Nat.le_of_ble_eq_true rfl) (Nat.le_of_ble_eq_true rfl) dX6_init_23 (fun a3 H hP hD hS => ?_)
  replace hP : va_P E.1 vwCl [(a0, .inr (6, [.ref a1, .ref a2, .null, .int 0, .int 0, .int 0])), (a1, ai E 36 (fun _ => 0)), (a2, ai E 36 (fun _ => 0)), (a3, ai E 37 (fun _ => 0))] H := hP
  replace hD : va_D A [(a0, .inr (6, [.ref a1, .ref a2, .null, .int 0, .int 0, .int 0])), (a1, ai E 36 (fun _ => 0)), (a2, ai E 36 (fun _ => 0)), (a3, ai E 37 (fun _ => 0))] := hD
  refine W.widen (k := 3) (n := 109) (Nat.le_of_ble_eq_true rfl) (Nat.le_of_ble_eq_true rfl) ?_
  refine va_putF (D := E.1) (ci := 6) (v := .ref a3) (ty := (.array .int)) (C := RX6) (T := TX6) (N := 6) hx hb htg hwX6 tyX6 tyX6_ok nmX6 hown hK hP hD hS 0 rfl rfl 2 (by decide) (htg _ fl6_18) (fun _ h9 => h9) rfl hin rfl (by decide +kernel) rfl rfl (Nat.le_of_ble_eq_true rfl) dX6_init_25 (fun H locs hP hD hS => ?_)
  replace hP : va_P E.1 vwCl [(a0, .inr (6, [.ref a1, .ref a2, .ref a3, .int 0, .int 0, .int 0])), (a1, ai E 36 (fun _ => 0)), (a2, ai E 36 (fun _ => 0)), (a3, ai E 37 (fun _ => 0))] H := hP
  replace hD : va_D A [(a0, .inr (6, [.ref a1, .ref a2, .ref a3, .int 0, .int 0, .int 0])), (a1, ai E 36 (fun _ => 0)), (a2, ai E 36 (fun _ => 0)), (a3, ai E 37 (fun _ => 0))] := hD
  exact ret (fun k => match k with | 0 => a1 | 1 => a2 | _ => a3) hP hD hS dX6_init_28
theorem dX5_init_0 : decode cX5_init 0 = .ok (.aload_n 0, 1) := by decide +kernel
theorem dX5_init_1 : decode cX5_init 1 = .ok (.invokespecial 3, 3) := by decide +kernel
theorem dX5_init_4 : decode cX5_init 4 = .ok (.aload_n 0, 1) := by decide +kernel
theorem dX5_init_5 : decode cX5_init 5 = .ok (.iconst 5, 1) := by decide +kernel
theorem dX5_init_6 : decode cX5_init 6 = .ok (.newarray .int, 2) := by decide +kernel
theorem dX5_init_8 : decode cX5_init 8 = .ok (.putfield 11, 3) := by decide +kernel
theorem dX5_init_11 : decode cX5_init 11 = .ok (.aload_n 0, 1) := by decide +kernel
theorem dX5_init_12 : decode cX5_init 12 = .ok (.iconst 5, 1) := by decide +kernel
theorem dX5_init_13 : decode cX5_init 13 = .ok (.newarray .int, 2) := by decide +kernel
theorem dX5_init_15 : decode cX5_init 15 = .ok (.putfield 15, 3) := by decide +kernel
theorem dX5_init_18 : decode cX5_init 18 = .ok (.aload_n 0, 1) := by decide +kernel
theorem dX5_init_19 : decode cX5_init 19 = .ok (.bipush 60, 2) := by decide +kernel
theorem dX5_init_21 : decode cX5_init 21 = .ok (.newarray .int, 2) := by decide +kernel
theorem dX5_init_23 : decode cX5_init 23 = .ok (.putfield 20, 3) := by decide +kernel
theorem dX5_init_26 : decode cX5_init 26 = .ok (.aload_n 0, 1) := by decide +kernel
theorem dX5_init_27 : decode cX5_init 27 = .ok (.new 23, 3) := by decide +kernel
theorem dX5_init_30 : decode cX5_init 30 = .ok (.dup, 1) := by decide +kernel
theorem dX5_init_31 : decode cX5_init 31 = .ok (.invokespecial 25, 3) := by decide +kernel
theorem dX5_init_34 : decode cX5_init 34 = .ok (.putfield 26, 3) := by decide +kernel
theorem dX5_init_37 : decode cX5_init 37 = .ok (.aload_n 0, 1) := by decide +kernel
theorem dX5_init_38 : decode cX5_init 38 = .ok (.new 30, 3) := by decide +kernel
theorem dX5_init_41 : decode cX5_init 41 = .ok (.dup, 1) := by decide +kernel
theorem dX5_init_42 : decode cX5_init 42 = .ok (.invokespecial 32, 3) := by decide +kernel
theorem dX5_init_45 : decode cX5_init 45 = .ok (.putfield 33, 3) := by decide +kernel
theorem dX5_init_48 : decode cX5_init 48 = .ok (.return_, 1) := by decide +kernel
set_option maxRecDepth 100000 in
set_option maxHeartbeats 4000000 in
theorem i_X5_init (l : Launch) (E : xE) (a0 : Nat)  (sz : Nat) : Met l yX5_init (Cond.code yX5_init cX5_init 1 none :: gw) ({ frames := 2, cells := 9, slots := 330, locals := 32 }) (xPc E [.ref a0] [(a0, .inr (5, [.null, .null, .int 0, .null, .null, .null, .int 0]))] sz) (xQc E (fun q => [(a0, o5 (fun _ => 0) (q 0) (q 1) (q 2) (q 3) (q 5)), ((q 0), ai E 5 (fun _ => 0)), ((q 1), ai E 5 (fun _ => 0)), ((q 2), ai E 60 (fun _ => 0)), ((q 3), o7 (q 4)), ((q 4), ai E 144 (fun _ => 0)), ((q 5), o6 (fun _ => 0) (q 6) (q 7) (q 8)), ((q 6), ai E 36 (fun _ => 0)), ((q 7), ai E 36 (fun _ => 0)), ((q 8), ai E 37 (fun _ => 0))]) [(a0, .inr (5, [.null, .null, .int 0, .null, .null, .null, .int 0]))] sz) 9 330 (va_A [(a0, .inr (5, [.null, .null, .int 0, .null, .null, .null, .int 0]))] sz) := by
  refine xM_c (by decide +kernel) rfl (Nat.le_of_ble_eq_true rfl) ?_
  intro p e s m args below meth c A Q hx hb hml hown htg hK hG hA hin ret H locs ls hP hD hS hl
  replace hl : lv_has ls 1 [(0, .ref a0)] := hl
  refine lv_aload_n hx hb dX5_init_0 rfl (lv_at hl 0 rfl) ?_
  refine W.objInit hx hb hown (htg _ moX5_3) (htg _ imObj) (htg _ cwObj) rfl (by rw [hml]; exact hl.1) rfl dX5_init_1 (Nat.le_of_ble_eq_true rfl) (Nat.le_of_ble_eq_true rfl) ?_
  refine W.eq (g2 := F0 m 4 ls []) rfl ?_
  refine lv_aload_n hx hb dX5_init_4 rfl (lv_at hl 0 rfl) ?_
  refine lv_iconst (v := 5) hx hb dX5_init_5 rfl ?_
  refine xnewi (N := 5) hx hb htg hK hP hD hS hA (by decide) (by decide) (Nat.le_of_ble_eq_true rfl) (Nat.le_of_ble_eq_true rfl) (Nat.le_of_ble_eq_true rfl) dX5_init_6 (fun a1 H hP hD hS => ?_)
  replace hP : va_P E.1 vwCl [(a0, .inr (5, [.null, .null, .int 0, .null, .null, .null, .int 0])), (a1, ai E 5 (fun _ => 0))] H := hP
  replace hD : va_D A [(a0, .inr (5, [.null, .null, .int 0, .null, .null, .null, .int 0])), (a1, ai E 5 (fun _ => 0))] := hD
  refine W.widen (k := 1) (n := 5) (Nat.le_of_ble_eq_true rfl) (Nat.le_of_ble_eq_true rfl) ?_
  refine va_putF (D := E.1) (ci := 5) (v := .ref a1) (ty := (.array .int)) (C := RX5) (T := TX5) (N := 7) hx hb htg hwX5 tyX5 tyX5_ok nmX5 hown hK hP hD hS 0 rfl rfl 0 (by decide) (htg _ fl5_11) (fun _ h9 => h9) rfl hin rfl (by decide +kernel) rfl rfl (Nat.le_of_ble_eq_true rfl) dX5_init_8 (fun H locs hP hD hS => ?_)
  replace hP : va_P E.1 vwCl [(a0, .inr (5, [.ref a1, .null, .int 0, .null, .null, .null, .int 0])), (a1, ai E 5 (fun _ => 0))] H := hP
  replace hD : va_D A [(a0, .inr (5, [.ref a1, .null, .int 0, .null, .null, .null, .int 0])), (a1, ai E 5 (fun _ => 0))] := hD
  refine lv_aload_n hx hb dX5_init_11 rfl (lv_at hl 0 rfl) ?_
  refine lv_iconst (v := 5) hx hb dX5_init_12 rfl ?_
  refine xnewi (N := 5) hx hb htg hK hP hD hS hA (by decide) (by decide) (Nat.le_of_ble_eq_true rfl) (Nat.le_of_ble_eq_true rfl) (Nat.le_of_ble_eq_true rfl) dX5_init_13 (fun a2 H hP hD hS => ?_)
  replace hP : va_P E.1 vwCl [(a0, .inr (5, [.ref a1, .null, .int 0, .null, .null, .null, .int 0])), (a1, ai E 5 (fun _ => 0)), (a2, ai E 5 (fun _ => 0))] H := hP
  replace hD : va_D A [(a0, .inr (5, [.ref a1, .null, .int 0, .null, .null, .null, .int 0])), (a1, ai E 5 (fun _ => 0)), (a2, ai E 5 (fun _ => 0))] := hD
  refine W.widen (k := 2) (n := 10) (Nat.le_of_ble_eq_true rfl) (Nat.le_of_ble_eq_true rfl) ?_
  refine va_putF (D := E.1) (ci := 5) (v := .ref a2) (ty := (.array .int)) (C := RX5) (T := TX5) (N := 7) hx hb htg hwX5 tyX5 tyX5_ok nmX5 hown hK hP hD hS 0 rfl rfl 1 (by decide) (htg _ fl5_15) (fun _ h9 => h9) rfl hin rfl (by decide +kernel) rfl rfl (Nat.le_of_ble_eq_true rfl) dX5_init_15 (fun H locs hP hD hS => ?_)
  replace hP : va_P E.1 vwCl [(a0, .inr (5, [.ref a1, .ref a2, .int 0, .null, .null, .null, .int 0])), (a1, ai E 5 (fun _ => 0)), (a2, ai E 5 (fun _ => 0))] H := hP
  replace hD : va_D A [(a0, .inr (5, [.ref a1, .ref a2, .int 0, .null, .null, .null, .int 0])), (a1, ai E 5 (fun _ => 0)), (a2, ai E 5 (fun _ => 0))] := hD
  refine lv_aload_n hx hb dX5_init_18 rfl (lv_at hl 0 rfl) ?_
  refine lv_bipush (v := 60) hx hb dX5_init_19 rfl ?_
  refine xnewi (N := 60) hx hb htg hK hP hD hS hA (by decide) (by decide) (Nat.le_of_ble_eq_true rfl) (Nat.le_of_ble_eq_true rfl) (Nat.le_of_ble_eq_true rfl) dX5_init_21 (fun a3 H hP hD hS => ?_)
  replace hP : va_P E.1 vwCl [(a0, .inr (5, [.ref a1, .ref a2, .int 0, .null, .null, .null, .int 0])), (a1, ai E 5 (fun _ => 0)), (a2, ai E 5 (fun _ => 0)), (a3, ai E 60 (fun _ => 0))] H := hP
  replace hD : va_D A [(a0, .inr (5, [.ref a1, .ref a2, .int 0, .null, .null, .null, .int 0])), (a1, ai E 5 (fun _ => 0)), (a2, ai E 5 (fun _ => 0)), (a3, ai E 60 (fun _ => 0))] := hD
  refine W.widen (k := 3) (n := 70) (Nat.le_of_ble_eq_true rfl) (Nat.le_of_ble_eq_true rfl) ?_
  refine va_putF (D := E.1) (ci := 5) (v := .ref a3) (ty := (.array .int)) (C := RX5) (T := TX5) (N := 7) hx hb htg hwX5 tyX5 tyX5_ok nmX5 hown hK hP hD hS 0 rfl rfl 3 (by decide) (htg _ fl5_20) (fun _ h9 => h9) rfl hin rfl (by decide +kernel) rfl rfl (Nat.le_of_ble_eq_true rfl) dX5_init_23 (fun H locs hP hD hS => ?_)
  replace hP : va_P E.1 vwCl [(a0, .inr (5, [.ref a1, .ref a2, .int 0, .ref a3, .null, .null, .int 0])), (a1, ai E 5 (fun _ => 0)), (a2, ai E 5 (fun _ => 0)), (a3, ai E 60 (fun _ => 0))] H := hP
  replace hD : va_D A [(a0, .inr (5, [.ref a1, .ref a2, .int 0, .ref a3, .null, .null, .int 0])), (a1, ai E 5 (fun _ => 0)), (a2, ai E 5 (fun _ => 0)), (a3, ai E 60 (fun _ => 0))] := hD
  refine lv_aload_n hx hb dX5_init_26 rfl (lv_at hl 0 rfl) ?_
  refine va_new (ci := 7) (fs := [.null]) (C := RX7) (T := TX7) (N := 1) hx hb htg hwX7 tyX7 tyX7_ok hown (htg _ clX5_23) (htg _ is_X7) (htg _ inX7) hK hP hD hS hA rfl (fun j hj => by rcases (show j = 0 by omega) with rfl <;> rfl) (Nat.le_of_ble_eq_true rfl) (Nat.le_of_ble_eq_true rfl) dX5_init_27 (fun a4 H hP hD hS => ?_)
  replace hP : va_P E.1 vwCl [(a0, .inr (5, [.ref a1, .ref a2, .int 0, .ref a3, .null, .null, .int 0])), (a1, ai E 5 (fun _ => 0)), (a2, ai E 5 (fun _ => 0)), (a3, ai E 60 (fun _ => 0)), (a4, .inr (7, [.null]))] H := hP
  replace hD : va_D A [(a0, .inr (5, [.ref a1, .ref a2, .int 0, .ref a3, .null, .null, .int 0])), (a1, ai E 5 (fun _ => 0)), (a2, ai E 5 (fun _ => 0)), (a3, ai E 60 (fun _ => 0)), (a4, .inr (7, [.null]))] := hD
  refine W.widen (k := 4) (n := 71) (Nat.le_of_ble_eq_true rfl) (Nat.le_of_ble_eq_true rfl) ?_
  refine lv_dup hx hb dX5_init_30 rfl ?_
  refine xnewv (y := yX7_init) (bytes := cX7_init) (maxL := 1) (index := 25) (rm := ({ frames := 1, cells := 1, slots := 144, locals := 12 })) (k := 4) (isR := [0, 1, 2, 3]) (wr := [(a0, .inr (5, [.ref a1, .ref a2, .int 0, .ref a3, .null, .null, .int 0])), (a1, ai E 5 (fun _ => 0)), (a2, ai E 5 (fun _ => 0)), (a3, ai E 60 (fun _ => 0))]) (xrunIN hx hb hml hown htg (i_X7_init l E a4  _) 7 rfl imX7_init inX7 cwX7_init rfl ⟨by decide +kernel, by decide +kernel, by decide +kernel⟩ ⟨⟨rfl, rfl⟩, (Nat.le_of_ble_eq_true rfl), (Nat.le_of_ble_eq_true rfl)⟩ ⟨(Nat.le_of_ble_eq_true rfl), (Nat.le_of_ble_eq_true rfl)⟩ hK hG hA hP hD hS (k := 4) rfl hl.1 rfl (Nat.le_of_ble_eq_true rfl) dX5_init_31) hP hD hS hA rfl rfl rfl (by decide) (fun q31 H locs hP hD hS => ?_)
  obtain ⟨a5, e5⟩ : ∃ z, z = q31 0 := ⟨_, rfl⟩
  replace hP : va_P E.1 vwCl [(a0, .inr (5, [.ref a1, .ref a2, .int 0, .ref a3, .null, .null, .int 0])), (a1, ai E 5 (fun _ => 0)), (a2, ai E 5 (fun _ => 0)), (a3, ai E 60 (fun _ => 0)), (a4, o7 (q31 0)), ((q31 0), ai E 144 (fun _ => 0))] H := hP
  replace hD : va_D A [(a0, .inr (5, [.ref a1, .ref a2, .int 0, .ref a3, .null, .null, .int 0])), (a1, ai E 5 (fun _ => 0)), (a2, ai E 5 (fun _ => 0)), (a3, ai E 60 (fun _ => 0)), (a4, o7 (q31 0)), ((q31 0), ai E 144 (fun _ => 0))] := hD
  rw [← e5] at hP hD
  refine W.widen (k := 5) (n := 215) (Nat.le_of_ble_eq_true rfl) (Nat.le_of_ble_eq_true rfl) ?_
  refine va_putF (D := E.1) (ci := 5) (v := .ref a4) (ty := (.object "SighChart$Survey")) (C := RX5) (T := TX5) (N := 7) hx hb htg hwX5 tyX5 tyX5_ok nmX5 hown hK hP hD hS 0 rfl rfl 4 (by decide) (htg _ fl5_26) (fun _ h9 => h9) rfl hin rfl (by decide +kernel) rfl rfl (Nat.le_of_ble_eq_true rfl) dX5_init_34 (fun H locs hP hD hS => ?_)
  replace hP : va_P E.1 vwCl [(a0, .inr (5, [.ref a1, .ref a2, .int 0, .ref a3, .ref a4, .null, .int 0])), (a1, ai E 5 (fun _ => 0)), (a2, ai E 5 (fun _ => 0)), (a3, ai E 60 (fun _ => 0)), (a4, o7 a5), (a5, ai E 144 (fun _ => 0))] H := hP
  replace hD : va_D A [(a0, .inr (5, [.ref a1, .ref a2, .int 0, .ref a3, .ref a4, .null, .int 0])), (a1, ai E 5 (fun _ => 0)), (a2, ai E 5 (fun _ => 0)), (a3, ai E 60 (fun _ => 0)), (a4, o7 a5), (a5, ai E 144 (fun _ => 0))] := hD
  refine lv_aload_n hx hb dX5_init_37 rfl (lv_at hl 0 rfl) ?_
  refine va_new (ci := 6) (fs := [.null, .null, .null, .int 0, .int 0, .int 0]) (C := RX6) (T := TX6) (N := 6) hx hb htg hwX6 tyX6 tyX6_ok hown (htg _ clX5_30) (htg _ is_X6) (htg _ inX6) hK hP hD hS hA rfl (fun j hj => by rcases (show j = 0 ∨ j = 1 ∨ j = 2 ∨ j = 3 ∨ j = 4 ∨ j = 5 by omega) with rfl | rfl | rfl | rfl | rfl | rfl <;> rfl) (Nat.le_of_ble_eq_true rfl) (Nat.le_of_ble_eq_true rfl) dX5_init_38 (fun a6 H hP hD hS => ?_)
  replace hP : va_P E.1 vwCl [(a0, .inr (5, [.ref a1, .ref a2, .int 0, .ref a3, .ref a4, .null, .int 0])), (a1, ai E 5 (fun _ => 0)), (a2, ai E 5 (fun _ => 0)), (a3, ai E 60 (fun _ => 0)), (a4, o7 a5), (a5, ai E 144 (fun _ => 0)), (a6, .inr (6, [.null, .null, .null, .int 0, .int 0, .int 0]))] H := hP
  replace hD : va_D A [(a0, .inr (5, [.ref a1, .ref a2, .int 0, .ref a3, .ref a4, .null, .int 0])), (a1, ai E 5 (fun _ => 0)), (a2, ai E 5 (fun _ => 0)), (a3, ai E 60 (fun _ => 0)), (a4, o7 a5), (a5, ai E 144 (fun _ => 0)), (a6, .inr (6, [.null, .null, .null, .int 0, .int 0, .int 0]))] := hD
  refine W.widen (k := 6) (n := 221) (Nat.le_of_ble_eq_true rfl) (Nat.le_of_ble_eq_true rfl) ?_
  refine lv_dup hx hb dX5_init_41 rfl ?_
  refine xnewv (y := yX6_init) (bytes := cX6_init) (maxL := 1) (index := 32) (rm := ({ frames := 1, cells := 3, slots := 109, locals := 12 })) (k := 6) (isR := [0, 1, 2, 3, 4, 5]) (wr := [(a0, .inr (5, [.ref a1, .ref a2, .int 0, .ref a3, .ref a4, .null, .int 0])), (a1, ai E 5 (fun _ => 0)), (a2, ai E 5 (fun _ => 0)), (a3, ai E 60 (fun _ => 0)), (a4, o7 a5), (a5, ai E 144 (fun _ => 0))]) (xrunIN hx hb hml hown htg (i_X6_init l E a6  _) 8 rfl imX6_init inX6 cwX6_init rfl ⟨by decide +kernel, by decide +kernel, by decide +kernel⟩ ⟨⟨rfl, rfl⟩, (Nat.le_of_ble_eq_true rfl), (Nat.le_of_ble_eq_true rfl)⟩ ⟨(Nat.le_of_ble_eq_true rfl), (Nat.le_of_ble_eq_true rfl)⟩ hK hG hA hP hD hS (k := 6) rfl hl.1 rfl (Nat.le_of_ble_eq_true rfl) dX5_init_42) hP hD hS hA rfl rfl rfl (by decide) (fun q42 H locs hP hD hS => ?_)
  obtain ⟨a7, e7⟩ : ∃ z, z = q42 0 := ⟨_, rfl⟩
  obtain ⟨a8, e8⟩ : ∃ z, z = q42 1 := ⟨_, rfl⟩
  obtain ⟨a9, e9⟩ : ∃ z, z = q42 2 := ⟨_, rfl⟩
  replace hP : va_P E.1 vwCl [(a0, .inr (5, [.ref a1, .ref a2, .int 0, .ref a3, .ref a4, .null, .int 0])), (a1, ai E 5 (fun _ => 0)), (a2, ai E 5 (fun _ => 0)), (a3, ai E 60 (fun _ => 0)), (a4, o7 a5), (a5, ai E 144 (fun _ => 0)), (a6, o6 (fun _ => 0) (q42 0) (q42 1) (q42 2)), ((q42 0), ai E 36 (fun _ => 0)), ((q42 1), ai E 36 (fun _ => 0)), ((q42 2), ai E 37 (fun _ => 0))] H := hP
  replace hD : va_D A [(a0, .inr (5, [.ref a1, .ref a2, .int 0, .ref a3, .ref a4, .null, .int 0])), (a1, ai E 5 (fun _ => 0)), (a2, ai E 5 (fun _ => 0)), (a3, ai E 60 (fun _ => 0)), (a4, o7 a5), (a5, ai E 144 (fun _ => 0)), (a6, o6 (fun _ => 0) (q42 0) (q42 1) (q42 2)), ((q42 0), ai E 36 (fun _ => 0)), ((q42 1), ai E 36 (fun _ => 0)), ((q42 2), ai E 37 (fun _ => 0))] := hD
  rw [← e7, ← e8, ← e9] at hP hD
  refine W.widen (k := 9) (n := 330) (Nat.le_of_ble_eq_true rfl) (Nat.le_of_ble_eq_true rfl) ?_
  refine va_putF (D := E.1) (ci := 5) (v := .ref a6) (ty := (.object "SighChart$Route")) (C := RX5) (T := TX5) (N := 7) hx hb htg hwX5 tyX5 tyX5_ok nmX5 hown hK hP hD hS 0 rfl rfl 5 (by decide) (htg _ fl5_33) (fun _ h9 => h9) rfl hin rfl (by decide +kernel) rfl rfl (Nat.le_of_ble_eq_true rfl) dX5_init_45 (fun H locs hP hD hS => ?_)
  replace hP : va_P E.1 vwCl [(a0, .inr (5, [.ref a1, .ref a2, .int 0, .ref a3, .ref a4, .ref a6, .int 0])), (a1, ai E 5 (fun _ => 0)), (a2, ai E 5 (fun _ => 0)), (a3, ai E 60 (fun _ => 0)), (a4, o7 a5), (a5, ai E 144 (fun _ => 0)), (a6, o6 (fun _ => 0) a7 a8 a9), (a7, ai E 36 (fun _ => 0)), (a8, ai E 36 (fun _ => 0)), (a9, ai E 37 (fun _ => 0))] H := hP
  replace hD : va_D A [(a0, .inr (5, [.ref a1, .ref a2, .int 0, .ref a3, .ref a4, .ref a6, .int 0])), (a1, ai E 5 (fun _ => 0)), (a2, ai E 5 (fun _ => 0)), (a3, ai E 60 (fun _ => 0)), (a4, o7 a5), (a5, ai E 144 (fun _ => 0)), (a6, o6 (fun _ => 0) a7 a8 a9), (a7, ai E 36 (fun _ => 0)), (a8, ai E 36 (fun _ => 0)), (a9, ai E 37 (fun _ => 0))] := hD
  exact ret (fun k => match k with | 0 => a1 | 1 => a2 | 2 => a3 | 3 => a4 | 4 => a5 | 5 => a6 | 6 => a7 | 7 => a8 | _ => a9) hP hD hS dX5_init_48
theorem dX3_init_0 : decode cX3_init 0 = .ok (.aload_n 0, 1) := by decide +kernel
theorem dX3_init_1 : decode cX3_init 1 = .ok (.invokespecial 3, 3) := by decide +kernel
theorem dX3_init_4 : decode cX3_init 4 = .ok (.aload_n 0, 1) := by decide +kernel
theorem dX3_init_5 : decode cX3_init 5 = .ok (.iconst 4, 1) := by decide +kernel
theorem dX3_init_6 : decode cX3_init 6 = .ok (.putfield 11, 3) := by decide +kernel
theorem dX3_init_9 : decode cX3_init 9 = .ok (.aload_n 0, 1) := by decide +kernel
theorem dX3_init_10 : decode cX3_init 10 = .ok (.bipush 36, 2) := by decide +kernel
theorem dX3_init_12 : decode cX3_init 12 = .ok (.newarray .int, 2) := by decide +kernel
theorem dX3_init_14 : decode cX3_init 14 = .ok (.putfield 15, 3) := by decide +kernel
theorem dX3_init_17 : decode cX3_init 17 = .ok (.aload_n 0, 1) := by decide +kernel
theorem dX3_init_18 : decode cX3_init 18 = .ok (.iconst 5, 1) := by decide +kernel
theorem dX3_init_19 : decode cX3_init 19 = .ok (.newarray .int, 2) := by decide +kernel
theorem dX3_init_21 : decode cX3_init 21 = .ok (.putfield 19, 3) := by decide +kernel
theorem dX3_init_24 : decode cX3_init 24 = .ok (.aload_n 0, 1) := by decide +kernel
theorem dX3_init_25 : decode cX3_init 25 = .ok (.iconst 5, 1) := by decide +kernel
theorem dX3_init_26 : decode cX3_init 26 = .ok (.newarray .long, 2) := by decide +kernel
theorem dX3_init_28 : decode cX3_init 28 = .ok (.putfield 22, 3) := by decide +kernel
theorem dX3_init_31 : decode cX3_init 31 = .ok (.aload_n 0, 1) := by decide +kernel
theorem dX3_init_32 : decode cX3_init 32 = .ok (.bipush 12, 2) := by decide +kernel
theorem dX3_init_34 : decode cX3_init 34 = .ok (.newarray .int, 2) := by decide +kernel
theorem dX3_init_36 : decode cX3_init 36 = .ok (.putfield 26, 3) := by decide +kernel
theorem dX3_init_39 : decode cX3_init 39 = .ok (.aload_n 0, 1) := by decide +kernel
theorem dX3_init_40 : decode cX3_init 40 = .ok (.bipush 12, 2) := by decide +kernel
theorem dX3_init_42 : decode cX3_init 42 = .ok (.newarray .int, 2) := by decide +kernel
theorem dX3_init_44 : decode cX3_init 44 = .ok (.putfield 29, 3) := by decide +kernel
theorem dX3_init_47 : decode cX3_init 47 = .ok (.aload_n 0, 1) := by decide +kernel
theorem dX3_init_48 : decode cX3_init 48 = .ok (.bipush 12, 2) := by decide +kernel
theorem dX3_init_50 : decode cX3_init 50 = .ok (.newarray .int, 2) := by decide +kernel
theorem dX3_init_52 : decode cX3_init 52 = .ok (.putfield 32, 3) := by decide +kernel
theorem dX3_init_55 : decode cX3_init 55 = .ok (.aload_n 0, 1) := by decide +kernel
theorem dX3_init_56 : decode cX3_init 56 = .ok (.bipush 12, 2) := by decide +kernel
theorem dX3_init_58 : decode cX3_init 58 = .ok (.newarray .int, 2) := by decide +kernel
theorem dX3_init_60 : decode cX3_init 60 = .ok (.putfield 35, 3) := by decide +kernel
theorem dX3_init_63 : decode cX3_init 63 = .ok (.aload_n 0, 1) := by decide +kernel
theorem dX3_init_64 : decode cX3_init 64 = .ok (.new 38, 3) := by decide +kernel
theorem dX3_init_67 : decode cX3_init 67 = .ok (.dup, 1) := by decide +kernel
theorem dX3_init_68 : decode cX3_init 68 = .ok (.invokespecial 40, 3) := by decide +kernel
theorem dX3_init_71 : decode cX3_init 71 = .ok (.putfield 41, 3) := by decide +kernel
theorem dX3_init_74 : decode cX3_init 74 = .ok (.return_, 1) := by decide +kernel
set_option maxRecDepth 100000 in
set_option maxHeartbeats 4000000 in
theorem i_X3_init (l : Launch) (E : xE) (a0 : Nat)  (sz : Nat) : Met l yX3_init (Cond.code yX3_init cX3_init 1 none :: gw) ({ frames := 2, cells := 13, slots := 402, locals := 32 }) (xPc E [.ref a0] [(a0, .inr (3, [.int 0, .int 0, .int 0, .int 0, .int 0, .int 0, .int 0, .null, .null, .null, .null, .null, .null, .null, .null]))] sz) (xQc E (fun q => [(a0, o3 (upd (fun _ => 0) 2 4) (q 0) (q 1) (q 2) (q 3) (q 4) (q 5) (q 6) (q 7)), ((q 0), ai E 36 (fun _ => 0)), ((q 1), ai E 5 (fun _ => 0)), ((q 2), al E 5 (fun _ => 0)), ((q 3), ai E 12 (fun _ => 0)), ((q 4), ai E 12 (fun _ => 0)), ((q 5), ai E 12 (fun _ => 0)), ((q 6), ai E 12 (fun _ => 0)), ((q 7), o0 (fun _ => 0) (q 8) (q 9) (q 10) (q 11) (q 12)), ((q 8), ai E 60 (fun _ => 0)), ((q 9), ai E 60 (fun _ => 0)), ((q 10), ai E 60 (fun _ => 0)), ((q 11), ai E 60 (fun _ => 0)), ((q 12), ai E 60 (fun _ => 0))]) [(a0, .inr (3, [.int 0, .int 0, .int 0, .int 0, .int 0, .int 0, .int 0, .null, .null, .null, .null, .null, .null, .null, .null]))] sz) 13 402 (va_A [(a0, .inr (3, [.int 0, .int 0, .int 0, .int 0, .int 0, .int 0, .int 0, .null, .null, .null, .null, .null, .null, .null, .null]))] sz) := by
  refine xM_c (by decide +kernel) rfl (Nat.le_of_ble_eq_true rfl) ?_
  intro p e s m args below meth c A Q hx hb hml hown htg hK hG hA hin ret H locs ls hP hD hS hl
  replace hl : lv_has ls 1 [(0, .ref a0)] := hl
  refine lv_aload_n hx hb dX3_init_0 rfl (lv_at hl 0 rfl) ?_
  refine W.objInit hx hb hown (htg _ moX3_3) (htg _ imObj) (htg _ cwObj) rfl (by rw [hml]; exact hl.1) rfl dX3_init_1 (Nat.le_of_ble_eq_true rfl) (Nat.le_of_ble_eq_true rfl) ?_
  refine W.eq (g2 := F0 m 4 ls []) rfl ?_
  refine lv_aload_n hx hb dX3_init_4 rfl (lv_at hl 0 rfl) ?_
  refine lv_iconst (v := 4) hx hb dX3_init_5 rfl ?_
  refine va_put (D := E.1) (ci := 3) (v := .int 4) (ty := .int) (C := RX3) (T := TX3) (N := 15) hx hb htg hwX3 tyX3 tyX3_ok nmX3 hown hK hP hD hS 0 rfl rfl 2 (by decide) (htg _ fl3_11) (fun _ h9 => h9) rfl (by decide +kernel) rfl rfl (Nat.le_of_ble_eq_true rfl) dX3_init_6 (fun H locs hP hD hS => ?_)
  replace hP : va_P E.1 vwCl [(a0, .inr (3, [.int 0, .int 0, .int 4, .int 0, .int 0, .int 0, .int 0, .null, .null, .null, .null, .null, .null, .null, .null]))] H := hP
  replace hD : va_D A [(a0, .inr (3, [.int 0, .int 0, .int 4, .int 0, .int 0, .int 0, .int 0, .null, .null, .null, .null, .null, .null, .null, .null]))] := hD
  refine lv_aload_n hx hb dX3_init_9 rfl (lv_at hl 0 rfl) ?_
  refine lv_bipush (v := 36) hx hb dX3_init_10 rfl ?_
  refine xnewi (N := 36) hx hb htg hK hP hD hS hA (by decide) (by decide) (Nat.le_of_ble_eq_true rfl) (Nat.le_of_ble_eq_true rfl) (Nat.le_of_ble_eq_true rfl) dX3_init_12 (fun a1 H hP hD hS => ?_)
  replace hP : va_P E.1 vwCl [(a0, .inr (3, [.int 0, .int 0, .int 4, .int 0, .int 0, .int 0, .int 0, .null, .null, .null, .null, .null, .null, .null, .null])), (a1, ai E 36 (fun _ => 0))] H := hP
  replace hD : va_D A [(a0, .inr (3, [.int 0, .int 0, .int 4, .int 0, .int 0, .int 0, .int 0, .null, .null, .null, .null, .null, .null, .null, .null])), (a1, ai E 36 (fun _ => 0))] := hD
  refine W.widen (k := 1) (n := 36) (Nat.le_of_ble_eq_true rfl) (Nat.le_of_ble_eq_true rfl) ?_
  refine va_putF (D := E.1) (ci := 3) (v := .ref a1) (ty := (.array .int)) (C := RX3) (T := TX3) (N := 15) hx hb htg hwX3 tyX3 tyX3_ok nmX3 hown hK hP hD hS 0 rfl rfl 7 (by decide) (htg _ fl3_15) (fun _ h9 => h9) rfl hin rfl (by decide +kernel) rfl rfl (Nat.le_of_ble_eq_true rfl) dX3_init_14 (fun H locs hP hD hS => ?_)
  replace hP : va_P E.1 vwCl [(a0, .inr (3, [.int 0, .int 0, .int 4, .int 0, .int 0, .int 0, .int 0, .ref a1, .null, .null, .null, .null, .null, .null, .null])), (a1, ai E 36 (fun _ => 0))] H := hP
  replace hD : va_D A [(a0, .inr (3, [.int 0, .int 0, .int 4, .int 0, .int 0, .int 0, .int 0, .ref a1, .null, .null, .null, .null, .null, .null, .null])), (a1, ai E 36 (fun _ => 0))] := hD
  refine lv_aload_n hx hb dX3_init_17 rfl (lv_at hl 0 rfl) ?_
  refine lv_iconst (v := 5) hx hb dX3_init_18 rfl ?_
  refine xnewi (N := 5) hx hb htg hK hP hD hS hA (by decide) (by decide) (Nat.le_of_ble_eq_true rfl) (Nat.le_of_ble_eq_true rfl) (Nat.le_of_ble_eq_true rfl) dX3_init_19 (fun a2 H hP hD hS => ?_)
  replace hP : va_P E.1 vwCl [(a0, .inr (3, [.int 0, .int 0, .int 4, .int 0, .int 0, .int 0, .int 0, .ref a1, .null, .null, .null, .null, .null, .null, .null])), (a1, ai E 36 (fun _ => 0)), (a2, ai E 5 (fun _ => 0))] H := hP
  replace hD : va_D A [(a0, .inr (3, [.int 0, .int 0, .int 4, .int 0, .int 0, .int 0, .int 0, .ref a1, .null, .null, .null, .null, .null, .null, .null])), (a1, ai E 36 (fun _ => 0)), (a2, ai E 5 (fun _ => 0))] := hD
  refine W.widen (k := 2) (n := 41) (Nat.le_of_ble_eq_true rfl) (Nat.le_of_ble_eq_true rfl) ?_
  refine va_putF (D := E.1) (ci := 3) (v := .ref a2) (ty := (.array .int)) (C := RX3) (T := TX3) (N := 15) hx hb htg hwX3 tyX3 tyX3_ok nmX3 hown hK hP hD hS 0 rfl rfl 8 (by decide) (htg _ fl3_19) (fun _ h9 => h9) rfl hin rfl (by decide +kernel) rfl rfl (Nat.le_of_ble_eq_true rfl) dX3_init_21 (fun H locs hP hD hS => ?_)
  replace hP : va_P E.1 vwCl [(a0, .inr (3, [.int 0, .int 0, .int 4, .int 0, .int 0, .int 0, .int 0, .ref a1, .ref a2, .null, .null, .null, .null, .null, .null])), (a1, ai E 36 (fun _ => 0)), (a2, ai E 5 (fun _ => 0))] H := hP
  replace hD : va_D A [(a0, .inr (3, [.int 0, .int 0, .int 4, .int 0, .int 0, .int 0, .int 0, .ref a1, .ref a2, .null, .null, .null, .null, .null, .null])), (a1, ai E 36 (fun _ => 0)), (a2, ai E 5 (fun _ => 0))] := hD
  refine lv_aload_n hx hb dX3_init_24 rfl (lv_at hl 0 rfl) ?_
  refine lv_iconst (v := 5) hx hb dX3_init_25 rfl ?_
  refine xnewl (N := 5) hx hb htg hK hP hD hS hA (by decide) (by decide) (Nat.le_of_ble_eq_true rfl) (Nat.le_of_ble_eq_true rfl) (Nat.le_of_ble_eq_true rfl) dX3_init_26 (fun a3 H hP hD hS => ?_)
  replace hP : va_P E.1 vwCl [(a0, .inr (3, [.int 0, .int 0, .int 4, .int 0, .int 0, .int 0, .int 0, .ref a1, .ref a2, .null, .null, .null, .null, .null, .null])), (a1, ai E 36 (fun _ => 0)), (a2, ai E 5 (fun _ => 0)), (a3, al E 5 (fun _ => 0))] H := hP
  replace hD : va_D A [(a0, .inr (3, [.int 0, .int 0, .int 4, .int 0, .int 0, .int 0, .int 0, .ref a1, .ref a2, .null, .null, .null, .null, .null, .null])), (a1, ai E 36 (fun _ => 0)), (a2, ai E 5 (fun _ => 0)), (a3, al E 5 (fun _ => 0))] := hD
  refine W.widen (k := 3) (n := 46) (Nat.le_of_ble_eq_true rfl) (Nat.le_of_ble_eq_true rfl) ?_
  refine va_putF (D := E.1) (ci := 3) (v := .ref a3) (ty := (.array .long)) (C := RX3) (T := TX3) (N := 15) hx hb htg hwX3 tyX3 tyX3_ok nmX3 hown hK hP hD hS 0 rfl rfl 9 (by decide) (htg _ fl3_22) (fun _ h9 => h9) rfl hin rfl (by decide +kernel) rfl rfl (Nat.le_of_ble_eq_true rfl) dX3_init_28 (fun H locs hP hD hS => ?_)
  replace hP : va_P E.1 vwCl [(a0, .inr (3, [.int 0, .int 0, .int 4, .int 0, .int 0, .int 0, .int 0, .ref a1, .ref a2, .ref a3, .null, .null, .null, .null, .null])), (a1, ai E 36 (fun _ => 0)), (a2, ai E 5 (fun _ => 0)), (a3, al E 5 (fun _ => 0))] H := hP
  replace hD : va_D A [(a0, .inr (3, [.int 0, .int 0, .int 4, .int 0, .int 0, .int 0, .int 0, .ref a1, .ref a2, .ref a3, .null, .null, .null, .null, .null])), (a1, ai E 36 (fun _ => 0)), (a2, ai E 5 (fun _ => 0)), (a3, al E 5 (fun _ => 0))] := hD
  refine lv_aload_n hx hb dX3_init_31 rfl (lv_at hl 0 rfl) ?_
  refine lv_bipush (v := 12) hx hb dX3_init_32 rfl ?_
  refine xnewi (N := 12) hx hb htg hK hP hD hS hA (by decide) (by decide) (Nat.le_of_ble_eq_true rfl) (Nat.le_of_ble_eq_true rfl) (Nat.le_of_ble_eq_true rfl) dX3_init_34 (fun a4 H hP hD hS => ?_)
  replace hP : va_P E.1 vwCl [(a0, .inr (3, [.int 0, .int 0, .int 4, .int 0, .int 0, .int 0, .int 0, .ref a1, .ref a2, .ref a3, .null, .null, .null, .null, .null])), (a1, ai E 36 (fun _ => 0)), (a2, ai E 5 (fun _ => 0)), (a3, al E 5 (fun _ => 0)), (a4, ai E 12 (fun _ => 0))] H := hP
  replace hD : va_D A [(a0, .inr (3, [.int 0, .int 0, .int 4, .int 0, .int 0, .int 0, .int 0, .ref a1, .ref a2, .ref a3, .null, .null, .null, .null, .null])), (a1, ai E 36 (fun _ => 0)), (a2, ai E 5 (fun _ => 0)), (a3, al E 5 (fun _ => 0)), (a4, ai E 12 (fun _ => 0))] := hD
  refine W.widen (k := 4) (n := 58) (Nat.le_of_ble_eq_true rfl) (Nat.le_of_ble_eq_true rfl) ?_
  refine va_putF (D := E.1) (ci := 3) (v := .ref a4) (ty := (.array .int)) (C := RX3) (T := TX3) (N := 15) hx hb htg hwX3 tyX3 tyX3_ok nmX3 hown hK hP hD hS 0 rfl rfl 10 (by decide) (htg _ fl3_26) (fun _ h9 => h9) rfl hin rfl (by decide +kernel) rfl rfl (Nat.le_of_ble_eq_true rfl) dX3_init_36 (fun H locs hP hD hS => ?_)
  replace hP : va_P E.1 vwCl [(a0, .inr (3, [.int 0, .int 0, .int 4, .int 0, .int 0, .int 0, .int 0, .ref a1, .ref a2, .ref a3, .ref a4, .null, .null, .null, .null])), (a1, ai E 36 (fun _ => 0)), (a2, ai E 5 (fun _ => 0)), (a3, al E 5 (fun _ => 0)), (a4, ai E 12 (fun _ => 0))] H := hP
  replace hD : va_D A [(a0, .inr (3, [.int 0, .int 0, .int 4, .int 0, .int 0, .int 0, .int 0, .ref a1, .ref a2, .ref a3, .ref a4, .null, .null, .null, .null])), (a1, ai E 36 (fun _ => 0)), (a2, ai E 5 (fun _ => 0)), (a3, al E 5 (fun _ => 0)), (a4, ai E 12 (fun _ => 0))] := hD
  refine lv_aload_n hx hb dX3_init_39 rfl (lv_at hl 0 rfl) ?_
  refine lv_bipush (v := 12) hx hb dX3_init_40 rfl ?_
  refine xnewi (N := 12) hx hb htg hK hP hD hS hA (by decide) (by decide) (Nat.le_of_ble_eq_true rfl) (Nat.le_of_ble_eq_true rfl) (Nat.le_of_ble_eq_true rfl) dX3_init_42 (fun a5 H hP hD hS => ?_)
  replace hP : va_P E.1 vwCl [(a0, .inr (3, [.int 0, .int 0, .int 4, .int 0, .int 0, .int 0, .int 0, .ref a1, .ref a2, .ref a3, .ref a4, .null, .null, .null, .null])), (a1, ai E 36 (fun _ => 0)), (a2, ai E 5 (fun _ => 0)), (a3, al E 5 (fun _ => 0)), (a4, ai E 12 (fun _ => 0)), (a5, ai E 12 (fun _ => 0))] H := hP
  replace hD : va_D A [(a0, .inr (3, [.int 0, .int 0, .int 4, .int 0, .int 0, .int 0, .int 0, .ref a1, .ref a2, .ref a3, .ref a4, .null, .null, .null, .null])), (a1, ai E 36 (fun _ => 0)), (a2, ai E 5 (fun _ => 0)), (a3, al E 5 (fun _ => 0)), (a4, ai E 12 (fun _ => 0)), (a5, ai E 12 (fun _ => 0))] := hD
  refine W.widen (k := 5) (n := 70) (Nat.le_of_ble_eq_true rfl) (Nat.le_of_ble_eq_true rfl) ?_
  refine va_putF (D := E.1) (ci := 3) (v := .ref a5) (ty := (.array .int)) (C := RX3) (T := TX3) (N := 15) hx hb htg hwX3 tyX3 tyX3_ok nmX3 hown hK hP hD hS 0 rfl rfl 11 (by decide) (htg _ fl3_29) (fun _ h9 => h9) rfl hin rfl (by decide +kernel) rfl rfl (Nat.le_of_ble_eq_true rfl) dX3_init_44 (fun H locs hP hD hS => ?_)
  replace hP : va_P E.1 vwCl [(a0, .inr (3, [.int 0, .int 0, .int 4, .int 0, .int 0, .int 0, .int 0, .ref a1, .ref a2, .ref a3, .ref a4, .ref a5, .null, .null, .null])), (a1, ai E 36 (fun _ => 0)), (a2, ai E 5 (fun _ => 0)), (a3, al E 5 (fun _ => 0)), (a4, ai E 12 (fun _ => 0)), (a5, ai E 12 (fun _ => 0))] H := hP
  replace hD : va_D A [(a0, .inr (3, [.int 0, .int 0, .int 4, .int 0, .int 0, .int 0, .int 0, .ref a1, .ref a2, .ref a3, .ref a4, .ref a5, .null, .null, .null])), (a1, ai E 36 (fun _ => 0)), (a2, ai E 5 (fun _ => 0)), (a3, al E 5 (fun _ => 0)), (a4, ai E 12 (fun _ => 0)), (a5, ai E 12 (fun _ => 0))] := hD
  refine lv_aload_n hx hb dX3_init_47 rfl (lv_at hl 0 rfl) ?_
  refine lv_bipush (v := 12) hx hb dX3_init_48 rfl ?_
  refine xnewi (N := 12) hx hb htg hK hP hD hS hA (by decide) (by decide) (Nat.le_of_ble_eq_true rfl) (Nat.le_of_ble_eq_true rfl) (Nat.le_of_ble_eq_true rfl) dX3_init_50 (fun a6 H hP hD hS => ?_)
  replace hP : va_P E.1 vwCl [(a0, .inr (3, [.int 0, .int 0, .int 4, .int 0, .int 0, .int 0, .int 0, .ref a1, .ref a2, .ref a3, .ref a4, .ref a5, .null, .null, .null])), (a1, ai E 36 (fun _ => 0)), (a2, ai E 5 (fun _ => 0)), (a3, al E 5 (fun _ => 0)), (a4, ai E 12 (fun _ => 0)), (a5, ai E 12 (fun _ => 0)), (a6, ai E 12 (fun _ => 0))] H := hP
  replace hD : va_D A [(a0, .inr (3, [.int 0, .int 0, .int 4, .int 0, .int 0, .int 0, .int 0, .ref a1, .ref a2, .ref a3, .ref a4, .ref a5, .null, .null, .null])), (a1, ai E 36 (fun _ => 0)), (a2, ai E 5 (fun _ => 0)), (a3, al E 5 (fun _ => 0)), (a4, ai E 12 (fun _ => 0)), (a5, ai E 12 (fun _ => 0)), (a6, ai E 12 (fun _ => 0))] := hD
  refine W.widen (k := 6) (n := 82) (Nat.le_of_ble_eq_true rfl) (Nat.le_of_ble_eq_true rfl) ?_
  refine va_putF (D := E.1) (ci := 3) (v := .ref a6) (ty := (.array .int)) (C := RX3) (T := TX3) (N := 15) hx hb htg hwX3 tyX3 tyX3_ok nmX3 hown hK hP hD hS 0 rfl rfl 12 (by decide) (htg _ fl3_32) (fun _ h9 => h9) rfl hin rfl (by decide +kernel) rfl rfl (Nat.le_of_ble_eq_true rfl) dX3_init_52 (fun H locs hP hD hS => ?_)
  replace hP : va_P E.1 vwCl [(a0, .inr (3, [.int 0, .int 0, .int 4, .int 0, .int 0, .int 0, .int 0, .ref a1, .ref a2, .ref a3, .ref a4, .ref a5, .ref a6, .null, .null])), (a1, ai E 36 (fun _ => 0)), (a2, ai E 5 (fun _ => 0)), (a3, al E 5 (fun _ => 0)), (a4, ai E 12 (fun _ => 0)), (a5, ai E 12 (fun _ => 0)), (a6, ai E 12 (fun _ => 0))] H := hP
  replace hD : va_D A [(a0, .inr (3, [.int 0, .int 0, .int 4, .int 0, .int 0, .int 0, .int 0, .ref a1, .ref a2, .ref a3, .ref a4, .ref a5, .ref a6, .null, .null])), (a1, ai E 36 (fun _ => 0)), (a2, ai E 5 (fun _ => 0)), (a3, al E 5 (fun _ => 0)), (a4, ai E 12 (fun _ => 0)), (a5, ai E 12 (fun _ => 0)), (a6, ai E 12 (fun _ => 0))] := hD
  refine lv_aload_n hx hb dX3_init_55 rfl (lv_at hl 0 rfl) ?_
  refine lv_bipush (v := 12) hx hb dX3_init_56 rfl ?_
  refine xnewi (N := 12) hx hb htg hK hP hD hS hA (by decide) (by decide) (Nat.le_of_ble_eq_true rfl) (Nat.le_of_ble_eq_true rfl) (Nat.le_of_ble_eq_true rfl) dX3_init_58 (fun a7 H hP hD hS => ?_)
  replace hP : va_P E.1 vwCl [(a0, .inr (3, [.int 0, .int 0, .int 4, .int 0, .int 0, .int 0, .int 0, .ref a1, .ref a2, .ref a3, .ref a4, .ref a5, .ref a6, .null, .null])), (a1, ai E 36 (fun _ => 0)), (a2, ai E 5 (fun _ => 0)), (a3, al E 5 (fun _ => 0)), (a4, ai E 12 (fun _ => 0)), (a5, ai E 12 (fun _ => 0)), (a6, ai E 12 (fun _ => 0)), (a7, ai E 12 (fun _ => 0))] H := hP
  replace hD : va_D A [(a0, .inr (3, [.int 0, .int 0, .int 4, .int 0, .int 0, .int 0, .int 0, .ref a1, .ref a2, .ref a3, .ref a4, .ref a5, .ref a6, .null, .null])), (a1, ai E 36 (fun _ => 0)), (a2, ai E 5 (fun _ => 0)), (a3, al E 5 (fun _ => 0)), (a4, ai E 12 (fun _ => 0)), (a5, ai E 12 (fun _ => 0)), (a6, ai E 12 (fun _ => 0)), (a7, ai E 12 (fun _ => 0))] := hD
  refine W.widen (k := 7) (n := 94) (Nat.le_of_ble_eq_true rfl) (Nat.le_of_ble_eq_true rfl) ?_
  refine va_putF (D := E.1) (ci := 3) (v := .ref a7) (ty := (.array .int)) (C := RX3) (T := TX3) (N := 15) hx hb htg hwX3 tyX3 tyX3_ok nmX3 hown hK hP hD hS 0 rfl rfl 13 (by decide) (htg _ fl3_35) (fun _ h9 => h9) rfl hin rfl (by decide +kernel) rfl rfl (Nat.le_of_ble_eq_true rfl) dX3_init_60 (fun H locs hP hD hS => ?_)
  replace hP : va_P E.1 vwCl [(a0, .inr (3, [.int 0, .int 0, .int 4, .int 0, .int 0, .int 0, .int 0, .ref a1, .ref a2, .ref a3, .ref a4, .ref a5, .ref a6, .ref a7, .null])), (a1, ai E 36 (fun _ => 0)), (a2, ai E 5 (fun _ => 0)), (a3, al E 5 (fun _ => 0)), (a4, ai E 12 (fun _ => 0)), (a5, ai E 12 (fun _ => 0)), (a6, ai E 12 (fun _ => 0)), (a7, ai E 12 (fun _ => 0))] H := hP
  replace hD : va_D A [(a0, .inr (3, [.int 0, .int 0, .int 4, .int 0, .int 0, .int 0, .int 0, .ref a1, .ref a2, .ref a3, .ref a4, .ref a5, .ref a6, .ref a7, .null])), (a1, ai E 36 (fun _ => 0)), (a2, ai E 5 (fun _ => 0)), (a3, al E 5 (fun _ => 0)), (a4, ai E 12 (fun _ => 0)), (a5, ai E 12 (fun _ => 0)), (a6, ai E 12 (fun _ => 0)), (a7, ai E 12 (fun _ => 0))] := hD
  refine lv_aload_n hx hb dX3_init_63 rfl (lv_at hl 0 rfl) ?_
  refine va_new (ci := 0) (fs := [.int 0, .int 0, .int 0, .null, .null, .null, .null, .null]) (C := RX0) (T := TX0) (N := 8) hx hb htg hwX0 tyX0 tyX0_ok hown (htg _ clX3_38) (htg _ is_X0) (htg _ inX0) hK hP hD hS hA rfl (fun j hj => by rcases (show j = 0 ∨ j = 1 ∨ j = 2 ∨ j = 3 ∨ j = 4 ∨ j = 5 ∨ j = 6 ∨ j = 7 by omega) with rfl | rfl | rfl | rfl | rfl | rfl | rfl | rfl <;> rfl) (Nat.le_of_ble_eq_true rfl) (Nat.le_of_ble_eq_true rfl) dX3_init_64 (fun a8 H hP hD hS => ?_)
  replace hP : va_P E.1 vwCl [(a0, .inr (3, [.int 0, .int 0, .int 4, .int 0, .int 0, .int 0, .int 0, .ref a1, .ref a2, .ref a3, .ref a4, .ref a5, .ref a6, .ref a7, .null])), (a1, ai E 36 (fun _ => 0)), (a2, ai E 5 (fun _ => 0)), (a3, al E 5 (fun _ => 0)), (a4, ai E 12 (fun _ => 0)), (a5, ai E 12 (fun _ => 0)), (a6, ai E 12 (fun _ => 0)), (a7, ai E 12 (fun _ => 0)), (a8, .inr (0, [.int 0, .int 0, .int 0, .null, .null, .null, .null, .null]))] H := hP
  replace hD : va_D A [(a0, .inr (3, [.int 0, .int 0, .int 4, .int 0, .int 0, .int 0, .int 0, .ref a1, .ref a2, .ref a3, .ref a4, .ref a5, .ref a6, .ref a7, .null])), (a1, ai E 36 (fun _ => 0)), (a2, ai E 5 (fun _ => 0)), (a3, al E 5 (fun _ => 0)), (a4, ai E 12 (fun _ => 0)), (a5, ai E 12 (fun _ => 0)), (a6, ai E 12 (fun _ => 0)), (a7, ai E 12 (fun _ => 0)), (a8, .inr (0, [.int 0, .int 0, .int 0, .null, .null, .null, .null, .null]))] := hD
  refine W.widen (k := 8) (n := 102) (Nat.le_of_ble_eq_true rfl) (Nat.le_of_ble_eq_true rfl) ?_
  refine lv_dup hx hb dX3_init_67 rfl ?_
  refine xnewv (y := yX0_init) (bytes := cX0_init) (maxL := 1) (index := 40) (rm := ({ frames := 1, cells := 5, slots := 300, locals := 12 })) (k := 8) (isR := [0, 1, 2, 3, 4, 5, 6, 7]) (wr := [(a0, .inr (3, [.int 0, .int 0, .int 4, .int 0, .int 0, .int 0, .int 0, .ref a1, .ref a2, .ref a3, .ref a4, .ref a5, .ref a6, .ref a7, .null])), (a1, ai E 36 (fun _ => 0)), (a2, ai E 5 (fun _ => 0)), (a3, al E 5 (fun _ => 0)), (a4, ai E 12 (fun _ => 0)), (a5, ai E 12 (fun _ => 0)), (a6, ai E 12 (fun _ => 0)), (a7, ai E 12 (fun _ => 0))]) (xrunIN hx hb hml hown htg (i_X0_init l E a8  _) 10 rfl imX0_init inX0 cwX0_init rfl ⟨by decide +kernel, by decide +kernel, by decide +kernel⟩ ⟨⟨rfl, rfl⟩, (Nat.le_of_ble_eq_true rfl), (Nat.le_of_ble_eq_true rfl)⟩ ⟨(Nat.le_of_ble_eq_true rfl), (Nat.le_of_ble_eq_true rfl)⟩ hK hG hA hP hD hS (k := 8) rfl hl.1 rfl (Nat.le_of_ble_eq_true rfl) dX3_init_68) hP hD hS hA rfl rfl rfl (by decide) (fun q68 H locs hP hD hS => ?_)
  obtain ⟨a9, e9⟩ : ∃ z, z = q68 0 := ⟨_, rfl⟩
  obtain ⟨a10, e10⟩ : ∃ z, z = q68 1 := ⟨_, rfl⟩
  obtain ⟨a11, e11⟩ : ∃ z, z = q68 2 := ⟨_, rfl⟩
  obtain ⟨a12, e12⟩ : ∃ z, z = q68 3 := ⟨_, rfl⟩
  obtain ⟨a13, e13⟩ : ∃ z, z = q68 4 := ⟨_, rfl⟩
  replace hP : va_P E.1 vwCl [(a0, .inr (3, [.int 0, .int 0, .int 4, .int 0, .int 0, .int 0, .int 0, .ref a1, .ref a2, .ref a3, .ref a4, .ref a5, .ref a6, .ref a7, .null])), (a1, ai E 36 (fun _ => 0)), (a2, ai E 5 (fun _ => 0)), (a3, al E 5 (fun _ => 0)), (a4, ai E 12 (fun _ => 0)), (a5, ai E 12 (fun _ => 0)), (a6, ai E 12 (fun _ => 0)), (a7, ai E 12 (fun _ => 0)), (a8, o0 (fun _ => 0) (q68 0) (q68 1) (q68 2) (q68 3) (q68 4)), ((q68 0), ai E 60 (fun _ => 0)), ((q68 1), ai E 60 (fun _ => 0)), ((q68 2), ai E 60 (fun _ => 0)), ((q68 3), ai E 60 (fun _ => 0)), ((q68 4), ai E 60 (fun _ => 0))] H := hP
  replace hD : va_D A [(a0, .inr (3, [.int 0, .int 0, .int 4, .int 0, .int 0, .int 0, .int 0, .ref a1, .ref a2, .ref a3, .ref a4, .ref a5, .ref a6, .ref a7, .null])), (a1, ai E 36 (fun _ => 0)), (a2, ai E 5 (fun _ => 0)), (a3, al E 5 (fun _ => 0)), (a4, ai E 12 (fun _ => 0)), (a5, ai E 12 (fun _ => 0)), (a6, ai E 12 (fun _ => 0)), (a7, ai E 12 (fun _ => 0)), (a8, o0 (fun _ => 0) (q68 0) (q68 1) (q68 2) (q68 3) (q68 4)), ((q68 0), ai E 60 (fun _ => 0)), ((q68 1), ai E 60 (fun _ => 0)), ((q68 2), ai E 60 (fun _ => 0)), ((q68 3), ai E 60 (fun _ => 0)), ((q68 4), ai E 60 (fun _ => 0))] := hD
  rw [← e9, ← e10, ← e11, ← e12, ← e13] at hP hD
  refine W.widen (k := 13) (n := 402) (Nat.le_of_ble_eq_true rfl) (Nat.le_of_ble_eq_true rfl) ?_
  refine va_put (D := E.1) (ci := 3) (v := .ref a8) (ty := (.object "SighChart$Almanac")) (C := RX3) (T := TX3) (N := 15) hx hb htg hwX3 tyX3 tyX3_ok nmX3 hown hK hP hD hS 0 rfl rfl 14 (by decide) (htg _ fl3_41) (fun _ h9 => h9) rfl (by decide +kernel) rfl rfl (Nat.le_of_ble_eq_true rfl) dX3_init_71 (fun H locs hP hD hS => ?_)
  replace hP : va_P E.1 vwCl [(a0, .inr (3, [.int 0, .int 0, .int 4, .int 0, .int 0, .int 0, .int 0, .ref a1, .ref a2, .ref a3, .ref a4, .ref a5, .ref a6, .ref a7, .ref a8])), (a1, ai E 36 (fun _ => 0)), (a2, ai E 5 (fun _ => 0)), (a3, al E 5 (fun _ => 0)), (a4, ai E 12 (fun _ => 0)), (a5, ai E 12 (fun _ => 0)), (a6, ai E 12 (fun _ => 0)), (a7, ai E 12 (fun _ => 0)), (a8, o0 (fun _ => 0) a9 a10 a11 a12 a13), (a9, ai E 60 (fun _ => 0)), (a10, ai E 60 (fun _ => 0)), (a11, ai E 60 (fun _ => 0)), (a12, ai E 60 (fun _ => 0)), (a13, ai E 60 (fun _ => 0))] H := hP
  replace hD : va_D A [(a0, .inr (3, [.int 0, .int 0, .int 4, .int 0, .int 0, .int 0, .int 0, .ref a1, .ref a2, .ref a3, .ref a4, .ref a5, .ref a6, .ref a7, .ref a8])), (a1, ai E 36 (fun _ => 0)), (a2, ai E 5 (fun _ => 0)), (a3, al E 5 (fun _ => 0)), (a4, ai E 12 (fun _ => 0)), (a5, ai E 12 (fun _ => 0)), (a6, ai E 12 (fun _ => 0)), (a7, ai E 12 (fun _ => 0)), (a8, o0 (fun _ => 0) a9 a10 a11 a12 a13), (a9, ai E 60 (fun _ => 0)), (a10, ai E 60 (fun _ => 0)), (a11, ai E 60 (fun _ => 0)), (a12, ai E 60 (fun _ => 0)), (a13, ai E 60 (fun _ => 0))] := hD
  exact ret (fun k => match k with | 0 => a1 | 1 => a2 | 2 => a3 | 3 => a4 | 4 => a5 | 5 => a6 | 6 => a7 | 7 => a8 | 8 => a9 | 9 => a10 | 10 => a11 | 11 => a12 | _ => a13) hP hD hS dX3_init_74
def g_X8_init_25   (k25 : Int32 → Int32 → (Nat → Int64) → Option ((Nat → Int64))) : Int32 → Int32 → (Nat → Int64) → Option ((Nat → Int64)) := fun x1 x2 V2 => f_J0_length_8abf5_s0.bind (fun z28 => if z28 ≤ x2 then (some V2) else (if 23 ≤ x1 then (some V2) else ((f_J0_charAt_5068e_s0 x2).bind (fun z43 => if z43 = 32 then (k25 (x1 + 1) (x2 + 1) V2) else (ck (gd x1 23) (ck (gd x1 23) (k25 x1 (x2 + 1) (vp_updL V2 (Int32.toNatClampNeg x1) ((((V2 (Int32.toNatClampNeg x1)) * 32) + (Int32.toInt64 z43)) - 96)))))))))
def f_X8_init_25   (n : Nat) : Int32 → Int32 → (Nat → Int64) → Option ((Nat → Int64)) := iter (g_X8_init_25  ) (fun _ _ _ => none) n
def f_X8_init (V2 : Nat → Int64) : Option ((Nat → Int64)) := f_X8_init_25  xF 0 0 V2
theorem dX8_init_0 : decode cX8_init 0 = .ok (.aload_n 0, 1) := by decide +kernel
theorem dX8_init_1 : decode cX8_init 1 = .ok (.invokespecial 3, 3) := by decide +kernel
theorem dX8_init_4 : decode cX8_init 4 = .ok (.aload_n 0, 1) := by decide +kernel
theorem dX8_init_5 : decode cX8_init 5 = .ok (.sipush 900, 3) := by decide +kernel
theorem dX8_init_8 : decode cX8_init 8 = .ok (.newarray .byte, 2) := by decide +kernel
theorem dX8_init_10 : decode cX8_init 10 = .ok (.putfield 11, 3) := by decide +kernel
theorem dX8_init_13 : decode cX8_init 13 = .ok (.aload_n 0, 1) := by decide +kernel
theorem dX8_init_14 : decode cX8_init 14 = .ok (.bipush 23, 2) := by decide +kernel
theorem dX8_init_16 : decode cX8_init 16 = .ok (.newarray .long, 2) := by decide +kernel
theorem dX8_init_18 : decode cX8_init 18 = .ok (.putfield 15, 3) := by decide +kernel
theorem dX8_init_21 : decode cX8_init 21 = .ok (.iconst 0, 1) := by decide +kernel
theorem dX8_init_22 : decode cX8_init 22 = .ok (.istore_n 1, 1) := by decide +kernel
theorem dX8_init_23 : decode cX8_init 23 = .ok (.iconst 0, 1) := by decide +kernel
theorem dX8_init_24 : decode cX8_init 24 = .ok (.istore_n 2, 1) := by decide +kernel
theorem dX8_init_25 : decode cX8_init 25 = .ok (.iload_n 2, 1) := by decide +kernel
theorem dX8_init_26 : decode cX8_init 26 = .ok (.ldc 19, 2) := by decide +kernel
theorem dX8_init_28 : decode cX8_init 28 = .ok (.invokevirtual 21, 3) := by decide +kernel
theorem dX8_init_31 : decode cX8_init 31 = .ok (.if_icmp .ge 57, 3) := by decide +kernel
theorem dX8_init_34 : decode cX8_init 34 = .ok (.iload_n 1, 1) := by decide +kernel
theorem dX8_init_35 : decode cX8_init 35 = .ok (.bipush 23, 2) := by decide +kernel
theorem dX8_init_37 : decode cX8_init 37 = .ok (.if_icmp .ge 51, 3) := by decide +kernel
theorem dX8_init_40 : decode cX8_init 40 = .ok (.ldc 19, 2) := by decide +kernel
theorem dX8_init_42 : decode cX8_init 42 = .ok (.iload_n 2, 1) := by decide +kernel
theorem dX8_init_43 : decode cX8_init 43 = .ok (.invokevirtual 27, 3) := by decide +kernel
theorem dX8_init_46 : decode cX8_init 46 = .ok (.istore_n 3, 1) := by decide +kernel
theorem dX8_init_47 : decode cX8_init 47 = .ok (.iload_n 3, 1) := by decide +kernel
theorem dX8_init_48 : decode cX8_init 48 = .ok (.bipush 32, 2) := by decide +kernel
theorem dX8_init_50 : decode cX8_init 50 = .ok (.if_icmp .ne 9, 3) := by decide +kernel
theorem dX8_init_53 : decode cX8_init 53 = .ok (.iinc 1 1, 3) := by decide +kernel
theorem dX8_init_56 : decode cX8_init 56 = .ok (.goto 26, 3) := by decide +kernel
theorem dX8_init_59 : decode cX8_init 59 = .ok (.aload_n 0, 1) := by decide +kernel
theorem dX8_init_60 : decode cX8_init 60 = .ok (.getfield 15, 3) := by decide +kernel
theorem dX8_init_63 : decode cX8_init 63 = .ok (.iload_n 1, 1) := by decide +kernel
theorem dX8_init_64 : decode cX8_init 64 = .ok (.aload_n 0, 1) := by decide +kernel
theorem dX8_init_65 : decode cX8_init 65 = .ok (.getfield 15, 3) := by decide +kernel
theorem dX8_init_68 : decode cX8_init 68 = .ok (.iload_n 1, 1) := by decide +kernel
theorem dX8_init_69 : decode cX8_init 69 = .ok (.laload, 1) := by decide +kernel
theorem dX8_init_70 : decode cX8_init 70 = .ok (.ldc2_w 31, 3) := by decide +kernel
theorem dX8_init_73 : decode cX8_init 73 = .ok (.lmul, 1) := by decide +kernel
theorem dX8_init_74 : decode cX8_init 74 = .ok (.iload_n 3, 1) := by decide +kernel
theorem dX8_init_75 : decode cX8_init 75 = .ok (.i2l, 1) := by decide +kernel
theorem dX8_init_76 : decode cX8_init 76 = .ok (.ladd, 1) := by decide +kernel
theorem dX8_init_77 : decode cX8_init 77 = .ok (.ldc2_w 33, 3) := by decide +kernel
theorem dX8_init_80 : decode cX8_init 80 = .ok (.lsub, 1) := by decide +kernel
theorem dX8_init_81 : decode cX8_init 81 = .ok (.lastore, 1) := by decide +kernel
theorem dX8_init_82 : decode cX8_init 82 = .ok (.iinc 2 1, 3) := by decide +kernel
theorem dX8_init_85 : decode cX8_init 85 = .ok (.goto (-60), 3) := by decide +kernel
theorem dX8_init_88 : decode cX8_init 88 = .ok (.return_, 1) := by decide +kernel
set_option maxRecDepth 100000 in
set_option maxHeartbeats 4000000 in
theorem i_X8_init (l : Launch) (E : xE) (a0 : Nat) {z : (Nat → Int64)} (hf : f_X8_init (fun _ => 0) = some z) (sz : Nat) : Met l yX8_init (Cond.code yX8_init cX8_init 4 none :: gw) ({ frames := 4, cells := 2, slots := 923, locals := 85 }) (xPc E [.ref a0] [(a0, .inr (8, [.null, .null, .int 0, .int 0, .int 0, .int 0, .int 0, .int 0, .long 0, .int 0, .int 0]))] sz) (xQc E (fun q => [(a0, o8 (fun _ => 0) 0 (q 0) (q 1)), ((q 0), ab E 900 (fun _ => 0)), ((q 1), al E 23 z)]) [(a0, .inr (8, [.null, .null, .int 0, .int 0, .int 0, .int 0, .int 0, .int 0, .long 0, .int 0, .int 0]))] sz) 2 923 (va_A [(a0, .inr (8, [.null, .null, .int 0, .int 0, .int 0, .int 0, .int 0, .int 0, .long 0, .int 0, .int 0]))] sz) := by
  refine xM_c (by decide +kernel) rfl (Nat.le_of_ble_eq_true rfl) ?_
  intro p e s m args below meth c A Q hx hb hml hown htg hK hG hA hin ret0 H locs ls hP hD hS hl
  replace hl : lv_has ls 4 [(0, .ref a0)] := hl
  refine lv_aload_n hx hb dX8_init_0 rfl (lv_at hl 0 rfl) ?_
  refine W.objInit hx hb hown (htg _ moX8_3) (htg _ imObj) (htg _ cwObj) rfl (by rw [hml]; exact hl.1) rfl dX8_init_1 (Nat.le_of_ble_eq_true rfl) (Nat.le_of_ble_eq_true rfl) ?_
  refine W.eq (g2 := F0 m 4 ls []) rfl ?_
  refine lv_aload_n hx hb dX8_init_4 rfl (lv_at hl 0 rfl) ?_
  refine lv_sipush (v := 900) hx hb dX8_init_5 rfl ?_
  refine xnewb (N := 900) hx hb htg hK hP hD hS hA (by decide) (by decide) (Nat.le_of_ble_eq_true rfl) (Nat.le_of_ble_eq_true rfl) (Nat.le_of_ble_eq_true rfl) dX8_init_8 (fun a1 H hP hD hS => ?_)
  replace hP : va_P E.1 vwCl [(a0, .inr (8, [.null, .null, .int 0, .int 0, .int 0, .int 0, .int 0, .int 0, .long 0, .int 0, .int 0])), (a1, ab E 900 (fun _ => 0))] H := hP
  replace hD : va_D A [(a0, .inr (8, [.null, .null, .int 0, .int 0, .int 0, .int 0, .int 0, .int 0, .long 0, .int 0, .int 0])), (a1, ab E 900 (fun _ => 0))] := hD
  refine W.widen (k := 1) (n := 900) (Nat.le_of_ble_eq_true rfl) (Nat.le_of_ble_eq_true rfl) ?_
  refine va_putF (D := E.1) (ci := 8) (v := .ref a1) (ty := (.array .byte)) (C := RX8) (T := TX8) (N := 11) hx hb htg hwX8 tyX8 tyX8_ok nmX8 hown hK hP hD hS 0 rfl rfl 0 (by decide) (htg _ fl8_11) (fun _ h9 => h9) rfl hin rfl (by decide +kernel) rfl rfl (Nat.le_of_ble_eq_true rfl) dX8_init_10 (fun H locs hP hD hS => ?_)
  replace hP : va_P E.1 vwCl [(a0, .inr (8, [.ref a1, .null, .int 0, .int 0, .int 0, .int 0, .int 0, .int 0, .long 0, .int 0, .int 0])), (a1, ab E 900 (fun _ => 0))] H := hP
  replace hD : va_D A [(a0, .inr (8, [.ref a1, .null, .int 0, .int 0, .int 0, .int 0, .int 0, .int 0, .long 0, .int 0, .int 0])), (a1, ab E 900 (fun _ => 0))] := hD
  refine lv_aload_n hx hb dX8_init_13 rfl (lv_at hl 0 rfl) ?_
  refine lv_bipush (v := 23) hx hb dX8_init_14 rfl ?_
  refine xnewl (N := 23) hx hb htg hK hP hD hS hA (by decide) (by decide) (Nat.le_of_ble_eq_true rfl) (Nat.le_of_ble_eq_true rfl) (Nat.le_of_ble_eq_true rfl) dX8_init_16 (fun a2 H hP hD hS => ?_)
  replace hP : va_P E.1 vwCl [(a0, .inr (8, [.ref a1, .null, .int 0, .int 0, .int 0, .int 0, .int 0, .int 0, .long 0, .int 0, .int 0])), (a1, ab E 900 (fun _ => 0)), (a2, al E 23 (fun _ => 0))] H := hP
  replace hD : va_D A [(a0, .inr (8, [.ref a1, .null, .int 0, .int 0, .int 0, .int 0, .int 0, .int 0, .long 0, .int 0, .int 0])), (a1, ab E 900 (fun _ => 0)), (a2, al E 23 (fun _ => 0))] := hD
  refine W.widen (k := 2) (n := 923) (Nat.le_of_ble_eq_true rfl) (Nat.le_of_ble_eq_true rfl) ?_
  refine va_putF (D := E.1) (ci := 8) (v := .ref a2) (ty := (.array .long)) (C := RX8) (T := TX8) (N := 11) hx hb htg hwX8 tyX8 tyX8_ok nmX8 hown hK hP hD hS 0 rfl rfl 1 (by decide) (htg _ fl8_15) (fun _ h9 => h9) rfl hin rfl (by decide +kernel) rfl rfl (Nat.le_of_ble_eq_true rfl) dX8_init_18 (fun H locs hP hD hS => ?_)
  replace hP : va_P E.1 vwCl [(a0, .inr (8, [.ref a1, .ref a2, .int 0, .int 0, .int 0, .int 0, .int 0, .int 0, .long 0, .int 0, .int 0])), (a1, ab E 900 (fun _ => 0)), (a2, al E 23 (fun _ => 0))] H := hP
  replace hD : va_D A [(a0, .inr (8, [.ref a1, .ref a2, .int 0, .int 0, .int 0, .int 0, .int 0, .int 0, .long 0, .int 0, .int 0])), (a1, ab E 900 (fun _ => 0)), (a2, al E 23 (fun _ => 0))] := hD
  obtain ⟨T0, eT0⟩ : ∃ z9 : Nat → Int32, z9 = (fun _ => 0) := ⟨_, rfl⟩
  obtain ⟨J0_8, eJ0_8⟩ : ∃ z9 : Int64, z9 = 0 := ⟨_, rfl⟩
  obtain ⟨V1, eV1⟩ : ∃ z9 : Nat → Int32, z9 = (fun _ => 0) := ⟨_, rfl⟩
  obtain ⟨V2, eV2⟩ : ∃ z9 : Nat → Int64, z9 = (fun _ => 0) := ⟨_, rfl⟩
  replace hP : va_P E.1 vwCl [(a0, o8 T0 J0_8 a1 a2), (a1, ab E 900 V1), (a2, al E 23 V2)] H := by rw [eT0, eJ0_8, eV1, eV2]; exact hP
  replace hD : va_D A [(a0, o8 T0 J0_8 a1 a2), (a1, ab E 900 V1), (a2, al E 23 V2)] := by rw [eT0, eJ0_8, eV1, eV2]; exact hD
  have hD0 := hD
  replace hf : f_X8_init V2 = some z := by rw [eV2]; exact hf
  have ret : ∀ (z' : (Nat → Int64)) {H : Heap} {locs : List Loc} {pc : Nat} {ls : Array Slot}, some z' = some z → va_P E.1 vwCl [(a0, o8 T0 J0_8 a1 a2), (a1, ab E 900 V1), (a2, al E 23 z')] H → va_S A s.heap H locs → decode cX8_init pc = .ok (.return_, 1) → W p l e ({ frames := 4, cells := 2, slots := 923, locals := 85 } : Room) s m args below meth c H locs 2 923 Q (F0 m pc ls []) := by
    intro z' H9 locs9 pc9 ls9 h9 hP9 hS9 hd9
    cases h9
    subst eT0 eJ0_8 eV1 eV2
    exact ret0 (fun k => match k with | 0 => a1 | _ => a2) hP9 (va_D_adr hD0 rfl) hS9 hd9
  have b25 : ∀ (n : Nat) (x1 : Int32) (x2 : Int32) (V2 : Nat → Int64) (H : Heap) (locs : List Loc) (ls : Array Slot), f_X8_init_25 n x1 x2 V2 = some z → va_P E.1 vwCl [(a0, o8 T0 J0_8 a1 a2), (a1, ab E 900 V1), (a2, al E 23 V2)] H → va_D A [(a0, o8 T0 J0_8 a1 a2), (a1, ab E 900 V1), (a2, al E 23 V2)] → va_S A s.heap H locs → lv_has ls 4 [(0, .ref a0), (1, .int x1), (2, .int x2)] → W p l e ({ frames := 4, cells := 2, slots := 923, locals := 85 } : Room) s m args below meth c H locs 2 923 Q (F0 m 25 ls []) := by
    intro n
    induction n with
    | zero => intro x1 x2 V2 H locs ls hf; exact (nn_s hf).elim
    | succ n ih25 =>
      obtain ⟨k25, ek25⟩ : ∃ k, k = f_X8_init_25 n := ⟨_, rfl⟩
      rw [← ek25] at ih25
      intro x1 x2 V2 H locs ls hf hP hD hS hl
      replace hf : g_X8_init_25 k25 x1 x2 V2 = some z := by rw [ek25]; exact hf
      unfold g_X8_init_25 at hf
      refine lv_iload_n hx hb dX8_init_25 rfl (lv_at hl 2 rfl) ?_
      refine va_ldcS hx hb hown hG.2.1 dX8_init_26 ?_
      obtain ⟨z28, hz28, hf⟩ := bind_s hf
      refine xV_ir hx hb hml hown htg L8_21 (c_J0_length_8abf5_s0 l E hz28 _) ⟨⟨rfl, rfl⟩, Nat.le_of_ble_eq_true rfl, Nat.le_of_ble_eq_true rfl⟩ hK hG hA hP hD hS (is := []) rfl rfl (vk_recv hG.1.1 (i := 0) (by decide) hS) rfl hl.1 rfl (Nat.le_of_ble_eq_true rfl) dX8_init_28 (fun H locs hP hD hS => ?_) ⟨Nat.le_of_ble_eq_true rfl, Nat.le_of_ble_eq_true rfl⟩
      refine lv_icmp_ge (tgt := 88) hx hb dX8_init_31 (by decide) (fun c31 => ?_) (fun c31 => ?_)
      · have hf := it_t c31 hf
        exact ret V2 hf hP hS dX8_init_88
      · have hf := it_f c31 hf
        refine lv_iload_n hx hb dX8_init_34 rfl (lv_at hl 1 rfl) ?_
        refine lv_bipush (v := 23) hx hb dX8_init_35 rfl ?_
        refine lv_icmp_ge (tgt := 88) hx hb dX8_init_37 (by decide) (fun c37 => ?_) (fun c37 => ?_)
        · have hf := it_t c37 hf
          exact ret V2 hf hP hS dX8_init_88
        · have hf := it_f c37 hf
          refine va_ldcS hx hb hown hG.2.1 dX8_init_40 ?_
          refine lv_iload_n hx hb dX8_init_42 rfl (lv_at hl 2 rfl) ?_
          obtain ⟨z43, hz43, hf⟩ := bind_s hf
          refine xV_ir hx hb hml hown htg L8_27 (c_J0_charAt_5068e_s0 l E hz43 _) ⟨⟨rfl, rfl⟩, Nat.le_of_ble_eq_true rfl, Nat.le_of_ble_eq_true rfl⟩ hK hG hA hP hD hS (is := []) rfl rfl (vk_recv hG.1.1 (i := 0) (by decide) hS) rfl hl.1 rfl (Nat.le_of_ble_eq_true rfl) dX8_init_43 (fun H locs hP hD hS => ?_) ⟨Nat.le_of_ble_eq_true rfl, Nat.le_of_ble_eq_true rfl⟩
          refine lv_istore_n (lv' := [(3, .int z43), (0, .ref a0), (1, .int x1), (2, .int x2)]) hx hb dX8_init_46 rfl hl (by decide) rfl (fun ls hl => ?_)
          refine lv_iload_n hx hb dX8_init_47 rfl (lv_at hl 0 rfl) ?_
          refine lv_bipush (v := 32) hx hb dX8_init_48 rfl ?_
          refine lv_icmp_ne (tgt := 59) hx hb dX8_init_50 (by decide) (fun c50 => ?_) (fun c50 => ?_)
          · have hf := it_f c50 hf
            refine lv_aload_n hx hb dX8_init_59 rfl (lv_at hl 1 rfl) ?_
            refine G8_15 hx hb htg hown hK hP 0 rfl dX8_init_60 ?_
            refine lv_iload_n hx hb dX8_init_63 rfl (lv_at hl 2 rfl) ?_
            refine lv_aload_n hx hb dX8_init_64 rfl (lv_at hl 1 rfl) ?_
            refine G8_15 hx hb htg hown hK hP 0 rfl dX8_init_65 ?_
            refine lv_iload_n hx hb dX8_init_68 rfl (lv_at hl 2 rfl) ?_
            obtain ⟨g69, hf⟩ := ck_s hf
            refine xlald hx hb hK hP 2 rfl g69 dX8_init_69 ?_
            refine lv_ldc2 hx hb hown (htg _ (gw_t (tb1 109 rfl) rfl)) dX8_init_70 ?_
            refine lv_lmul hx hb dX8_init_73 ?_
            refine lv_iload_n hx hb dX8_init_74 rfl (lv_at hl 0 rfl) ?_
            refine lv_i2l hx hb dX8_init_75 rfl ?_
            refine lv_ladd hx hb dX8_init_76 ?_
            refine lv_ldc2 hx hb hown (htg _ (gw_t (tb1 110 rfl) rfl)) dX8_init_77 ?_
            refine lv_lsub hx hb dX8_init_80 ?_
            obtain ⟨g81, hf⟩ := ck_s hf
            refine xlast hx hb hK hP hD hS 2 rfl g81 dX8_init_81 (fun H locs hP hD hS => ?_)
            refine lv_iinc (v := x2 + 1) (lv' := [(2, .int (x2 + 1)), (3, .int z43), (0, .ref a0), (1, .int x1)]) hx hb dX8_init_82 hl (k := 3) rfl rfl (by decide) rfl (fun ls hl => ?_)
            refine lv_goto (tgt := 25) hx hb dX8_init_85 (by decide) ?_
            exact ih25 x1 (x2 + 1) (vp_updL V2 (Int32.toNatClampNeg x1) ((((V2 (Int32.toNatClampNeg x1)) * 32) + (Int32.toInt64 z43)) - 96)) _ _ _ hf hP hD hS (lv_sub hl [2, 3, 0] rfl)
          · have hf := it_t c50 hf
            refine lv_iinc (v := x1 + 1) (lv' := [(1, .int (x1 + 1)), (3, .int z43), (0, .ref a0), (2, .int x2)]) hx hb dX8_init_53 hl (k := 2) rfl rfl (by decide) rfl (fun ls hl => ?_)
            refine lv_goto (tgt := 82) hx hb dX8_init_56 (by decide) ?_
            refine lv_iinc (v := x2 + 1) (lv' := [(2, .int (x2 + 1)), (1, .int (x1 + 1)), (3, .int z43), (0, .ref a0)]) hx hb dX8_init_82 hl (k := 3) rfl rfl (by decide) rfl (fun ls hl => ?_)
            refine lv_goto (tgt := 25) hx hb dX8_init_85 (by decide) ?_
            exact ih25 (x1 + 1) (x2 + 1) V2 _ _ _ hf hP hD hS (lv_sub hl [3, 1, 0] rfl)
  unfold f_X8_init at hf
  refine lv_iconst (v := 0) hx hb dX8_init_21 rfl ?_
  refine lv_istore_n (lv' := [(1, .int 0), (0, .ref a0)]) hx hb dX8_init_22 rfl hl (by decide) rfl (fun ls hl => ?_)
  refine lv_iconst (v := 0) hx hb dX8_init_23 rfl ?_
  refine lv_istore_n (lv' := [(2, .int 0), (1, .int 0), (0, .ref a0)]) hx hb dX8_init_24 rfl hl (by decide) rfl (fun ls hl => ?_)
  exact b25 xF 0 0 V2 _ _ _ hf hP hD hS (lv_sub hl [2, 1, 0] rfl)
def g_X12_init_109   (k109 : Int32 → (Nat → Int32) → (Nat → Int32) → Option ((Nat → Int32) × (Nat → Int32))) : Int32 → (Nat → Int32) → (Nat → Int32) → Option ((Nat → Int32) × (Nat → Int32)) := fun x1 V2 V5 => if 4 ≤ x1 then ((f_X12_empties V5 0).bind (fun z129 => some (V2, z129))) else (ck (gd x1 4) (k109 (x1 + 1) (upd V2 (Int32.toNatClampNeg x1) (-1)) V5))
def f_X12_init_109   (n : Nat) : Int32 → (Nat → Int32) → (Nat → Int32) → Option ((Nat → Int32) × (Nat → Int32)) := iter (g_X12_init_109  ) (fun _ _ _ => none) n
def f_X12_init (V2 : Nat → Int32) (V5 : Nat → Int32) : Option ((Nat → Int32) × (Nat → Int32)) := f_X12_init_109  xF 0 V2 V5
theorem dX12_init_0 : decode cX12_init 0 = .ok (.aload_n 0, 1) := by decide +kernel
theorem dX12_init_1 : decode cX12_init 1 = .ok (.invokespecial 1, 3) := by decide +kernel
theorem dX12_init_4 : decode cX12_init 4 = .ok (.aload_n 0, 1) := by decide +kernel
theorem dX12_init_5 : decode cX12_init 5 = .ok (.lconst 1, 1) := by decide +kernel
theorem dX12_init_6 : decode cX12_init 6 = .ok (.putfield 7, 3) := by decide +kernel
theorem dX12_init_9 : decode cX12_init 9 = .ok (.aload_n 0, 1) := by decide +kernel
theorem dX12_init_10 : decode cX12_init 10 = .ok (.iconst 4, 1) := by decide +kernel
theorem dX12_init_11 : decode cX12_init 11 = .ok (.newarray .int, 2) := by decide +kernel
theorem dX12_init_13 : decode cX12_init 13 = .ok (.putfield 13, 3) := by decide +kernel
theorem dX12_init_16 : decode cX12_init 16 = .ok (.aload_n 0, 1) := by decide +kernel
theorem dX12_init_17 : decode cX12_init 17 = .ok (.iconst 4, 1) := by decide +kernel
theorem dX12_init_18 : decode cX12_init 18 = .ok (.newarray .int, 2) := by decide +kernel
theorem dX12_init_20 : decode cX12_init 20 = .ok (.putfield 17, 3) := by decide +kernel
theorem dX12_init_23 : decode cX12_init 23 = .ok (.aload_n 0, 1) := by decide +kernel
theorem dX12_init_24 : decode cX12_init 24 = .ok (.sipush 240, 3) := by decide +kernel
theorem dX12_init_27 : decode cX12_init 27 = .ok (.newarray .long, 2) := by decide +kernel
theorem dX12_init_29 : decode cX12_init 29 = .ok (.putfield 20, 3) := by decide +kernel
theorem dX12_init_32 : decode cX12_init 32 = .ok (.aload_n 0, 1) := by decide +kernel
theorem dX12_init_33 : decode cX12_init 33 = .ok (.sipush 900, 3) := by decide +kernel
theorem dX12_init_36 : decode cX12_init 36 = .ok (.newarray .byte, 2) := by decide +kernel
theorem dX12_init_38 : decode cX12_init 38 = .ok (.putfield 24, 3) := by decide +kernel
theorem dX12_init_41 : decode cX12_init 41 = .ok (.aload_n 0, 1) := by decide +kernel
theorem dX12_init_42 : decode cX12_init 42 = .ok (.iconst (-1), 1) := by decide +kernel
theorem dX12_init_43 : decode cX12_init 43 = .ok (.putfield 28, 3) := by decide +kernel
theorem dX12_init_46 : decode cX12_init 46 = .ok (.aload_n 0, 1) := by decide +kernel
theorem dX12_init_47 : decode cX12_init 47 = .ok (.iconst (-1), 1) := by decide +kernel
theorem dX12_init_48 : decode cX12_init 48 = .ok (.putfield 32, 3) := by decide +kernel
theorem dX12_init_51 : decode cX12_init 51 = .ok (.aload_n 0, 1) := by decide +kernel
theorem dX12_init_52 : decode cX12_init 52 = .ok (.sipush 1860, 3) := by decide +kernel
theorem dX12_init_55 : decode cX12_init 55 = .ok (.newarray .int, 2) := by decide +kernel
theorem dX12_init_57 : decode cX12_init 57 = .ok (.putfield 35, 3) := by decide +kernel
theorem dX12_init_60 : decode cX12_init 60 = .ok (.aload_n 0, 1) := by decide +kernel
theorem dX12_init_61 : decode cX12_init 61 = .ok (.bipush 100, 2) := by decide +kernel
theorem dX12_init_63 : decode cX12_init 63 = .ok (.newarray .int, 2) := by decide +kernel
theorem dX12_init_65 : decode cX12_init 65 = .ok (.putfield 38, 3) := by decide +kernel
theorem dX12_init_68 : decode cX12_init 68 = .ok (.aload_n 0, 1) := by decide +kernel
theorem dX12_init_69 : decode cX12_init 69 = .ok (.bipush 25, 2) := by decide +kernel
theorem dX12_init_71 : decode cX12_init 71 = .ok (.newarray .long, 2) := by decide +kernel
theorem dX12_init_73 : decode cX12_init 73 = .ok (.putfield 41, 3) := by decide +kernel
theorem dX12_init_76 : decode cX12_init 76 = .ok (.aload_n 0, 1) := by decide +kernel
theorem dX12_init_77 : decode cX12_init 77 = .ok (.bipush 36, 2) := by decide +kernel
theorem dX12_init_79 : decode cX12_init 79 = .ok (.newarray .int, 2) := by decide +kernel
theorem dX12_init_81 : decode cX12_init 81 = .ok (.putfield 44, 3) := by decide +kernel
theorem dX12_init_84 : decode cX12_init 84 = .ok (.aload_n 0, 1) := by decide +kernel
theorem dX12_init_85 : decode cX12_init 85 = .ok (.bipush 36, 2) := by decide +kernel
theorem dX12_init_87 : decode cX12_init 87 = .ok (.newarray .int, 2) := by decide +kernel
theorem dX12_init_89 : decode cX12_init 89 = .ok (.putfield 47, 3) := by decide +kernel
theorem dX12_init_92 : decode cX12_init 92 = .ok (.aload_n 0, 1) := by decide +kernel
theorem dX12_init_93 : decode cX12_init 93 = .ok (.bipush 13, 2) := by decide +kernel
theorem dX12_init_95 : decode cX12_init 95 = .ok (.newarray .long, 2) := by decide +kernel
theorem dX12_init_97 : decode cX12_init 97 = .ok (.putfield 50, 3) := by decide +kernel
theorem dX12_init_100 : decode cX12_init 100 = .ok (.aload_n 0, 1) := by decide +kernel
theorem dX12_init_101 : decode cX12_init 101 = .ok (.iconst 5, 1) := by decide +kernel
theorem dX12_init_102 : decode cX12_init 102 = .ok (.newarray .int, 2) := by decide +kernel
theorem dX12_init_104 : decode cX12_init 104 = .ok (.putfield 53, 3) := by decide +kernel
theorem dX12_init_107 : decode cX12_init 107 = .ok (.iconst 0, 1) := by decide +kernel
theorem dX12_init_108 : decode cX12_init 108 = .ok (.istore_n 1, 1) := by decide +kernel
theorem dX12_init_109 : decode cX12_init 109 = .ok (.iload_n 1, 1) := by decide +kernel
theorem dX12_init_110 : decode cX12_init 110 = .ok (.iconst 4, 1) := by decide +kernel
theorem dX12_init_111 : decode cX12_init 111 = .ok (.if_icmp .ge 16, 3) := by decide +kernel
theorem dX12_init_114 : decode cX12_init 114 = .ok (.aload_n 0, 1) := by decide +kernel
theorem dX12_init_115 : decode cX12_init 115 = .ok (.getfield 17, 3) := by decide +kernel
theorem dX12_init_118 : decode cX12_init 118 = .ok (.iload_n 1, 1) := by decide +kernel
theorem dX12_init_119 : decode cX12_init 119 = .ok (.iconst (-1), 1) := by decide +kernel
theorem dX12_init_120 : decode cX12_init 120 = .ok (.iastore, 1) := by decide +kernel
theorem dX12_init_121 : decode cX12_init 121 = .ok (.iinc 1 1, 3) := by decide +kernel
theorem dX12_init_124 : decode cX12_init 124 = .ok (.goto (-15), 3) := by decide +kernel
theorem dX12_init_127 : decode cX12_init 127 = .ok (.aload_n 0, 1) := by decide +kernel
theorem dX12_init_128 : decode cX12_init 128 = .ok (.iconst 0, 1) := by decide +kernel
theorem dX12_init_129 : decode cX12_init 129 = .ok (.invokevirtual 56, 3) := by decide +kernel
theorem dX12_init_132 : decode cX12_init 132 = .ok (.return_, 1) := by decide +kernel
set_option maxRecDepth 100000 in
set_option maxHeartbeats 4000000 in
theorem i_X12_init (l : Launch) (E : xE) (a0 : Nat) {z : (Nat → Int32) × (Nat → Int32)} (hf : f_X12_init (fun _ => 0) (fun _ => 0) = some z) (sz : Nat) : Met l yX12_init (Cond.code yX12_init cX12_init 2 none :: gw) ({ frames := 1, cells := 11, slots := 3223, locals := 22 }) (xPc E [.ref a0] [(a0, .inr (12, [.int 0, .int 0, .long 0, .long 0, .null, .null, .null, .null, .int 0, .int 0, .int 0, .int 0, .int 0, .int 0, .int 0, .int 0, .int 0, .int 0, .int 0, .long 0, .null, .null, .null, .int 0, .int 0, .int 0, .int 0, .null, .null, .int 0, .int 0, .null, .null, .int 0, .int 0, .int 0, .int 0, .int 0, .int 0, .int 0, .int 0, .int 0]))] sz) (xQc E (fun q => [(a0, o12 (upd (upd (fun _ => 0) 10 (-1)) 11 (-1)) 0 1 0 (q 0) (q 1) (q 2) (q 3) (q 4) (q 5) (q 6) (q 7) (q 8) (q 9) (q 10)), ((q 0), ai E 4 (fun _ => 0)), ((q 1), ai E 4 z.1), ((q 2), al E 240 (fun _ => 0)), ((q 3), ab E 900 (fun _ => 0)), ((q 4), ai E 1860 z.2), ((q 5), ai E 100 (fun _ => 0)), ((q 6), al E 25 (fun _ => 0)), ((q 7), ai E 36 (fun _ => 0)), ((q 8), ai E 36 (fun _ => 0)), ((q 9), al E 13 (fun _ => 0)), ((q 10), ai E 5 (fun _ => 0))]) [(a0, .inr (12, [.int 0, .int 0, .long 0, .long 0, .null, .null, .null, .null, .int 0, .int 0, .int 0, .int 0, .int 0, .int 0, .int 0, .int 0, .int 0, .int 0, .int 0, .long 0, .null, .null, .null, .int 0, .int 0, .int 0, .int 0, .null, .null, .int 0, .int 0, .null, .null, .int 0, .int 0, .int 0, .int 0, .int 0, .int 0, .int 0, .int 0, .int 0]))] sz) 11 3223 (va_A [(a0, .inr (12, [.int 0, .int 0, .long 0, .long 0, .null, .null, .null, .null, .int 0, .int 0, .int 0, .int 0, .int 0, .int 0, .int 0, .int 0, .int 0, .int 0, .int 0, .long 0, .null, .null, .null, .int 0, .int 0, .int 0, .int 0, .null, .null, .int 0, .int 0, .null, .null, .int 0, .int 0, .int 0, .int 0, .int 0, .int 0, .int 0, .int 0, .int 0]))] sz) := by
  refine xM_c (by decide +kernel) rfl (Nat.le_of_ble_eq_true rfl) ?_
  intro p e s m args below meth c A Q hx hb hml hown htg hK hG hA hin ret0 H locs ls hP hD hS hl
  replace hl : lv_has ls 2 [(0, .ref a0)] := hl
  refine lv_aload_n hx hb dX12_init_0 rfl (lv_at hl 0 rfl) ?_
  refine W.objInit hx hb hown (htg _ moX12_1) (htg _ imObj) (htg _ cwObj) rfl (by rw [hml]; exact hl.1) rfl dX12_init_1 (Nat.le_of_ble_eq_true rfl) (Nat.le_of_ble_eq_true rfl) ?_
  refine W.eq (g2 := F0 m 4 ls []) rfl ?_
  refine lv_aload_n hx hb dX12_init_4 rfl (lv_at hl 0 rfl) ?_
  refine lv_lconst (v := 1) hx hb dX12_init_5 rfl ?_
  refine va_put (D := E.1) (ci := 12) (v := .long 1) (ty := .long) (C := RX12) (T := TX12) (N := 42) hx hb htg hwX12 tyX12 tyX12_ok nmX12 hown hK hP hD hS 0 rfl rfl 3 (by decide) (htg _ fl12_7) (fun _ h9 => h9) rfl (by decide +kernel) rfl rfl (Nat.le_of_ble_eq_true rfl) dX12_init_6 (fun H locs hP hD hS => ?_)
  replace hP : va_P E.1 vwCl [(a0, .inr (12, [.int 0, .int 0, .long 0, .long 1, .null, .null, .null, .null, .int 0, .int 0, .int 0, .int 0, .int 0, .int 0, .int 0, .int 0, .int 0, .int 0, .int 0, .long 0, .null, .null, .null, .int 0, .int 0, .int 0, .int 0, .null, .null, .int 0, .int 0, .null, .null, .int 0, .int 0, .int 0, .int 0, .int 0, .int 0, .int 0, .int 0, .int 0]))] H := hP
  replace hD : va_D A [(a0, .inr (12, [.int 0, .int 0, .long 0, .long 1, .null, .null, .null, .null, .int 0, .int 0, .int 0, .int 0, .int 0, .int 0, .int 0, .int 0, .int 0, .int 0, .int 0, .long 0, .null, .null, .null, .int 0, .int 0, .int 0, .int 0, .null, .null, .int 0, .int 0, .null, .null, .int 0, .int 0, .int 0, .int 0, .int 0, .int 0, .int 0, .int 0, .int 0]))] := hD
  refine lv_aload_n hx hb dX12_init_9 rfl (lv_at hl 0 rfl) ?_
  refine lv_iconst (v := 4) hx hb dX12_init_10 rfl ?_
  refine xnewi (N := 4) hx hb htg hK hP hD hS hA (by decide) (by decide) (Nat.le_of_ble_eq_true rfl) (Nat.le_of_ble_eq_true rfl) (Nat.le_of_ble_eq_true rfl) dX12_init_11 (fun a1 H hP hD hS => ?_)
  replace hP : va_P E.1 vwCl [(a0, .inr (12, [.int 0, .int 0, .long 0, .long 1, .null, .null, .null, .null, .int 0, .int 0, .int 0, .int 0, .int 0, .int 0, .int 0, .int 0, .int 0, .int 0, .int 0, .long 0, .null, .null, .null, .int 0, .int 0, .int 0, .int 0, .null, .null, .int 0, .int 0, .null, .null, .int 0, .int 0, .int 0, .int 0, .int 0, .int 0, .int 0, .int 0, .int 0])), (a1, ai E 4 (fun _ => 0))] H := hP
  replace hD : va_D A [(a0, .inr (12, [.int 0, .int 0, .long 0, .long 1, .null, .null, .null, .null, .int 0, .int 0, .int 0, .int 0, .int 0, .int 0, .int 0, .int 0, .int 0, .int 0, .int 0, .long 0, .null, .null, .null, .int 0, .int 0, .int 0, .int 0, .null, .null, .int 0, .int 0, .null, .null, .int 0, .int 0, .int 0, .int 0, .int 0, .int 0, .int 0, .int 0, .int 0])), (a1, ai E 4 (fun _ => 0))] := hD
  refine W.widen (k := 1) (n := 4) (Nat.le_of_ble_eq_true rfl) (Nat.le_of_ble_eq_true rfl) ?_
  refine va_putF (D := E.1) (ci := 12) (v := .ref a1) (ty := (.array .int)) (C := RX12) (T := TX12) (N := 42) hx hb htg hwX12 tyX12 tyX12_ok nmX12 hown hK hP hD hS 0 rfl rfl 4 (by decide) (htg _ fl12_13) (fun _ h9 => h9) rfl hin rfl (by decide +kernel) rfl rfl (Nat.le_of_ble_eq_true rfl) dX12_init_13 (fun H locs hP hD hS => ?_)
  replace hP : va_P E.1 vwCl [(a0, .inr (12, [.int 0, .int 0, .long 0, .long 1, .ref a1, .null, .null, .null, .int 0, .int 0, .int 0, .int 0, .int 0, .int 0, .int 0, .int 0, .int 0, .int 0, .int 0, .long 0, .null, .null, .null, .int 0, .int 0, .int 0, .int 0, .null, .null, .int 0, .int 0, .null, .null, .int 0, .int 0, .int 0, .int 0, .int 0, .int 0, .int 0, .int 0, .int 0])), (a1, ai E 4 (fun _ => 0))] H := hP
  replace hD : va_D A [(a0, .inr (12, [.int 0, .int 0, .long 0, .long 1, .ref a1, .null, .null, .null, .int 0, .int 0, .int 0, .int 0, .int 0, .int 0, .int 0, .int 0, .int 0, .int 0, .int 0, .long 0, .null, .null, .null, .int 0, .int 0, .int 0, .int 0, .null, .null, .int 0, .int 0, .null, .null, .int 0, .int 0, .int 0, .int 0, .int 0, .int 0, .int 0, .int 0, .int 0])), (a1, ai E 4 (fun _ => 0))] := hD
  refine lv_aload_n hx hb dX12_init_16 rfl (lv_at hl 0 rfl) ?_
  refine lv_iconst (v := 4) hx hb dX12_init_17 rfl ?_
  refine xnewi (N := 4) hx hb htg hK hP hD hS hA (by decide) (by decide) (Nat.le_of_ble_eq_true rfl) (Nat.le_of_ble_eq_true rfl) (Nat.le_of_ble_eq_true rfl) dX12_init_18 (fun a2 H hP hD hS => ?_)
  replace hP : va_P E.1 vwCl [(a0, .inr (12, [.int 0, .int 0, .long 0, .long 1, .ref a1, .null, .null, .null, .int 0, .int 0, .int 0, .int 0, .int 0, .int 0, .int 0, .int 0, .int 0, .int 0, .int 0, .long 0, .null, .null, .null, .int 0, .int 0, .int 0, .int 0, .null, .null, .int 0, .int 0, .null, .null, .int 0, .int 0, .int 0, .int 0, .int 0, .int 0, .int 0, .int 0, .int 0])), (a1, ai E 4 (fun _ => 0)), (a2, ai E 4 (fun _ => 0))] H := hP
  replace hD : va_D A [(a0, .inr (12, [.int 0, .int 0, .long 0, .long 1, .ref a1, .null, .null, .null, .int 0, .int 0, .int 0, .int 0, .int 0, .int 0, .int 0, .int 0, .int 0, .int 0, .int 0, .long 0, .null, .null, .null, .int 0, .int 0, .int 0, .int 0, .null, .null, .int 0, .int 0, .null, .null, .int 0, .int 0, .int 0, .int 0, .int 0, .int 0, .int 0, .int 0, .int 0])), (a1, ai E 4 (fun _ => 0)), (a2, ai E 4 (fun _ => 0))] := hD
  refine W.widen (k := 2) (n := 8) (Nat.le_of_ble_eq_true rfl) (Nat.le_of_ble_eq_true rfl) ?_
  refine va_putF (D := E.1) (ci := 12) (v := .ref a2) (ty := (.array .int)) (C := RX12) (T := TX12) (N := 42) hx hb htg hwX12 tyX12 tyX12_ok nmX12 hown hK hP hD hS 0 rfl rfl 5 (by decide) (htg _ fl12_17) (fun _ h9 => h9) rfl hin rfl (by decide +kernel) rfl rfl (Nat.le_of_ble_eq_true rfl) dX12_init_20 (fun H locs hP hD hS => ?_)
  replace hP : va_P E.1 vwCl [(a0, .inr (12, [.int 0, .int 0, .long 0, .long 1, .ref a1, .ref a2, .null, .null, .int 0, .int 0, .int 0, .int 0, .int 0, .int 0, .int 0, .int 0, .int 0, .int 0, .int 0, .long 0, .null, .null, .null, .int 0, .int 0, .int 0, .int 0, .null, .null, .int 0, .int 0, .null, .null, .int 0, .int 0, .int 0, .int 0, .int 0, .int 0, .int 0, .int 0, .int 0])), (a1, ai E 4 (fun _ => 0)), (a2, ai E 4 (fun _ => 0))] H := hP
  replace hD : va_D A [(a0, .inr (12, [.int 0, .int 0, .long 0, .long 1, .ref a1, .ref a2, .null, .null, .int 0, .int 0, .int 0, .int 0, .int 0, .int 0, .int 0, .int 0, .int 0, .int 0, .int 0, .long 0, .null, .null, .null, .int 0, .int 0, .int 0, .int 0, .null, .null, .int 0, .int 0, .null, .null, .int 0, .int 0, .int 0, .int 0, .int 0, .int 0, .int 0, .int 0, .int 0])), (a1, ai E 4 (fun _ => 0)), (a2, ai E 4 (fun _ => 0))] := hD
  refine lv_aload_n hx hb dX12_init_23 rfl (lv_at hl 0 rfl) ?_
  refine lv_sipush (v := 240) hx hb dX12_init_24 rfl ?_
  refine xnewl (N := 240) hx hb htg hK hP hD hS hA (by decide) (by decide) (Nat.le_of_ble_eq_true rfl) (Nat.le_of_ble_eq_true rfl) (Nat.le_of_ble_eq_true rfl) dX12_init_27 (fun a3 H hP hD hS => ?_)
  replace hP : va_P E.1 vwCl [(a0, .inr (12, [.int 0, .int 0, .long 0, .long 1, .ref a1, .ref a2, .null, .null, .int 0, .int 0, .int 0, .int 0, .int 0, .int 0, .int 0, .int 0, .int 0, .int 0, .int 0, .long 0, .null, .null, .null, .int 0, .int 0, .int 0, .int 0, .null, .null, .int 0, .int 0, .null, .null, .int 0, .int 0, .int 0, .int 0, .int 0, .int 0, .int 0, .int 0, .int 0])), (a1, ai E 4 (fun _ => 0)), (a2, ai E 4 (fun _ => 0)), (a3, al E 240 (fun _ => 0))] H := hP
  replace hD : va_D A [(a0, .inr (12, [.int 0, .int 0, .long 0, .long 1, .ref a1, .ref a2, .null, .null, .int 0, .int 0, .int 0, .int 0, .int 0, .int 0, .int 0, .int 0, .int 0, .int 0, .int 0, .long 0, .null, .null, .null, .int 0, .int 0, .int 0, .int 0, .null, .null, .int 0, .int 0, .null, .null, .int 0, .int 0, .int 0, .int 0, .int 0, .int 0, .int 0, .int 0, .int 0])), (a1, ai E 4 (fun _ => 0)), (a2, ai E 4 (fun _ => 0)), (a3, al E 240 (fun _ => 0))] := hD
  refine W.widen (k := 3) (n := 248) (Nat.le_of_ble_eq_true rfl) (Nat.le_of_ble_eq_true rfl) ?_
  refine va_putF (D := E.1) (ci := 12) (v := .ref a3) (ty := (.array .long)) (C := RX12) (T := TX12) (N := 42) hx hb htg hwX12 tyX12 tyX12_ok nmX12 hown hK hP hD hS 0 rfl rfl 6 (by decide) (htg _ fl12_20) (fun _ h9 => h9) rfl hin rfl (by decide +kernel) rfl rfl (Nat.le_of_ble_eq_true rfl) dX12_init_29 (fun H locs hP hD hS => ?_)
  replace hP : va_P E.1 vwCl [(a0, .inr (12, [.int 0, .int 0, .long 0, .long 1, .ref a1, .ref a2, .ref a3, .null, .int 0, .int 0, .int 0, .int 0, .int 0, .int 0, .int 0, .int 0, .int 0, .int 0, .int 0, .long 0, .null, .null, .null, .int 0, .int 0, .int 0, .int 0, .null, .null, .int 0, .int 0, .null, .null, .int 0, .int 0, .int 0, .int 0, .int 0, .int 0, .int 0, .int 0, .int 0])), (a1, ai E 4 (fun _ => 0)), (a2, ai E 4 (fun _ => 0)), (a3, al E 240 (fun _ => 0))] H := hP
  replace hD : va_D A [(a0, .inr (12, [.int 0, .int 0, .long 0, .long 1, .ref a1, .ref a2, .ref a3, .null, .int 0, .int 0, .int 0, .int 0, .int 0, .int 0, .int 0, .int 0, .int 0, .int 0, .int 0, .long 0, .null, .null, .null, .int 0, .int 0, .int 0, .int 0, .null, .null, .int 0, .int 0, .null, .null, .int 0, .int 0, .int 0, .int 0, .int 0, .int 0, .int 0, .int 0, .int 0])), (a1, ai E 4 (fun _ => 0)), (a2, ai E 4 (fun _ => 0)), (a3, al E 240 (fun _ => 0))] := hD
  refine lv_aload_n hx hb dX12_init_32 rfl (lv_at hl 0 rfl) ?_
  refine lv_sipush (v := 900) hx hb dX12_init_33 rfl ?_
  refine xnewb (N := 900) hx hb htg hK hP hD hS hA (by decide) (by decide) (Nat.le_of_ble_eq_true rfl) (Nat.le_of_ble_eq_true rfl) (Nat.le_of_ble_eq_true rfl) dX12_init_36 (fun a4 H hP hD hS => ?_)
  replace hP : va_P E.1 vwCl [(a0, .inr (12, [.int 0, .int 0, .long 0, .long 1, .ref a1, .ref a2, .ref a3, .null, .int 0, .int 0, .int 0, .int 0, .int 0, .int 0, .int 0, .int 0, .int 0, .int 0, .int 0, .long 0, .null, .null, .null, .int 0, .int 0, .int 0, .int 0, .null, .null, .int 0, .int 0, .null, .null, .int 0, .int 0, .int 0, .int 0, .int 0, .int 0, .int 0, .int 0, .int 0])), (a1, ai E 4 (fun _ => 0)), (a2, ai E 4 (fun _ => 0)), (a3, al E 240 (fun _ => 0)), (a4, ab E 900 (fun _ => 0))] H := hP
  replace hD : va_D A [(a0, .inr (12, [.int 0, .int 0, .long 0, .long 1, .ref a1, .ref a2, .ref a3, .null, .int 0, .int 0, .int 0, .int 0, .int 0, .int 0, .int 0, .int 0, .int 0, .int 0, .int 0, .long 0, .null, .null, .null, .int 0, .int 0, .int 0, .int 0, .null, .null, .int 0, .int 0, .null, .null, .int 0, .int 0, .int 0, .int 0, .int 0, .int 0, .int 0, .int 0, .int 0])), (a1, ai E 4 (fun _ => 0)), (a2, ai E 4 (fun _ => 0)), (a3, al E 240 (fun _ => 0)), (a4, ab E 900 (fun _ => 0))] := hD
  refine W.widen (k := 4) (n := 1148) (Nat.le_of_ble_eq_true rfl) (Nat.le_of_ble_eq_true rfl) ?_
  refine va_putF (D := E.1) (ci := 12) (v := .ref a4) (ty := (.array .byte)) (C := RX12) (T := TX12) (N := 42) hx hb htg hwX12 tyX12 tyX12_ok nmX12 hown hK hP hD hS 0 rfl rfl 7 (by decide) (htg _ fl12_24) (fun _ h9 => h9) rfl hin rfl (by decide +kernel) rfl rfl (Nat.le_of_ble_eq_true rfl) dX12_init_38 (fun H locs hP hD hS => ?_)
  replace hP : va_P E.1 vwCl [(a0, .inr (12, [.int 0, .int 0, .long 0, .long 1, .ref a1, .ref a2, .ref a3, .ref a4, .int 0, .int 0, .int 0, .int 0, .int 0, .int 0, .int 0, .int 0, .int 0, .int 0, .int 0, .long 0, .null, .null, .null, .int 0, .int 0, .int 0, .int 0, .null, .null, .int 0, .int 0, .null, .null, .int 0, .int 0, .int 0, .int 0, .int 0, .int 0, .int 0, .int 0, .int 0])), (a1, ai E 4 (fun _ => 0)), (a2, ai E 4 (fun _ => 0)), (a3, al E 240 (fun _ => 0)), (a4, ab E 900 (fun _ => 0))] H := hP
  replace hD : va_D A [(a0, .inr (12, [.int 0, .int 0, .long 0, .long 1, .ref a1, .ref a2, .ref a3, .ref a4, .int 0, .int 0, .int 0, .int 0, .int 0, .int 0, .int 0, .int 0, .int 0, .int 0, .int 0, .long 0, .null, .null, .null, .int 0, .int 0, .int 0, .int 0, .null, .null, .int 0, .int 0, .null, .null, .int 0, .int 0, .int 0, .int 0, .int 0, .int 0, .int 0, .int 0, .int 0])), (a1, ai E 4 (fun _ => 0)), (a2, ai E 4 (fun _ => 0)), (a3, al E 240 (fun _ => 0)), (a4, ab E 900 (fun _ => 0))] := hD
  refine lv_aload_n hx hb dX12_init_41 rfl (lv_at hl 0 rfl) ?_
  refine lv_iconst (v := (-1)) hx hb dX12_init_42 rfl ?_
  refine va_put (D := E.1) (ci := 12) (v := .int (-1)) (ty := .int) (C := RX12) (T := TX12) (N := 42) hx hb htg hwX12 tyX12 tyX12_ok nmX12 hown hK hP hD hS 0 rfl rfl 10 (by decide) (htg _ fl12_28) (fun _ h9 => h9) rfl (by decide +kernel) rfl rfl (Nat.le_of_ble_eq_true rfl) dX12_init_43 (fun H locs hP hD hS => ?_)
  replace hP : va_P E.1 vwCl [(a0, .inr (12, [.int 0, .int 0, .long 0, .long 1, .ref a1, .ref a2, .ref a3, .ref a4, .int 0, .int 0, .int (-1), .int 0, .int 0, .int 0, .int 0, .int 0, .int 0, .int 0, .int 0, .long 0, .null, .null, .null, .int 0, .int 0, .int 0, .int 0, .null, .null, .int 0, .int 0, .null, .null, .int 0, .int 0, .int 0, .int 0, .int 0, .int 0, .int 0, .int 0, .int 0])), (a1, ai E 4 (fun _ => 0)), (a2, ai E 4 (fun _ => 0)), (a3, al E 240 (fun _ => 0)), (a4, ab E 900 (fun _ => 0))] H := hP
  replace hD : va_D A [(a0, .inr (12, [.int 0, .int 0, .long 0, .long 1, .ref a1, .ref a2, .ref a3, .ref a4, .int 0, .int 0, .int (-1), .int 0, .int 0, .int 0, .int 0, .int 0, .int 0, .int 0, .int 0, .long 0, .null, .null, .null, .int 0, .int 0, .int 0, .int 0, .null, .null, .int 0, .int 0, .null, .null, .int 0, .int 0, .int 0, .int 0, .int 0, .int 0, .int 0, .int 0, .int 0])), (a1, ai E 4 (fun _ => 0)), (a2, ai E 4 (fun _ => 0)), (a3, al E 240 (fun _ => 0)), (a4, ab E 900 (fun _ => 0))] := hD
  refine lv_aload_n hx hb dX12_init_46 rfl (lv_at hl 0 rfl) ?_
  refine lv_iconst (v := (-1)) hx hb dX12_init_47 rfl ?_
  refine va_put (D := E.1) (ci := 12) (v := .int (-1)) (ty := .int) (C := RX12) (T := TX12) (N := 42) hx hb htg hwX12 tyX12 tyX12_ok nmX12 hown hK hP hD hS 0 rfl rfl 11 (by decide) (htg _ fl12_32) (fun _ h9 => h9) rfl (by decide +kernel) rfl rfl (Nat.le_of_ble_eq_true rfl) dX12_init_48 (fun H locs hP hD hS => ?_)
  replace hP : va_P E.1 vwCl [(a0, .inr (12, [.int 0, .int 0, .long 0, .long 1, .ref a1, .ref a2, .ref a3, .ref a4, .int 0, .int 0, .int (-1), .int (-1), .int 0, .int 0, .int 0, .int 0, .int 0, .int 0, .int 0, .long 0, .null, .null, .null, .int 0, .int 0, .int 0, .int 0, .null, .null, .int 0, .int 0, .null, .null, .int 0, .int 0, .int 0, .int 0, .int 0, .int 0, .int 0, .int 0, .int 0])), (a1, ai E 4 (fun _ => 0)), (a2, ai E 4 (fun _ => 0)), (a3, al E 240 (fun _ => 0)), (a4, ab E 900 (fun _ => 0))] H := hP
  replace hD : va_D A [(a0, .inr (12, [.int 0, .int 0, .long 0, .long 1, .ref a1, .ref a2, .ref a3, .ref a4, .int 0, .int 0, .int (-1), .int (-1), .int 0, .int 0, .int 0, .int 0, .int 0, .int 0, .int 0, .long 0, .null, .null, .null, .int 0, .int 0, .int 0, .int 0, .null, .null, .int 0, .int 0, .null, .null, .int 0, .int 0, .int 0, .int 0, .int 0, .int 0, .int 0, .int 0, .int 0])), (a1, ai E 4 (fun _ => 0)), (a2, ai E 4 (fun _ => 0)), (a3, al E 240 (fun _ => 0)), (a4, ab E 900 (fun _ => 0))] := hD
  refine lv_aload_n hx hb dX12_init_51 rfl (lv_at hl 0 rfl) ?_
  refine lv_sipush (v := 1860) hx hb dX12_init_52 rfl ?_
  refine xnewi (N := 1860) hx hb htg hK hP hD hS hA (by decide) (by decide) (Nat.le_of_ble_eq_true rfl) (Nat.le_of_ble_eq_true rfl) (Nat.le_of_ble_eq_true rfl) dX12_init_55 (fun a5 H hP hD hS => ?_)
  replace hP : va_P E.1 vwCl [(a0, .inr (12, [.int 0, .int 0, .long 0, .long 1, .ref a1, .ref a2, .ref a3, .ref a4, .int 0, .int 0, .int (-1), .int (-1), .int 0, .int 0, .int 0, .int 0, .int 0, .int 0, .int 0, .long 0, .null, .null, .null, .int 0, .int 0, .int 0, .int 0, .null, .null, .int 0, .int 0, .null, .null, .int 0, .int 0, .int 0, .int 0, .int 0, .int 0, .int 0, .int 0, .int 0])), (a1, ai E 4 (fun _ => 0)), (a2, ai E 4 (fun _ => 0)), (a3, al E 240 (fun _ => 0)), (a4, ab E 900 (fun _ => 0)), (a5, ai E 1860 (fun _ => 0))] H := hP
  replace hD : va_D A [(a0, .inr (12, [.int 0, .int 0, .long 0, .long 1, .ref a1, .ref a2, .ref a3, .ref a4, .int 0, .int 0, .int (-1), .int (-1), .int 0, .int 0, .int 0, .int 0, .int 0, .int 0, .int 0, .long 0, .null, .null, .null, .int 0, .int 0, .int 0, .int 0, .null, .null, .int 0, .int 0, .null, .null, .int 0, .int 0, .int 0, .int 0, .int 0, .int 0, .int 0, .int 0, .int 0])), (a1, ai E 4 (fun _ => 0)), (a2, ai E 4 (fun _ => 0)), (a3, al E 240 (fun _ => 0)), (a4, ab E 900 (fun _ => 0)), (a5, ai E 1860 (fun _ => 0))] := hD
  refine W.widen (k := 5) (n := 3008) (Nat.le_of_ble_eq_true rfl) (Nat.le_of_ble_eq_true rfl) ?_
  refine va_putF (D := E.1) (ci := 12) (v := .ref a5) (ty := (.array .int)) (C := RX12) (T := TX12) (N := 42) hx hb htg hwX12 tyX12 tyX12_ok nmX12 hown hK hP hD hS 0 rfl rfl 20 (by decide) (htg _ fl12_35) (fun _ h9 => h9) rfl hin rfl (by decide +kernel) rfl rfl (Nat.le_of_ble_eq_true rfl) dX12_init_57 (fun H locs hP hD hS => ?_)
  replace hP : va_P E.1 vwCl [(a0, .inr (12, [.int 0, .int 0, .long 0, .long 1, .ref a1, .ref a2, .ref a3, .ref a4, .int 0, .int 0, .int (-1), .int (-1), .int 0, .int 0, .int 0, .int 0, .int 0, .int 0, .int 0, .long 0, .ref a5, .null, .null, .int 0, .int 0, .int 0, .int 0, .null, .null, .int 0, .int 0, .null, .null, .int 0, .int 0, .int 0, .int 0, .int 0, .int 0, .int 0, .int 0, .int 0])), (a1, ai E 4 (fun _ => 0)), (a2, ai E 4 (fun _ => 0)), (a3, al E 240 (fun _ => 0)), (a4, ab E 900 (fun _ => 0)), (a5, ai E 1860 (fun _ => 0))] H := hP
  replace hD : va_D A [(a0, .inr (12, [.int 0, .int 0, .long 0, .long 1, .ref a1, .ref a2, .ref a3, .ref a4, .int 0, .int 0, .int (-1), .int (-1), .int 0, .int 0, .int 0, .int 0, .int 0, .int 0, .int 0, .long 0, .ref a5, .null, .null, .int 0, .int 0, .int 0, .int 0, .null, .null, .int 0, .int 0, .null, .null, .int 0, .int 0, .int 0, .int 0, .int 0, .int 0, .int 0, .int 0, .int 0])), (a1, ai E 4 (fun _ => 0)), (a2, ai E 4 (fun _ => 0)), (a3, al E 240 (fun _ => 0)), (a4, ab E 900 (fun _ => 0)), (a5, ai E 1860 (fun _ => 0))] := hD
  refine lv_aload_n hx hb dX12_init_60 rfl (lv_at hl 0 rfl) ?_
  refine lv_bipush (v := 100) hx hb dX12_init_61 rfl ?_
  refine xnewi (N := 100) hx hb htg hK hP hD hS hA (by decide) (by decide) (Nat.le_of_ble_eq_true rfl) (Nat.le_of_ble_eq_true rfl) (Nat.le_of_ble_eq_true rfl) dX12_init_63 (fun a6 H hP hD hS => ?_)
  replace hP : va_P E.1 vwCl [(a0, .inr (12, [.int 0, .int 0, .long 0, .long 1, .ref a1, .ref a2, .ref a3, .ref a4, .int 0, .int 0, .int (-1), .int (-1), .int 0, .int 0, .int 0, .int 0, .int 0, .int 0, .int 0, .long 0, .ref a5, .null, .null, .int 0, .int 0, .int 0, .int 0, .null, .null, .int 0, .int 0, .null, .null, .int 0, .int 0, .int 0, .int 0, .int 0, .int 0, .int 0, .int 0, .int 0])), (a1, ai E 4 (fun _ => 0)), (a2, ai E 4 (fun _ => 0)), (a3, al E 240 (fun _ => 0)), (a4, ab E 900 (fun _ => 0)), (a5, ai E 1860 (fun _ => 0)), (a6, ai E 100 (fun _ => 0))] H := hP
  replace hD : va_D A [(a0, .inr (12, [.int 0, .int 0, .long 0, .long 1, .ref a1, .ref a2, .ref a3, .ref a4, .int 0, .int 0, .int (-1), .int (-1), .int 0, .int 0, .int 0, .int 0, .int 0, .int 0, .int 0, .long 0, .ref a5, .null, .null, .int 0, .int 0, .int 0, .int 0, .null, .null, .int 0, .int 0, .null, .null, .int 0, .int 0, .int 0, .int 0, .int 0, .int 0, .int 0, .int 0, .int 0])), (a1, ai E 4 (fun _ => 0)), (a2, ai E 4 (fun _ => 0)), (a3, al E 240 (fun _ => 0)), (a4, ab E 900 (fun _ => 0)), (a5, ai E 1860 (fun _ => 0)), (a6, ai E 100 (fun _ => 0))] := hD
  refine W.widen (k := 6) (n := 3108) (Nat.le_of_ble_eq_true rfl) (Nat.le_of_ble_eq_true rfl) ?_
  refine va_putF (D := E.1) (ci := 12) (v := .ref a6) (ty := (.array .int)) (C := RX12) (T := TX12) (N := 42) hx hb htg hwX12 tyX12 tyX12_ok nmX12 hown hK hP hD hS 0 rfl rfl 21 (by decide) (htg _ fl12_38) (fun _ h9 => h9) rfl hin rfl (by decide +kernel) rfl rfl (Nat.le_of_ble_eq_true rfl) dX12_init_65 (fun H locs hP hD hS => ?_)
  replace hP : va_P E.1 vwCl [(a0, .inr (12, [.int 0, .int 0, .long 0, .long 1, .ref a1, .ref a2, .ref a3, .ref a4, .int 0, .int 0, .int (-1), .int (-1), .int 0, .int 0, .int 0, .int 0, .int 0, .int 0, .int 0, .long 0, .ref a5, .ref a6, .null, .int 0, .int 0, .int 0, .int 0, .null, .null, .int 0, .int 0, .null, .null, .int 0, .int 0, .int 0, .int 0, .int 0, .int 0, .int 0, .int 0, .int 0])), (a1, ai E 4 (fun _ => 0)), (a2, ai E 4 (fun _ => 0)), (a3, al E 240 (fun _ => 0)), (a4, ab E 900 (fun _ => 0)), (a5, ai E 1860 (fun _ => 0)), (a6, ai E 100 (fun _ => 0))] H := hP
  replace hD : va_D A [(a0, .inr (12, [.int 0, .int 0, .long 0, .long 1, .ref a1, .ref a2, .ref a3, .ref a4, .int 0, .int 0, .int (-1), .int (-1), .int 0, .int 0, .int 0, .int 0, .int 0, .int 0, .int 0, .long 0, .ref a5, .ref a6, .null, .int 0, .int 0, .int 0, .int 0, .null, .null, .int 0, .int 0, .null, .null, .int 0, .int 0, .int 0, .int 0, .int 0, .int 0, .int 0, .int 0, .int 0])), (a1, ai E 4 (fun _ => 0)), (a2, ai E 4 (fun _ => 0)), (a3, al E 240 (fun _ => 0)), (a4, ab E 900 (fun _ => 0)), (a5, ai E 1860 (fun _ => 0)), (a6, ai E 100 (fun _ => 0))] := hD
  refine lv_aload_n hx hb dX12_init_68 rfl (lv_at hl 0 rfl) ?_
  refine lv_bipush (v := 25) hx hb dX12_init_69 rfl ?_
  refine xnewl (N := 25) hx hb htg hK hP hD hS hA (by decide) (by decide) (Nat.le_of_ble_eq_true rfl) (Nat.le_of_ble_eq_true rfl) (Nat.le_of_ble_eq_true rfl) dX12_init_71 (fun a7 H hP hD hS => ?_)
  replace hP : va_P E.1 vwCl [(a0, .inr (12, [.int 0, .int 0, .long 0, .long 1, .ref a1, .ref a2, .ref a3, .ref a4, .int 0, .int 0, .int (-1), .int (-1), .int 0, .int 0, .int 0, .int 0, .int 0, .int 0, .int 0, .long 0, .ref a5, .ref a6, .null, .int 0, .int 0, .int 0, .int 0, .null, .null, .int 0, .int 0, .null, .null, .int 0, .int 0, .int 0, .int 0, .int 0, .int 0, .int 0, .int 0, .int 0])), (a1, ai E 4 (fun _ => 0)), (a2, ai E 4 (fun _ => 0)), (a3, al E 240 (fun _ => 0)), (a4, ab E 900 (fun _ => 0)), (a5, ai E 1860 (fun _ => 0)), (a6, ai E 100 (fun _ => 0)), (a7, al E 25 (fun _ => 0))] H := hP
  replace hD : va_D A [(a0, .inr (12, [.int 0, .int 0, .long 0, .long 1, .ref a1, .ref a2, .ref a3, .ref a4, .int 0, .int 0, .int (-1), .int (-1), .int 0, .int 0, .int 0, .int 0, .int 0, .int 0, .int 0, .long 0, .ref a5, .ref a6, .null, .int 0, .int 0, .int 0, .int 0, .null, .null, .int 0, .int 0, .null, .null, .int 0, .int 0, .int 0, .int 0, .int 0, .int 0, .int 0, .int 0, .int 0])), (a1, ai E 4 (fun _ => 0)), (a2, ai E 4 (fun _ => 0)), (a3, al E 240 (fun _ => 0)), (a4, ab E 900 (fun _ => 0)), (a5, ai E 1860 (fun _ => 0)), (a6, ai E 100 (fun _ => 0)), (a7, al E 25 (fun _ => 0))] := hD
  refine W.widen (k := 7) (n := 3133) (Nat.le_of_ble_eq_true rfl) (Nat.le_of_ble_eq_true rfl) ?_
  refine va_putF (D := E.1) (ci := 12) (v := .ref a7) (ty := (.array .long)) (C := RX12) (T := TX12) (N := 42) hx hb htg hwX12 tyX12 tyX12_ok nmX12 hown hK hP hD hS 0 rfl rfl 22 (by decide) (htg _ fl12_41) (fun _ h9 => h9) rfl hin rfl (by decide +kernel) rfl rfl (Nat.le_of_ble_eq_true rfl) dX12_init_73 (fun H locs hP hD hS => ?_)
  replace hP : va_P E.1 vwCl [(a0, .inr (12, [.int 0, .int 0, .long 0, .long 1, .ref a1, .ref a2, .ref a3, .ref a4, .int 0, .int 0, .int (-1), .int (-1), .int 0, .int 0, .int 0, .int 0, .int 0, .int 0, .int 0, .long 0, .ref a5, .ref a6, .ref a7, .int 0, .int 0, .int 0, .int 0, .null, .null, .int 0, .int 0, .null, .null, .int 0, .int 0, .int 0, .int 0, .int 0, .int 0, .int 0, .int 0, .int 0])), (a1, ai E 4 (fun _ => 0)), (a2, ai E 4 (fun _ => 0)), (a3, al E 240 (fun _ => 0)), (a4, ab E 900 (fun _ => 0)), (a5, ai E 1860 (fun _ => 0)), (a6, ai E 100 (fun _ => 0)), (a7, al E 25 (fun _ => 0))] H := hP
  replace hD : va_D A [(a0, .inr (12, [.int 0, .int 0, .long 0, .long 1, .ref a1, .ref a2, .ref a3, .ref a4, .int 0, .int 0, .int (-1), .int (-1), .int 0, .int 0, .int 0, .int 0, .int 0, .int 0, .int 0, .long 0, .ref a5, .ref a6, .ref a7, .int 0, .int 0, .int 0, .int 0, .null, .null, .int 0, .int 0, .null, .null, .int 0, .int 0, .int 0, .int 0, .int 0, .int 0, .int 0, .int 0, .int 0])), (a1, ai E 4 (fun _ => 0)), (a2, ai E 4 (fun _ => 0)), (a3, al E 240 (fun _ => 0)), (a4, ab E 900 (fun _ => 0)), (a5, ai E 1860 (fun _ => 0)), (a6, ai E 100 (fun _ => 0)), (a7, al E 25 (fun _ => 0))] := hD
  refine lv_aload_n hx hb dX12_init_76 rfl (lv_at hl 0 rfl) ?_
  refine lv_bipush (v := 36) hx hb dX12_init_77 rfl ?_
  refine xnewi (N := 36) hx hb htg hK hP hD hS hA (by decide) (by decide) (Nat.le_of_ble_eq_true rfl) (Nat.le_of_ble_eq_true rfl) (Nat.le_of_ble_eq_true rfl) dX12_init_79 (fun a8 H hP hD hS => ?_)
  replace hP : va_P E.1 vwCl [(a0, .inr (12, [.int 0, .int 0, .long 0, .long 1, .ref a1, .ref a2, .ref a3, .ref a4, .int 0, .int 0, .int (-1), .int (-1), .int 0, .int 0, .int 0, .int 0, .int 0, .int 0, .int 0, .long 0, .ref a5, .ref a6, .ref a7, .int 0, .int 0, .int 0, .int 0, .null, .null, .int 0, .int 0, .null, .null, .int 0, .int 0, .int 0, .int 0, .int 0, .int 0, .int 0, .int 0, .int 0])), (a1, ai E 4 (fun _ => 0)), (a2, ai E 4 (fun _ => 0)), (a3, al E 240 (fun _ => 0)), (a4, ab E 900 (fun _ => 0)), (a5, ai E 1860 (fun _ => 0)), (a6, ai E 100 (fun _ => 0)), (a7, al E 25 (fun _ => 0)), (a8, ai E 36 (fun _ => 0))] H := hP
  replace hD : va_D A [(a0, .inr (12, [.int 0, .int 0, .long 0, .long 1, .ref a1, .ref a2, .ref a3, .ref a4, .int 0, .int 0, .int (-1), .int (-1), .int 0, .int 0, .int 0, .int 0, .int 0, .int 0, .int 0, .long 0, .ref a5, .ref a6, .ref a7, .int 0, .int 0, .int 0, .int 0, .null, .null, .int 0, .int 0, .null, .null, .int 0, .int 0, .int 0, .int 0, .int 0, .int 0, .int 0, .int 0, .int 0])), (a1, ai E 4 (fun _ => 0)), (a2, ai E 4 (fun _ => 0)), (a3, al E 240 (fun _ => 0)), (a4, ab E 900 (fun _ => 0)), (a5, ai E 1860 (fun _ => 0)), (a6, ai E 100 (fun _ => 0)), (a7, al E 25 (fun _ => 0)), (a8, ai E 36 (fun _ => 0))] := hD
  refine W.widen (k := 8) (n := 3169) (Nat.le_of_ble_eq_true rfl) (Nat.le_of_ble_eq_true rfl) ?_
  refine va_putF (D := E.1) (ci := 12) (v := .ref a8) (ty := (.array .int)) (C := RX12) (T := TX12) (N := 42) hx hb htg hwX12 tyX12 tyX12_ok nmX12 hown hK hP hD hS 0 rfl rfl 27 (by decide) (htg _ fl12_44) (fun _ h9 => h9) rfl hin rfl (by decide +kernel) rfl rfl (Nat.le_of_ble_eq_true rfl) dX12_init_81 (fun H locs hP hD hS => ?_)
  replace hP : va_P E.1 vwCl [(a0, .inr (12, [.int 0, .int 0, .long 0, .long 1, .ref a1, .ref a2, .ref a3, .ref a4, .int 0, .int 0, .int (-1), .int (-1), .int 0, .int 0, .int 0, .int 0, .int 0, .int 0, .int 0, .long 0, .ref a5, .ref a6, .ref a7, .int 0, .int 0, .int 0, .int 0, .ref a8, .null, .int 0, .int 0, .null, .null, .int 0, .int 0, .int 0, .int 0, .int 0, .int 0, .int 0, .int 0, .int 0])), (a1, ai E 4 (fun _ => 0)), (a2, ai E 4 (fun _ => 0)), (a3, al E 240 (fun _ => 0)), (a4, ab E 900 (fun _ => 0)), (a5, ai E 1860 (fun _ => 0)), (a6, ai E 100 (fun _ => 0)), (a7, al E 25 (fun _ => 0)), (a8, ai E 36 (fun _ => 0))] H := hP
  replace hD : va_D A [(a0, .inr (12, [.int 0, .int 0, .long 0, .long 1, .ref a1, .ref a2, .ref a3, .ref a4, .int 0, .int 0, .int (-1), .int (-1), .int 0, .int 0, .int 0, .int 0, .int 0, .int 0, .int 0, .long 0, .ref a5, .ref a6, .ref a7, .int 0, .int 0, .int 0, .int 0, .ref a8, .null, .int 0, .int 0, .null, .null, .int 0, .int 0, .int 0, .int 0, .int 0, .int 0, .int 0, .int 0, .int 0])), (a1, ai E 4 (fun _ => 0)), (a2, ai E 4 (fun _ => 0)), (a3, al E 240 (fun _ => 0)), (a4, ab E 900 (fun _ => 0)), (a5, ai E 1860 (fun _ => 0)), (a6, ai E 100 (fun _ => 0)), (a7, al E 25 (fun _ => 0)), (a8, ai E 36 (fun _ => 0))] := hD
  refine lv_aload_n hx hb dX12_init_84 rfl (lv_at hl 0 rfl) ?_
  refine lv_bipush (v := 36) hx hb dX12_init_85 rfl ?_
  refine xnewi (N := 36) hx hb htg hK hP hD hS hA (by decide) (by decide) (Nat.le_of_ble_eq_true rfl) (Nat.le_of_ble_eq_true rfl) (Nat.le_of_ble_eq_true rfl) dX12_init_87 (fun a9 H hP hD hS => ?_)
  replace hP : va_P E.1 vwCl [(a0, .inr (12, [.int 0, .int 0, .long 0, .long 1, .ref a1, .ref a2, .ref a3, .ref a4, .int 0, .int 0, .int (-1), .int (-1), .int 0, .int 0, .int 0, .int 0, .int 0, .int 0, .int 0, .long 0, .ref a5, .ref a6, .ref a7, .int 0, .int 0, .int 0, .int 0, .ref a8, .null, .int 0, .int 0, .null, .null, .int 0, .int 0, .int 0, .int 0, .int 0, .int 0, .int 0, .int 0, .int 0])), (a1, ai E 4 (fun _ => 0)), (a2, ai E 4 (fun _ => 0)), (a3, al E 240 (fun _ => 0)), (a4, ab E 900 (fun _ => 0)), (a5, ai E 1860 (fun _ => 0)), (a6, ai E 100 (fun _ => 0)), (a7, al E 25 (fun _ => 0)), (a8, ai E 36 (fun _ => 0)), (a9, ai E 36 (fun _ => 0))] H := hP
  replace hD : va_D A [(a0, .inr (12, [.int 0, .int 0, .long 0, .long 1, .ref a1, .ref a2, .ref a3, .ref a4, .int 0, .int 0, .int (-1), .int (-1), .int 0, .int 0, .int 0, .int 0, .int 0, .int 0, .int 0, .long 0, .ref a5, .ref a6, .ref a7, .int 0, .int 0, .int 0, .int 0, .ref a8, .null, .int 0, .int 0, .null, .null, .int 0, .int 0, .int 0, .int 0, .int 0, .int 0, .int 0, .int 0, .int 0])), (a1, ai E 4 (fun _ => 0)), (a2, ai E 4 (fun _ => 0)), (a3, al E 240 (fun _ => 0)), (a4, ab E 900 (fun _ => 0)), (a5, ai E 1860 (fun _ => 0)), (a6, ai E 100 (fun _ => 0)), (a7, al E 25 (fun _ => 0)), (a8, ai E 36 (fun _ => 0)), (a9, ai E 36 (fun _ => 0))] := hD
  refine W.widen (k := 9) (n := 3205) (Nat.le_of_ble_eq_true rfl) (Nat.le_of_ble_eq_true rfl) ?_
  refine va_putF (D := E.1) (ci := 12) (v := .ref a9) (ty := (.array .int)) (C := RX12) (T := TX12) (N := 42) hx hb htg hwX12 tyX12 tyX12_ok nmX12 hown hK hP hD hS 0 rfl rfl 28 (by decide) (htg _ fl12_47) (fun _ h9 => h9) rfl hin rfl (by decide +kernel) rfl rfl (Nat.le_of_ble_eq_true rfl) dX12_init_89 (fun H locs hP hD hS => ?_)
  replace hP : va_P E.1 vwCl [(a0, .inr (12, [.int 0, .int 0, .long 0, .long 1, .ref a1, .ref a2, .ref a3, .ref a4, .int 0, .int 0, .int (-1), .int (-1), .int 0, .int 0, .int 0, .int 0, .int 0, .int 0, .int 0, .long 0, .ref a5, .ref a6, .ref a7, .int 0, .int 0, .int 0, .int 0, .ref a8, .ref a9, .int 0, .int 0, .null, .null, .int 0, .int 0, .int 0, .int 0, .int 0, .int 0, .int 0, .int 0, .int 0])), (a1, ai E 4 (fun _ => 0)), (a2, ai E 4 (fun _ => 0)), (a3, al E 240 (fun _ => 0)), (a4, ab E 900 (fun _ => 0)), (a5, ai E 1860 (fun _ => 0)), (a6, ai E 100 (fun _ => 0)), (a7, al E 25 (fun _ => 0)), (a8, ai E 36 (fun _ => 0)), (a9, ai E 36 (fun _ => 0))] H := hP
  replace hD : va_D A [(a0, .inr (12, [.int 0, .int 0, .long 0, .long 1, .ref a1, .ref a2, .ref a3, .ref a4, .int 0, .int 0, .int (-1), .int (-1), .int 0, .int 0, .int 0, .int 0, .int 0, .int 0, .int 0, .long 0, .ref a5, .ref a6, .ref a7, .int 0, .int 0, .int 0, .int 0, .ref a8, .ref a9, .int 0, .int 0, .null, .null, .int 0, .int 0, .int 0, .int 0, .int 0, .int 0, .int 0, .int 0, .int 0])), (a1, ai E 4 (fun _ => 0)), (a2, ai E 4 (fun _ => 0)), (a3, al E 240 (fun _ => 0)), (a4, ab E 900 (fun _ => 0)), (a5, ai E 1860 (fun _ => 0)), (a6, ai E 100 (fun _ => 0)), (a7, al E 25 (fun _ => 0)), (a8, ai E 36 (fun _ => 0)), (a9, ai E 36 (fun _ => 0))] := hD
  refine lv_aload_n hx hb dX12_init_92 rfl (lv_at hl 0 rfl) ?_
  refine lv_bipush (v := 13) hx hb dX12_init_93 rfl ?_
  refine xnewl (N := 13) hx hb htg hK hP hD hS hA (by decide) (by decide) (Nat.le_of_ble_eq_true rfl) (Nat.le_of_ble_eq_true rfl) (Nat.le_of_ble_eq_true rfl) dX12_init_95 (fun a10 H hP hD hS => ?_)
  replace hP : va_P E.1 vwCl [(a0, .inr (12, [.int 0, .int 0, .long 0, .long 1, .ref a1, .ref a2, .ref a3, .ref a4, .int 0, .int 0, .int (-1), .int (-1), .int 0, .int 0, .int 0, .int 0, .int 0, .int 0, .int 0, .long 0, .ref a5, .ref a6, .ref a7, .int 0, .int 0, .int 0, .int 0, .ref a8, .ref a9, .int 0, .int 0, .null, .null, .int 0, .int 0, .int 0, .int 0, .int 0, .int 0, .int 0, .int 0, .int 0])), (a1, ai E 4 (fun _ => 0)), (a2, ai E 4 (fun _ => 0)), (a3, al E 240 (fun _ => 0)), (a4, ab E 900 (fun _ => 0)), (a5, ai E 1860 (fun _ => 0)), (a6, ai E 100 (fun _ => 0)), (a7, al E 25 (fun _ => 0)), (a8, ai E 36 (fun _ => 0)), (a9, ai E 36 (fun _ => 0)), (a10, al E 13 (fun _ => 0))] H := hP
  replace hD : va_D A [(a0, .inr (12, [.int 0, .int 0, .long 0, .long 1, .ref a1, .ref a2, .ref a3, .ref a4, .int 0, .int 0, .int (-1), .int (-1), .int 0, .int 0, .int 0, .int 0, .int 0, .int 0, .int 0, .long 0, .ref a5, .ref a6, .ref a7, .int 0, .int 0, .int 0, .int 0, .ref a8, .ref a9, .int 0, .int 0, .null, .null, .int 0, .int 0, .int 0, .int 0, .int 0, .int 0, .int 0, .int 0, .int 0])), (a1, ai E 4 (fun _ => 0)), (a2, ai E 4 (fun _ => 0)), (a3, al E 240 (fun _ => 0)), (a4, ab E 900 (fun _ => 0)), (a5, ai E 1860 (fun _ => 0)), (a6, ai E 100 (fun _ => 0)), (a7, al E 25 (fun _ => 0)), (a8, ai E 36 (fun _ => 0)), (a9, ai E 36 (fun _ => 0)), (a10, al E 13 (fun _ => 0))] := hD
  refine W.widen (k := 10) (n := 3218) (Nat.le_of_ble_eq_true rfl) (Nat.le_of_ble_eq_true rfl) ?_
  refine va_putF (D := E.1) (ci := 12) (v := .ref a10) (ty := (.array .long)) (C := RX12) (T := TX12) (N := 42) hx hb htg hwX12 tyX12 tyX12_ok nmX12 hown hK hP hD hS 0 rfl rfl 31 (by decide) (htg _ fl12_50) (fun _ h9 => h9) rfl hin rfl (by decide +kernel) rfl rfl (Nat.le_of_ble_eq_true rfl) dX12_init_97 (fun H locs hP hD hS => ?_)
  replace hP : va_P E.1 vwCl [(a0, .inr (12, [.int 0, .int 0, .long 0, .long 1, .ref a1, .ref a2, .ref a3, .ref a4, .int 0, .int 0, .int (-1), .int (-1), .int 0, .int 0, .int 0, .int 0, .int 0, .int 0, .int 0, .long 0, .ref a5, .ref a6, .ref a7, .int 0, .int 0, .int 0, .int 0, .ref a8, .ref a9, .int 0, .int 0, .ref a10, .null, .int 0, .int 0, .int 0, .int 0, .int 0, .int 0, .int 0, .int 0, .int 0])), (a1, ai E 4 (fun _ => 0)), (a2, ai E 4 (fun _ => 0)), (a3, al E 240 (fun _ => 0)), (a4, ab E 900 (fun _ => 0)), (a5, ai E 1860 (fun _ => 0)), (a6, ai E 100 (fun _ => 0)), (a7, al E 25 (fun _ => 0)), (a8, ai E 36 (fun _ => 0)), (a9, ai E 36 (fun _ => 0)), (a10, al E 13 (fun _ => 0))] H := hP
  replace hD : va_D A [(a0, .inr (12, [.int 0, .int 0, .long 0, .long 1, .ref a1, .ref a2, .ref a3, .ref a4, .int 0, .int 0, .int (-1), .int (-1), .int 0, .int 0, .int 0, .int 0, .int 0, .int 0, .int 0, .long 0, .ref a5, .ref a6, .ref a7, .int 0, .int 0, .int 0, .int 0, .ref a8, .ref a9, .int 0, .int 0, .ref a10, .null, .int 0, .int 0, .int 0, .int 0, .int 0, .int 0, .int 0, .int 0, .int 0])), (a1, ai E 4 (fun _ => 0)), (a2, ai E 4 (fun _ => 0)), (a3, al E 240 (fun _ => 0)), (a4, ab E 900 (fun _ => 0)), (a5, ai E 1860 (fun _ => 0)), (a6, ai E 100 (fun _ => 0)), (a7, al E 25 (fun _ => 0)), (a8, ai E 36 (fun _ => 0)), (a9, ai E 36 (fun _ => 0)), (a10, al E 13 (fun _ => 0))] := hD
  refine lv_aload_n hx hb dX12_init_100 rfl (lv_at hl 0 rfl) ?_
  refine lv_iconst (v := 5) hx hb dX12_init_101 rfl ?_
  refine xnewi (N := 5) hx hb htg hK hP hD hS hA (by decide) (by decide) (Nat.le_of_ble_eq_true rfl) (Nat.le_of_ble_eq_true rfl) (Nat.le_of_ble_eq_true rfl) dX12_init_102 (fun a11 H hP hD hS => ?_)
  replace hP : va_P E.1 vwCl [(a0, .inr (12, [.int 0, .int 0, .long 0, .long 1, .ref a1, .ref a2, .ref a3, .ref a4, .int 0, .int 0, .int (-1), .int (-1), .int 0, .int 0, .int 0, .int 0, .int 0, .int 0, .int 0, .long 0, .ref a5, .ref a6, .ref a7, .int 0, .int 0, .int 0, .int 0, .ref a8, .ref a9, .int 0, .int 0, .ref a10, .null, .int 0, .int 0, .int 0, .int 0, .int 0, .int 0, .int 0, .int 0, .int 0])), (a1, ai E 4 (fun _ => 0)), (a2, ai E 4 (fun _ => 0)), (a3, al E 240 (fun _ => 0)), (a4, ab E 900 (fun _ => 0)), (a5, ai E 1860 (fun _ => 0)), (a6, ai E 100 (fun _ => 0)), (a7, al E 25 (fun _ => 0)), (a8, ai E 36 (fun _ => 0)), (a9, ai E 36 (fun _ => 0)), (a10, al E 13 (fun _ => 0)), (a11, ai E 5 (fun _ => 0))] H := hP
  replace hD : va_D A [(a0, .inr (12, [.int 0, .int 0, .long 0, .long 1, .ref a1, .ref a2, .ref a3, .ref a4, .int 0, .int 0, .int (-1), .int (-1), .int 0, .int 0, .int 0, .int 0, .int 0, .int 0, .int 0, .long 0, .ref a5, .ref a6, .ref a7, .int 0, .int 0, .int 0, .int 0, .ref a8, .ref a9, .int 0, .int 0, .ref a10, .null, .int 0, .int 0, .int 0, .int 0, .int 0, .int 0, .int 0, .int 0, .int 0])), (a1, ai E 4 (fun _ => 0)), (a2, ai E 4 (fun _ => 0)), (a3, al E 240 (fun _ => 0)), (a4, ab E 900 (fun _ => 0)), (a5, ai E 1860 (fun _ => 0)), (a6, ai E 100 (fun _ => 0)), (a7, al E 25 (fun _ => 0)), (a8, ai E 36 (fun _ => 0)), (a9, ai E 36 (fun _ => 0)), (a10, al E 13 (fun _ => 0)), (a11, ai E 5 (fun _ => 0))] := hD
  refine W.widen (k := 11) (n := 3223) (Nat.le_of_ble_eq_true rfl) (Nat.le_of_ble_eq_true rfl) ?_
  refine va_putF (D := E.1) (ci := 12) (v := .ref a11) (ty := (.array .int)) (C := RX12) (T := TX12) (N := 42) hx hb htg hwX12 tyX12 tyX12_ok nmX12 hown hK hP hD hS 0 rfl rfl 32 (by decide) (htg _ fl12_53) (fun _ h9 => h9) rfl hin rfl (by decide +kernel) rfl rfl (Nat.le_of_ble_eq_true rfl) dX12_init_104 (fun H locs hP hD hS => ?_)
  replace hP : va_P E.1 vwCl [(a0, .inr (12, [.int 0, .int 0, .long 0, .long 1, .ref a1, .ref a2, .ref a3, .ref a4, .int 0, .int 0, .int (-1), .int (-1), .int 0, .int 0, .int 0, .int 0, .int 0, .int 0, .int 0, .long 0, .ref a5, .ref a6, .ref a7, .int 0, .int 0, .int 0, .int 0, .ref a8, .ref a9, .int 0, .int 0, .ref a10, .ref a11, .int 0, .int 0, .int 0, .int 0, .int 0, .int 0, .int 0, .int 0, .int 0])), (a1, ai E 4 (fun _ => 0)), (a2, ai E 4 (fun _ => 0)), (a3, al E 240 (fun _ => 0)), (a4, ab E 900 (fun _ => 0)), (a5, ai E 1860 (fun _ => 0)), (a6, ai E 100 (fun _ => 0)), (a7, al E 25 (fun _ => 0)), (a8, ai E 36 (fun _ => 0)), (a9, ai E 36 (fun _ => 0)), (a10, al E 13 (fun _ => 0)), (a11, ai E 5 (fun _ => 0))] H := hP
  replace hD : va_D A [(a0, .inr (12, [.int 0, .int 0, .long 0, .long 1, .ref a1, .ref a2, .ref a3, .ref a4, .int 0, .int 0, .int (-1), .int (-1), .int 0, .int 0, .int 0, .int 0, .int 0, .int 0, .int 0, .long 0, .ref a5, .ref a6, .ref a7, .int 0, .int 0, .int 0, .int 0, .ref a8, .ref a9, .int 0, .int 0, .ref a10, .ref a11, .int 0, .int 0, .int 0, .int 0, .int 0, .int 0, .int 0, .int 0, .int 0])), (a1, ai E 4 (fun _ => 0)), (a2, ai E 4 (fun _ => 0)), (a3, al E 240 (fun _ => 0)), (a4, ab E 900 (fun _ => 0)), (a5, ai E 1860 (fun _ => 0)), (a6, ai E 100 (fun _ => 0)), (a7, al E 25 (fun _ => 0)), (a8, ai E 36 (fun _ => 0)), (a9, ai E 36 (fun _ => 0)), (a10, al E 13 (fun _ => 0)), (a11, ai E 5 (fun _ => 0))] := hD
  obtain ⟨T0, eT0⟩ : ∃ z9 : Nat → Int32, z9 = (upd (upd (fun _ => 0) 10 (-1)) 11 (-1)) := ⟨_, rfl⟩
  obtain ⟨J0_2, eJ0_2⟩ : ∃ z9 : Int64, z9 = 0 := ⟨_, rfl⟩
  obtain ⟨J0_3, eJ0_3⟩ : ∃ z9 : Int64, z9 = 1 := ⟨_, rfl⟩
  obtain ⟨J0_19, eJ0_19⟩ : ∃ z9 : Int64, z9 = 0 := ⟨_, rfl⟩
  obtain ⟨V1, eV1⟩ : ∃ z9 : Nat → Int32, z9 = (fun _ => 0) := ⟨_, rfl⟩
  obtain ⟨V2, eV2⟩ : ∃ z9 : Nat → Int32, z9 = (fun _ => 0) := ⟨_, rfl⟩
  obtain ⟨V3, eV3⟩ : ∃ z9 : Nat → Int64, z9 = (fun _ => 0) := ⟨_, rfl⟩
  obtain ⟨V4, eV4⟩ : ∃ z9 : Nat → Int32, z9 = (fun _ => 0) := ⟨_, rfl⟩
  obtain ⟨V5, eV5⟩ : ∃ z9 : Nat → Int32, z9 = (fun _ => 0) := ⟨_, rfl⟩
  obtain ⟨V6, eV6⟩ : ∃ z9 : Nat → Int32, z9 = (fun _ => 0) := ⟨_, rfl⟩
  obtain ⟨V7, eV7⟩ : ∃ z9 : Nat → Int64, z9 = (fun _ => 0) := ⟨_, rfl⟩
  obtain ⟨V8, eV8⟩ : ∃ z9 : Nat → Int32, z9 = (fun _ => 0) := ⟨_, rfl⟩
  obtain ⟨V9, eV9⟩ : ∃ z9 : Nat → Int32, z9 = (fun _ => 0) := ⟨_, rfl⟩
  obtain ⟨V10, eV10⟩ : ∃ z9 : Nat → Int64, z9 = (fun _ => 0) := ⟨_, rfl⟩
  obtain ⟨V11, eV11⟩ : ∃ z9 : Nat → Int32, z9 = (fun _ => 0) := ⟨_, rfl⟩
  replace hP : va_P E.1 vwCl [(a0, o12 T0 J0_2 J0_3 J0_19 a1 a2 a3 a4 a5 a6 a7 a8 a9 a10 a11), (a1, ai E 4 V1), (a2, ai E 4 V2), (a3, al E 240 V3), (a4, ab E 900 V4), (a5, ai E 1860 V5), (a6, ai E 100 V6), (a7, al E 25 V7), (a8, ai E 36 V8), (a9, ai E 36 V9), (a10, al E 13 V10), (a11, ai E 5 V11)] H := by rw [eT0, eJ0_2, eJ0_3, eJ0_19, eV1, eV2, eV3, eV4, eV5, eV6, eV7, eV8, eV9, eV10, eV11]; exact hP
  replace hD : va_D A [(a0, o12 T0 J0_2 J0_3 J0_19 a1 a2 a3 a4 a5 a6 a7 a8 a9 a10 a11), (a1, ai E 4 V1), (a2, ai E 4 V2), (a3, al E 240 V3), (a4, ab E 900 V4), (a5, ai E 1860 V5), (a6, ai E 100 V6), (a7, al E 25 V7), (a8, ai E 36 V8), (a9, ai E 36 V9), (a10, al E 13 V10), (a11, ai E 5 V11)] := by rw [eT0, eJ0_2, eJ0_3, eJ0_19, eV1, eV2, eV3, eV4, eV5, eV6, eV7, eV8, eV9, eV10, eV11]; exact hD
  have hD0 := hD
  replace hf : f_X12_init V2 V5 = some z := by rw [eV2, eV5]; exact hf
  have ret : ∀ (z' : (Nat → Int32) × (Nat → Int32)) {H : Heap} {locs : List Loc} {pc : Nat} {ls : Array Slot}, some z' = some z → va_P E.1 vwCl [(a0, o12 T0 J0_2 J0_3 J0_19 a1 a2 a3 a4 a5 a6 a7 a8 a9 a10 a11), (a1, ai E 4 V1), (a2, ai E 4 z'.1), (a3, al E 240 V3), (a4, ab E 900 V4), (a5, ai E 1860 z'.2), (a6, ai E 100 V6), (a7, al E 25 V7), (a8, ai E 36 V8), (a9, ai E 36 V9), (a10, al E 13 V10), (a11, ai E 5 V11)] H → va_S A s.heap H locs → decode cX12_init pc = .ok (.return_, 1) → W p l e ({ frames := 1, cells := 11, slots := 3223, locals := 22 } : Room) s m args below meth c H locs 11 3223 Q (F0 m pc ls []) := by
    intro z' H9 locs9 pc9 ls9 h9 hP9 hS9 hd9
    cases h9
    subst eT0 eJ0_2 eJ0_3 eJ0_19 eV1 eV2 eV3 eV4 eV5 eV6 eV7 eV8 eV9 eV10 eV11
    exact ret0 (fun k => match k with | 0 => a1 | 1 => a2 | 2 => a3 | 3 => a4 | 4 => a5 | 5 => a6 | 6 => a7 | 7 => a8 | 8 => a9 | 9 => a10 | _ => a11) hP9 (va_D_adr hD0 rfl) hS9 hd9
  have b109 : ∀ (n : Nat) (x1 : Int32) (V2 : Nat → Int32) (V5 : Nat → Int32) (H : Heap) (locs : List Loc) (ls : Array Slot), f_X12_init_109 n x1 V2 V5 = some z → va_P E.1 vwCl [(a0, o12 T0 J0_2 J0_3 J0_19 a1 a2 a3 a4 a5 a6 a7 a8 a9 a10 a11), (a1, ai E 4 V1), (a2, ai E 4 V2), (a3, al E 240 V3), (a4, ab E 900 V4), (a5, ai E 1860 V5), (a6, ai E 100 V6), (a7, al E 25 V7), (a8, ai E 36 V8), (a9, ai E 36 V9), (a10, al E 13 V10), (a11, ai E 5 V11)] H → va_D A [(a0, o12 T0 J0_2 J0_3 J0_19 a1 a2 a3 a4 a5 a6 a7 a8 a9 a10 a11), (a1, ai E 4 V1), (a2, ai E 4 V2), (a3, al E 240 V3), (a4, ab E 900 V4), (a5, ai E 1860 V5), (a6, ai E 100 V6), (a7, al E 25 V7), (a8, ai E 36 V8), (a9, ai E 36 V9), (a10, al E 13 V10), (a11, ai E 5 V11)] → va_S A s.heap H locs → lv_has ls 2 [(0, .ref a0), (1, .int x1)] → W p l e ({ frames := 1, cells := 11, slots := 3223, locals := 22 } : Room) s m args below meth c H locs 11 3223 Q (F0 m 109 ls []) := by
    intro n
    induction n with
    | zero => intro x1 V2 V5 H locs ls hf; exact (nn_s hf).elim
    | succ n ih109 =>
      obtain ⟨k109, ek109⟩ : ∃ k, k = f_X12_init_109 n := ⟨_, rfl⟩
      rw [← ek109] at ih109
      intro x1 V2 V5 H locs ls hf hP hD hS hl
      replace hf : g_X12_init_109 k109 x1 V2 V5 = some z := by rw [ek109]; exact hf
      unfold g_X12_init_109 at hf
      refine lv_iload_n hx hb dX12_init_109 rfl (lv_at hl 1 rfl) ?_
      refine lv_iconst (v := 4) hx hb dX12_init_110 rfl ?_
      refine lv_icmp_ge (tgt := 127) hx hb dX12_init_111 (by decide) (fun c111 => ?_) (fun c111 => ?_)
      · have hf := it_t c111 hf
        refine lv_aload_n hx hb dX12_init_127 rfl (lv_at hl 0 rfl) ?_
        refine lv_iconst (v := 0) hx hb dX12_init_128 rfl ?_
        obtain ⟨z129, hz129, hf⟩ := bind_s hf
        refine xV_vu hx hb hml hown htg L12_56 (c_X12_empties l E a0 a5 hz129 _) ⟨⟨rfl, rfl⟩, Nat.le_of_ble_eq_true rfl, Nat.le_of_ble_eq_true rfl⟩ hK hG hA hP hD hS (is := [0, 5]) (sel := [some 0, none, none, none, none, some 1, none, none, none, none, none, none]) (ws2 := [(a0, o12 T0 J0_2 J0_3 J0_19 a1 a2 a3 a4 a5 a6 a7 a8 a9 a10 a11), (a1, ai E 4 V1), (a2, ai E 4 V2), (a3, al E 240 V3), (a4, ab E 900 V4), (a5, ai E 1860 z129), (a6, ai E 100 V6), (a7, al E 25 V7), (a8, ai E 36 V8), (a9, ai E 36 V9), (a10, al E 13 V10), (a11, ai E 5 V11)]) rfl rfl rfl rfl rfl (xrecv hK hP (q0 := 0) (ci := 12) rfl rfl) rfl hl.1 rfl (Nat.le_of_ble_eq_true rfl) dX12_init_129 (fun H locs hP hD hS => ?_) ⟨Nat.le_of_ble_eq_true rfl, Nat.le_of_ble_eq_true rfl⟩
        exact ret (V2, z129) hf hP hS dX12_init_132
      · have hf := it_f c111 hf
        refine lv_aload_n hx hb dX12_init_114 rfl (lv_at hl 0 rfl) ?_
        refine G12_17 hx hb htg hown hK hP 0 rfl dX12_init_115 ?_
        refine lv_iload_n hx hb dX12_init_118 rfl (lv_at hl 1 rfl) ?_
        refine lv_iconst (v := (-1)) hx hb dX12_init_119 rfl ?_
        obtain ⟨g120, hf⟩ := ck_s hf
        refine xiast hx hb hK hP hD hS 2 rfl g120 dX12_init_120 (fun H locs hP hD hS => ?_)
        refine lv_iinc (v := x1 + 1) (lv' := [(1, .int (x1 + 1)), (0, .ref a0)]) hx hb dX12_init_121 hl (k := 1) rfl rfl (by decide) rfl (fun ls hl => ?_)
        refine lv_goto (tgt := 109) hx hb dX12_init_124 (by decide) ?_
        exact ih109 (x1 + 1) (upd V2 (Int32.toNatClampNeg x1) (-1)) V5 _ _ _ hf hP hD hS (lv_sub hl [1, 0] rfl)
  unfold f_X12_init at hf
  refine lv_iconst (v := 0) hx hb dX12_init_107 rfl ?_
  refine lv_istore_n (lv' := [(1, .int 0), (0, .ref a0)]) hx hb dX12_init_108 rfl hl (by decide) rfl (fun ls hl => ?_)
  exact b109 xF 0 V2 V5 _ _ _ hf hP hD hS (lv_sub hl [1, 0] rfl)
