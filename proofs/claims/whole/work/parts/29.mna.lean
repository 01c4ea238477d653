/-! new long[4][60]: the outer array and its rows are named places. -/
theorem clX9_11 : Cond.classLink RX9 11 "[[J" ∈ gw := gw_t (tb1 37 rfl) rfl
section B9
variable {p : Program} {l : Launch} {e : Env} {R : Room} {s : State} {m : MethodId} {args : Array Value} {below : List Frame} {meth : Method} {c : Code} {H : Heap} {locs : List Loc} {ce sl : Nat} {Q : State → Prop}
variable {E : xE} {cc : ByteArray} {pc : Nat} {ls : Array Slot} {rest : List Value} {A : Nat → Prop} {own : String} {ws : va_W}
theorem xmna {index : Nat} (hx : p.tables.exec = Jvm.exec) (hb : c.code = cc) (htg : ∀ w ∈ gw, w.before args s = true) (hown : s.vm.findClass own = some m.cls) (hcl : (Cond.classLink own index "[[J").before args s = true) (hK : va_K E.1 vwCl (xTY E) s) (hG : xG E A s s.heap) (hP : va_P E.1 vwCl ws H) (hD : va_D A ws) (hS : va_S A s.heap H locs) (hA : ∀ q : Nat, s.heap.size ≤ q → A q) (hce : ce + 5 ≤ R.cells) (hsl : sl + 244 ≤ R.slots) (hdg : decode cc pc = .ok (.multianewarray index 2, 4))
    (kk : ∀ (q q1 q2 q3 q4 : Nat) (H1 : Heap), va_P E.1 vwCl (ws ++ [(q, aj E 4 (en [q1, q2, q3, q4])), (q1, al E 60 (fun _ => 0)), (q2, al E 60 (fun _ => 0)), (q3, al E 60 (fun _ => 0)), (q4, al E 60 (fun _ => 0))]) H1 → va_D A (ws ++ [(q, aj E 4 (en [q1, q2, q3, q4])), (q1, al E 60 (fun _ => 0)), (q2, al E 60 (fun _ => 0)), (q3, al E 60 (fun _ => 0)), (q4, al E 60 (fun _ => 0))]) → va_S A s.heap H1 locs → W p l e R s m args below meth c H1 locs (ce + 5) (sl + 244) Q (F0 m (pc + 4) ls (.ref q :: rest))) : W p l e R s m args below meth c H locs ce sl Q (F0 m pc ls (.int 60 :: .int 4 :: rest)) := by
  intro T hT Xs
  have hover : (Cond.arrayOver (.array .long)).before args s = true := hG.2.2.2.2.2
  obtain ⟨vm₁, cA, comp, -, fA, fC, hO, -, X', step⟩ := Stand.multianewarray2F (ty := .long) Xs hx hown hcl hover (htg _ ac_long) (g := F0 m pc ls (.int 60 :: .int 4 :: rest)) rfl (by rw [hb]; exact hdg) rfl (by decide) (by decide) (by decide) (by decide) (by decide) rfl rfl hce hsl
  have e1 : s.vm.findClass (FieldType.array .long).toString = some (E.2.1 2) := (hK.2 2 _ rfl).2
  have e2 : E.2.1 2 = comp := Option.some.inj (e1.symm.trans fC)
  have e3 : s.vm.findClass ("[" ++ (FieldType.array .long).toString) = some (E.2.1 4) := (hK.2 4 _ rfl).2
  have e4 : E.2.1 4 = cA := Option.some.inj (e3.symm.trans fA)
  subst e2
  subst e4
  generalize hF : Jvm.Free.Multi.fill (T.setVm vm₁) (E.2.1 4) (E.2.1 2) (4 : Int32).toNatClampNeg (60 : Int32).toNatClampNeg (defaultValue .long) (4 : Int32).toNatClampNeg = F at X' step
  have n4 : (4 : Int32).toNatClampNeg = 4 := by decide
  have n60 : (60 : Int32).toNatClampNeg = 60 := by decide
  rw [n4, n60] at hF
  have hTh : (T.setVm vm₁).heap = H := hT
  obtain ⟨f1, f2, -, -⟩ := Jvm.Free.Multi.fill_facts (T.setVm vm₁) (E.2.1 4) (E.2.1 2) 4 60 (defaultValue .long) 4
  rw [hF, hTh] at f1 f2
  have hold : ∀ x : Nat, x < H.size → F.heap[x]? = H[x]? := fun x hx => by
    have := Jvm.Free.Multi.fill_old (T.setVm vm₁) (E.2.1 4) (E.2.1 2) 4 60 (defaultValue .long) (a := x) (by rw [hTh]; exact hx) 4
    rw [hF, hTh] at this
    exact this
  have hz : Jvm.Free.Multi.innerC (E.2.1 2) 60 (defaultValue .long) = vp_cell (E.2.1 2) (60, .inr (.inl (fun _ => 0))) := by
    first | rfl | exact (arrV_new ..).symm | exact arrV_new ..
  have hrow : ∀ j : Nat, j < 4 → F.heap[H.size + 1 + j]? = some (vp_cell (E.2.1 2) (60, .inr (.inl (fun _ => 0)))) := fun j hj => by
    have := Jvm.Free.Multi.fill_inner (T.setVm vm₁) (E.2.1 4) (E.2.1 2) 4 60 (defaultValue .long) 4 j hj
    rw [hF, hTh, hz] at this
    exact this
  have hout : Jvm.Free.Multi.outerC (E.2.1 4) 4 H.size 4 = vp_cell (E.2.1 4) (4, .inr (.inr (.inr (.inr (en [H.size + 1 + 0, H.size + 1 + 1, H.size + 1 + 2, H.size + 1 + 3]))))) := by
    rw [vp_cell_q]
    show (((((({ cls := E.2.1 4, slots := Array.replicate 4 .null, vm := .none } : Cell).setSlot 0 (.ref (H.size + 1 + 0))).setSlot 1 (.ref (H.size + 1 + 1))).setSlot 2 (.ref (H.size + 1 + 2))).setSlot 3 (.ref (H.size + 1 + 3))) : Cell) = _
    rw [arrV_new, arrV_store, arrV_store, arrV_store, arrV_store]
    refine congrArg (arrV (E.2.1 4) 4) (funext fun j => ?_)
    match j with
    | 0 => rfl
    | 1 => rfl
    | 2 => rfl
    | 3 => rfl
    | j + 4 => rfl
  rw [hout] at f2
  have hP0 : va_P E.1 vwCl ws F.heap := hP.kept (fun k9 x hx => hold x.1 ((hP k9 x hx).lt))
  have hP1 : va_P E.1 vwCl (ws ++ [(H.size, aj E 4 (en [H.size + 1 + 0, H.size + 1 + 1, H.size + 1 + 2, H.size + 1 + 3])), (H.size + 1 + 0, al E 60 (fun _ => 0)), (H.size + 1 + 1, al E 60 (fun _ => 0)), (H.size + 1 + 2, al E 60 (fun _ => 0)), (H.size + 1 + 3, al E 60 (fun _ => 0))]) F.heap := hP0.app (fun k9 x hx => by
    match k9, hx with
    | 0, hx => cases hx; exact f2
    | 1, hx => cases hx; exact hrow 0 (by decide)
    | 2, hx => cases hx; exact hrow 1 (by decide)
    | 3, hx => cases hx; exact hrow 2 (by decide)
    | 4, hx => cases hx; exact hrow 3 (by decide)
    | k9 + 5, hx => cases hx)
  have hlt : ∀ (k9 : Nat) (x : Nat × va_E), ws[k9]? = some x → x.1 < H.size := fun k9 x hx => (hP k9 x hx).lt
  have hadr : ∀ (k9 : Nat) (x : Nat × va_E), ([(H.size, aj E 4 (en [H.size + 1 + 0, H.size + 1 + 1, H.size + 1 + 2, H.size + 1 + 3])), (H.size + 1 + 0, al E 60 (fun _ => 0)), (H.size + 1 + 1, al E 60 (fun _ => 0)), (H.size + 1 + 2, al E 60 (fun _ => 0)), (H.size + 1 + 3, al E 60 (fun _ => 0))] : va_W)[k9]? = some x → x.1 = H.size + k9 := fun k9 x hx => by
    match k9, hx with
    | 0, hx => cases hx; rfl
    | 1, hx => cases hx; rfl
    | 2, hx => cases hx; rfl
    | 3, hx => cases hx; rfl
    | 4, hx => cases hx; rfl
    | k9 + 5, hx => cases hx
  have hD1 : va_D A (ws ++ [(H.size, aj E 4 (en [H.size + 1 + 0, H.size + 1 + 1, H.size + 1 + 2, H.size + 1 + 3])), (H.size + 1 + 0, al E 60 (fun _ => 0)), (H.size + 1 + 1, al E 60 (fun _ => 0)), (H.size + 1 + 2, al E 60 (fun _ => 0)), (H.size + 1 + 3, al E 60 (fun _ => 0))]) := by
    refine ⟨fun i j x y hi hj hxy => ?_, fun k9 x hx => ?_⟩
    · by_cases h1 : i < ws.length <;> by_cases h2 : j < ws.length
      · rw [List.getElem?_append_left h1] at hi
        rw [List.getElem?_append_left h2] at hj
        exact hD.1 i j x y hi hj hxy
      · rw [List.getElem?_append_left h1] at hi
        rw [List.getElem?_append_right (by omega)] at hj
        have := hlt _ _ hi
        have := hadr _ _ hj
        omega
      · rw [List.getElem?_append_right (by omega)] at hi
        rw [List.getElem?_append_left h2] at hj
        have := hlt _ _ hj
        have := hadr _ _ hi
        omega
      · rw [List.getElem?_append_right (by omega)] at hi hj
        have := hadr _ _ hi
        have := hadr _ _ hj
        omega
    · by_cases h1 : k9 < ws.length
      · rw [List.getElem?_append_left h1] at hx
        exact hD.2 k9 x hx
      · rw [List.getElem?_append_right (by omega)] at hx
        have := hadr _ _ hx
        exact hA _ (by have := hS.1; omega)
  obtain ⟨t, a1, b1⟩ := kk H.size (H.size + 1 + 0) (H.size + 1 + 1) (H.size + 1 + 2) (H.size + 1 + 3) F.heap hP1 hD1 ⟨by rw [f1]; have := hS.1; omega, fun x h1 h2 => (hold x (Nat.lt_of_lt_of_le h1 hS.1)).trans (hS.2.1 x h1 h2), hS.2.2⟩ F rfl X'
  refine ⟨t, step t ?_, b1⟩
  have e : T.heap.size = H.size := by rw [hT]
  rw [e]
  exact a1
end B9
theorem dX9_init_0 : decode cX9_init 0 = .ok (.aload_n 0, 1) := by decide +kernel
theorem dX9_init_1 : decode cX9_init 1 = .ok (.invokespecial 3, 3) := by decide +kernel
theorem dX9_init_4 : decode cX9_init 4 = .ok (.aload_n 0, 1) := by decide +kernel
theorem dX9_init_5 : decode cX9_init 5 = .ok (.iconst 4, 1) := by decide +kernel
theorem dX9_init_6 : decode cX9_init 6 = .ok (.bipush 60, 2) := by decide +kernel
theorem dX9_init_8 : decode cX9_init 8 = .ok (.multianewarray 11 2, 4) := by decide +kernel
theorem dX9_init_12 : decode cX9_init 12 = .ok (.putfield 13, 3) := by decide +kernel
theorem dX9_init_15 : decode cX9_init 15 = .ok (.aload_n 0, 1) := by decide +kernel
theorem dX9_init_16 : decode cX9_init 16 = .ok (.iconst 4, 1) := by decide +kernel
theorem dX9_init_17 : decode cX9_init 17 = .ok (.newarray .int, 2) := by decide +kernel
theorem dX9_init_19 : decode cX9_init 19 = .ok (.putfield 16, 3) := by decide +kernel
theorem dX9_init_22 : decode cX9_init 22 = .ok (.aload_n 0, 1) := by decide +kernel
theorem dX9_init_23 : decode cX9_init 23 = .ok (.iconst 4, 1) := by decide +kernel
theorem dX9_init_24 : decode cX9_init 24 = .ok (.newarray .int, 2) := by decide +kernel
theorem dX9_init_26 : decode cX9_init 26 = .ok (.putfield 20, 3) := by decide +kernel
theorem dX9_init_29 : decode cX9_init 29 = .ok (.aload_n 0, 1) := by decide +kernel
theorem dX9_init_30 : decode cX9_init 30 = .ok (.getfield 20, 3) := by decide +kernel
theorem dX9_init_33 : decode cX9_init 33 = .ok (.iconst (-1), 1) := by decide +kernel
theorem dX9_init_34 : decode cX9_init 34 = .ok (.invokestatic 23, 3) := by decide +kernel
theorem dX9_init_37 : decode cX9_init 37 = .ok (.return_, 1) := by decide +kernel
set_option maxRecDepth 100000 in
set_option maxHeartbeats 4000000 in
theorem i_X9_init (l : Launch) (E : xE) (a0 : Nat) {zt : Nat → Int32} (hzt : f_J7_fill_53178 (fun _ => 0) 4 (-1) = some zt) (sz : Nat) : Met l yX9_init (Cond.code yX9_init cX9_init 1 none :: gw) ({ frames := 1, cells := 7, slots := 252, locals := 40 }) (xPc E [.ref a0] [(a0, .inr (9, [.null, .null, .null]))] sz) (xQc E (fun q => [(a0, o9 (q 0) (q 5) (q 6)), ((q 0), aj E 4 (en [(q 1), (q 2), (q 3), (q 4)])), ((q 1), al E 60 (fun _ => 0)), ((q 2), al E 60 (fun _ => 0)), ((q 3), al E 60 (fun _ => 0)), ((q 4), al E 60 (fun _ => 0)), ((q 5), ai E 4 (fun _ => 0)), ((q 6), ai E 4 zt)]) [(a0, .inr (9, [.null, .null, .null]))] sz) 7 252 (va_A [(a0, .inr (9, [.null, .null, .null]))] sz) := by
  refine xM_c (by decide +kernel) rfl (Nat.le_of_ble_eq_true rfl) ?_
  intro p e s m args below meth c A Q hx hb hml hown htg hK hG hA hin ret H locs ls hP hD hS hl
  replace hl : lv_has ls 1 [(0, .ref a0)] := hl
  refine lv_aload_n hx hb dX9_init_0 rfl (lv_at hl 0 rfl) ?_
  refine W.objInit hx hb hown (htg _ moX9_3) (htg _ imObj) (htg _ cwObj) rfl (by rw [hml]; exact hl.1) rfl dX9_init_1 (Nat.le_of_ble_eq_true rfl) (Nat.le_of_ble_eq_true rfl) ?_
  refine W.eq (g2 := F0 m 4 ls []) rfl ?_
  refine lv_aload_n hx hb dX9_init_4 rfl (lv_at hl 0 rfl) ?_
  refine lv_iconst (v := 4) hx hb dX9_init_5 rfl ?_
  refine lv_bipush (v := 60) hx hb dX9_init_6 rfl ?_
  refine xmna hx hb htg hown (htg _ clX9_11) hK hG hP hD hS hA (Nat.le_of_ble_eq_true rfl) (Nat.le_of_ble_eq_true rfl) dX9_init_8 (fun a1 a2 a3 a4 a5 H hP hD hS => ?_)
  replace hP : va_P E.1 vwCl [(a0, .inr (9, [.null, .null, .null])), (a1, aj E 4 (en [a2, a3, a4, a5])), (a2, al E 60 (fun _ => 0)), (a3, al E 60 (fun _ => 0)), (a4, al E 60 (fun _ => 0)), (a5, al E 60 (fun _ => 0))] H := hP
  replace hD : va_D A [(a0, .inr (9, [.null, .null, .null])), (a1, aj E 4 (en [a2, a3, a4, a5])), (a2, al E 60 (fun _ => 0)), (a3, al E 60 (fun _ => 0)), (a4, al E 60 (fun _ => 0)), (a5, al E 60 (fun _ => 0))] := hD
  refine W.widen (k := 5) (n := 244) (Nat.le_of_ble_eq_true rfl) (Nat.le_of_ble_eq_true rfl) ?_
  refine va_putF (D := E.1) (ci := 9) (v := .ref a1) (ty := (.array (.array .long))) (C := RX9) (T := TX9) (N := 3) hx hb htg hwX9 tyX9 tyX9_ok nmX9 hown hK hP hD hS 0 rfl rfl 0 (by decide) (htg _ fl9_13) (fun _ h9 => h9) rfl hin rfl (by decide +kernel) rfl rfl (Nat.le_of_ble_eq_true rfl) dX9_init_12 (fun H locs hP hD hS => ?_)
  replace hP : va_P E.1 vwCl [(a0, .inr (9, [.ref a1, .null, .null])), (a1, aj E 4 (en [a2, a3, a4, a5])), (a2, al E 60 (fun _ => 0)), (a3, al E 60 (fun _ => 0)), (a4, al E 60 (fun _ => 0)), (a5, al E 60 (fun _ => 0))] H := hP
  replace hD : va_D A [(a0, .inr (9, [.ref a1, .null, .null])), (a1, aj E 4 (en [a2, a3, a4, a5])), (a2, al E 60 (fun _ => 0)), (a3, al E 60 (fun _ => 0)), (a4, al E 60 (fun _ => 0)), (a5, al E 60 (fun _ => 0))] := hD
  refine lv_aload_n hx hb dX9_init_15 rfl (lv_at hl 0 rfl) ?_
  refine lv_iconst (v := 4) hx hb dX9_init_16 rfl ?_
  refine xnewi (N := 4) hx hb htg hK hP hD hS hA (by decide) (by decide) (Nat.le_of_ble_eq_true rfl) (Nat.le_of_ble_eq_true rfl) (Nat.le_of_ble_eq_true rfl) dX9_init_17 (fun a6 H hP hD hS => ?_)
  replace hP : va_P E.1 vwCl [(a0, .inr (9, [.ref a1, .null, .null])), (a1, aj E 4 (en [a2, a3, a4, a5])), (a2, al E 60 (fun _ => 0)), (a3, al E 60 (fun _ => 0)), (a4, al E 60 (fun _ => 0)), (a5, al E 60 (fun _ => 0)), (a6, ai E 4 (fun _ => 0))] H := hP
  replace hD : va_D A [(a0, .inr (9, [.ref a1, .null, .null])), (a1, aj E 4 (en [a2, a3, a4, a5])), (a2, al E 60 (fun _ => 0)), (a3, al E 60 (fun _ => 0)), (a4, al E 60 (fun _ => 0)), (a5, al E 60 (fun _ => 0)), (a6, ai E 4 (fun _ => 0))] := hD
  refine W.widen (k := 6) (n := 248) (Nat.le_of_ble_eq_true rfl) (Nat.le_of_ble_eq_true rfl) ?_
  refine va_putF (D := E.1) (ci := 9) (v := .ref a6) (ty := (.array .int)) (C := RX9) (T := TX9) (N := 3) hx hb htg hwX9 tyX9 tyX9_ok nmX9 hown hK hP hD hS 0 rfl rfl 1 (by decide) (htg _ fl9_16) (fun _ h9 => h9) rfl hin rfl (by decide +kernel) rfl rfl (Nat.le_of_ble_eq_true rfl) dX9_init_19 (fun H locs hP hD hS => ?_)
  replace hP : va_P E.1 vwCl [(a0, .inr (9, [.ref a1, .ref a6, .null])), (a1, aj E 4 (en [a2, a3, a4, a5])), (a2, al E 60 (fun _ => 0)), (a3, al E 60 (fun _ => 0)), (a4, al E 60 (fun _ => 0)), (a5, al E 60 (fun _ => 0)), (a6, ai E 4 (fun _ => 0))] H := hP
  replace hD : va_D A [(a0, .inr (9, [.ref a1, .ref a6, .null])), (a1, aj E 4 (en [a2, a3, a4, a5])), (a2, al E 60 (fun _ => 0)), (a3, al E 60 (fun _ => 0)), (a4, al E 60 (fun _ => 0)), (a5, al E 60 (fun _ => 0)), (a6, ai E 4 (fun _ => 0))] := hD
  refine lv_aload_n hx hb dX9_init_22 rfl (lv_at hl 0 rfl) ?_
  refine lv_iconst (v := 4) hx hb dX9_init_23 rfl ?_
  refine xnewi (N := 4) hx hb htg hK hP hD hS hA (by decide) (by decide) (Nat.le_of_ble_eq_true rfl) (Nat.le_of_ble_eq_true rfl) (Nat.le_of_ble_eq_true rfl) dX9_init_24 (fun a7 H hP hD hS => ?_)
  replace hP : va_P E.1 vwCl [(a0, .inr (9, [.ref a1, .ref a6, .null])), (a1, aj E 4 (en [a2, a3, a4, a5])), (a2, al E 60 (fun _ => 0)), (a3, al E 60 (fun _ => 0)), (a4, al E 60 (fun _ => 0)), (a5, al E 60 (fun _ => 0)), (a6, ai E 4 (fun _ => 0)), (a7, ai E 4 (fun _ => 0))] H := hP
  replace hD : va_D A [(a0, .inr (9, [.ref a1, .ref a6, .null])), (a1, aj E 4 (en [a2, a3, a4, a5])), (a2, al E 60 (fun _ => 0)), (a3, al E 60 (fun _ => 0)), (a4, al E 60 (fun _ => 0)), (a5, al E 60 (fun _ => 0)), (a6, ai E 4 (fun _ => 0)), (a7, ai E 4 (fun _ => 0))] := hD
  refine W.widen (k := 7) (n := 252) (Nat.le_of_ble_eq_true rfl) (Nat.le_of_ble_eq_true rfl) ?_
  refine va_putF (D := E.1) (ci := 9) (v := .ref a7) (ty := (.array .int)) (C := RX9) (T := TX9) (N := 3) hx hb htg hwX9 tyX9 tyX9_ok nmX9 hown hK hP hD hS 0 rfl rfl 2 (by decide) (htg _ fl9_20) (fun _ h9 => h9) rfl hin rfl (by decide +kernel) rfl rfl (Nat.le_of_ble_eq_true rfl) dX9_init_26 (fun H locs hP hD hS => ?_)
  replace hP : va_P E.1 vwCl [(a0, .inr (9, [.ref a1, .ref a6, .ref a7])), (a1, aj E 4 (en [a2, a3, a4, a5])), (a2, al E 60 (fun _ => 0)), (a3, al E 60 (fun _ => 0)), (a4, al E 60 (fun _ => 0)), (a5, al E 60 (fun _ => 0)), (a6, ai E 4 (fun _ => 0)), (a7, ai E 4 (fun _ => 0))] H := hP
  replace hD : va_D A [(a0, .inr (9, [.ref a1, .ref a6, .ref a7])), (a1, aj E 4 (en [a2, a3, a4, a5])), (a2, al E 60 (fun _ => 0)), (a3, al E 60 (fun _ => 0)), (a4, al E 60 (fun _ => 0)), (a5, al E 60 (fun _ => 0)), (a6, ai E 4 (fun _ => 0)), (a7, ai E 4 (fun _ => 0))] := hD
  refine lv_aload_n hx hb dX9_init_29 rfl (lv_at hl 0 rfl) ?_
  refine va_get hx hb htg hwX9 hown hK hP 0 rfl rfl 2 (by decide) (htg _ fl9_20) (fun _ h => h) rfl dX9_init_30 ?_
  refine lv_iconst (v := (-1)) hx hb dX9_init_33 rfl ?_
  replace hP : va_P E.1 vwCl [(a0, o9 a1 a6 a7), (a1, aj E 4 (en [a2, a3, a4, a5])), (a2, al E 60 (fun _ => 0)), (a3, al E 60 (fun _ => 0)), (a4, al E 60 (fun _ => 0)), (a5, al E 60 (fun _ => 0)), (a6, ai E 4 (fun _ => 0)), (a7, ai E 4 (fun _ => 0))] H := hP
  replace hD : va_D A [(a0, o9 a1 a6 a7), (a1, aj E 4 (en [a2, a3, a4, a5])), (a2, al E 60 (fun _ => 0)), (a3, al E 60 (fun _ => 0)), (a4, al E 60 (fun _ => 0)), (a5, al E 60 (fun _ => 0)), (a6, ai E 4 (fun _ => 0)), (a7, ai E 4 (fun _ => 0))] := hD
  refine xS_vu hx hb hml hown htg L9_23 (c_J7_fill_53178 l E a7 hzt _) ⟨⟨rfl, rfl⟩, Nat.le_of_ble_eq_true rfl, Nat.le_of_ble_eq_true rfl⟩ hK hG hA hP hD hS (is := [7]) (sel := [none, none, none, none, none, none, none, some 0]) (ws2 := [(a0, o9 a1 a6 a7), (a1, aj E 4 (en [a2, a3, a4, a5])), (a2, al E 60 (fun _ => 0)), (a3, al E 60 (fun _ => 0)), (a4, al E 60 (fun _ => 0)), (a5, al E 60 (fun _ => 0)), (a6, ai E 4 (fun _ => 0)), (a7, ai E 4 zt)]) rfl rfl rfl rfl rfl rfl hl.1 rfl (Nat.le_of_ble_eq_true rfl) dX9_init_34 (fun H locs hP hD hS => ?_) (hcs := ⟨Nat.le_of_ble_eq_true rfl, Nat.le_of_ble_eq_true rfl⟩)
  exact ret (fun k => match k with | 0 => a1 | 1 => a2 | 2 => a3 | 3 => a4 | 4 => a5 | 5 => a6 | _ => a7) hP hD hS dX9_init_37
