theorem dX7_take_0 : decode cX7_take 0 = .ok (.aload_n 0, 1) := by decide +kernel
theorem dX7_take_1 : decode cX7_take 1 = .ok (.getfield 9, 3) := by decide +kernel
theorem dX7_take_4 : decode cX7_take 4 = .ok (.iconst 0, 1) := by decide +kernel
theorem dX7_take_5 : decode cX7_take 5 = .ok (.invokestatic 15, 3) := by decide +kernel
theorem dX7_take_8 : decode cX7_take 8 = .ok (.iconst 0, 1) := by decide +kernel
theorem dX7_take_9 : decode cX7_take 9 = .ok (.istore_n 3, 1) := by decide +kernel
theorem dX7_take_10 : decode cX7_take 10 = .ok (.iload_n 3, 1) := by decide +kernel
theorem dX7_take_11 : decode cX7_take 11 = .ok (.aload_n 1, 1) := by decide +kernel
theorem dX7_take_12 : decode cX7_take 12 = .ok (.getfield 21, 3) := by decide +kernel
theorem dX7_take_15 : decode cX7_take 15 = .ok (.if_icmp .ge 66, 3) := by decide +kernel
theorem dX7_take_18 : decode cX7_take 18 = .ok (.aload_n 1, 1) := by decide +kernel
theorem dX7_take_19 : decode cX7_take 19 = .ok (.getfield 27, 3) := by decide +kernel
theorem dX7_take_22 : decode cX7_take 22 = .ok (.iload_n 3, 1) := by decide +kernel
theorem dX7_take_23 : decode cX7_take 23 = .ok (.iaload, 1) := by decide +kernel
theorem dX7_take_24 : decode cX7_take 24 = .ok (.iconst 4, 1) := by decide +kernel
theorem dX7_take_25 : decode cX7_take 25 = .ok (.imul, 1) := by decide +kernel
theorem dX7_take_26 : decode cX7_take 26 = .ok (.aload_n 1, 1) := by decide +kernel
theorem dX7_take_27 : decode cX7_take 27 = .ok (.getfield 30, 3) := by decide +kernel
theorem dX7_take_30 : decode cX7_take 30 = .ok (.iload_n 3, 1) := by decide +kernel
theorem dX7_take_31 : decode cX7_take 31 = .ok (.iaload, 1) := by decide +kernel
theorem dX7_take_32 : decode cX7_take 32 = .ok (.iadd, 1) := by decide +kernel
theorem dX7_take_33 : decode cX7_take 33 = .ok (.istore 4, 2) := by decide +kernel
theorem dX7_take_35 : decode cX7_take 35 = .ok (.aload_n 1, 1) := by decide +kernel
theorem dX7_take_36 : decode cX7_take 36 = .ok (.getfield 33, 3) := by decide +kernel
theorem dX7_take_39 : decode cX7_take 39 = .ok (.iload_n 3, 1) := by decide +kernel
theorem dX7_take_40 : decode cX7_take 40 = .ok (.iaload, 1) := by decide +kernel
theorem dX7_take_41 : decode cX7_take 41 = .ok (.iload_n 2, 1) := by decide +kernel
theorem dX7_take_42 : decode cX7_take 42 = .ok (.invokestatic 36, 3) := by decide +kernel
theorem dX7_take_45 : decode cX7_take 45 = .ok (.ifCond .eq 30, 3) := by decide +kernel
theorem dX7_take_48 : decode cX7_take 48 = .ok (.iload 4, 2) := by decide +kernel
theorem dX7_take_50 : decode cX7_take 50 = .ok (.iconst 0, 1) := by decide +kernel
theorem dX7_take_51 : decode cX7_take 51 = .ok (.aload_n 0, 1) := by decide +kernel
theorem dX7_take_52 : decode cX7_take 52 = .ok (.getfield 9, 3) := by decide +kernel
theorem dX7_take_55 : decode cX7_take 55 = .ok (.arraylength, 1) := by decide +kernel
theorem dX7_take_56 : decode cX7_take 56 = .ok (.iconst 1, 1) := by decide +kernel
theorem dX7_take_57 : decode cX7_take 57 = .ok (.isub, 1) := by decide +kernel
theorem dX7_take_58 : decode cX7_take 58 = .ok (.invokestatic 40, 3) := by decide +kernel
theorem dX7_take_61 : decode cX7_take 61 = .ok (.ifCond .eq 14, 3) := by decide +kernel
theorem dX7_take_64 : decode cX7_take 64 = .ok (.aload_n 0, 1) := by decide +kernel
theorem dX7_take_65 : decode cX7_take 65 = .ok (.getfield 9, 3) := by decide +kernel
theorem dX7_take_68 : decode cX7_take 68 = .ok (.iload 4, 2) := by decide +kernel
theorem dX7_take_70 : decode cX7_take 70 = .ok (.dup2, 1) := by decide +kernel
theorem dX7_take_71 : decode cX7_take 71 = .ok (.iaload, 1) := by decide +kernel
theorem dX7_take_72 : decode cX7_take 72 = .ok (.iconst 1, 1) := by decide +kernel
theorem dX7_take_73 : decode cX7_take 73 = .ok (.iadd, 1) := by decide +kernel
theorem dX7_take_74 : decode cX7_take 74 = .ok (.iastore, 1) := by decide +kernel
theorem dX7_take_75 : decode cX7_take 75 = .ok (.iinc 3 1, 3) := by decide +kernel
theorem dX7_take_78 : decode cX7_take 78 = .ok (.goto (-68), 3) := by decide +kernel
theorem dX7_take_81 : decode cX7_take 81 = .ok (.return_, 1) := by decide +kernel
set_option maxRecDepth 100000 in
theorem c_X7_take (l : Launch) (E : xE) (a0 a1 a2 a3 a4 a5 : Nat) {T1 : Nat → Int32} {V2 : Nat → Int32} {V3 : Nat → Int32} {V4 : Nat → Int32} {V5 : Nat → Int32} {u1_7 u1_8 u1_9 u1_13 u1_14 : Nat} {x2 : Int32} {z : (Nat → Int32)} (hf : f_X7_take T1 V2 V3 V4 V5 x2 = some z) (sz : Nat) : Met l yX7_take (Cond.code yX7_take cX7_take 5 none :: gw) ({ frames := 1, cells := 0, slots := 0, locals := 23 }) (xPc E [.ref a0, .ref a1, .int x2] [(a0, o7 a2), (a1, o3 T1 u1_7 u1_8 u1_9 a5 a3 a4 u1_13 u1_14), (a2, ai E 144 V2), (a3, ai E 12 V3), (a4, ai E 12 V4), (a5, ai E 12 V5)] sz) (xQv E [(a0, o7 a2), (a1, o3 T1 u1_7 u1_8 u1_9 a5 a3 a4 u1_13 u1_14), (a2, ai E 144 V2), (a3, ai E 12 V3), (a4, ai E 12 V4), (a5, ai E 12 V5)] [(a0, o7 a2), (a1, o3 T1 u1_7 u1_8 u1_9 a5 a3 a4 u1_13 u1_14), (a2, ai E 144 z), (a3, ai E 12 V3), (a4, ai E 12 V4), (a5, ai E 12 V5)] sz) 0 0 (va_A [(a0, o7 a2), (a1, o3 T1 u1_7 u1_8 u1_9 a5 a3 a4 u1_13 u1_14), (a2, ai E 144 V2), (a3, ai E 12 V3), (a4, ai E 12 V4), (a5, ai E 12 V5)] sz) := by
  refine xM_v (by decide +kernel) (Nat.le_of_ble_eq_true rfl) ?_
  intro p e s m args below meth c A Q hx hb hml hown htg hK hG hA ret0 H locs ls hP hD hS hl
  have ret : ∀ (z' : (Nat → Int32)) {H : Heap} {locs : List Loc} {pc : Nat} {ls : Array Slot}, some z' = some z → va_P E.1 vwCl [(a0, o7 a2), (a1, o3 T1 u1_7 u1_8 u1_9 a5 a3 a4 u1_13 u1_14), (a2, ai E 144 z'), (a3, ai E 12 V3), (a4, ai E 12 V4), (a5, ai E 12 V5)] H → va_S A s.heap H locs → decode cX7_take pc = .ok (.return_, 1) → W p l e ({ frames := 1, cells := 0, slots := 0, locals := 23 } : Room) s m args below meth c H locs 0 0 Q (F0 m pc ls []) := by
    intro z' H locs pc ls h
    cases h
    exact ret0
  replace hl : lv_has ls 5 [(0, .ref a0), (1, .ref a1), (2, .int x2)] := hl
  have b10 : ∀ (n : Nat) (x3 : Int32) (V2 : Nat → Int32) (H : Heap) (locs : List Loc) (ls : Array Slot), f_X7_take_10 T1 V3 V4 V5 x2 n x3 V2 = some z → va_P E.1 vwCl [(a0, o7 a2), (a1, o3 T1 u1_7 u1_8 u1_9 a5 a3 a4 u1_13 u1_14), (a2, ai E 144 V2), (a3, ai E 12 V3), (a4, ai E 12 V4), (a5, ai E 12 V5)] H → va_D A [(a0, o7 a2), (a1, o3 T1 u1_7 u1_8 u1_9 a5 a3 a4 u1_13 u1_14), (a2, ai E 144 V2), (a3, ai E 12 V3), (a4, ai E 12 V4), (a5, ai E 12 V5)] → va_S A s.heap H locs → lv_has ls 5 [(0, .ref a0), (1, .ref a1), (2, .int x2), (3, .int x3)] → W p l e ({ frames := 1, cells := 0, slots := 0, locals := 23 } : Room) s m args below meth c H locs 0 0 Q (F0 m 10 ls []) := by
    intro n
    induction n with
    | zero => intro x3 V2 H locs ls hf; exact (nn_s hf).elim
    | succ n ih10 =>
      obtain ⟨k10, ek10⟩ : ∃ k, k = f_X7_take_10 T1 V3 V4 V5 x2 n := ⟨_, rfl⟩
      rw [← ek10] at ih10
      intro x3 V2 H locs ls hf hP hD hS hl
      replace hf : g_X7_take_10 T1 V3 V4 V5 x2 k10 x3 V2 = some z := by rw [ek10]; exact hf
      unfold g_X7_take_10 at hf
      refine lv_iload_n hx hb dX7_take_10 rfl (lv_at hl 3 rfl) ?_
      refine lv_aload_n hx hb dX7_take_11 rfl (lv_at hl 1 rfl) ?_
      refine G7_21 hx hb htg hown hK hP 1 rfl dX7_take_12 ?_
      refine lv_icmp_ge (tgt := 81) hx hb dX7_take_15 (by decide) (fun c15 => ?_) (fun c15 => ?_)
      · have hf := it_t c15 hf
        exact ret V2 hf hP hS dX7_take_81
      · have hf := it_f c15 hf
        refine lv_aload_n hx hb dX7_take_18 rfl (lv_at hl 1 rfl) ?_
        refine G7_27 hx hb htg hown hK hP 1 rfl dX7_take_19 ?_
        refine lv_iload_n hx hb dX7_take_22 rfl (lv_at hl 3 rfl) ?_
        obtain ⟨g23, hf⟩ := ck_s hf
        refine xiald hx hb hK hP 3 rfl g23 dX7_take_23 ?_
        refine lv_iconst (v := 4) hx hb dX7_take_24 rfl ?_
        refine lv_imul hx hb dX7_take_25 ?_
        refine lv_aload_n hx hb dX7_take_26 rfl (lv_at hl 1 rfl) ?_
        refine G7_30 hx hb htg hown hK hP 1 rfl dX7_take_27 ?_
        refine lv_iload_n hx hb dX7_take_30 rfl (lv_at hl 3 rfl) ?_
        obtain ⟨g31, hf⟩ := ck_s hf
        refine xiald hx hb hK hP 4 rfl g31 dX7_take_31 ?_
        refine lv_iadd hx hb dX7_take_32 ?_
        refine lv_topi (fun x4_33 ex4_33 => ?_)
        have hf := letv_s ex4_33 hf
        refine lv_istore (lv' := [(4, .int x4_33), (0, .ref a0), (1, .ref a1), (2, .int x2), (3, .int x3)]) hx hb dX7_take_33 hl (by decide) rfl (fun ls hl => ?_)
        refine lv_aload_n hx hb dX7_take_35 rfl (lv_at hl 2 rfl) ?_
        refine G7_33 hx hb htg hown hK hP 1 rfl dX7_take_36 ?_
        refine lv_iload_n hx hb dX7_take_39 rfl (lv_at hl 4 rfl) ?_
        obtain ⟨g40, hf⟩ := ck_s hf
        refine xiald hx hb hK hP 5 rfl g40 dX7_take_40 ?_
        refine lv_iload_n hx hb dX7_take_41 rfl (lv_at hl 3 rfl) ?_
        obtain ⟨z42, hz42, hf⟩ := bind_s hf
        refine xN_ir hx hb hml hown htg L7_36 17 rfl (c_X3_isIn l E hz42 _) ⟨⟨rfl, rfl⟩, Nat.le_of_ble_eq_true rfl, Nat.le_of_ble_eq_true rfl⟩ hK hG hA hP hD hS (is := []) rfl rfl rfl hl.1 rfl (Nat.le_of_ble_eq_true rfl) dX7_take_42 (fun H locs hP hD hS => ?_)
        refine lv_if_eq (tgt := 75) hx hb dX7_take_45 (by decide) (fun c45 => ?_) (fun c45 => ?_)
        · have hf := it_t c45 hf
          refine lv_iinc (v := x3 + 1) (lv' := [(3, .int (x3 + 1)), (4, .int x4_33), (0, .ref a0), (1, .ref a1), (2, .int x2)]) hx hb dX7_take_75 hl (k := 4) rfl rfl (by decide) rfl (fun ls hl => ?_)
          refine lv_goto (tgt := 10) hx hb dX7_take_78 (by decide) ?_
          exact ih10 (x3 + 1) V2 _ _ _ hf hP hD hS (lv_sub hl [2, 3, 4, 0] rfl)
        · have hf := it_f c45 hf
          refine lv_iload hx hb dX7_take_48 (lv_at hl 0 rfl) ?_
          refine lv_iconst (v := 0) hx hb dX7_take_50 rfl ?_
          refine lv_aload_n hx hb dX7_take_51 rfl (lv_at hl 1 rfl) ?_
          refine G7_9 hx hb htg hown hK hP 0 rfl dX7_take_52 ?_
          refine va_alen (v := 144) hx hb hK hP 2 1 rfl rfl rfl dX7_take_55 ?_
          refine lv_iconst (v := 1) hx hb dX7_take_56 rfl ?_
          refine lv_isub hx hb dX7_take_57 ?_
          obtain ⟨z58, hz58, hf⟩ := bind_s hf
          refine xN_ir hx hb hml hown htg L7_40 18 rfl (c_X11_within l E hz58 _) ⟨⟨rfl, rfl⟩, Nat.le_of_ble_eq_true rfl, Nat.le_of_ble_eq_true rfl⟩ hK hG hA hP hD hS (is := []) rfl rfl rfl hl.1 rfl (Nat.le_of_ble_eq_true rfl) dX7_take_58 (fun H locs hP hD hS => ?_)
          refine lv_if_eq (tgt := 75) hx hb dX7_take_61 (by decide) (fun c61 => ?_) (fun c61 => ?_)
          · have hf := it_t c61 hf
            refine lv_iinc (v := x3 + 1) (lv' := [(3, .int (x3 + 1)), (4, .int x4_33), (0, .ref a0), (1, .ref a1), (2, .int x2)]) hx hb dX7_take_75 hl (k := 4) rfl rfl (by decide) rfl (fun ls hl => ?_)
            refine lv_goto (tgt := 10) hx hb dX7_take_78 (by decide) ?_
            exact ih10 (x3 + 1) V2 _ _ _ hf hP hD hS (lv_sub hl [2, 3, 4, 0] rfl)
          · have hf := it_f c61 hf
            refine lv_aload_n hx hb dX7_take_64 rfl (lv_at hl 1 rfl) ?_
            refine G7_9 hx hb htg hown hK hP 0 rfl dX7_take_65 ?_
            refine lv_iload hx hb dX7_take_68 (lv_at hl 0 rfl) ?_
            refine lv_dup2_11 hx hb dX7_take_70 rfl rfl ?_
            obtain ⟨g71, hf⟩ := ck_s hf
            refine xiald hx hb hK hP 2 rfl g71 dX7_take_71 ?_
            refine lv_iconst (v := 1) hx hb dX7_take_72 rfl ?_
            refine lv_iadd hx hb dX7_take_73 ?_
            obtain ⟨g74, hf⟩ := ck_s hf
            refine xiast hx hb hK hP hD hS 2 rfl g74 dX7_take_74 (fun H locs hP hD hS => ?_)
            refine lv_iinc (v := x3 + 1) (lv' := [(3, .int (x3 + 1)), (4, .int x4_33), (0, .ref a0), (1, .ref a1), (2, .int x2)]) hx hb dX7_take_75 hl (k := 4) rfl rfl (by decide) rfl (fun ls hl => ?_)
            refine lv_goto (tgt := 10) hx hb dX7_take_78 (by decide) ?_
            exact ih10 (x3 + 1) (upd V2 (Int32.toNatClampNeg x4_33) ((V2 (Int32.toNatClampNeg x4_33)) + 1)) _ _ _ hf hP hD hS (lv_sub hl [2, 3, 4, 0] rfl)
  unfold f_X7_take at hf
  refine lv_aload_n hx hb dX7_take_0 rfl (lv_at hl 0 rfl) ?_
  refine G7_9 hx hb htg hown hK hP 0 rfl dX7_take_1 ?_
  refine lv_iconst (v := 0) hx hb dX7_take_4 rfl ?_
  obtain ⟨z5, hz5, hf⟩ := bind_s hf
  refine xS_vu hx hb hml hown htg L7_15 (c_J7_fill_53178 l E a2 hz5 _) ⟨⟨rfl, rfl⟩, Nat.le_of_ble_eq_true rfl, Nat.le_of_ble_eq_true rfl⟩ hK hG hA hP hD hS (is := [2]) (sel := [none, none, some 0, none, none, none]) (ws2 := [(a0, o7 a2), (a1, o3 T1 u1_7 u1_8 u1_9 a5 a3 a4 u1_13 u1_14), (a2, ai E 144 z5), (a3, ai E 12 V3), (a4, ai E 12 V4), (a5, ai E 12 V5)]) rfl rfl rfl rfl rfl rfl hl.1 rfl (Nat.le_of_ble_eq_true rfl) dX7_take_5 (fun H locs hP hD hS => ?_)
  refine lv_iconst (v := 0) hx hb dX7_take_8 rfl ?_
  refine lv_istore_n (lv' := [(3, .int 0), (0, .ref a0), (1, .ref a1), (2, .int x2)]) hx hb dX7_take_9 rfl hl (by decide) rfl (fun ls hl => ?_)
  exact b10 xF 0 z5 _ _ _ hf hP hD hS (lv_sub hl [1, 2, 3, 0] rfl)
theorem dX7_drawnAs_0 : decode cX7_drawnAs 0 = .ok (.iload_n 1, 1) := by decide +kernel
theorem dX7_drawnAs_1 : decode cX7_drawnAs 1 = .ok (.iconst 4, 1) := by decide +kernel
theorem dX7_drawnAs_2 : decode cX7_drawnAs 2 = .ok (.imul, 1) := by decide +kernel
theorem dX7_drawnAs_3 : decode cX7_drawnAs 3 = .ok (.istore_n 2, 1) := by decide +kernel
theorem dX7_drawnAs_4 : decode cX7_drawnAs 4 = .ok (.iload_n 2, 1) := by decide +kernel
theorem dX7_drawnAs_5 : decode cX7_drawnAs 5 = .ok (.ifCond .lt 14, 3) := by decide +kernel
theorem dX7_drawnAs_8 : decode cX7_drawnAs 8 = .ok (.iload_n 2, 1) := by decide +kernel
theorem dX7_drawnAs_9 : decode cX7_drawnAs 9 = .ok (.iconst 4, 1) := by decide +kernel
theorem dX7_drawnAs_10 : decode cX7_drawnAs 10 = .ok (.iadd, 1) := by decide +kernel
theorem dX7_drawnAs_11 : decode cX7_drawnAs 11 = .ok (.aload_n 0, 1) := by decide +kernel
theorem dX7_drawnAs_12 : decode cX7_drawnAs 12 = .ok (.getfield 9, 3) := by decide +kernel
theorem dX7_drawnAs_15 : decode cX7_drawnAs 15 = .ok (.arraylength, 1) := by decide +kernel
theorem dX7_drawnAs_16 : decode cX7_drawnAs 16 = .ok (.if_icmp .le 5, 3) := by decide +kernel
theorem dX7_drawnAs_19 : decode cX7_drawnAs 19 = .ok (.iconst 4, 1) := by decide +kernel
theorem dX7_drawnAs_20 : decode cX7_drawnAs 20 = .ok (.ireturn, 1) := by decide +kernel
theorem dX7_drawnAs_21 : decode cX7_drawnAs 21 = .ok (.iconst 4, 1) := by decide +kernel
theorem dX7_drawnAs_22 : decode cX7_drawnAs 22 = .ok (.istore_n 3, 1) := by decide +kernel
theorem dX7_drawnAs_23 : decode cX7_drawnAs 23 = .ok (.iconst 0, 1) := by decide +kernel
theorem dX7_drawnAs_24 : decode cX7_drawnAs 24 = .ok (.istore 4, 2) := by decide +kernel
theorem dX7_drawnAs_26 : decode cX7_drawnAs 26 = .ok (.iconst 0, 1) := by decide +kernel
theorem dX7_drawnAs_27 : decode cX7_drawnAs 27 = .ok (.istore 5, 2) := by decide +kernel
theorem dX7_drawnAs_29 : decode cX7_drawnAs 29 = .ok (.iload 5, 2) := by decide +kernel
theorem dX7_drawnAs_31 : decode cX7_drawnAs 31 = .ok (.iconst 4, 1) := by decide +kernel
theorem dX7_drawnAs_32 : decode cX7_drawnAs 32 = .ok (.if_icmp .ge 46, 3) := by decide +kernel
theorem dX7_drawnAs_35 : decode cX7_drawnAs 35 = .ok (.aload_n 0, 1) := by decide +kernel
theorem dX7_drawnAs_36 : decode cX7_drawnAs 36 = .ok (.getfield 9, 3) := by decide +kernel
theorem dX7_drawnAs_39 : decode cX7_drawnAs 39 = .ok (.iload_n 2, 1) := by decide +kernel
theorem dX7_drawnAs_40 : decode cX7_drawnAs 40 = .ok (.iload 5, 2) := by decide +kernel
theorem dX7_drawnAs_42 : decode cX7_drawnAs 42 = .ok (.iadd, 1) := by decide +kernel
theorem dX7_drawnAs_43 : decode cX7_drawnAs 43 = .ok (.iaload, 1) := by decide +kernel
theorem dX7_drawnAs_44 : decode cX7_drawnAs 44 = .ok (.istore 6, 2) := by decide +kernel
theorem dX7_drawnAs_46 : decode cX7_drawnAs 46 = .ok (.iload 6, 2) := by decide +kernel
theorem dX7_drawnAs_48 : decode cX7_drawnAs 48 = .ok (.iload 4, 2) := by decide +kernel
theorem dX7_drawnAs_50 : decode cX7_drawnAs 50 = .ok (.if_icmp .le 13, 3) := by decide +kernel
theorem dX7_drawnAs_53 : decode cX7_drawnAs 53 = .ok (.iload 6, 2) := by decide +kernel
theorem dX7_drawnAs_55 : decode cX7_drawnAs 55 = .ok (.istore 4, 2) := by decide +kernel
theorem dX7_drawnAs_57 : decode cX7_drawnAs 57 = .ok (.iload 5, 2) := by decide +kernel
theorem dX7_drawnAs_59 : decode cX7_drawnAs 59 = .ok (.istore_n 3, 1) := by decide +kernel
theorem dX7_drawnAs_60 : decode cX7_drawnAs 60 = .ok (.goto 12, 3) := by decide +kernel
theorem dX7_drawnAs_63 : decode cX7_drawnAs 63 = .ok (.iload 6, 2) := by decide +kernel
theorem dX7_drawnAs_65 : decode cX7_drawnAs 65 = .ok (.iload 4, 2) := by decide +kernel
theorem dX7_drawnAs_67 : decode cX7_drawnAs 67 = .ok (.if_icmp .ne 5, 3) := by decide +kernel
theorem dX7_drawnAs_70 : decode cX7_drawnAs 70 = .ok (.iconst 4, 1) := by decide +kernel
theorem dX7_drawnAs_71 : decode cX7_drawnAs 71 = .ok (.istore_n 3, 1) := by decide +kernel
theorem dX7_drawnAs_72 : decode cX7_drawnAs 72 = .ok (.iinc 5 1, 3) := by decide +kernel
theorem dX7_drawnAs_75 : decode cX7_drawnAs 75 = .ok (.goto (-46), 3) := by decide +kernel
theorem dX7_drawnAs_78 : decode cX7_drawnAs 78 = .ok (.iload_n 3, 1) := by decide +kernel
theorem dX7_drawnAs_79 : decode cX7_drawnAs 79 = .ok (.ireturn, 1) := by decide +kernel
set_option maxRecDepth 100000 in
theorem c_X7_drawnAs (l : Launch) (E : xE) (a0 a1 : Nat) {V1 : Nat → Int32} {x1 : Int32} {z : Int32} (hf : f_X7_drawnAs V1 x1 = some z) (sz : Nat) : Met l yX7_drawnAs (Cond.code yX7_drawnAs cX7_drawnAs 7 (some .int) :: gw) ({ frames := 0, cells := 0, slots := 0, locals := 0 }) (xPc E [.ref a0, .int x1] [(a0, o7 a1), (a1, ai E 144 V1)] sz) (xQi E z [(a0, o7 a1), (a1, ai E 144 V1)] [(a0, o7 a1), (a1, ai E 144 V1)] sz) 0 0 (va_A [(a0, o7 a1), (a1, ai E 144 V1)] sz) := by
  refine xM_i (by decide +kernel) (Nat.le_of_ble_eq_true rfl) ?_
  intro p e s m args below meth c A Q hx hb hml hown htg hK hG hA ret0 H locs ls hP hD hS hl
  have ret : ∀ (z' : Int32) {H : Heap} {locs : List Loc} {pc : Nat} {ls : Array Slot}, some z' = some z → narrow .int (.int z') = .int z' → va_P E.1 vwCl [(a0, o7 a1), (a1, ai E 144 V1)] H → va_S A s.heap H locs → decode cX7_drawnAs pc = .ok (.ireturn, 1) → W p l e ({ frames := 0, cells := 0, slots := 0, locals := 0 } : Room) s m args below meth c H locs 0 0 Q (F0 m pc ls [.int z']) := by
    intro z' H locs pc ls h
    cases h
    exact ret0
  replace hl : lv_has ls 7 [(0, .ref a0), (1, .int x1)] := hl
  have b29 : ∀ (n : Nat) (x2 : Int32) (x3 : Int32) (x4 : Int32) (x5 : Int32) (H : Heap) (locs : List Loc) (ls : Array Slot), f_X7_drawnAs_29 V1 x1 n x2 x3 x4 x5 = some z → va_P E.1 vwCl [(a0, o7 a1), (a1, ai E 144 V1)] H → va_D A [(a0, o7 a1), (a1, ai E 144 V1)] → va_S A s.heap H locs → lv_has ls 7 [(0, .ref a0), (2, .int x2), (3, .int x3), (4, .int x4), (5, .int x5)] → W p l e ({ frames := 0, cells := 0, slots := 0, locals := 0 } : Room) s m args below meth c H locs 0 0 Q (F0 m 29 ls []) := by
    intro n
    induction n with
    | zero => intro x2 x3 x4 x5 H locs ls hf; exact (nn_s hf).elim
    | succ n ih29 =>
      obtain ⟨k29, ek29⟩ : ∃ k, k = f_X7_drawnAs_29 V1 x1 n := ⟨_, rfl⟩
      rw [← ek29] at ih29
      intro x2 x3 x4 x5 H locs ls hf hP hD hS hl
      replace hf : g_X7_drawnAs_29 V1 x1 k29 x2 x3 x4 x5 = some z := by rw [ek29]; exact hf
      unfold g_X7_drawnAs_29 at hf
      refine lv_iload hx hb dX7_drawnAs_29 (lv_at hl 4 rfl) ?_
      refine lv_iconst (v := 4) hx hb dX7_drawnAs_31 rfl ?_
      refine lv_icmp_ge (tgt := 78) hx hb dX7_drawnAs_32 (by decide) (fun c32 => ?_) (fun c32 => ?_)
      · have hf := it_t c32 hf
        refine lv_iload_n hx hb dX7_drawnAs_78 rfl (lv_at hl 2 rfl) ?_
        exact ret x3 hf nzi hP hS dX7_drawnAs_79
      · have hf := it_f c32 hf
        refine lv_aload_n hx hb dX7_drawnAs_35 rfl (lv_at hl 0 rfl) ?_
        refine G7_9 hx hb htg hown hK hP 0 rfl dX7_drawnAs_36 ?_
        refine lv_iload_n hx hb dX7_drawnAs_39 rfl (lv_at hl 1 rfl) ?_
        refine lv_iload hx hb dX7_drawnAs_40 (lv_at hl 4 rfl) ?_
        refine lv_iadd hx hb dX7_drawnAs_42 ?_
        obtain ⟨g43, hf⟩ := ck_s hf
        refine xiald hx hb hK hP 1 rfl g43 dX7_drawnAs_43 ?_
        refine lv_istore (lv' := [(6, .int (V1 (Int32.toNatClampNeg (x2 + x5)))), (0, .ref a0), (2, .int x2), (3, .int x3), (4, .int x4), (5, .int x5)]) hx hb dX7_drawnAs_44 hl (by decide) rfl (fun ls hl => ?_)
        refine lv_iload hx hb dX7_drawnAs_46 (lv_at hl 0 rfl) ?_
        refine lv_iload hx hb dX7_drawnAs_48 (lv_at hl 4 rfl) ?_
        refine lv_icmp_le (tgt := 63) hx hb dX7_drawnAs_50 (by decide) (fun c50 => ?_) (fun c50 => ?_)
        · have hf := it_t c50 hf
          refine lv_iload hx hb dX7_drawnAs_63 (lv_at hl 0 rfl) ?_
          refine lv_iload hx hb dX7_drawnAs_65 (lv_at hl 4 rfl) ?_
          refine lv_icmp_ne (tgt := 72) hx hb dX7_drawnAs_67 (by decide) (fun c67 => ?_) (fun c67 => ?_)
          · have hf := it_f c67 hf
            refine lv_iinc (v := x5 + 1) (lv' := [(5, .int (x5 + 1)), (6, .int (V1 (Int32.toNatClampNeg (x2 + x5)))), (0, .ref a0), (2, .int x2), (3, .int x3), (4, .int x4)]) hx hb dX7_drawnAs_72 hl (k := 5) rfl rfl (by decide) rfl (fun ls hl => ?_)
            refine lv_goto (tgt := 29) hx hb dX7_drawnAs_75 (by decide) ?_
            exact ih29 x2 x3 x4 (x5 + 1) _ _ _ hf hP hD hS (lv_sub hl [2, 3, 4, 5, 0] rfl)
          · have hf := it_t c67 hf
            refine lv_iconst (v := 4) hx hb dX7_drawnAs_70 rfl ?_
            refine lv_istore_n (lv' := [(3, .int 4), (6, .int (V1 (Int32.toNatClampNeg (x2 + x5)))), (0, .ref a0), (2, .int x2), (4, .int x4), (5, .int x5)]) hx hb dX7_drawnAs_71 rfl hl (by decide) rfl (fun ls hl => ?_)
            refine lv_iinc (v := x5 + 1) (lv' := [(5, .int (x5 + 1)), (3, .int 4), (6, .int (V1 (Int32.toNatClampNeg (x2 + x5)))), (0, .ref a0), (2, .int x2), (4, .int x4)]) hx hb dX7_drawnAs_72 hl (k := 5) rfl rfl (by decide) rfl (fun ls hl => ?_)
            refine lv_goto (tgt := 29) hx hb dX7_drawnAs_75 (by decide) ?_
            exact ih29 x2 4 x4 (x5 + 1) _ _ _ hf hP hD hS (lv_sub hl [3, 4, 1, 5, 0] rfl)
        · have hf := it_f c50 hf
          refine lv_iload hx hb dX7_drawnAs_53 (lv_at hl 0 rfl) ?_
          refine lv_istore (lv' := [(4, .int (V1 (Int32.toNatClampNeg (x2 + x5)))), (6, .int (V1 (Int32.toNatClampNeg (x2 + x5)))), (0, .ref a0), (2, .int x2), (3, .int x3), (5, .int x5)]) hx hb dX7_drawnAs_55 hl (by decide) rfl (fun ls hl => ?_)
          refine lv_iload hx hb dX7_drawnAs_57 (lv_at hl 5 rfl) ?_
          refine lv_istore_n (lv' := [(3, .int x5), (4, .int (V1 (Int32.toNatClampNeg (x2 + x5)))), (6, .int (V1 (Int32.toNatClampNeg (x2 + x5)))), (0, .ref a0), (2, .int x2), (5, .int x5)]) hx hb dX7_drawnAs_59 rfl hl (by decide) rfl (fun ls hl => ?_)
          refine lv_goto (tgt := 72) hx hb dX7_drawnAs_60 (by decide) ?_
          refine lv_iinc (v := x5 + 1) (lv' := [(5, .int (x5 + 1)), (3, .int x5), (4, .int (V1 (Int32.toNatClampNeg (x2 + x5)))), (6, .int (V1 (Int32.toNatClampNeg (x2 + x5)))), (0, .ref a0), (2, .int x2)]) hx hb dX7_drawnAs_72 hl (k := 5) rfl rfl (by decide) rfl (fun ls hl => ?_)
          refine lv_goto (tgt := 29) hx hb dX7_drawnAs_75 (by decide) ?_
          exact ih29 x2 x5 (V1 (Int32.toNatClampNeg (x2 + x5))) (x5 + 1) _ _ _ hf hP hD hS (lv_sub hl [4, 5, 1, 2, 0] rfl)
  unfold f_X7_drawnAs at hf
  refine lv_iload_n hx hb dX7_drawnAs_0 rfl (lv_at hl 1 rfl) ?_
  refine lv_iconst (v := 4) hx hb dX7_drawnAs_1 rfl ?_
  refine lv_imul hx hb dX7_drawnAs_2 ?_
  refine lv_istore_n (lv' := [(2, .int (x1 * 4)), (0, .ref a0), (1, .int x1)]) hx hb dX7_drawnAs_3 rfl hl (by decide) rfl (fun ls hl => ?_)
  refine lv_iload_n hx hb dX7_drawnAs_4 rfl (lv_at hl 0 rfl) ?_
  refine lv_if_lt (tgt := 19) hx hb dX7_drawnAs_5 (by decide) (fun c5 => ?_) (fun c5 => ?_)
  · have hf := it_t c5 hf
    refine lv_iconst (v := 4) hx hb dX7_drawnAs_19 rfl ?_
    exact ret 4 hf nzi hP hS dX7_drawnAs_20
  · have hf := it_f c5 hf
    refine lv_iload_n hx hb dX7_drawnAs_8 rfl (lv_at hl 0 rfl) ?_
    refine lv_iconst (v := 4) hx hb dX7_drawnAs_9 rfl ?_
    refine lv_iadd hx hb dX7_drawnAs_10 ?_
    refine lv_aload_n hx hb dX7_drawnAs_11 rfl (lv_at hl 1 rfl) ?_
    refine G7_9 hx hb htg hown hK hP 0 rfl dX7_drawnAs_12 ?_
    refine va_alen (v := 144) hx hb hK hP 1 1 rfl rfl rfl dX7_drawnAs_15 ?_
    refine lv_icmp_le (tgt := 21) hx hb dX7_drawnAs_16 (by decide) (fun c16 => ?_) (fun c16 => ?_)
    · have hf := it_t c16 hf
      refine lv_iconst (v := 4) hx hb dX7_drawnAs_21 rfl ?_
      refine lv_istore_n (lv' := [(3, .int 4), (2, .int (x1 * 4)), (0, .ref a0), (1, .int x1)]) hx hb dX7_drawnAs_22 rfl hl (by decide) rfl (fun ls hl => ?_)
      refine lv_iconst (v := 0) hx hb dX7_drawnAs_23 rfl ?_
      refine lv_istore (lv' := [(4, .int 0), (3, .int 4), (2, .int (x1 * 4)), (0, .ref a0), (1, .int x1)]) hx hb dX7_drawnAs_24 hl (by decide) rfl (fun ls hl => ?_)
      refine lv_iconst (v := 0) hx hb dX7_drawnAs_26 rfl ?_
      refine lv_istore (lv' := [(5, .int 0), (4, .int 0), (3, .int 4), (2, .int (x1 * 4)), (0, .ref a0), (1, .int x1)]) hx hb dX7_drawnAs_27 hl (by decide) rfl (fun ls hl => ?_)
      exact b29 xF (x1 * 4) 4 0 0 _ _ _ hf hP hD hS (lv_sub hl [4, 3, 2, 1, 0] rfl)
    · have hf := it_f c16 hf
      refine lv_iconst (v := 4) hx hb dX7_drawnAs_19 rfl ?_
      exact ret 4 hf nzi hP hS dX7_drawnAs_20
theorem dX7_knownCells_0 : decode cX7_knownCells 0 = .ok (.iconst 0, 1) := by decide +kernel
theorem dX7_knownCells_1 : decode cX7_knownCells 1 = .ok (.istore_n 2, 1) := by decide +kernel
theorem dX7_knownCells_2 : decode cX7_knownCells 2 = .ok (.iconst 0, 1) := by decide +kernel
theorem dX7_knownCells_3 : decode cX7_knownCells 3 = .ok (.istore_n 3, 1) := by decide +kernel
theorem dX7_knownCells_4 : decode cX7_knownCells 4 = .ok (.iload_n 3, 1) := by decide +kernel
theorem dX7_knownCells_5 : decode cX7_knownCells 5 = .ok (.aload_n 1, 1) := by decide +kernel
theorem dX7_knownCells_6 : decode cX7_knownCells 6 = .ok (.invokevirtual 52, 3) := by decide +kernel
theorem dX7_knownCells_9 : decode cX7_knownCells 9 = .ok (.if_icmp .ge 26, 3) := by decide +kernel
theorem dX7_knownCells_12 : decode cX7_knownCells 12 = .ok (.iload_n 2, 1) := by decide +kernel
theorem dX7_knownCells_13 : decode cX7_knownCells 13 = .ok (.aload_n 0, 1) := by decide +kernel
theorem dX7_knownCells_14 : decode cX7_knownCells 14 = .ok (.iload_n 3, 1) := by decide +kernel
theorem dX7_knownCells_15 : decode cX7_knownCells 15 = .ok (.invokevirtual 44, 3) := by decide +kernel
theorem dX7_knownCells_18 : decode cX7_knownCells 18 = .ok (.iconst 4, 1) := by decide +kernel
theorem dX7_knownCells_19 : decode cX7_knownCells 19 = .ok (.if_icmp .ne 7, 3) := by decide +kernel
theorem dX7_knownCells_22 : decode cX7_knownCells 22 = .ok (.iconst 0, 1) := by decide +kernel
theorem dX7_knownCells_23 : decode cX7_knownCells 23 = .ok (.goto 4, 3) := by decide +kernel
theorem dX7_knownCells_26 : decode cX7_knownCells 26 = .ok (.iconst 1, 1) := by decide +kernel
theorem dX7_knownCells_27 : decode cX7_knownCells 27 = .ok (.iadd, 1) := by decide +kernel
theorem dX7_knownCells_28 : decode cX7_knownCells 28 = .ok (.istore_n 2, 1) := by decide +kernel
theorem dX7_knownCells_29 : decode cX7_knownCells 29 = .ok (.iinc 3 1, 3) := by decide +kernel
theorem dX7_knownCells_32 : decode cX7_knownCells 32 = .ok (.goto (-28), 3) := by decide +kernel
theorem dX7_knownCells_35 : decode cX7_knownCells 35 = .ok (.iload_n 2, 1) := by decide +kernel
theorem dX7_knownCells_36 : decode cX7_knownCells 36 = .ok (.ireturn, 1) := by decide +kernel
set_option maxRecDepth 100000 in
theorem c_X7_knownCells (l : Launch) (E : xE) (a0 a1 a2 : Nat) {T1 : Nat → Int32} {V2 : Nat → Int32} {u1_7 u1_8 u1_9 u1_10 u1_11 u1_12 u1_13 u1_14 : Nat} {z : Int32} (hf : f_X7_knownCells T1 V2 = some z) (sz : Nat) : Met l yX7_knownCells (Cond.code yX7_knownCells cX7_knownCells 4 (some .int) :: gw) ({ frames := 1, cells := 0, slots := 0, locals := 26 }) (xPc E [.ref a0, .ref a1] [(a0, o7 a2), (a1, o3 T1 u1_7 u1_8 u1_9 u1_10 u1_11 u1_12 u1_13 u1_14), (a2, ai E 144 V2)] sz) (xQi E z [(a0, o7 a2), (a1, o3 T1 u1_7 u1_8 u1_9 u1_10 u1_11 u1_12 u1_13 u1_14), (a2, ai E 144 V2)] [(a0, o7 a2), (a1, o3 T1 u1_7 u1_8 u1_9 u1_10 u1_11 u1_12 u1_13 u1_14), (a2, ai E 144 V2)] sz) 0 0 (va_A [(a0, o7 a2), (a1, o3 T1 u1_7 u1_8 u1_9 u1_10 u1_11 u1_12 u1_13 u1_14), (a2, ai E 144 V2)] sz) := by
  refine xM_i (by decide +kernel) (Nat.le_of_ble_eq_true rfl) ?_
  intro p e s m args below meth c A Q hx hb hml hown htg hK hG hA ret0 H locs ls hP hD hS hl
  have ret : ∀ (z' : Int32) {H : Heap} {locs : List Loc} {pc : Nat} {ls : Array Slot}, some z' = some z → narrow .int (.int z') = .int z' → va_P E.1 vwCl [(a0, o7 a2), (a1, o3 T1 u1_7 u1_8 u1_9 u1_10 u1_11 u1_12 u1_13 u1_14), (a2, ai E 144 V2)] H → va_S A s.heap H locs → decode cX7_knownCells pc = .ok (.ireturn, 1) → W p l e ({ frames := 1, cells := 0, slots := 0, locals := 26 } : Room) s m args below meth c H locs 0 0 Q (F0 m pc ls [.int z']) := by
    intro z' H locs pc ls h
    cases h
    exact ret0
  replace hl : lv_has ls 4 [(0, .ref a0), (1, .ref a1)] := hl
  have b4 : ∀ (n : Nat) (x2 : Int32) (x3 : Int32) (H : Heap) (locs : List Loc) (ls : Array Slot), f_X7_knownCells_4 T1 V2 n x2 x3 = some z → va_P E.1 vwCl [(a0, o7 a2), (a1, o3 T1 u1_7 u1_8 u1_9 u1_10 u1_11 u1_12 u1_13 u1_14), (a2, ai E 144 V2)] H → va_D A [(a0, o7 a2), (a1, o3 T1 u1_7 u1_8 u1_9 u1_10 u1_11 u1_12 u1_13 u1_14), (a2, ai E 144 V2)] → va_S A s.heap H locs → lv_has ls 4 [(0, .ref a0), (1, .ref a1), (2, .int x2), (3, .int x3)] → W p l e ({ frames := 1, cells := 0, slots := 0, locals := 26 } : Room) s m args below meth c H locs 0 0 Q (F0 m 4 ls []) := by
    intro n
    induction n with
    | zero => intro x2 x3 H locs ls hf; exact (nn_s hf).elim
    | succ n ih4 =>
      obtain ⟨k4, ek4⟩ : ∃ k, k = f_X7_knownCells_4 T1 V2 n := ⟨_, rfl⟩
      rw [← ek4] at ih4
      have b27 : ∀ (x3 : Int32) (s0 : Int32) (s1 : Int32) (H : Heap) (locs : List Loc) (ls : Array Slot), f_X7_knownCells_27 T1 V2 k4 x3 s0 s1 = some z → va_P E.1 vwCl [(a0, o7 a2), (a1, o3 T1 u1_7 u1_8 u1_9 u1_10 u1_11 u1_12 u1_13 u1_14), (a2, ai E 144 V2)] H → va_D A [(a0, o7 a2), (a1, o3 T1 u1_7 u1_8 u1_9 u1_10 u1_11 u1_12 u1_13 u1_14), (a2, ai E 144 V2)] → va_S A s.heap H locs → lv_has ls 4 [(0, .ref a0), (1, .ref a1), (3, .int x3)] → W p l e ({ frames := 1, cells := 0, slots := 0, locals := 26 } : Room) s m args below meth c H locs 0 0 Q (F0 m 27 ls [.int s1, .int s0]) := by
        intro x3 s0 s1 H locs ls hf hP hD hS hl
        unfold f_X7_knownCells_27 at hf
        refine lv_iadd hx hb dX7_knownCells_27 ?_
        refine lv_istore_n (lv' := [(2, .int (s0 + s1)), (0, .ref a0), (1, .ref a1), (3, .int x3)]) hx hb dX7_knownCells_28 rfl hl (by decide) rfl (fun ls hl => ?_)
        refine lv_iinc (v := x3 + 1) (lv' := [(3, .int (x3 + 1)), (2, .int (s0 + s1)), (0, .ref a0), (1, .ref a1)]) hx hb dX7_knownCells_29 hl (k := 3) rfl rfl (by decide) rfl (fun ls hl => ?_)
        refine lv_goto (tgt := 4) hx hb dX7_knownCells_32 (by decide) ?_
        exact ih4 (s0 + s1) (x3 + 1) _ _ _ hf hP hD hS (lv_sub hl [2, 3, 1, 0] rfl)
      intro x2 x3 H locs ls hf hP hD hS hl
      replace hf : g_X7_knownCells_4 T1 V2 k4 x2 x3 = some z := by rw [ek4]; exact hf
      unfold g_X7_knownCells_4 at hf
      refine lv_iload_n hx hb dX7_knownCells_4 rfl (lv_at hl 3 rfl) ?_
      refine lv_aload_n hx hb dX7_knownCells_5 rfl (lv_at hl 1 rfl) ?_
      obtain ⟨z6, hz6, hf⟩ := bind_s hf
      refine xV_ir hx hb hml hown htg L7_52 (c_X3_cellCount l E a1 hz6 _) ⟨⟨rfl, rfl⟩, Nat.le_of_ble_eq_true rfl, Nat.le_of_ble_eq_true rfl⟩ hK hG hA hP hD hS (is := [1]) rfl rfl (xrecv hK hP (q0 := 1) (ci := 3) rfl rfl) rfl hl.1 rfl (Nat.le_of_ble_eq_true rfl) dX7_knownCells_6 (fun H locs hP hD hS => ?_)
      refine lv_icmp_ge (tgt := 35) hx hb dX7_knownCells_9 (by decide) (fun c9 => ?_) (fun c9 => ?_)
      · have hf := it_t c9 hf
        refine lv_iload_n hx hb dX7_knownCells_35 rfl (lv_at hl 2 rfl) ?_
        exact ret x2 hf nzi hP hS dX7_knownCells_36
      · have hf := it_f c9 hf
        refine lv_iload_n hx hb dX7_knownCells_12 rfl (lv_at hl 2 rfl) ?_
        refine lv_aload_n hx hb dX7_knownCells_13 rfl (lv_at hl 0 rfl) ?_
        refine lv_iload_n hx hb dX7_knownCells_14 rfl (lv_at hl 3 rfl) ?_
        obtain ⟨z15, hz15, hf⟩ := bind_s hf
        refine xV_ir hx hb hml hown htg L7_44 (c_X7_drawnAs l E a0 a2 hz15 _) ⟨⟨rfl, rfl⟩, Nat.le_of_ble_eq_true rfl, Nat.le_of_ble_eq_true rfl⟩ hK hG hA hP hD hS (is := [0, 2]) rfl rfl (xrecv hK hP (q0 := 0) (ci := 7) rfl rfl) rfl hl.1 rfl (Nat.le_of_ble_eq_true rfl) dX7_knownCells_15 (fun H locs hP hD hS => ?_)
        refine lv_iconst (v := 4) hx hb dX7_knownCells_18 rfl ?_
        refine lv_icmp_ne (tgt := 26) hx hb dX7_knownCells_19 (by decide) (fun c19 => ?_) (fun c19 => ?_)
        · have hf := it_f c19 hf
          refine lv_iconst (v := 1) hx hb dX7_knownCells_26 rfl ?_
          exact b27 x3 x2 1 _ _ _ hf hP hD hS (lv_sub hl [0, 1, 3] rfl)
        · have hf := it_t c19 hf
          refine lv_iconst (v := 0) hx hb dX7_knownCells_22 rfl ?_
          refine lv_goto (tgt := 27) hx hb dX7_knownCells_23 (by decide) ?_
          exact b27 x3 x2 0 _ _ _ hf hP hD hS (lv_sub hl [0, 1, 3] rfl)
  unfold f_X7_knownCells at hf
  refine lv_iconst (v := 0) hx hb dX7_knownCells_0 rfl ?_
  refine lv_istore_n (lv' := [(2, .int 0), (0, .ref a0), (1, .ref a1)]) hx hb dX7_knownCells_1 rfl hl (by decide) rfl (fun ls hl => ?_)
  refine lv_iconst (v := 0) hx hb dX7_knownCells_2 rfl ?_
  refine lv_istore_n (lv' := [(3, .int 0), (2, .int 0), (0, .ref a0), (1, .ref a1)]) hx hb dX7_knownCells_3 rfl hl (by decide) rfl (fun ls hl => ?_)
  exact b4 xF 0 0 _ _ _ hf hP hD hS (lv_sub hl [2, 3, 1, 0] rfl)
theorem dX7_votesFor_0 : decode cX7_votesFor 0 = .ok (.iload_n 1, 1) := by decide +kernel
theorem dX7_votesFor_1 : decode cX7_votesFor 1 = .ok (.iconst 4, 1) := by decide +kernel
theorem dX7_votesFor_2 : decode cX7_votesFor 2 = .ok (.imul, 1) := by decide +kernel
theorem dX7_votesFor_3 : decode cX7_votesFor 3 = .ok (.iload_n 2, 1) := by decide +kernel
theorem dX7_votesFor_4 : decode cX7_votesFor 4 = .ok (.iadd, 1) := by decide +kernel
theorem dX7_votesFor_5 : decode cX7_votesFor 5 = .ok (.istore_n 3, 1) := by decide +kernel
theorem dX7_votesFor_6 : decode cX7_votesFor 6 = .ok (.iload_n 3, 1) := by decide +kernel
theorem dX7_votesFor_7 : decode cX7_votesFor 7 = .ok (.ifCond .lt 21, 3) := by decide +kernel
theorem dX7_votesFor_10 : decode cX7_votesFor 10 = .ok (.iload_n 3, 1) := by decide +kernel
theorem dX7_votesFor_11 : decode cX7_votesFor 11 = .ok (.aload_n 0, 1) := by decide +kernel
theorem dX7_votesFor_12 : decode cX7_votesFor 12 = .ok (.getfield 9, 3) := by decide +kernel
theorem dX7_votesFor_15 : decode cX7_votesFor 15 = .ok (.arraylength, 1) := by decide +kernel
theorem dX7_votesFor_16 : decode cX7_votesFor 16 = .ok (.if_icmp .ge 12, 3) := by decide +kernel
theorem dX7_votesFor_19 : decode cX7_votesFor 19 = .ok (.aload_n 0, 1) := by decide +kernel
theorem dX7_votesFor_20 : decode cX7_votesFor 20 = .ok (.getfield 9, 3) := by decide +kernel
theorem dX7_votesFor_23 : decode cX7_votesFor 23 = .ok (.iload_n 3, 1) := by decide +kernel
theorem dX7_votesFor_24 : decode cX7_votesFor 24 = .ok (.iaload, 1) := by decide +kernel
theorem dX7_votesFor_25 : decode cX7_votesFor 25 = .ok (.goto 4, 3) := by decide +kernel
theorem dX7_votesFor_28 : decode cX7_votesFor 28 = .ok (.iconst 0, 1) := by decide +kernel
theorem dX7_votesFor_29 : decode cX7_votesFor 29 = .ok (.ireturn, 1) := by decide +kernel
set_option maxRecDepth 100000 in
theorem c_X7_votesFor (l : Launch) (E : xE) (a0 a1 : Nat) {V1 : Nat → Int32} {x1 : Int32} {x2 : Int32} {z : Int32} (hf : f_X7_votesFor V1 x1 x2 = some z) (sz : Nat) : Met l yX7_votesFor (Cond.code yX7_votesFor cX7_votesFor 4 (some .int) :: gw) ({ frames := 0, cells := 0, slots := 0, locals := 0 }) (xPc E [.ref a0, .int x1, .int x2] [(a0, o7 a1), (a1, ai E 144 V1)] sz) (xQi E z [(a0, o7 a1), (a1, ai E 144 V1)] [(a0, o7 a1), (a1, ai E 144 V1)] sz) 0 0 (va_A [(a0, o7 a1), (a1, ai E 144 V1)] sz) := by
  refine xM_i (by decide +kernel) (Nat.le_of_ble_eq_true rfl) ?_
  intro p e s m args below meth c A Q hx hb hml hown htg hK hG hA ret0 H locs ls hP hD hS hl
  have ret : ∀ (z' : Int32) {H : Heap} {locs : List Loc} {pc : Nat} {ls : Array Slot}, some z' = some z → narrow .int (.int z') = .int z' → va_P E.1 vwCl [(a0, o7 a1), (a1, ai E 144 V1)] H → va_S A s.heap H locs → decode cX7_votesFor pc = .ok (.ireturn, 1) → W p l e ({ frames := 0, cells := 0, slots := 0, locals := 0 } : Room) s m args below meth c H locs 0 0 Q (F0 m pc ls [.int z']) := by
    intro z' H locs pc ls h
    cases h
    exact ret0
  replace hl : lv_has ls 4 [(0, .ref a0), (1, .int x1), (2, .int x2)] := hl
  unfold f_X7_votesFor at hf
  refine lv_iload_n hx hb dX7_votesFor_0 rfl (lv_at hl 1 rfl) ?_
  refine lv_iconst (v := 4) hx hb dX7_votesFor_1 rfl ?_
  refine lv_imul hx hb dX7_votesFor_2 ?_
  refine lv_iload_n hx hb dX7_votesFor_3 rfl (lv_at hl 2 rfl) ?_
  refine lv_iadd hx hb dX7_votesFor_4 ?_
  refine lv_istore_n (lv' := [(3, .int ((x1 * 4) + x2)), (0, .ref a0), (1, .int x1), (2, .int x2)]) hx hb dX7_votesFor_5 rfl hl (by decide) rfl (fun ls hl => ?_)
  refine lv_iload_n hx hb dX7_votesFor_6 rfl (lv_at hl 0 rfl) ?_
  refine lv_if_lt (tgt := 28) hx hb dX7_votesFor_7 (by decide) (fun c7 => ?_) (fun c7 => ?_)
  · have hf := it_t c7 hf
    refine lv_iconst (v := 0) hx hb dX7_votesFor_28 rfl ?_
    exact ret 0 hf nzi hP hS dX7_votesFor_29
  · have hf := it_f c7 hf
    refine lv_iload_n hx hb dX7_votesFor_10 rfl (lv_at hl 0 rfl) ?_
    refine lv_aload_n hx hb dX7_votesFor_11 rfl (lv_at hl 1 rfl) ?_
    refine G7_9 hx hb htg hown hK hP 0 rfl dX7_votesFor_12 ?_
    refine va_alen (v := 144) hx hb hK hP 1 1 rfl rfl rfl dX7_votesFor_15 ?_
    refine lv_icmp_ge (tgt := 28) hx hb dX7_votesFor_16 (by decide) (fun c16 => ?_) (fun c16 => ?_)
    · have hf := it_t c16 hf
      refine lv_iconst (v := 0) hx hb dX7_votesFor_28 rfl ?_
      exact ret 0 hf nzi hP hS dX7_votesFor_29
    · have hf := it_f c16 hf
      refine lv_aload_n hx hb dX7_votesFor_19 rfl (lv_at hl 1 rfl) ?_
      refine G7_9 hx hb htg hown hK hP 0 rfl dX7_votesFor_20 ?_
      refine lv_iload_n hx hb dX7_votesFor_23 rfl (lv_at hl 0 rfl) ?_
      obtain ⟨g24, hf⟩ := ck_s hf
      refine xiald hx hb hK hP 1 rfl g24 dX7_votesFor_24 ?_
      refine lv_goto (tgt := 29) hx hb dX7_votesFor_25 (by decide) ?_
      exact ret (V1 (Int32.toNatClampNeg ((x1 * 4) + x2))) hf nzi hP hS dX7_votesFor_29
theorem dX7_riskOf_0 : decode cX7_riskOf 0 = .ok (.aload_n 0, 1) := by decide +kernel
theorem dX7_riskOf_1 : decode cX7_riskOf 1 = .ok (.iload_n 1, 1) := by decide +kernel
theorem dX7_riskOf_2 : decode cX7_riskOf 2 = .ok (.invokevirtual 44, 3) := by decide +kernel
theorem dX7_riskOf_5 : decode cX7_riskOf 5 = .ok (.istore_n 2, 1) := by decide +kernel
theorem dX7_riskOf_6 : decode cX7_riskOf 6 = .ok (.iload_n 2, 1) := by decide +kernel
theorem dX7_riskOf_7 : decode cX7_riskOf 7 = .ok (.iconst 1, 1) := by decide +kernel
theorem dX7_riskOf_8 : decode cX7_riskOf 8 = .ok (.if_icmp .ne 6, 3) := by decide +kernel
theorem dX7_riskOf_11 : decode cX7_riskOf 11 = .ok (.bipush 16, 2) := by decide +kernel
theorem dX7_riskOf_13 : decode cX7_riskOf 13 = .ok (.ireturn, 1) := by decide +kernel
theorem dX7_riskOf_14 : decode cX7_riskOf 14 = .ok (.iconst 0, 1) := by decide +kernel
theorem dX7_riskOf_15 : decode cX7_riskOf 15 = .ok (.istore_n 3, 1) := by decide +kernel
theorem dX7_riskOf_16 : decode cX7_riskOf 16 = .ok (.iconst 0, 1) := by decide +kernel
theorem dX7_riskOf_17 : decode cX7_riskOf 17 = .ok (.istore 4, 2) := by decide +kernel
theorem dX7_riskOf_19 : decode cX7_riskOf 19 = .ok (.iload 4, 2) := by decide +kernel
theorem dX7_riskOf_21 : decode cX7_riskOf 21 = .ok (.iconst 4, 1) := by decide +kernel
theorem dX7_riskOf_22 : decode cX7_riskOf 22 = .ok (.if_icmp .ge 19, 3) := by decide +kernel
theorem dX7_riskOf_25 : decode cX7_riskOf 25 = .ok (.iload_n 3, 1) := by decide +kernel
theorem dX7_riskOf_26 : decode cX7_riskOf 26 = .ok (.aload_n 0, 1) := by decide +kernel
theorem dX7_riskOf_27 : decode cX7_riskOf 27 = .ok (.iload_n 1, 1) := by decide +kernel
theorem dX7_riskOf_28 : decode cX7_riskOf 28 = .ok (.iload 4, 2) := by decide +kernel
theorem dX7_riskOf_30 : decode cX7_riskOf 30 = .ok (.invokevirtual 48, 3) := by decide +kernel
theorem dX7_riskOf_33 : decode cX7_riskOf 33 = .ok (.iadd, 1) := by decide +kernel
theorem dX7_riskOf_34 : decode cX7_riskOf 34 = .ok (.istore_n 3, 1) := by decide +kernel
theorem dX7_riskOf_35 : decode cX7_riskOf 35 = .ok (.iinc 4 1, 3) := by decide +kernel
theorem dX7_riskOf_38 : decode cX7_riskOf 38 = .ok (.goto (-19), 3) := by decide +kernel
theorem dX7_riskOf_41 : decode cX7_riskOf 41 = .ok (.iload_n 2, 1) := by decide +kernel
theorem dX7_riskOf_42 : decode cX7_riskOf 42 = .ok (.iconst 4, 1) := by decide +kernel
theorem dX7_riskOf_43 : decode cX7_riskOf 43 = .ok (.if_icmp .eq 7, 3) := by decide +kernel
theorem dX7_riskOf_46 : decode cX7_riskOf 46 = .ok (.iload_n 3, 1) := by decide +kernel
theorem dX7_riskOf_47 : decode cX7_riskOf 47 = .ok (.ifCond .ne 6, 3) := by decide +kernel
theorem dX7_riskOf_50 : decode cX7_riskOf 50 = .ok (.bipush 6, 2) := by decide +kernel
theorem dX7_riskOf_52 : decode cX7_riskOf 52 = .ok (.ireturn, 1) := by decide +kernel
theorem dX7_riskOf_53 : decode cX7_riskOf 53 = .ok (.bipush 16, 2) := by decide +kernel
theorem dX7_riskOf_55 : decode cX7_riskOf 55 = .ok (.aload_n 0, 1) := by decide +kernel
theorem dX7_riskOf_56 : decode cX7_riskOf 56 = .ok (.iload_n 1, 1) := by decide +kernel
theorem dX7_riskOf_57 : decode cX7_riskOf 57 = .ok (.iconst 1, 1) := by decide +kernel
theorem dX7_riskOf_58 : decode cX7_riskOf 58 = .ok (.invokevirtual 48, 3) := by decide +kernel
theorem dX7_riskOf_61 : decode cX7_riskOf 61 = .ok (.imul, 1) := by decide +kernel
theorem dX7_riskOf_62 : decode cX7_riskOf 62 = .ok (.iload_n 3, 1) := by decide +kernel
theorem dX7_riskOf_63 : decode cX7_riskOf 63 = .ok (.idiv, 1) := by decide +kernel
theorem dX7_riskOf_64 : decode cX7_riskOf 64 = .ok (.ireturn, 1) := by decide +kernel
set_option maxRecDepth 100000 in
theorem c_X7_riskOf (l : Launch) (E : xE) (a0 a1 : Nat) {V1 : Nat → Int32} {x1 : Int32} {z : Int32} (hf : f_X7_riskOf V1 x1 = some z) (sz : Nat) : Met l yX7_riskOf (Cond.code yX7_riskOf cX7_riskOf 5 (some .int) :: gw) ({ frames := 1, cells := 0, slots := 0, locals := 26 }) (xPc E [.ref a0, .int x1] [(a0, o7 a1), (a1, ai E 144 V1)] sz) (xQi E z [(a0, o7 a1), (a1, ai E 144 V1)] [(a0, o7 a1), (a1, ai E 144 V1)] sz) 0 0 (va_A [(a0, o7 a1), (a1, ai E 144 V1)] sz) := by
  refine xM_i (by decide +kernel) (Nat.le_of_ble_eq_true rfl) ?_
  intro p e s m args below meth c A Q hx hb hml hown htg hK hG hA ret0 H locs ls hP hD hS hl
  have ret : ∀ (z' : Int32) {H : Heap} {locs : List Loc} {pc : Nat} {ls : Array Slot}, some z' = some z → narrow .int (.int z') = .int z' → va_P E.1 vwCl [(a0, o7 a1), (a1, ai E 144 V1)] H → va_S A s.heap H locs → decode cX7_riskOf pc = .ok (.ireturn, 1) → W p l e ({ frames := 1, cells := 0, slots := 0, locals := 26 } : Room) s m args below meth c H locs 0 0 Q (F0 m pc ls [.int z']) := by
    intro z' H locs pc ls h
    cases h
    exact ret0
  replace hl : lv_has ls 5 [(0, .ref a0), (1, .int x1)] := hl
  have b19 : ∀ (n : Nat) (x2 : Int32) (x3 : Int32) (x4 : Int32) (H : Heap) (locs : List Loc) (ls : Array Slot), f_X7_riskOf_19 V1 x1 n x2 x3 x4 = some z → va_P E.1 vwCl [(a0, o7 a1), (a1, ai E 144 V1)] H → va_D A [(a0, o7 a1), (a1, ai E 144 V1)] → va_S A s.heap H locs → lv_has ls 5 [(0, .ref a0), (1, .int x1), (2, .int x2), (3, .int x3), (4, .int x4)] → W p l e ({ frames := 1, cells := 0, slots := 0, locals := 26 } : Room) s m args below meth c H locs 0 0 Q (F0 m 19 ls []) := by
    intro n
    induction n with
    | zero => intro x2 x3 x4 H locs ls hf; exact (nn_s hf).elim
    | succ n ih19 =>
      obtain ⟨k19, ek19⟩ : ∃ k, k = f_X7_riskOf_19 V1 x1 n := ⟨_, rfl⟩
      rw [← ek19] at ih19
      intro x2 x3 x4 H locs ls hf hP hD hS hl
      replace hf : g_X7_riskOf_19 V1 x1 k19 x2 x3 x4 = some z := by rw [ek19]; exact hf
      unfold g_X7_riskOf_19 at hf
      refine lv_iload hx hb dX7_riskOf_19 (lv_at hl 4 rfl) ?_
      refine lv_iconst (v := 4) hx hb dX7_riskOf_21 rfl ?_
      refine lv_icmp_ge (tgt := 41) hx hb dX7_riskOf_22 (by decide) (fun c22 => ?_) (fun c22 => ?_)
      · have hf := it_t c22 hf
        refine lv_iload_n hx hb dX7_riskOf_41 rfl (lv_at hl 2 rfl) ?_
        refine lv_iconst (v := 4) hx hb dX7_riskOf_42 rfl ?_
        refine lv_icmp_eq (tgt := 50) hx hb dX7_riskOf_43 (by decide) (fun c43 => ?_) (fun c43 => ?_)
        · have hf := it_t c43 hf
          refine lv_bipush (v := 6) hx hb dX7_riskOf_50 rfl ?_
          exact ret 6 hf nzi hP hS dX7_riskOf_52
        · have hf := it_f c43 hf
          refine lv_iload_n hx hb dX7_riskOf_46 rfl (lv_at hl 3 rfl) ?_
          refine lv_if_ne (tgt := 53) hx hb dX7_riskOf_47 (by decide) (fun c47 => ?_) (fun c47 => ?_)
          · have hf := it_f c47 hf
            refine lv_bipush (v := 16) hx hb dX7_riskOf_53 rfl ?_
            refine lv_aload_n hx hb dX7_riskOf_55 rfl (lv_at hl 0 rfl) ?_
            refine lv_iload_n hx hb dX7_riskOf_56 rfl (lv_at hl 1 rfl) ?_
            refine lv_iconst (v := 1) hx hb dX7_riskOf_57 rfl ?_
            obtain ⟨z58, hz58, hf⟩ := bind_s hf
            refine xV_ir hx hb hml hown htg L7_48 (c_X7_votesFor l E a0 a1 hz58 _) ⟨⟨rfl, rfl⟩, Nat.le_of_ble_eq_true rfl, Nat.le_of_ble_eq_true rfl⟩ hK hG hA hP hD hS (is := [0, 1]) rfl rfl (xrecv hK hP (q0 := 0) (ci := 7) rfl rfl) rfl hl.1 rfl (Nat.le_of_ble_eq_true rfl) dX7_riskOf_58 (fun H locs hP hD hS => ?_)
            refine lv_imul hx hb dX7_riskOf_61 ?_
            refine lv_iload_n hx hb dX7_riskOf_62 rfl (lv_at hl 3 rfl) ?_
            obtain ⟨g63, hf⟩ := ck_s hf
            refine lv_idiv hx hb dX7_riskOf_63 (of_decide_eq_true g63) ?_
            exact ret ((16 * z58) / x3) hf nzi hP hS dX7_riskOf_64
          · have hf := it_t c47 hf
            refine lv_bipush (v := 6) hx hb dX7_riskOf_50 rfl ?_
            exact ret 6 hf nzi hP hS dX7_riskOf_52
      · have hf := it_f c22 hf
        refine lv_iload_n hx hb dX7_riskOf_25 rfl (lv_at hl 3 rfl) ?_
        refine lv_aload_n hx hb dX7_riskOf_26 rfl (lv_at hl 0 rfl) ?_
        refine lv_iload_n hx hb dX7_riskOf_27 rfl (lv_at hl 1 rfl) ?_
        refine lv_iload hx hb dX7_riskOf_28 (lv_at hl 4 rfl) ?_
        obtain ⟨z30, hz30, hf⟩ := bind_s hf
        refine xV_ir hx hb hml hown htg L7_48 (c_X7_votesFor l E a0 a1 hz30 _) ⟨⟨rfl, rfl⟩, Nat.le_of_ble_eq_true rfl, Nat.le_of_ble_eq_true rfl⟩ hK hG hA hP hD hS (is := [0, 1]) rfl rfl (xrecv hK hP (q0 := 0) (ci := 7) rfl rfl) rfl hl.1 rfl (Nat.le_of_ble_eq_true rfl) dX7_riskOf_30 (fun H locs hP hD hS => ?_)
        refine lv_iadd hx hb dX7_riskOf_33 ?_
        refine lv_istore_n (lv' := [(3, .int (x3 + z30)), (0, .ref a0), (1, .int x1), (2, .int x2), (4, .int x4)]) hx hb dX7_riskOf_34 rfl hl (by decide) rfl (fun ls hl => ?_)
        refine lv_iinc (v := x4 + 1) (lv' := [(4, .int (x4 + 1)), (3, .int (x3 + z30)), (0, .ref a0), (1, .int x1), (2, .int x2)]) hx hb dX7_riskOf_35 hl (k := 4) rfl rfl (by decide) rfl (fun ls hl => ?_)
        refine lv_goto (tgt := 19) hx hb dX7_riskOf_38 (by decide) ?_
        exact ih19 x2 (x3 + z30) (x4 + 1) _ _ _ hf hP hD hS (lv_sub hl [2, 3, 4, 1, 0] rfl)
  unfold f_X7_riskOf at hf
  refine lv_aload_n hx hb dX7_riskOf_0 rfl (lv_at hl 0 rfl) ?_
  refine lv_iload_n hx hb dX7_riskOf_1 rfl (lv_at hl 1 rfl) ?_
  obtain ⟨z2, hz2, hf⟩ := bind_s hf
  refine xV_ir hx hb hml hown htg L7_44 (c_X7_drawnAs l E a0 a1 hz2 _) ⟨⟨rfl, rfl⟩, Nat.le_of_ble_eq_true rfl, Nat.le_of_ble_eq_true rfl⟩ hK hG hA hP hD hS (is := [0, 1]) rfl rfl (xrecv hK hP (q0 := 0) (ci := 7) rfl rfl) rfl hl.1 rfl (Nat.le_of_ble_eq_true rfl) dX7_riskOf_2 (fun H locs hP hD hS => ?_)
  refine lv_istore_n (lv' := [(2, .int z2), (0, .ref a0), (1, .int x1)]) hx hb dX7_riskOf_5 rfl hl (by decide) rfl (fun ls hl => ?_)
  refine lv_iload_n hx hb dX7_riskOf_6 rfl (lv_at hl 0 rfl) ?_
  refine lv_iconst (v := 1) hx hb dX7_riskOf_7 rfl ?_
  refine lv_icmp_ne (tgt := 14) hx hb dX7_riskOf_8 (by decide) (fun c8 => ?_) (fun c8 => ?_)
  · have hf := it_f c8 hf
    refine lv_iconst (v := 0) hx hb dX7_riskOf_14 rfl ?_
    refine lv_istore_n (lv' := [(3, .int 0), (2, .int z2), (0, .ref a0), (1, .int x1)]) hx hb dX7_riskOf_15 rfl hl (by decide) rfl (fun ls hl => ?_)
    refine lv_iconst (v := 0) hx hb dX7_riskOf_16 rfl ?_
    refine lv_istore (lv' := [(4, .int 0), (3, .int 0), (2, .int z2), (0, .ref a0), (1, .int x1)]) hx hb dX7_riskOf_17 hl (by decide) rfl (fun ls hl => ?_)
    exact b19 xF z2 0 0 _ _ _ hf hP hD hS (lv_sub hl [3, 4, 2, 1, 0] rfl)
  · have hf := it_t c8 hf
    refine lv_bipush (v := 16) hx hb dX7_riskOf_11 rfl ?_
    exact ret 16 hf nzi hP hS dX7_riskOf_13
theorem dX7_rightCells_0 : decode cX7_rightCells 0 = .ok (.iconst 0, 1) := by decide +kernel
theorem dX7_rightCells_1 : decode cX7_rightCells 1 = .ok (.istore_n 2, 1) := by decide +kernel
theorem dX7_rightCells_2 : decode cX7_rightCells 2 = .ok (.iconst 0, 1) := by decide +kernel
theorem dX7_rightCells_3 : decode cX7_rightCells 3 = .ok (.istore_n 3, 1) := by decide +kernel
theorem dX7_rightCells_4 : decode cX7_rightCells 4 = .ok (.iload_n 3, 1) := by decide +kernel
theorem dX7_rightCells_5 : decode cX7_rightCells 5 = .ok (.aload_n 1, 1) := by decide +kernel
theorem dX7_rightCells_6 : decode cX7_rightCells 6 = .ok (.invokevirtual 52, 3) := by decide +kernel
theorem dX7_rightCells_9 : decode cX7_rightCells 9 = .ok (.if_icmp .ge 30, 3) := by decide +kernel
theorem dX7_rightCells_12 : decode cX7_rightCells 12 = .ok (.iload_n 2, 1) := by decide +kernel
theorem dX7_rightCells_13 : decode cX7_rightCells 13 = .ok (.aload_n 0, 1) := by decide +kernel
theorem dX7_rightCells_14 : decode cX7_rightCells 14 = .ok (.iload_n 3, 1) := by decide +kernel
theorem dX7_rightCells_15 : decode cX7_rightCells 15 = .ok (.invokevirtual 44, 3) := by decide +kernel
theorem dX7_rightCells_18 : decode cX7_rightCells 18 = .ok (.aload_n 1, 1) := by decide +kernel
theorem dX7_rightCells_19 : decode cX7_rightCells 19 = .ok (.iload_n 3, 1) := by decide +kernel
theorem dX7_rightCells_20 : decode cX7_rightCells 20 = .ok (.invokevirtual 56, 3) := by decide +kernel
theorem dX7_rightCells_23 : decode cX7_rightCells 23 = .ok (.if_icmp .ne 7, 3) := by decide +kernel
theorem dX7_rightCells_26 : decode cX7_rightCells 26 = .ok (.iconst 1, 1) := by decide +kernel
theorem dX7_rightCells_27 : decode cX7_rightCells 27 = .ok (.goto 4, 3) := by decide +kernel
theorem dX7_rightCells_30 : decode cX7_rightCells 30 = .ok (.iconst 0, 1) := by decide +kernel
theorem dX7_rightCells_31 : decode cX7_rightCells 31 = .ok (.iadd, 1) := by decide +kernel
theorem dX7_rightCells_32 : decode cX7_rightCells 32 = .ok (.istore_n 2, 1) := by decide +kernel
theorem dX7_rightCells_33 : decode cX7_rightCells 33 = .ok (.iinc 3 1, 3) := by decide +kernel
theorem dX7_rightCells_36 : decode cX7_rightCells 36 = .ok (.goto (-32), 3) := by decide +kernel
theorem dX7_rightCells_39 : decode cX7_rightCells 39 = .ok (.iload_n 2, 1) := by decide +kernel
theorem dX7_rightCells_40 : decode cX7_rightCells 40 = .ok (.ireturn, 1) := by decide +kernel
set_option maxRecDepth 100000 in
theorem c_X7_rightCells (l : Launch) (E : xE) (a0 a1 a2 a3 : Nat) {T1 : Nat → Int32} {V2 : Nat → Int32} {V3 : Nat → Int32} {u1_8 u1_9 u1_10 u1_11 u1_12 u1_13 u1_14 : Nat} {z : Int32} (hf : f_X7_rightCells T1 V2 V3 = some z) (sz : Nat) : Met l yX7_rightCells (Cond.code yX7_rightCells cX7_rightCells 4 (some .int) :: gw) ({ frames := 2, cells := 0, slots := 0, locals := 43 }) (xPc E [.ref a0, .ref a1] [(a0, o7 a2), (a1, o3 T1 a3 u1_8 u1_9 u1_10 u1_11 u1_12 u1_13 u1_14), (a2, ai E 144 V2), (a3, ai E 36 V3)] sz) (xQi E z [(a0, o7 a2), (a1, o3 T1 a3 u1_8 u1_9 u1_10 u1_11 u1_12 u1_13 u1_14), (a2, ai E 144 V2), (a3, ai E 36 V3)] [(a0, o7 a2), (a1, o3 T1 a3 u1_8 u1_9 u1_10 u1_11 u1_12 u1_13 u1_14), (a2, ai E 144 V2), (a3, ai E 36 V3)] sz) 0 0 (va_A [(a0, o7 a2), (a1, o3 T1 a3 u1_8 u1_9 u1_10 u1_11 u1_12 u1_13 u1_14), (a2, ai E 144 V2), (a3, ai E 36 V3)] sz) := by
  refine xM_i (by decide +kernel) (Nat.le_of_ble_eq_true rfl) ?_
  intro p e s m args below meth c A Q hx hb hml hown htg hK hG hA ret0 H locs ls hP hD hS hl
  have ret : ∀ (z' : Int32) {H : Heap} {locs : List Loc} {pc : Nat} {ls : Array Slot}, some z' = some z → narrow .int (.int z') = .int z' → va_P E.1 vwCl [(a0, o7 a2), (a1, o3 T1 a3 u1_8 u1_9 u1_10 u1_11 u1_12 u1_13 u1_14), (a2, ai E 144 V2), (a3, ai E 36 V3)] H → va_S A s.heap H locs → decode cX7_rightCells pc = .ok (.ireturn, 1) → W p l e ({ frames := 2, cells := 0, slots := 0, locals := 43 } : Room) s m args below meth c H locs 0 0 Q (F0 m pc ls [.int z']) := by
    intro z' H locs pc ls h
    cases h
    exact ret0
  replace hl : lv_has ls 4 [(0, .ref a0), (1, .ref a1)] := hl
  have b4 : ∀ (n : Nat) (x2 : Int32) (x3 : Int32) (H : Heap) (locs : List Loc) (ls : Array Slot), f_X7_rightCells_4 T1 V2 V3 n x2 x3 = some z → va_P E.1 vwCl [(a0, o7 a2), (a1, o3 T1 a3 u1_8 u1_9 u1_10 u1_11 u1_12 u1_13 u1_14), (a2, ai E 144 V2), (a3, ai E 36 V3)] H → va_D A [(a0, o7 a2), (a1, o3 T1 a3 u1_8 u1_9 u1_10 u1_11 u1_12 u1_13 u1_14), (a2, ai E 144 V2), (a3, ai E 36 V3)] → va_S A s.heap H locs → lv_has ls 4 [(0, .ref a0), (1, .ref a1), (2, .int x2), (3, .int x3)] → W p l e ({ frames := 2, cells := 0, slots := 0, locals := 43 } : Room) s m args below meth c H locs 0 0 Q (F0 m 4 ls []) := by
    intro n
    induction n with
    | zero => intro x2 x3 H locs ls hf; exact (nn_s hf).elim
    | succ n ih4 =>
      obtain ⟨k4, ek4⟩ : ∃ k, k = f_X7_rightCells_4 T1 V2 V3 n := ⟨_, rfl⟩
      rw [← ek4] at ih4
      have b31 : ∀ (x3 : Int32) (s0 : Int32) (s1 : Int32) (H : Heap) (locs : List Loc) (ls : Array Slot), f_X7_rightCells_31 T1 V2 V3 k4 x3 s0 s1 = some z → va_P E.1 vwCl [(a0, o7 a2), (a1, o3 T1 a3 u1_8 u1_9 u1_10 u1_11 u1_12 u1_13 u1_14), (a2, ai E 144 V2), (a3, ai E 36 V3)] H → va_D A [(a0, o7 a2), (a1, o3 T1 a3 u1_8 u1_9 u1_10 u1_11 u1_12 u1_13 u1_14), (a2, ai E 144 V2), (a3, ai E 36 V3)] → va_S A s.heap H locs → lv_has ls 4 [(0, .ref a0), (1, .ref a1), (3, .int x3)] → W p l e ({ frames := 2, cells := 0, slots := 0, locals := 43 } : Room) s m args below meth c H locs 0 0 Q (F0 m 31 ls [.int s1, .int s0]) := by
        intro x3 s0 s1 H locs ls hf hP hD hS hl
        unfold f_X7_rightCells_31 at hf
        refine lv_iadd hx hb dX7_rightCells_31 ?_
        refine lv_istore_n (lv' := [(2, .int (s0 + s1)), (0, .ref a0), (1, .ref a1), (3, .int x3)]) hx hb dX7_rightCells_32 rfl hl (by decide) rfl (fun ls hl => ?_)
        refine lv_iinc (v := x3 + 1) (lv' := [(3, .int (x3 + 1)), (2, .int (s0 + s1)), (0, .ref a0), (1, .ref a1)]) hx hb dX7_rightCells_33 hl (k := 3) rfl rfl (by decide) rfl (fun ls hl => ?_)
        refine lv_goto (tgt := 4) hx hb dX7_rightCells_36 (by decide) ?_
        exact ih4 (s0 + s1) (x3 + 1) _ _ _ hf hP hD hS (lv_sub hl [2, 3, 1, 0] rfl)
      intro x2 x3 H locs ls hf hP hD hS hl
      replace hf : g_X7_rightCells_4 T1 V2 V3 k4 x2 x3 = some z := by rw [ek4]; exact hf
      unfold g_X7_rightCells_4 at hf
      refine lv_iload_n hx hb dX7_rightCells_4 rfl (lv_at hl 3 rfl) ?_
      refine lv_aload_n hx hb dX7_rightCells_5 rfl (lv_at hl 1 rfl) ?_
      obtain ⟨z6, hz6, hf⟩ := bind_s hf
      refine xV_ir hx hb hml hown htg L7_52 (c_X3_cellCount l E a1 hz6 _) ⟨⟨rfl, rfl⟩, Nat.le_of_ble_eq_true rfl, Nat.le_of_ble_eq_true rfl⟩ hK hG hA hP hD hS (is := [1]) rfl rfl (xrecv hK hP (q0 := 1) (ci := 3) rfl rfl) rfl hl.1 rfl (Nat.le_of_ble_eq_true rfl) dX7_rightCells_6 (fun H locs hP hD hS => ?_)
      refine lv_icmp_ge (tgt := 39) hx hb dX7_rightCells_9 (by decide) (fun c9 => ?_) (fun c9 => ?_)
      · have hf := it_t c9 hf
        refine lv_iload_n hx hb dX7_rightCells_39 rfl (lv_at hl 2 rfl) ?_
        exact ret x2 hf nzi hP hS dX7_rightCells_40
      · have hf := it_f c9 hf
        refine lv_iload_n hx hb dX7_rightCells_12 rfl (lv_at hl 2 rfl) ?_
        refine lv_aload_n hx hb dX7_rightCells_13 rfl (lv_at hl 0 rfl) ?_
        refine lv_iload_n hx hb dX7_rightCells_14 rfl (lv_at hl 3 rfl) ?_
        obtain ⟨z15, hz15, hf⟩ := bind_s hf
        refine xV_ir hx hb hml hown htg L7_44 (c_X7_drawnAs l E a0 a2 hz15 _) ⟨⟨rfl, rfl⟩, Nat.le_of_ble_eq_true rfl, Nat.le_of_ble_eq_true rfl⟩ hK hG hA hP hD hS (is := [0, 2]) rfl rfl (xrecv hK hP (q0 := 0) (ci := 7) rfl rfl) rfl hl.1 rfl (Nat.le_of_ble_eq_true rfl) dX7_rightCells_15 (fun H locs hP hD hS => ?_)
        refine lv_aload_n hx hb dX7_rightCells_18 rfl (lv_at hl 1 rfl) ?_
        refine lv_iload_n hx hb dX7_rightCells_19 rfl (lv_at hl 3 rfl) ?_
        obtain ⟨z20, hz20, hf⟩ := bind_s hf
        refine xV_ir hx hb hml hown htg L7_56 (c_X3_kindAt l E a1 a3 hz20 _) ⟨⟨rfl, rfl⟩, Nat.le_of_ble_eq_true rfl, Nat.le_of_ble_eq_true rfl⟩ hK hG hA hP hD hS (is := [1, 3]) rfl rfl (xrecv hK hP (q0 := 1) (ci := 3) rfl rfl) rfl hl.1 rfl (Nat.le_of_ble_eq_true rfl) dX7_rightCells_20 (fun H locs hP hD hS => ?_)
        refine lv_icmp_ne (tgt := 30) hx hb dX7_rightCells_23 (by decide) (fun c23 => ?_) (fun c23 => ?_)
        · have hf := it_f c23 hf
          refine lv_iconst (v := 0) hx hb dX7_rightCells_30 rfl ?_
          exact b31 x3 x2 0 _ _ _ hf hP hD hS (lv_sub hl [0, 1, 3] rfl)
        · have hf := it_t c23 hf
          refine lv_iconst (v := 1) hx hb dX7_rightCells_26 rfl ?_
          refine lv_goto (tgt := 31) hx hb dX7_rightCells_27 (by decide) ?_
          exact b31 x3 x2 1 _ _ _ hf hP hD hS (lv_sub hl [0, 1, 3] rfl)
  unfold f_X7_rightCells at hf
  refine lv_iconst (v := 0) hx hb dX7_rightCells_0 rfl ?_
  refine lv_istore_n (lv' := [(2, .int 0), (0, .ref a0), (1, .ref a1)]) hx hb dX7_rightCells_1 rfl hl (by decide) rfl (fun ls hl => ?_)
  refine lv_iconst (v := 0) hx hb dX7_rightCells_2 rfl ?_
  refine lv_istore_n (lv' := [(3, .int 0), (2, .int 0), (0, .ref a0), (1, .ref a1)]) hx hb dX7_rightCells_3 rfl hl (by decide) rfl (fun ls hl => ?_)
  exact b4 xF 0 0 _ _ _ hf hP hD hS (lv_sub hl [2, 3, 1, 0] rfl)
