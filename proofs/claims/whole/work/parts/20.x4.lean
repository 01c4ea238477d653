theorem dX4_takeOdds_0 : decode cX4_takeOdds 0 = .ok (.aload_n 0, 1) := by decide +kernel
theorem dX4_takeOdds_1 : decode cX4_takeOdds 1 = .ok (.getfield 14, 3) := by decide +kernel
theorem dX4_takeOdds_4 : decode cX4_takeOdds 4 = .ok (.ifCond .eq 9, 3) := by decide +kernel
theorem dX4_takeOdds_7 : decode cX4_takeOdds 7 = .ok (.aload_n 1, 1) := by decide +kernel
theorem dX4_takeOdds_8 : decode cX4_takeOdds 8 = .ok (.iconst 5, 1) := by decide +kernel
theorem dX4_takeOdds_9 : decode cX4_takeOdds 9 = .ok (.invokevirtual 60, 3) := by decide +kernel
theorem dX4_takeOdds_12 : decode cX4_takeOdds 12 = .ok (.ireturn, 1) := by decide +kernel
theorem dX4_takeOdds_13 : decode cX4_takeOdds 13 = .ok (.aload_n 1, 1) := by decide +kernel
theorem dX4_takeOdds_14 : decode cX4_takeOdds 14 = .ok (.invokevirtual 70, 3) := by decide +kernel
theorem dX4_takeOdds_17 : decode cX4_takeOdds 17 = .ok (.aload_n 1, 1) := by decide +kernel
theorem dX4_takeOdds_18 : decode cX4_takeOdds 18 = .ok (.iconst 0, 1) := by decide +kernel
theorem dX4_takeOdds_19 : decode cX4_takeOdds 19 = .ok (.bipush 16, 2) := by decide +kernel
theorem dX4_takeOdds_21 : decode cX4_takeOdds 21 = .ok (.invokevirtual 100, 3) := by decide +kernel
theorem dX4_takeOdds_24 : decode cX4_takeOdds 24 = .ok (.ifCond .ne 5, 3) := by decide +kernel
theorem dX4_takeOdds_27 : decode cX4_takeOdds 27 = .ok (.iconst 0, 1) := by decide +kernel
theorem dX4_takeOdds_28 : decode cX4_takeOdds 28 = .ok (.ireturn, 1) := by decide +kernel
theorem dX4_takeOdds_29 : decode cX4_takeOdds 29 = .ok (.aload_n 2, 1) := by decide +kernel
theorem dX4_takeOdds_30 : decode cX4_takeOdds 30 = .ok (.aload_n 1, 1) := by decide +kernel
theorem dX4_takeOdds_31 : decode cX4_takeOdds 31 = .ok (.invokevirtual 104, 3) := by decide +kernel
theorem dX4_takeOdds_34 : decode cX4_takeOdds 34 = .ok (.putfield 107, 3) := by decide +kernel
theorem dX4_takeOdds_37 : decode cX4_takeOdds 37 = .ok (.aload_n 0, 1) := by decide +kernel
theorem dX4_takeOdds_38 : decode cX4_takeOdds 38 = .ok (.iconst 1, 1) := by decide +kernel
theorem dX4_takeOdds_39 : decode cX4_takeOdds 39 = .ok (.putfield 14, 3) := by decide +kernel
theorem dX4_takeOdds_42 : decode cX4_takeOdds 42 = .ok (.aload_n 1, 1) := by decide +kernel
theorem dX4_takeOdds_43 : decode cX4_takeOdds 43 = .ok (.invokevirtual 70, 3) := by decide +kernel
theorem dX4_takeOdds_46 : decode cX4_takeOdds 46 = .ok (.iconst 1, 1) := by decide +kernel
theorem dX4_takeOdds_47 : decode cX4_takeOdds 47 = .ok (.ireturn, 1) := by decide +kernel
set_option maxRecDepth 100000 in
theorem c_X4_takeOdds (l : Launch) (E : xE) (a0 a1 a2 a3 a4 : Nat) {T0 : Nat → Int32} {T1 : Nat → Int32} {J1_8 : Int64} {V2 : Nat → Int32} {V3 : Nat → Int64} {T4 : Nat → Int32} {u4_7 u4_8 u4_9 u4_10 u4_11 u4_12 u4_13 u4_14 : Nat} {z : Int32 × (Nat → Int32) × (Nat → Int32) × Int64 × (Nat → Int32)} (hf : f_X4_takeOdds T0 T1 J1_8 V2 V3 T4 = some z) (sz : Nat) : Met l yX4_takeOdds (Cond.code yX4_takeOdds cX4_takeOdds 3 (some .boolean) :: gw) ({ frames := 2, cells := 0, slots := 0, locals := 44 }) (xPc E [.ref a0, .ref a1, .ref a4] [(a0, o4 T0), (a1, o8 T1 J1_8 a2 a3), (a2, ab E 900 V2), (a3, al E 23 V3), (a4, o3 T4 u4_7 u4_8 u4_9 u4_10 u4_11 u4_12 u4_13 u4_14)] sz) (xQi E z.1 [(a0, o4 T0), (a1, o8 T1 J1_8 a2 a3), (a2, ab E 900 V2), (a3, al E 23 V3), (a4, o3 T4 u4_7 u4_8 u4_9 u4_10 u4_11 u4_12 u4_13 u4_14)] [(a0, o4 z.2.1), (a1, o8 z.2.2.1 z.2.2.2.1 a2 a3), (a2, ab E 900 V2), (a3, al E 23 V3), (a4, o3 z.2.2.2.2 u4_7 u4_8 u4_9 u4_10 u4_11 u4_12 u4_13 u4_14)] sz) 0 0 (va_A [(a0, o4 T0), (a1, o8 T1 J1_8 a2 a3), (a2, ab E 900 V2), (a3, al E 23 V3), (a4, o3 T4 u4_7 u4_8 u4_9 u4_10 u4_11 u4_12 u4_13 u4_14)] sz) := by
  refine xM_i (by decide +kernel) (Nat.le_of_ble_eq_true rfl) ?_
  intro p e s m args below meth c A Q hx hb hml hown htg hK hG hA ret0 H locs ls hP hD hS hl
  have ret : ∀ (z' : Int32 × (Nat → Int32) × (Nat → Int32) × Int64 × (Nat → Int32)) {H : Heap} {locs : List Loc} {pc : Nat} {ls : Array Slot}, some z' = some z → narrow .boolean (.int z'.1) = .int z'.1 → va_P E.1 vwCl [(a0, o4 z'.2.1), (a1, o8 z'.2.2.1 z'.2.2.2.1 a2 a3), (a2, ab E 900 V2), (a3, al E 23 V3), (a4, o3 z'.2.2.2.2 u4_7 u4_8 u4_9 u4_10 u4_11 u4_12 u4_13 u4_14)] H → va_S A s.heap H locs → decode cX4_takeOdds pc = .ok (.ireturn, 1) → W p l e ({ frames := 2, cells := 0, slots := 0, locals := 44 } : Room) s m args below meth c H locs 0 0 Q (F0 m pc ls [.int z'.1]) := by
    intro z' H locs pc ls h
    cases h
    exact ret0
  replace hl : lv_has ls 3 [(0, .ref a0), (1, .ref a1), (2, .ref a4)] := hl
  unfold f_X4_takeOdds at hf
  refine lv_aload_n hx hb dX4_takeOdds_0 rfl (lv_at hl 0 rfl) ?_
  refine G4_14 hx hb htg hown hK hP 0 rfl dX4_takeOdds_1 ?_
  refine lv_if_eq (tgt := 13) hx hb dX4_takeOdds_4 (by decide) (fun c4 => ?_) (fun c4 => ?_)
  · have hf := it_t c4 hf
    refine lv_aload_n hx hb dX4_takeOdds_13 rfl (lv_at hl 1 rfl) ?_
    obtain ⟨z14, hz14, hf⟩ := bind_s hf
    refine xV_vu hx hb hml hown htg L4_70 (c_X8_advance l E a1 a2 a3 hz14 _) ⟨⟨rfl, rfl⟩, Nat.le_of_ble_eq_true rfl, Nat.le_of_ble_eq_true rfl⟩ hK hG hA hP hD hS (is := [1, 2, 3]) (sel := [none, some 0, some 1, some 2, none]) (ws2 := [(a0, o4 T0), (a1, o8 z14.1 z14.2 a2 a3), (a2, ab E 900 V2), (a3, al E 23 V3), (a4, o3 T4 u4_7 u4_8 u4_9 u4_10 u4_11 u4_12 u4_13 u4_14)]) rfl rfl rfl rfl rfl (xrecv hK hP (q0 := 1) (ci := 8) rfl rfl) rfl hl.1 rfl (Nat.le_of_ble_eq_true rfl) dX4_takeOdds_14 (fun H locs hP hD hS => ?_)
    refine lv_aload_n hx hb dX4_takeOdds_17 rfl (lv_at hl 1 rfl) ?_
    refine lv_iconst (v := 0) hx hb dX4_takeOdds_18 rfl ?_
    refine lv_bipush (v := 16) hx hb dX4_takeOdds_19 rfl ?_
    obtain ⟨z21, hz21, hf⟩ := bind_s hf
    refine xV_iu hx hb hml hown htg L4_100 (c_X8_isNumber l E a1 hz21 _) ⟨⟨rfl, rfl⟩, Nat.le_of_ble_eq_true rfl, Nat.le_of_ble_eq_true rfl⟩ hK hG hA hP hD hS (is := [1]) (sel := [none, some 0, none, none, none]) (ws2 := [(a0, o4 T0), (a1, o8 z21.2 z14.2 a2 a3), (a2, ab E 900 V2), (a3, al E 23 V3), (a4, o3 T4 u4_7 u4_8 u4_9 u4_10 u4_11 u4_12 u4_13 u4_14)]) rfl rfl rfl rfl rfl (xrecv hK hP (q0 := 1) (ci := 8) rfl rfl) rfl hl.1 rfl (Nat.le_of_ble_eq_true rfl) dX4_takeOdds_21 (fun H locs hP hD hS => ?_)
    refine lv_if_ne (tgt := 29) hx hb dX4_takeOdds_24 (by decide) (fun c24 => ?_) (fun c24 => ?_)
    · have hf := it_f c24 hf
      refine lv_aload_n hx hb dX4_takeOdds_29 rfl (lv_at hl 2 rfl) ?_
      refine lv_aload_n hx hb dX4_takeOdds_30 rfl (lv_at hl 1 rfl) ?_
      obtain ⟨z31, hz31, hf⟩ := bind_s hf
      refine xV_ir hx hb hml hown htg L4_104 (c_X8_number l E a1 hz31 _) ⟨⟨rfl, rfl⟩, Nat.le_of_ble_eq_true rfl, Nat.le_of_ble_eq_true rfl⟩ hK hG hA hP hD hS (is := [1]) rfl rfl (xrecv hK hP (q0 := 1) (ci := 8) rfl rfl) rfl hl.1 rfl (Nat.le_of_ble_eq_true rfl) dX4_takeOdds_31 (fun H locs hP hD hS => ?_)
      refine P4_107 hx hb htg hown hK hP hD hS 4 rfl dX4_takeOdds_34 (fun H locs hP hD hS => ?_)
      refine lv_aload_n hx hb dX4_takeOdds_37 rfl (lv_at hl 0 rfl) ?_
      refine lv_iconst (v := 1) hx hb dX4_takeOdds_38 rfl ?_
      refine P4_14 hx hb htg hown hK hP hD hS 0 rfl rfl dX4_takeOdds_39 (fun H locs hP hD hS => ?_)
      refine lv_aload_n hx hb dX4_takeOdds_42 rfl (lv_at hl 1 rfl) ?_
      obtain ⟨z43, hz43, hf⟩ := bind_s hf
      refine xV_vu hx hb hml hown htg L4_70 (c_X8_advance l E a1 a2 a3 hz43 _) ⟨⟨rfl, rfl⟩, Nat.le_of_ble_eq_true rfl, Nat.le_of_ble_eq_true rfl⟩ hK hG hA hP hD hS (is := [1, 2, 3]) (sel := [none, some 0, some 1, some 2, none]) (ws2 := [(a0, o4 (upd T0 1 1)), (a1, o8 z43.1 z43.2 a2 a3), (a2, ab E 900 V2), (a3, al E 23 V3), (a4, o3 (upd T4 2 z31) u4_7 u4_8 u4_9 u4_10 u4_11 u4_12 u4_13 u4_14)]) rfl rfl rfl rfl rfl (xrecv hK hP (q0 := 1) (ci := 8) rfl rfl) rfl hl.1 rfl (Nat.le_of_ble_eq_true rfl) dX4_takeOdds_43 (fun H locs hP hD hS => ?_)
      refine lv_iconst (v := 1) hx hb dX4_takeOdds_46 rfl ?_
      exact ret (1, upd T0 1 1, z43.1, z43.2, upd T4 2 z31) hf nz1 hP hS dX4_takeOdds_47
    · have hf := it_t c24 hf
      refine lv_iconst (v := 0) hx hb dX4_takeOdds_27 rfl ?_
      exact ret (0, T0, z21.2, z14.2, T4) hf nz0 hP hS dX4_takeOdds_28
  · have hf := it_f c4 hf
    refine lv_aload_n hx hb dX4_takeOdds_7 rfl (lv_at hl 1 rfl) ?_
    refine lv_iconst (v := 5) hx hb dX4_takeOdds_8 rfl ?_
    obtain ⟨z9, hz9, hf⟩ := bind_s hf
    refine xV_iu hx hb hml hown htg L4_60 (c_X8_blame l E a1 hz9 _) ⟨⟨rfl, rfl⟩, Nat.le_of_ble_eq_true rfl, Nat.le_of_ble_eq_true rfl⟩ hK hG hA hP hD hS (is := [1]) (sel := [none, some 0, none, none, none]) (ws2 := [(a0, o4 T0), (a1, o8 z9.2 J1_8 a2 a3), (a2, ab E 900 V2), (a3, al E 23 V3), (a4, o3 T4 u4_7 u4_8 u4_9 u4_10 u4_11 u4_12 u4_13 u4_14)]) rfl rfl rfl rfl rfl (xrecv hK hP (q0 := 1) (ci := 8) rfl rfl) rfl hl.1 rfl (Nat.le_of_ble_eq_true rfl) dX4_takeOdds_9 (fun H locs hP hD hS => ?_)
    obtain ⟨g12, hf⟩ := ck_s hf
    exact ret (z9.1, T0, z9.2, J1_8, T4) hf (bz_n g12).1 hP hS dX4_takeOdds_12
theorem dX4_takeHarbour_0 : decode cX4_takeHarbour 0 = .ok (.aload_n 0, 1) := by decide +kernel
theorem dX4_takeHarbour_1 : decode cX4_takeHarbour 1 = .ok (.getfield 20, 3) := by decide +kernel
theorem dX4_takeHarbour_4 : decode cX4_takeHarbour 4 = .ok (.ifCond .eq 9, 3) := by decide +kernel
theorem dX4_takeHarbour_7 : decode cX4_takeHarbour 7 = .ok (.aload_n 1, 1) := by decide +kernel
theorem dX4_takeHarbour_8 : decode cX4_takeHarbour 8 = .ok (.iconst 5, 1) := by decide +kernel
theorem dX4_takeHarbour_9 : decode cX4_takeHarbour 9 = .ok (.invokevirtual 60, 3) := by decide +kernel
theorem dX4_takeHarbour_12 : decode cX4_takeHarbour 12 = .ok (.ireturn, 1) := by decide +kernel
theorem dX4_takeHarbour_13 : decode cX4_takeHarbour 13 = .ok (.aload_n 1, 1) := by decide +kernel
theorem dX4_takeHarbour_14 : decode cX4_takeHarbour 14 = .ok (.invokevirtual 70, 3) := by decide +kernel
theorem dX4_takeHarbour_17 : decode cX4_takeHarbour 17 = .ok (.aload_n 1, 1) := by decide +kernel
theorem dX4_takeHarbour_18 : decode cX4_takeHarbour 18 = .ok (.iconst 0, 1) := by decide +kernel
theorem dX4_takeHarbour_19 : decode cX4_takeHarbour 19 = .ok (.aload_n 2, 1) := by decide +kernel
theorem dX4_takeHarbour_20 : decode cX4_takeHarbour 20 = .ok (.getfield 67, 3) := by decide +kernel
theorem dX4_takeHarbour_23 : decode cX4_takeHarbour 23 = .ok (.iconst 1, 1) := by decide +kernel
theorem dX4_takeHarbour_24 : decode cX4_takeHarbour 24 = .ok (.isub, 1) := by decide +kernel
theorem dX4_takeHarbour_25 : decode cX4_takeHarbour 25 = .ok (.invokevirtual 100, 3) := by decide +kernel
theorem dX4_takeHarbour_28 : decode cX4_takeHarbour 28 = .ok (.ifCond .ne 5, 3) := by decide +kernel
theorem dX4_takeHarbour_31 : decode cX4_takeHarbour 31 = .ok (.iconst 0, 1) := by decide +kernel
theorem dX4_takeHarbour_32 : decode cX4_takeHarbour 32 = .ok (.ireturn, 1) := by decide +kernel
theorem dX4_takeHarbour_33 : decode cX4_takeHarbour 33 = .ok (.aload_n 1, 1) := by decide +kernel
theorem dX4_takeHarbour_34 : decode cX4_takeHarbour 34 = .ok (.invokevirtual 104, 3) := by decide +kernel
theorem dX4_takeHarbour_37 : decode cX4_takeHarbour 37 = .ok (.istore_n 3, 1) := by decide +kernel
theorem dX4_takeHarbour_38 : decode cX4_takeHarbour 38 = .ok (.aload_n 1, 1) := by decide +kernel
theorem dX4_takeHarbour_39 : decode cX4_takeHarbour 39 = .ok (.invokevirtual 70, 3) := by decide +kernel
theorem dX4_takeHarbour_42 : decode cX4_takeHarbour 42 = .ok (.aload_n 1, 1) := by decide +kernel
theorem dX4_takeHarbour_43 : decode cX4_takeHarbour 43 = .ok (.iconst 0, 1) := by decide +kernel
theorem dX4_takeHarbour_44 : decode cX4_takeHarbour 44 = .ok (.aload_n 2, 1) := by decide +kernel
theorem dX4_takeHarbour_45 : decode cX4_takeHarbour 45 = .ok (.getfield 79, 3) := by decide +kernel
theorem dX4_takeHarbour_48 : decode cX4_takeHarbour 48 = .ok (.iconst 1, 1) := by decide +kernel
theorem dX4_takeHarbour_49 : decode cX4_takeHarbour 49 = .ok (.isub, 1) := by decide +kernel
theorem dX4_takeHarbour_50 : decode cX4_takeHarbour 50 = .ok (.invokevirtual 100, 3) := by decide +kernel
theorem dX4_takeHarbour_53 : decode cX4_takeHarbour 53 = .ok (.ifCond .ne 5, 3) := by decide +kernel
theorem dX4_takeHarbour_56 : decode cX4_takeHarbour 56 = .ok (.iconst 0, 1) := by decide +kernel
theorem dX4_takeHarbour_57 : decode cX4_takeHarbour 57 = .ok (.ireturn, 1) := by decide +kernel
theorem dX4_takeHarbour_58 : decode cX4_takeHarbour 58 = .ok (.aload_n 2, 1) := by decide +kernel
theorem dX4_takeHarbour_59 : decode cX4_takeHarbour 59 = .ok (.iload_n 3, 1) := by decide +kernel
theorem dX4_takeHarbour_60 : decode cX4_takeHarbour 60 = .ok (.aload_n 2, 1) := by decide +kernel
theorem dX4_takeHarbour_61 : decode cX4_takeHarbour 61 = .ok (.getfield 79, 3) := by decide +kernel
theorem dX4_takeHarbour_64 : decode cX4_takeHarbour 64 = .ok (.imul, 1) := by decide +kernel
theorem dX4_takeHarbour_65 : decode cX4_takeHarbour 65 = .ok (.aload_n 1, 1) := by decide +kernel
theorem dX4_takeHarbour_66 : decode cX4_takeHarbour 66 = .ok (.invokevirtual 104, 3) := by decide +kernel
theorem dX4_takeHarbour_69 : decode cX4_takeHarbour 69 = .ok (.iadd, 1) := by decide +kernel
theorem dX4_takeHarbour_70 : decode cX4_takeHarbour 70 = .ok (.putfield 110, 3) := by decide +kernel
theorem dX4_takeHarbour_73 : decode cX4_takeHarbour 73 = .ok (.aload_n 0, 1) := by decide +kernel
theorem dX4_takeHarbour_74 : decode cX4_takeHarbour 74 = .ok (.iconst 1, 1) := by decide +kernel
theorem dX4_takeHarbour_75 : decode cX4_takeHarbour 75 = .ok (.putfield 20, 3) := by decide +kernel
theorem dX4_takeHarbour_78 : decode cX4_takeHarbour 78 = .ok (.aload_n 1, 1) := by decide +kernel
theorem dX4_takeHarbour_79 : decode cX4_takeHarbour 79 = .ok (.invokevirtual 70, 3) := by decide +kernel
theorem dX4_takeHarbour_82 : decode cX4_takeHarbour 82 = .ok (.iconst 1, 1) := by decide +kernel
theorem dX4_takeHarbour_83 : decode cX4_takeHarbour 83 = .ok (.ireturn, 1) := by decide +kernel
set_option maxRecDepth 100000 in
theorem c_X4_takeHarbour (l : Launch) (E : xE) (a0 a1 a2 a3 a4 : Nat) {T0 : Nat → Int32} {T1 : Nat → Int32} {J1_8 : Int64} {V2 : Nat → Int32} {V3 : Nat → Int64} {T4 : Nat → Int32} {u4_7 u4_8 u4_9 u4_10 u4_11 u4_12 u4_13 u4_14 : Nat} {z : Int32 × (Nat → Int32) × (Nat → Int32) × Int64 × (Nat → Int32)} (hf : f_X4_takeHarbour T0 T1 J1_8 V2 V3 T4 = some z) (sz : Nat) : Met l yX4_takeHarbour (Cond.code yX4_takeHarbour cX4_takeHarbour 4 (some .boolean) :: gw) ({ frames := 2, cells := 0, slots := 0, locals := 44 }) (xPc E [.ref a0, .ref a1, .ref a4] [(a0, o4 T0), (a1, o8 T1 J1_8 a2 a3), (a2, ab E 900 V2), (a3, al E 23 V3), (a4, o3 T4 u4_7 u4_8 u4_9 u4_10 u4_11 u4_12 u4_13 u4_14)] sz) (xQi E z.1 [(a0, o4 T0), (a1, o8 T1 J1_8 a2 a3), (a2, ab E 900 V2), (a3, al E 23 V3), (a4, o3 T4 u4_7 u4_8 u4_9 u4_10 u4_11 u4_12 u4_13 u4_14)] [(a0, o4 z.2.1), (a1, o8 z.2.2.1 z.2.2.2.1 a2 a3), (a2, ab E 900 V2), (a3, al E 23 V3), (a4, o3 z.2.2.2.2 u4_7 u4_8 u4_9 u4_10 u4_11 u4_12 u4_13 u4_14)] sz) 0 0 (va_A [(a0, o4 T0), (a1, o8 T1 J1_8 a2 a3), (a2, ab E 900 V2), (a3, al E 23 V3), (a4, o3 T4 u4_7 u4_8 u4_9 u4_10 u4_11 u4_12 u4_13 u4_14)] sz) := by
  refine xM_i (by decide +kernel) (Nat.le_of_ble_eq_true rfl) ?_
  intro p e s m args below meth c A Q hx hb hml hown htg hK hG hA ret0 H locs ls hP hD hS hl
  have ret : ∀ (z' : Int32 × (Nat → Int32) × (Nat → Int32) × Int64 × (Nat → Int32)) {H : Heap} {locs : List Loc} {pc : Nat} {ls : Array Slot}, some z' = some z → narrow .boolean (.int z'.1) = .int z'.1 → va_P E.1 vwCl [(a0, o4 z'.2.1), (a1, o8 z'.2.2.1 z'.2.2.2.1 a2 a3), (a2, ab E 900 V2), (a3, al E 23 V3), (a4, o3 z'.2.2.2.2 u4_7 u4_8 u4_9 u4_10 u4_11 u4_12 u4_13 u4_14)] H → va_S A s.heap H locs → decode cX4_takeHarbour pc = .ok (.ireturn, 1) → W p l e ({ frames := 2, cells := 0, slots := 0, locals := 44 } : Room) s m args below meth c H locs 0 0 Q (F0 m pc ls [.int z'.1]) := by
    intro z' H locs pc ls h
    cases h
    exact ret0
  replace hl : lv_has ls 4 [(0, .ref a0), (1, .ref a1), (2, .ref a4)] := hl
  unfold f_X4_takeHarbour at hf
  refine lv_aload_n hx hb dX4_takeHarbour_0 rfl (lv_at hl 0 rfl) ?_
  refine G4_20 hx hb htg hown hK hP 0 rfl dX4_takeHarbour_1 ?_
  refine lv_if_eq (tgt := 13) hx hb dX4_takeHarbour_4 (by decide) (fun c4 => ?_) (fun c4 => ?_)
  · have hf := it_t c4 hf
    refine lv_aload_n hx hb dX4_takeHarbour_13 rfl (lv_at hl 1 rfl) ?_
    obtain ⟨z14, hz14, hf⟩ := bind_s hf
    refine xV_vu hx hb hml hown htg L4_70 (c_X8_advance l E a1 a2 a3 hz14 _) ⟨⟨rfl, rfl⟩, Nat.le_of_ble_eq_true rfl, Nat.le_of_ble_eq_true rfl⟩ hK hG hA hP hD hS (is := [1, 2, 3]) (sel := [none, some 0, some 1, some 2, none]) (ws2 := [(a0, o4 T0), (a1, o8 z14.1 z14.2 a2 a3), (a2, ab E 900 V2), (a3, al E 23 V3), (a4, o3 T4 u4_7 u4_8 u4_9 u4_10 u4_11 u4_12 u4_13 u4_14)]) rfl rfl rfl rfl rfl (xrecv hK hP (q0 := 1) (ci := 8) rfl rfl) rfl hl.1 rfl (Nat.le_of_ble_eq_true rfl) dX4_takeHarbour_14 (fun H locs hP hD hS => ?_)
    refine lv_aload_n hx hb dX4_takeHarbour_17 rfl (lv_at hl 1 rfl) ?_
    refine lv_iconst (v := 0) hx hb dX4_takeHarbour_18 rfl ?_
    refine lv_aload_n hx hb dX4_takeHarbour_19 rfl (lv_at hl 2 rfl) ?_
    refine G4_67 hx hb htg hown hK hP 4 rfl dX4_takeHarbour_20 ?_
    refine lv_iconst (v := 1) hx hb dX4_takeHarbour_23 rfl ?_
    refine lv_isub hx hb dX4_takeHarbour_24 ?_
    obtain ⟨z25, hz25, hf⟩ := bind_s hf
    refine xV_iu hx hb hml hown htg L4_100 (c_X8_isNumber l E a1 hz25 _) ⟨⟨rfl, rfl⟩, Nat.le_of_ble_eq_true rfl, Nat.le_of_ble_eq_true rfl⟩ hK hG hA hP hD hS (is := [1]) (sel := [none, some 0, none, none, none]) (ws2 := [(a0, o4 T0), (a1, o8 z25.2 z14.2 a2 a3), (a2, ab E 900 V2), (a3, al E 23 V3), (a4, o3 T4 u4_7 u4_8 u4_9 u4_10 u4_11 u4_12 u4_13 u4_14)]) rfl rfl rfl rfl rfl (xrecv hK hP (q0 := 1) (ci := 8) rfl rfl) rfl hl.1 rfl (Nat.le_of_ble_eq_true rfl) dX4_takeHarbour_25 (fun H locs hP hD hS => ?_)
    refine lv_if_ne (tgt := 33) hx hb dX4_takeHarbour_28 (by decide) (fun c28 => ?_) (fun c28 => ?_)
    · have hf := it_f c28 hf
      refine lv_aload_n hx hb dX4_takeHarbour_33 rfl (lv_at hl 1 rfl) ?_
      obtain ⟨z34, hz34, hf⟩ := bind_s hf
      refine xV_ir hx hb hml hown htg L4_104 (c_X8_number l E a1 hz34 _) ⟨⟨rfl, rfl⟩, Nat.le_of_ble_eq_true rfl, Nat.le_of_ble_eq_true rfl⟩ hK hG hA hP hD hS (is := [1]) rfl rfl (xrecv hK hP (q0 := 1) (ci := 8) rfl rfl) rfl hl.1 rfl (Nat.le_of_ble_eq_true rfl) dX4_takeHarbour_34 (fun H locs hP hD hS => ?_)
      refine lv_istore_n (lv' := [(3, .int z34), (0, .ref a0), (1, .ref a1), (2, .ref a4)]) hx hb dX4_takeHarbour_37 rfl hl (by decide) rfl (fun ls hl => ?_)
      refine lv_aload_n hx hb dX4_takeHarbour_38 rfl (lv_at hl 2 rfl) ?_
      obtain ⟨z39, hz39, hf⟩ := bind_s hf
      refine xV_vu hx hb hml hown htg L4_70 (c_X8_advance l E a1 a2 a3 hz39 _) ⟨⟨rfl, rfl⟩, Nat.le_of_ble_eq_true rfl, Nat.le_of_ble_eq_true rfl⟩ hK hG hA hP hD hS (is := [1, 2, 3]) (sel := [none, some 0, some 1, some 2, none]) (ws2 := [(a0, o4 T0), (a1, o8 z39.1 z39.2 a2 a3), (a2, ab E 900 V2), (a3, al E 23 V3), (a4, o3 T4 u4_7 u4_8 u4_9 u4_10 u4_11 u4_12 u4_13 u4_14)]) rfl rfl rfl rfl rfl (xrecv hK hP (q0 := 1) (ci := 8) rfl rfl) rfl hl.1 rfl (Nat.le_of_ble_eq_true rfl) dX4_takeHarbour_39 (fun H locs hP hD hS => ?_)
      refine lv_aload_n hx hb dX4_takeHarbour_42 rfl (lv_at hl 2 rfl) ?_
      refine lv_iconst (v := 0) hx hb dX4_takeHarbour_43 rfl ?_
      refine lv_aload_n hx hb dX4_takeHarbour_44 rfl (lv_at hl 3 rfl) ?_
      refine G4_79 hx hb htg hown hK hP 4 rfl dX4_takeHarbour_45 ?_
      refine lv_iconst (v := 1) hx hb dX4_takeHarbour_48 rfl ?_
      refine lv_isub hx hb dX4_takeHarbour_49 ?_
      obtain ⟨z50, hz50, hf⟩ := bind_s hf
      refine xV_iu hx hb hml hown htg L4_100 (c_X8_isNumber l E a1 hz50 _) ⟨⟨rfl, rfl⟩, Nat.le_of_ble_eq_true rfl, Nat.le_of_ble_eq_true rfl⟩ hK hG hA hP hD hS (is := [1]) (sel := [none, some 0, none, none, none]) (ws2 := [(a0, o4 T0), (a1, o8 z50.2 z39.2 a2 a3), (a2, ab E 900 V2), (a3, al E 23 V3), (a4, o3 T4 u4_7 u4_8 u4_9 u4_10 u4_11 u4_12 u4_13 u4_14)]) rfl rfl rfl rfl rfl (xrecv hK hP (q0 := 1) (ci := 8) rfl rfl) rfl hl.1 rfl (Nat.le_of_ble_eq_true rfl) dX4_takeHarbour_50 (fun H locs hP hD hS => ?_)
      refine lv_if_ne (tgt := 58) hx hb dX4_takeHarbour_53 (by decide) (fun c53 => ?_) (fun c53 => ?_)
      · have hf := it_f c53 hf
        refine lv_aload_n hx hb dX4_takeHarbour_58 rfl (lv_at hl 3 rfl) ?_
        refine lv_iload_n hx hb dX4_takeHarbour_59 rfl (lv_at hl 0 rfl) ?_
        refine lv_aload_n hx hb dX4_takeHarbour_60 rfl (lv_at hl 3 rfl) ?_
        refine G4_79 hx hb htg hown hK hP 4 rfl dX4_takeHarbour_61 ?_
        refine lv_imul hx hb dX4_takeHarbour_64 ?_
        refine lv_aload_n hx hb dX4_takeHarbour_65 rfl (lv_at hl 2 rfl) ?_
        obtain ⟨z66, hz66, hf⟩ := bind_s hf
        refine xV_ir hx hb hml hown htg L4_104 (c_X8_number l E a1 hz66 _) ⟨⟨rfl, rfl⟩, Nat.le_of_ble_eq_true rfl, Nat.le_of_ble_eq_true rfl⟩ hK hG hA hP hD hS (is := [1]) rfl rfl (xrecv hK hP (q0 := 1) (ci := 8) rfl rfl) rfl hl.1 rfl (Nat.le_of_ble_eq_true rfl) dX4_takeHarbour_66 (fun H locs hP hD hS => ?_)
        refine lv_iadd hx hb dX4_takeHarbour_69 ?_
        refine P4_110 hx hb htg hown hK hP hD hS 4 rfl dX4_takeHarbour_70 (fun H locs hP hD hS => ?_)
        refine lv_aload_n hx hb dX4_takeHarbour_73 rfl (lv_at hl 1 rfl) ?_
        refine lv_iconst (v := 1) hx hb dX4_takeHarbour_74 rfl ?_
        refine P4_20 hx hb htg hown hK hP hD hS 0 rfl rfl dX4_takeHarbour_75 (fun H locs hP hD hS => ?_)
        refine lv_aload_n hx hb dX4_takeHarbour_78 rfl (lv_at hl 2 rfl) ?_
        obtain ⟨z79, hz79, hf⟩ := bind_s hf
        refine xV_vu hx hb hml hown htg L4_70 (c_X8_advance l E a1 a2 a3 hz79 _) ⟨⟨rfl, rfl⟩, Nat.le_of_ble_eq_true rfl, Nat.le_of_ble_eq_true rfl⟩ hK hG hA hP hD hS (is := [1, 2, 3]) (sel := [none, some 0, some 1, some 2, none]) (ws2 := [(a0, o4 (upd T0 2 1)), (a1, o8 z79.1 z79.2 a2 a3), (a2, ab E 900 V2), (a3, al E 23 V3), (a4, o3 (upd T4 3 ((z34 * (T4 1)) + z66)) u4_7 u4_8 u4_9 u4_10 u4_11 u4_12 u4_13 u4_14)]) rfl rfl rfl rfl rfl (xrecv hK hP (q0 := 1) (ci := 8) rfl rfl) rfl hl.1 rfl (Nat.le_of_ble_eq_true rfl) dX4_takeHarbour_79 (fun H locs hP hD hS => ?_)
        refine lv_iconst (v := 1) hx hb dX4_takeHarbour_82 rfl ?_
        exact ret (1, upd T0 2 1, z79.1, z79.2, upd T4 3 ((z34 * (T4 1)) + z66)) hf nz1 hP hS dX4_takeHarbour_83
      · have hf := it_t c53 hf
        refine lv_iconst (v := 0) hx hb dX4_takeHarbour_56 rfl ?_
        exact ret (0, T0, z50.2, z39.2, T4) hf nz0 hP hS dX4_takeHarbour_57
    · have hf := it_t c28 hf
      refine lv_iconst (v := 0) hx hb dX4_takeHarbour_31 rfl ?_
      exact ret (0, T0, z25.2, z14.2, T4) hf nz0 hP hS dX4_takeHarbour_32
  · have hf := it_f c4 hf
    refine lv_aload_n hx hb dX4_takeHarbour_7 rfl (lv_at hl 1 rfl) ?_
    refine lv_iconst (v := 5) hx hb dX4_takeHarbour_8 rfl ?_
    obtain ⟨z9, hz9, hf⟩ := bind_s hf
    refine xV_iu hx hb hml hown htg L4_60 (c_X8_blame l E a1 hz9 _) ⟨⟨rfl, rfl⟩, Nat.le_of_ble_eq_true rfl, Nat.le_of_ble_eq_true rfl⟩ hK hG hA hP hD hS (is := [1]) (sel := [none, some 0, none, none, none]) (ws2 := [(a0, o4 T0), (a1, o8 z9.2 J1_8 a2 a3), (a2, ab E 900 V2), (a3, al E 23 V3), (a4, o3 T4 u4_7 u4_8 u4_9 u4_10 u4_11 u4_12 u4_13 u4_14)]) rfl rfl rfl rfl rfl (xrecv hK hP (q0 := 1) (ci := 8) rfl rfl) rfl hl.1 rfl (Nat.le_of_ble_eq_true rfl) dX4_takeHarbour_9 (fun H locs hP hD hS => ?_)
    obtain ⟨g12, hf⟩ := ck_s hf
    exact ret (z9.1, T0, z9.2, J1_8, T4) hf (bz_n g12).1 hP hS dX4_takeHarbour_12
theorem dX4_takeTraveller_0 : decode cX4_takeTraveller 0 = .ok (.aload_n 2, 1) := by decide +kernel
theorem dX4_takeTraveller_1 : decode cX4_takeTraveller 1 = .ok (.getfield 113, 3) := by decide +kernel
theorem dX4_takeTraveller_4 : decode cX4_takeTraveller 4 = .ok (.iconst 5, 1) := by decide +kernel
theorem dX4_takeTraveller_5 : decode cX4_takeTraveller 5 = .ok (.if_icmp .lt 10, 3) := by decide +kernel
theorem dX4_takeTraveller_8 : decode cX4_takeTraveller 8 = .ok (.aload_n 1, 1) := by decide +kernel
theorem dX4_takeTraveller_9 : decode cX4_takeTraveller 9 = .ok (.bipush 6, 2) := by decide +kernel
theorem dX4_takeTraveller_11 : decode cX4_takeTraveller 11 = .ok (.invokevirtual 60, 3) := by decide +kernel
theorem dX4_takeTraveller_14 : decode cX4_takeTraveller 14 = .ok (.ireturn, 1) := by decide +kernel
theorem dX4_takeTraveller_15 : decode cX4_takeTraveller 15 = .ok (.aload_n 1, 1) := by decide +kernel
theorem dX4_takeTraveller_16 : decode cX4_takeTraveller 16 = .ok (.invokevirtual 70, 3) := by decide +kernel
theorem dX4_takeTraveller_19 : decode cX4_takeTraveller 19 = .ok (.aload_n 1, 1) := by decide +kernel
theorem dX4_takeTraveller_20 : decode cX4_takeTraveller 20 = .ok (.invokevirtual 116, 3) := by decide +kernel
theorem dX4_takeTraveller_23 : decode cX4_takeTraveller 23 = .ok (.ifCond .ne 9, 3) := by decide +kernel
theorem dX4_takeTraveller_26 : decode cX4_takeTraveller 26 = .ok (.aload_n 1, 1) := by decide +kernel
theorem dX4_takeTraveller_27 : decode cX4_takeTraveller 27 = .ok (.iconst 2, 1) := by decide +kernel
theorem dX4_takeTraveller_28 : decode cX4_takeTraveller 28 = .ok (.invokevirtual 60, 3) := by decide +kernel
theorem dX4_takeTraveller_31 : decode cX4_takeTraveller 31 = .ok (.ireturn, 1) := by decide +kernel
theorem dX4_takeTraveller_32 : decode cX4_takeTraveller 32 = .ok (.aload_n 1, 1) := by decide +kernel
theorem dX4_takeTraveller_33 : decode cX4_takeTraveller 33 = .ok (.invokevirtual 119, 3) := by decide +kernel
theorem dX4_takeTraveller_36 : decode cX4_takeTraveller 36 = .ok (.lstore_n 3, 1) := by decide +kernel
theorem dX4_takeTraveller_37 : decode cX4_takeTraveller 37 = .ok (.aload_n 2, 1) := by decide +kernel
theorem dX4_takeTraveller_38 : decode cX4_takeTraveller 38 = .ok (.lload_n 3, 1) := by decide +kernel
theorem dX4_takeTraveller_39 : decode cX4_takeTraveller 39 = .ok (.invokevirtual 123, 3) := by decide +kernel
theorem dX4_takeTraveller_42 : decode cX4_takeTraveller 42 = .ok (.iconst (-1), 1) := by decide +kernel
theorem dX4_takeTraveller_43 : decode cX4_takeTraveller 43 = .ok (.if_icmp .eq 9, 3) := by decide +kernel
theorem dX4_takeTraveller_46 : decode cX4_takeTraveller 46 = .ok (.aload_n 1, 1) := by decide +kernel
theorem dX4_takeTraveller_47 : decode cX4_takeTraveller 47 = .ok (.iconst 3, 1) := by decide +kernel
theorem dX4_takeTraveller_48 : decode cX4_takeTraveller 48 = .ok (.invokevirtual 60, 3) := by decide +kernel
theorem dX4_takeTraveller_51 : decode cX4_takeTraveller 51 = .ok (.ireturn, 1) := by decide +kernel
theorem dX4_takeTraveller_52 : decode cX4_takeTraveller 52 = .ok (.aload_n 1, 1) := by decide +kernel
theorem dX4_takeTraveller_53 : decode cX4_takeTraveller 53 = .ok (.invokevirtual 70, 3) := by decide +kernel
theorem dX4_takeTraveller_56 : decode cX4_takeTraveller 56 = .ok (.iconst 0, 1) := by decide +kernel
theorem dX4_takeTraveller_57 : decode cX4_takeTraveller 57 = .ok (.istore 5, 2) := by decide +kernel
theorem dX4_takeTraveller_59 : decode cX4_takeTraveller 59 = .ok (.aload_n 1, 1) := by decide +kernel
theorem dX4_takeTraveller_60 : decode cX4_takeTraveller 60 = .ok (.iconst 4, 1) := by decide +kernel
theorem dX4_takeTraveller_61 : decode cX4_takeTraveller 61 = .ok (.invokevirtual 127, 3) := by decide +kernel
theorem dX4_takeTraveller_64 : decode cX4_takeTraveller 64 = .ok (.ifCond .eq 29, 3) := by decide +kernel
theorem dX4_takeTraveller_67 : decode cX4_takeTraveller 67 = .ok (.aload_n 1, 1) := by decide +kernel
theorem dX4_takeTraveller_68 : decode cX4_takeTraveller 68 = .ok (.invokevirtual 70, 3) := by decide +kernel
theorem dX4_takeTraveller_71 : decode cX4_takeTraveller 71 = .ok (.aload_n 1, 1) := by decide +kernel
theorem dX4_takeTraveller_72 : decode cX4_takeTraveller 72 = .ok (.iconst 0, 1) := by decide +kernel
theorem dX4_takeTraveller_73 : decode cX4_takeTraveller 73 = .ok (.bipush 16, 2) := by decide +kernel
theorem dX4_takeTraveller_75 : decode cX4_takeTraveller 75 = .ok (.invokevirtual 100, 3) := by decide +kernel
theorem dX4_takeTraveller_78 : decode cX4_takeTraveller 78 = .ok (.ifCond .ne 5, 3) := by decide +kernel
theorem dX4_takeTraveller_81 : decode cX4_takeTraveller 81 = .ok (.iconst 0, 1) := by decide +kernel
theorem dX4_takeTraveller_82 : decode cX4_takeTraveller 82 = .ok (.ireturn, 1) := by decide +kernel
theorem dX4_takeTraveller_83 : decode cX4_takeTraveller 83 = .ok (.aload_n 1, 1) := by decide +kernel
theorem dX4_takeTraveller_84 : decode cX4_takeTraveller 84 = .ok (.invokevirtual 104, 3) := by decide +kernel
theorem dX4_takeTraveller_87 : decode cX4_takeTraveller 87 = .ok (.istore 5, 2) := by decide +kernel
theorem dX4_takeTraveller_89 : decode cX4_takeTraveller 89 = .ok (.aload_n 1, 1) := by decide +kernel
theorem dX4_takeTraveller_90 : decode cX4_takeTraveller 90 = .ok (.invokevirtual 70, 3) := by decide +kernel
theorem dX4_takeTraveller_93 : decode cX4_takeTraveller 93 = .ok (.aload_n 1, 1) := by decide +kernel
theorem dX4_takeTraveller_94 : decode cX4_takeTraveller 94 = .ok (.iconst 5, 1) := by decide +kernel
theorem dX4_takeTraveller_95 : decode cX4_takeTraveller 95 = .ok (.invokevirtual 127, 3) := by decide +kernel
theorem dX4_takeTraveller_98 : decode cX4_takeTraveller 98 = .ok (.istore 6, 2) := by decide +kernel
theorem dX4_takeTraveller_100 : decode cX4_takeTraveller 100 = .ok (.iload 6, 2) := by decide +kernel
theorem dX4_takeTraveller_102 : decode cX4_takeTraveller 102 = .ok (.ifCond .eq 7, 3) := by decide +kernel
theorem dX4_takeTraveller_105 : decode cX4_takeTraveller 105 = .ok (.aload_n 1, 1) := by decide +kernel
theorem dX4_takeTraveller_106 : decode cX4_takeTraveller 106 = .ok (.invokevirtual 70, 3) := by decide +kernel
theorem dX4_takeTraveller_109 : decode cX4_takeTraveller 109 = .ok (.aload_n 2, 1) := by decide +kernel
theorem dX4_takeTraveller_110 : decode cX4_takeTraveller 110 = .ok (.lload_n 3, 1) := by decide +kernel
theorem dX4_takeTraveller_111 : decode cX4_takeTraveller 111 = .ok (.iload 5, 2) := by decide +kernel
theorem dX4_takeTraveller_113 : decode cX4_takeTraveller 113 = .ok (.iload 6, 2) := by decide +kernel
theorem dX4_takeTraveller_115 : decode cX4_takeTraveller 115 = .ok (.invokevirtual 130, 3) := by decide +kernel
theorem dX4_takeTraveller_118 : decode cX4_takeTraveller 118 = .ok (.ireturn, 1) := by decide +kernel
set_option maxRecDepth 100000 in
theorem c_X4_takeTraveller (l : Launch) (E : xE) (a0 a1 a2 a3 a4 a5 a6 : Nat) {T0 : Nat → Int32} {T1 : Nat → Int32} {J1_8 : Int64} {T2 : Nat → Int32} {V3 : Nat → Int32} {V4 : Nat → Int64} {V5 : Nat → Int64} {V6 : Nat → Int32} {u2_7 u2_10 u2_11 u2_12 u2_13 u2_14 : Nat} {z : Int32 × (Nat → Int32) × Int64 × (Nat → Int32) × (Nat → Int64) × (Nat → Int32)} (hf : f_X4_takeTraveller T1 J1_8 T2 V3 V4 V5 V6 = some z) (sz : Nat) : Met l yX4_takeTraveller (Cond.code yX4_takeTraveller cX4_takeTraveller 7 (some .boolean) :: gw) ({ frames := 2, cells := 0, slots := 0, locals := 44 }) (xPc E [.ref a0, .ref a1, .ref a2] [(a0, o4 T0), (a1, o8 T1 J1_8 a3 a4), (a2, o3 T2 u2_7 a6 a5 u2_10 u2_11 u2_12 u2_13 u2_14), (a3, ab E 900 V3), (a4, al E 23 V4), (a5, al E 5 V5), (a6, ai E 5 V6)] sz) (xQi E z.1 [(a0, o4 T0), (a1, o8 T1 J1_8 a3 a4), (a2, o3 T2 u2_7 a6 a5 u2_10 u2_11 u2_12 u2_13 u2_14), (a3, ab E 900 V3), (a4, al E 23 V4), (a5, al E 5 V5), (a6, ai E 5 V6)] [(a0, o4 T0), (a1, o8 z.2.1 z.2.2.1 a3 a4), (a2, o3 z.2.2.2.1 u2_7 a6 a5 u2_10 u2_11 u2_12 u2_13 u2_14), (a3, ab E 900 V3), (a4, al E 23 V4), (a5, al E 5 z.2.2.2.2.1), (a6, ai E 5 z.2.2.2.2.2)] sz) 0 0 (va_A [(a0, o4 T0), (a1, o8 T1 J1_8 a3 a4), (a2, o3 T2 u2_7 a6 a5 u2_10 u2_11 u2_12 u2_13 u2_14), (a3, ab E 900 V3), (a4, al E 23 V4), (a5, al E 5 V5), (a6, ai E 5 V6)] sz) := by
  refine xM_i (by decide +kernel) (Nat.le_of_ble_eq_true rfl) ?_
  intro p e s m args below meth c A Q hx hb hml hown htg hK hG hA ret0 H locs ls hP hD hS hl
  have ret : ∀ (z' : Int32 × (Nat → Int32) × Int64 × (Nat → Int32) × (Nat → Int64) × (Nat → Int32)) {H : Heap} {locs : List Loc} {pc : Nat} {ls : Array Slot}, some z' = some z → narrow .boolean (.int z'.1) = .int z'.1 → va_P E.1 vwCl [(a0, o4 T0), (a1, o8 z'.2.1 z'.2.2.1 a3 a4), (a2, o3 z'.2.2.2.1 u2_7 a6 a5 u2_10 u2_11 u2_12 u2_13 u2_14), (a3, ab E 900 V3), (a4, al E 23 V4), (a5, al E 5 z'.2.2.2.2.1), (a6, ai E 5 z'.2.2.2.2.2)] H → va_S A s.heap H locs → decode cX4_takeTraveller pc = .ok (.ireturn, 1) → W p l e ({ frames := 2, cells := 0, slots := 0, locals := 44 } : Room) s m args below meth c H locs 0 0 Q (F0 m pc ls [.int z'.1]) := by
    intro z' H locs pc ls h
    cases h
    exact ret0
  replace hl : lv_has ls 7 [(0, .ref a0), (1, .ref a1), (2, .ref a2)] := hl
  have b109 : ∀ (x3 : Int64) (x5 : Int32) (x6 : Int32) (T1 : Nat → Int32) (J1_8 : Int64) (T2 : Nat → Int32) (V5 : Nat → Int64) (V6 : Nat → Int32) (H : Heap) (locs : List Loc) (ls : Array Slot), f_X4_takeTraveller_109 V3 V4 x3 x5 x6 T1 J1_8 T2 V5 V6 = some z → va_P E.1 vwCl [(a0, o4 T0), (a1, o8 T1 J1_8 a3 a4), (a2, o3 T2 u2_7 a6 a5 u2_10 u2_11 u2_12 u2_13 u2_14), (a3, ab E 900 V3), (a4, al E 23 V4), (a5, al E 5 V5), (a6, ai E 5 V6)] H → va_D A [(a0, o4 T0), (a1, o8 T1 J1_8 a3 a4), (a2, o3 T2 u2_7 a6 a5 u2_10 u2_11 u2_12 u2_13 u2_14), (a3, ab E 900 V3), (a4, al E 23 V4), (a5, al E 5 V5), (a6, ai E 5 V6)] → va_S A s.heap H locs → lv_has ls 7 [(2, .ref a2), (3, .long x3), (5, .int x5), (6, .int x6)] → W p l e ({ frames := 2, cells := 0, slots := 0, locals := 44 } : Room) s m args below meth c H locs 0 0 Q (F0 m 109 ls []) := by
    intro x3 x5 x6 T1 J1_8 T2 V5 V6 H locs ls hf hP hD hS hl
    unfold f_X4_takeTraveller_109 at hf
    refine lv_aload_n hx hb dX4_takeTraveller_109 rfl (lv_at hl 0 rfl) ?_
    refine lv_lload_n hx hb dX4_takeTraveller_110 rfl (lv_at hl 1 rfl) ?_
    refine lv_iload hx hb dX4_takeTraveller_111 (lv_at hl 2 rfl) ?_
    refine lv_iload hx hb dX4_takeTraveller_113 (lv_at hl 3 rfl) ?_
    obtain ⟨z115, hz115, hf⟩ := bind_s hf
    refine xV_iu hx hb hml hown htg L4_130 (c_X3_addTraveller l E a2 a5 a6 hz115 _) ⟨⟨rfl, rfl⟩, Nat.le_of_ble_eq_true rfl, Nat.le_of_ble_eq_true rfl⟩ hK hG hA hP hD hS (is := [2, 5, 6]) (sel := [none, none, some 0, none, none, some 1, some 2]) (ws2 := [(a0, o4 T0), (a1, o8 T1 J1_8 a3 a4), (a2, o3 z115.2.1 u2_7 a6 a5 u2_10 u2_11 u2_12 u2_13 u2_14), (a3, ab E 900 V3), (a4, al E 23 V4), (a5, al E 5 z115.2.2.1), (a6, ai E 5 z115.2.2.2)]) rfl rfl rfl rfl rfl (xrecv hK hP (q0 := 2) (ci := 3) rfl rfl) rfl hl.1 rfl (Nat.le_of_ble_eq_true rfl) dX4_takeTraveller_115 (fun H locs hP hD hS => ?_)
    obtain ⟨g118, hf⟩ := ck_s hf
    exact ret (z115.1, T1, J1_8, z115.2.1, z115.2.2.1, z115.2.2.2) hf (bz_n g118).1 hP hS dX4_takeTraveller_118
  have b93 : ∀ (x3 : Int64) (x5 : Int32) (T1 : Nat → Int32) (J1_8 : Int64) (T2 : Nat → Int32) (V5 : Nat → Int64) (V6 : Nat → Int32) (H : Heap) (locs : List Loc) (ls : Array Slot), f_X4_takeTraveller_93 V3 V4 x3 x5 T1 J1_8 T2 V5 V6 = some z → va_P E.1 vwCl [(a0, o4 T0), (a1, o8 T1 J1_8 a3 a4), (a2, o3 T2 u2_7 a6 a5 u2_10 u2_11 u2_12 u2_13 u2_14), (a3, ab E 900 V3), (a4, al E 23 V4), (a5, al E 5 V5), (a6, ai E 5 V6)] H → va_D A [(a0, o4 T0), (a1, o8 T1 J1_8 a3 a4), (a2, o3 T2 u2_7 a6 a5 u2_10 u2_11 u2_12 u2_13 u2_14), (a3, ab E 900 V3), (a4, al E 23 V4), (a5, al E 5 V5), (a6, ai E 5 V6)] → va_S A s.heap H locs → lv_has ls 7 [(1, .ref a1), (2, .ref a2), (3, .long x3), (5, .int x5)] → W p l e ({ frames := 2, cells := 0, slots := 0, locals := 44 } : Room) s m args below meth c H locs 0 0 Q (F0 m 93 ls []) := by
    intro x3 x5 T1 J1_8 T2 V5 V6 H locs ls hf hP hD hS hl
    unfold f_X4_takeTraveller_93 at hf
    refine lv_aload_n hx hb dX4_takeTraveller_93 rfl (lv_at hl 0 rfl) ?_
    refine lv_iconst (v := 5) hx hb dX4_takeTraveller_94 rfl ?_
    obtain ⟨z95, hz95, hf⟩ := bind_s hf
    refine xV_ir hx hb hml hown htg L4_127 (c_X8_isWord l E a1 hz95 _) ⟨⟨rfl, rfl⟩, Nat.le_of_ble_eq_true rfl, Nat.le_of_ble_eq_true rfl⟩ hK hG hA hP hD hS (is := [1]) rfl rfl (xrecv hK hP (q0 := 1) (ci := 8) rfl rfl) rfl hl.1 rfl (Nat.le_of_ble_eq_true rfl) dX4_takeTraveller_95 (fun H locs hP hD hS => ?_)
    refine lv_istore (lv' := [(6, .int z95), (1, .ref a1), (2, .ref a2), (3, .long x3), (5, .int x5)]) hx hb dX4_takeTraveller_98 hl (by decide) rfl (fun ls hl => ?_)
    refine lv_iload hx hb dX4_takeTraveller_100 (lv_at hl 0 rfl) ?_
    refine lv_if_eq (tgt := 109) hx hb dX4_takeTraveller_102 (by decide) (fun c102 => ?_) (fun c102 => ?_)
    · have hf := it_t c102 hf
      exact b109 x3 x5 z95 T1 J1_8 T2 V5 V6 _ _ _ hf hP hD hS (lv_sub hl [2, 3, 4, 0] rfl)
    · have hf := it_f c102 hf
      refine lv_aload_n hx hb dX4_takeTraveller_105 rfl (lv_at hl 1 rfl) ?_
      obtain ⟨z106, hz106, hf⟩ := bind_s hf
      refine xV_vu hx hb hml hown htg L4_70 (c_X8_advance l E a1 a3 a4 hz106 _) ⟨⟨rfl, rfl⟩, Nat.le_of_ble_eq_true rfl, Nat.le_of_ble_eq_true rfl⟩ hK hG hA hP hD hS (is := [1, 3, 4]) (sel := [none, some 0, none, some 1, some 2, none, none]) (ws2 := [(a0, o4 T0), (a1, o8 z106.1 z106.2 a3 a4), (a2, o3 T2 u2_7 a6 a5 u2_10 u2_11 u2_12 u2_13 u2_14), (a3, ab E 900 V3), (a4, al E 23 V4), (a5, al E 5 V5), (a6, ai E 5 V6)]) rfl rfl rfl rfl rfl (xrecv hK hP (q0 := 1) (ci := 8) rfl rfl) rfl hl.1 rfl (Nat.le_of_ble_eq_true rfl) dX4_takeTraveller_106 (fun H locs hP hD hS => ?_)
      exact b109 x3 x5 z95 z106.1 z106.2 T2 V5 V6 _ _ _ hf hP hD hS (lv_sub hl [2, 3, 4, 0] rfl)
  unfold f_X4_takeTraveller at hf
  refine lv_aload_n hx hb dX4_takeTraveller_0 rfl (lv_at hl 2 rfl) ?_
  refine G4_113 hx hb htg hown hK hP 2 rfl dX4_takeTraveller_1 ?_
  refine lv_iconst (v := 5) hx hb dX4_takeTraveller_4 rfl ?_
  refine lv_icmp_lt (tgt := 15) hx hb dX4_takeTraveller_5 (by decide) (fun c5 => ?_) (fun c5 => ?_)
  · have hf := it_t c5 hf
    refine lv_aload_n hx hb dX4_takeTraveller_15 rfl (lv_at hl 1 rfl) ?_
    obtain ⟨z16, hz16, hf⟩ := bind_s hf
    refine xV_vu hx hb hml hown htg L4_70 (c_X8_advance l E a1 a3 a4 hz16 _) ⟨⟨rfl, rfl⟩, Nat.le_of_ble_eq_true rfl, Nat.le_of_ble_eq_true rfl⟩ hK hG hA hP hD hS (is := [1, 3, 4]) (sel := [none, some 0, none, some 1, some 2, none, none]) (ws2 := [(a0, o4 T0), (a1, o8 z16.1 z16.2 a3 a4), (a2, o3 T2 u2_7 a6 a5 u2_10 u2_11 u2_12 u2_13 u2_14), (a3, ab E 900 V3), (a4, al E 23 V4), (a5, al E 5 V5), (a6, ai E 5 V6)]) rfl rfl rfl rfl rfl (xrecv hK hP (q0 := 1) (ci := 8) rfl rfl) rfl hl.1 rfl (Nat.le_of_ble_eq_true rfl) dX4_takeTraveller_16 (fun H locs hP hD hS => ?_)
    refine lv_aload_n hx hb dX4_takeTraveller_19 rfl (lv_at hl 1 rfl) ?_
    obtain ⟨z20, hz20, hf⟩ := bind_s hf
    refine xV_ir hx hb hml hown htg L4_116 (c_X8_isName l E a1 hz20 _) ⟨⟨rfl, rfl⟩, Nat.le_of_ble_eq_true rfl, Nat.le_of_ble_eq_true rfl⟩ hK hG hA hP hD hS (is := [1]) rfl rfl (xrecv hK hP (q0 := 1) (ci := 8) rfl rfl) rfl hl.1 rfl (Nat.le_of_ble_eq_true rfl) dX4_takeTraveller_20 (fun H locs hP hD hS => ?_)
    refine lv_if_ne (tgt := 32) hx hb dX4_takeTraveller_23 (by decide) (fun c23 => ?_) (fun c23 => ?_)
    · have hf := it_f c23 hf
      refine lv_aload_n hx hb dX4_takeTraveller_32 rfl (lv_at hl 1 rfl) ?_
      obtain ⟨z33, hz33, hf⟩ := bind_s hf
      refine xV_lr hx hb hml hown htg L4_119 (c_X8_nameCode l E a1 hz33 _) ⟨⟨rfl, rfl⟩, Nat.le_of_ble_eq_true rfl, Nat.le_of_ble_eq_true rfl⟩ hK hG hA hP hD hS (is := [1]) rfl rfl (xrecv hK hP (q0 := 1) (ci := 8) rfl rfl) rfl hl.1 rfl (Nat.le_of_ble_eq_true rfl) dX4_takeTraveller_33 (fun H locs hP hD hS => ?_)
      refine lv_lstore_n (lv' := [(3, .long z33), (0, .ref a0), (1, .ref a1), (2, .ref a2)]) hx hb dX4_takeTraveller_36 rfl hl (by decide) rfl (fun ls hl => ?_)
      refine lv_aload_n hx hb dX4_takeTraveller_37 rfl (lv_at hl 3 rfl) ?_
      refine lv_lload_n hx hb dX4_takeTraveller_38 rfl (lv_at hl 0 rfl) ?_
      obtain ⟨z39, hz39, hf⟩ := bind_s hf
      refine xV_ir hx hb hml hown htg L4_123 (c_X3_travellerNamed l E a2 a5 hz39 _) ⟨⟨rfl, rfl⟩, Nat.le_of_ble_eq_true rfl, Nat.le_of_ble_eq_true rfl⟩ hK hG hA hP hD hS (is := [2, 5]) rfl rfl (xrecv hK hP (q0 := 2) (ci := 3) rfl rfl) rfl hl.1 rfl (Nat.le_of_ble_eq_true rfl) dX4_takeTraveller_39 (fun H locs hP hD hS => ?_)
      refine lv_iconst (v := (-1)) hx hb dX4_takeTraveller_42 rfl ?_
      refine lv_icmp_eq (tgt := 52) hx hb dX4_takeTraveller_43 (by decide) (fun c43 => ?_) (fun c43 => ?_)
      · have hf := it_t c43 hf
        refine lv_aload_n hx hb dX4_takeTraveller_52 rfl (lv_at hl 2 rfl) ?_
        obtain ⟨z53, hz53, hf⟩ := bind_s hf
        refine xV_vu hx hb hml hown htg L4_70 (c_X8_advance l E a1 a3 a4 hz53 _) ⟨⟨rfl, rfl⟩, Nat.le_of_ble_eq_true rfl, Nat.le_of_ble_eq_true rfl⟩ hK hG hA hP hD hS (is := [1, 3, 4]) (sel := [none, some 0, none, some 1, some 2, none, none]) (ws2 := [(a0, o4 T0), (a1, o8 z53.1 z53.2 a3 a4), (a2, o3 T2 u2_7 a6 a5 u2_10 u2_11 u2_12 u2_13 u2_14), (a3, ab E 900 V3), (a4, al E 23 V4), (a5, al E 5 V5), (a6, ai E 5 V6)]) rfl rfl rfl rfl rfl (xrecv hK hP (q0 := 1) (ci := 8) rfl rfl) rfl hl.1 rfl (Nat.le_of_ble_eq_true rfl) dX4_takeTraveller_53 (fun H locs hP hD hS => ?_)
        refine lv_iconst (v := 0) hx hb dX4_takeTraveller_56 rfl ?_
        refine lv_istore (lv' := [(5, .int 0), (3, .long z33), (0, .ref a0), (1, .ref a1), (2, .ref a2)]) hx hb dX4_takeTraveller_57 hl (by decide) rfl (fun ls hl => ?_)
        refine lv_aload_n hx hb dX4_takeTraveller_59 rfl (lv_at hl 3 rfl) ?_
        refine lv_iconst (v := 4) hx hb dX4_takeTraveller_60 rfl ?_
        obtain ⟨z61, hz61, hf⟩ := bind_s hf
        refine xV_ir hx hb hml hown htg L4_127 (c_X8_isWord l E a1 hz61 _) ⟨⟨rfl, rfl⟩, Nat.le_of_ble_eq_true rfl, Nat.le_of_ble_eq_true rfl⟩ hK hG hA hP hD hS (is := [1]) rfl rfl (xrecv hK hP (q0 := 1) (ci := 8) rfl rfl) rfl hl.1 rfl (Nat.le_of_ble_eq_true rfl) dX4_takeTraveller_61 (fun H locs hP hD hS => ?_)
        refine lv_if_eq (tgt := 93) hx hb dX4_takeTraveller_64 (by decide) (fun c64 => ?_) (fun c64 => ?_)
        · have hf := it_t c64 hf
          exact b93 z33 0 z53.1 z53.2 T2 V5 V6 _ _ _ hf hP hD hS (lv_sub hl [3, 4, 1, 0] rfl)
        · have hf := it_f c64 hf
          refine lv_aload_n hx hb dX4_takeTraveller_67 rfl (lv_at hl 3 rfl) ?_
          obtain ⟨z68, hz68, hf⟩ := bind_s hf
          refine xV_vu hx hb hml hown htg L4_70 (c_X8_advance l E a1 a3 a4 hz68 _) ⟨⟨rfl, rfl⟩, Nat.le_of_ble_eq_true rfl, Nat.le_of_ble_eq_true rfl⟩ hK hG hA hP hD hS (is := [1, 3, 4]) (sel := [none, some 0, none, some 1, some 2, none, none]) (ws2 := [(a0, o4 T0), (a1, o8 z68.1 z68.2 a3 a4), (a2, o3 T2 u2_7 a6 a5 u2_10 u2_11 u2_12 u2_13 u2_14), (a3, ab E 900 V3), (a4, al E 23 V4), (a5, al E 5 V5), (a6, ai E 5 V6)]) rfl rfl rfl rfl rfl (xrecv hK hP (q0 := 1) (ci := 8) rfl rfl) rfl hl.1 rfl (Nat.le_of_ble_eq_true rfl) dX4_takeTraveller_68 (fun H locs hP hD hS => ?_)
          refine lv_aload_n hx hb dX4_takeTraveller_71 rfl (lv_at hl 3 rfl) ?_
          refine lv_iconst (v := 0) hx hb dX4_takeTraveller_72 rfl ?_
          refine lv_bipush (v := 16) hx hb dX4_takeTraveller_73 rfl ?_
          obtain ⟨z75, hz75, hf⟩ := bind_s hf
          refine xV_iu hx hb hml hown htg L4_100 (c_X8_isNumber l E a1 hz75 _) ⟨⟨rfl, rfl⟩, Nat.le_of_ble_eq_true rfl, Nat.le_of_ble_eq_true rfl⟩ hK hG hA hP hD hS (is := [1]) (sel := [none, some 0, none, none, none, none, none]) (ws2 := [(a0, o4 T0), (a1, o8 z75.2 z68.2 a3 a4), (a2, o3 T2 u2_7 a6 a5 u2_10 u2_11 u2_12 u2_13 u2_14), (a3, ab E 900 V3), (a4, al E 23 V4), (a5, al E 5 V5), (a6, ai E 5 V6)]) rfl rfl rfl rfl rfl (xrecv hK hP (q0 := 1) (ci := 8) rfl rfl) rfl hl.1 rfl (Nat.le_of_ble_eq_true rfl) dX4_takeTraveller_75 (fun H locs hP hD hS => ?_)
          refine lv_if_ne (tgt := 83) hx hb dX4_takeTraveller_78 (by decide) (fun c78 => ?_) (fun c78 => ?_)
          · have hf := it_f c78 hf
            refine lv_aload_n hx hb dX4_takeTraveller_83 rfl (lv_at hl 3 rfl) ?_
            obtain ⟨z84, hz84, hf⟩ := bind_s hf
            refine xV_ir hx hb hml hown htg L4_104 (c_X8_number l E a1 hz84 _) ⟨⟨rfl, rfl⟩, Nat.le_of_ble_eq_true rfl, Nat.le_of_ble_eq_true rfl⟩ hK hG hA hP hD hS (is := [1]) rfl rfl (xrecv hK hP (q0 := 1) (ci := 8) rfl rfl) rfl hl.1 rfl (Nat.le_of_ble_eq_true rfl) dX4_takeTraveller_84 (fun H locs hP hD hS => ?_)
            refine lv_istore (lv' := [(5, .int z84), (3, .long z33), (0, .ref a0), (1, .ref a1), (2, .ref a2)]) hx hb dX4_takeTraveller_87 hl (by decide) rfl (fun ls hl => ?_)
            refine lv_aload_n hx hb dX4_takeTraveller_89 rfl (lv_at hl 3 rfl) ?_
            obtain ⟨z90, hz90, hf⟩ := bind_s hf
            refine xV_vu hx hb hml hown htg L4_70 (c_X8_advance l E a1 a3 a4 hz90 _) ⟨⟨rfl, rfl⟩, Nat.le_of_ble_eq_true rfl, Nat.le_of_ble_eq_true rfl⟩ hK hG hA hP hD hS (is := [1, 3, 4]) (sel := [none, some 0, none, some 1, some 2, none, none]) (ws2 := [(a0, o4 T0), (a1, o8 z90.1 z90.2 a3 a4), (a2, o3 T2 u2_7 a6 a5 u2_10 u2_11 u2_12 u2_13 u2_14), (a3, ab E 900 V3), (a4, al E 23 V4), (a5, al E 5 V5), (a6, ai E 5 V6)]) rfl rfl rfl rfl rfl (xrecv hK hP (q0 := 1) (ci := 8) rfl rfl) rfl hl.1 rfl (Nat.le_of_ble_eq_true rfl) dX4_takeTraveller_90 (fun H locs hP hD hS => ?_)
            exact b93 z33 z84 z90.1 z90.2 T2 V5 V6 _ _ _ hf hP hD hS (lv_sub hl [3, 4, 1, 0] rfl)
          · have hf := it_t c78 hf
            refine lv_iconst (v := 0) hx hb dX4_takeTraveller_81 rfl ?_
            exact ret (0, z75.2, z68.2, T2, V5, V6) hf nz0 hP hS dX4_takeTraveller_82
      · have hf := it_f c43 hf
        refine lv_aload_n hx hb dX4_takeTraveller_46 rfl (lv_at hl 2 rfl) ?_
        refine lv_iconst (v := 3) hx hb dX4_takeTraveller_47 rfl ?_
        obtain ⟨z48, hz48, hf⟩ := bind_s hf
        refine xV_iu hx hb hml hown htg L4_60 (c_X8_blame l E a1 hz48 _) ⟨⟨rfl, rfl⟩, Nat.le_of_ble_eq_true rfl, Nat.le_of_ble_eq_true rfl⟩ hK hG hA hP hD hS (is := [1]) (sel := [none, some 0, none, none, none, none, none]) (ws2 := [(a0, o4 T0), (a1, o8 z48.2 z16.2 a3 a4), (a2, o3 T2 u2_7 a6 a5 u2_10 u2_11 u2_12 u2_13 u2_14), (a3, ab E 900 V3), (a4, al E 23 V4), (a5, al E 5 V5), (a6, ai E 5 V6)]) rfl rfl rfl rfl rfl (xrecv hK hP (q0 := 1) (ci := 8) rfl rfl) rfl hl.1 rfl (Nat.le_of_ble_eq_true rfl) dX4_takeTraveller_48 (fun H locs hP hD hS => ?_)
        obtain ⟨g51, hf⟩ := ck_s hf
        exact ret (z48.1, z48.2, z16.2, T2, V5, V6) hf (bz_n g51).1 hP hS dX4_takeTraveller_51
    · have hf := it_t c23 hf
      refine lv_aload_n hx hb dX4_takeTraveller_26 rfl (lv_at hl 1 rfl) ?_
      refine lv_iconst (v := 2) hx hb dX4_takeTraveller_27 rfl ?_
      obtain ⟨z28, hz28, hf⟩ := bind_s hf
      refine xV_iu hx hb hml hown htg L4_60 (c_X8_blame l E a1 hz28 _) ⟨⟨rfl, rfl⟩, Nat.le_of_ble_eq_true rfl, Nat.le_of_ble_eq_true rfl⟩ hK hG hA hP hD hS (is := [1]) (sel := [none, some 0, none, none, none, none, none]) (ws2 := [(a0, o4 T0), (a1, o8 z28.2 z16.2 a3 a4), (a2, o3 T2 u2_7 a6 a5 u2_10 u2_11 u2_12 u2_13 u2_14), (a3, ab E 900 V3), (a4, al E 23 V4), (a5, al E 5 V5), (a6, ai E 5 V6)]) rfl rfl rfl rfl rfl (xrecv hK hP (q0 := 1) (ci := 8) rfl rfl) rfl hl.1 rfl (Nat.le_of_ble_eq_true rfl) dX4_takeTraveller_28 (fun H locs hP hD hS => ?_)
      obtain ⟨g31, hf⟩ := ck_s hf
      exact ret (z28.1, z28.2, z16.2, T2, V5, V6) hf (bz_n g31).1 hP hS dX4_takeTraveller_31
  · have hf := it_f c5 hf
    refine lv_aload_n hx hb dX4_takeTraveller_8 rfl (lv_at hl 1 rfl) ?_
    refine lv_bipush (v := 6) hx hb dX4_takeTraveller_9 rfl ?_
    obtain ⟨z11, hz11, hf⟩ := bind_s hf
    refine xV_iu hx hb hml hown htg L4_60 (c_X8_blame l E a1 hz11 _) ⟨⟨rfl, rfl⟩, Nat.le_of_ble_eq_true rfl, Nat.le_of_ble_eq_true rfl⟩ hK hG hA hP hD hS (is := [1]) (sel := [none, some 0, none, none, none, none, none]) (ws2 := [(a0, o4 T0), (a1, o8 z11.2 J1_8 a3 a4), (a2, o3 T2 u2_7 a6 a5 u2_10 u2_11 u2_12 u2_13 u2_14), (a3, ab E 900 V3), (a4, al E 23 V4), (a5, al E 5 V5), (a6, ai E 5 V6)]) rfl rfl rfl rfl rfl (xrecv hK hP (q0 := 1) (ci := 8) rfl rfl) rfl hl.1 rfl (Nat.le_of_ble_eq_true rfl) dX4_takeTraveller_11 (fun H locs hP hD hS => ?_)
    obtain ⟨g14, hf⟩ := ck_s hf
    exact ret (z11.1, z11.2, J1_8, T2, V5, V6) hf (bz_n g14).1 hP hS dX4_takeTraveller_14
theorem dX4_takeFeeling_0 : decode cX4_takeFeeling 0 = .ok (.aload_n 1, 1) := by decide +kernel
theorem dX4_takeFeeling_1 : decode cX4_takeFeeling 1 = .ok (.invokevirtual 141, 3) := by decide +kernel
theorem dX4_takeFeeling_4 : decode cX4_takeFeeling 4 = .ok (.istore 5, 2) := by decide +kernel
theorem dX4_takeFeeling_6 : decode cX4_takeFeeling 6 = .ok (.iload 5, 2) := by decide +kernel
theorem dX4_takeFeeling_8 : decode cX4_takeFeeling 8 = .ok (.iconst (-1), 1) := by decide +kernel
theorem dX4_takeFeeling_9 : decode cX4_takeFeeling 9 = .ok (.if_icmp .ne 9, 3) := by decide +kernel
theorem dX4_takeFeeling_12 : decode cX4_takeFeeling 12 = .ok (.aload_n 1, 1) := by decide +kernel
theorem dX4_takeFeeling_13 : decode cX4_takeFeeling 13 = .ok (.iconst 2, 1) := by decide +kernel
theorem dX4_takeFeeling_14 : decode cX4_takeFeeling 14 = .ok (.invokevirtual 60, 3) := by decide +kernel
theorem dX4_takeFeeling_17 : decode cX4_takeFeeling 17 = .ok (.ireturn, 1) := by decide +kernel
theorem dX4_takeFeeling_18 : decode cX4_takeFeeling 18 = .ok (.aload_n 1, 1) := by decide +kernel
theorem dX4_takeFeeling_19 : decode cX4_takeFeeling 19 = .ok (.invokevirtual 70, 3) := by decide +kernel
theorem dX4_takeFeeling_22 : decode cX4_takeFeeling 22 = .ok (.iconst 0, 1) := by decide +kernel
theorem dX4_takeFeeling_23 : decode cX4_takeFeeling 23 = .ok (.istore 6, 2) := by decide +kernel
theorem dX4_takeFeeling_25 : decode cX4_takeFeeling 25 = .ok (.aload_n 1, 1) := by decide +kernel
theorem dX4_takeFeeling_26 : decode cX4_takeFeeling 26 = .ok (.bipush 7, 2) := by decide +kernel
theorem dX4_takeFeeling_28 : decode cX4_takeFeeling 28 = .ok (.invokevirtual 127, 3) := by decide +kernel
theorem dX4_takeFeeling_31 : decode cX4_takeFeeling 31 = .ok (.ifCond .eq 29, 3) := by decide +kernel
theorem dX4_takeFeeling_34 : decode cX4_takeFeeling 34 = .ok (.aload_n 1, 1) := by decide +kernel
theorem dX4_takeFeeling_35 : decode cX4_takeFeeling 35 = .ok (.invokevirtual 70, 3) := by decide +kernel
theorem dX4_takeFeeling_38 : decode cX4_takeFeeling 38 = .ok (.aload_n 1, 1) := by decide +kernel
theorem dX4_takeFeeling_39 : decode cX4_takeFeeling 39 = .ok (.iconst 0, 1) := by decide +kernel
theorem dX4_takeFeeling_40 : decode cX4_takeFeeling 40 = .ok (.bipush 9, 2) := by decide +kernel
theorem dX4_takeFeeling_42 : decode cX4_takeFeeling 42 = .ok (.invokevirtual 100, 3) := by decide +kernel
theorem dX4_takeFeeling_45 : decode cX4_takeFeeling 45 = .ok (.ifCond .ne 5, 3) := by decide +kernel
theorem dX4_takeFeeling_48 : decode cX4_takeFeeling 48 = .ok (.iconst 0, 1) := by decide +kernel
theorem dX4_takeFeeling_49 : decode cX4_takeFeeling 49 = .ok (.ireturn, 1) := by decide +kernel
theorem dX4_takeFeeling_50 : decode cX4_takeFeeling 50 = .ok (.aload_n 1, 1) := by decide +kernel
theorem dX4_takeFeeling_51 : decode cX4_takeFeeling 51 = .ok (.invokevirtual 104, 3) := by decide +kernel
theorem dX4_takeFeeling_54 : decode cX4_takeFeeling 54 = .ok (.istore 6, 2) := by decide +kernel
theorem dX4_takeFeeling_56 : decode cX4_takeFeeling 56 = .ok (.aload_n 1, 1) := by decide +kernel
theorem dX4_takeFeeling_57 : decode cX4_takeFeeling 57 = .ok (.invokevirtual 70, 3) := by decide +kernel
theorem dX4_takeFeeling_60 : decode cX4_takeFeeling 60 = .ok (.aload_n 2, 1) := by decide +kernel
theorem dX4_takeFeeling_61 : decode cX4_takeFeeling 61 = .ok (.iload_n 3, 1) := by decide +kernel
theorem dX4_takeFeeling_62 : decode cX4_takeFeeling 62 = .ok (.iload 4, 2) := by decide +kernel
theorem dX4_takeFeeling_64 : decode cX4_takeFeeling 64 = .ok (.iload 5, 2) := by decide +kernel
theorem dX4_takeFeeling_66 : decode cX4_takeFeeling 66 = .ok (.iload 6, 2) := by decide +kernel
theorem dX4_takeFeeling_68 : decode cX4_takeFeeling 68 = .ok (.invokevirtual 144, 3) := by decide +kernel
theorem dX4_takeFeeling_71 : decode cX4_takeFeeling 71 = .ok (.ireturn, 1) := by decide +kernel
set_option maxRecDepth 100000 in
theorem c_X4_takeFeeling (l : Launch) (E : xE) (a0 a1 a2 a3 a4 a5 a6 a7 a8 : Nat) {T0 : Nat → Int32} {T1 : Nat → Int32} {J1_8 : Int64} {V2 : Nat → Int32} {V3 : Nat → Int64} {T4 : Nat → Int32} {V5 : Nat → Int32} {V6 : Nat → Int32} {V7 : Nat → Int32} {V8 : Nat → Int32} {u4_7 u4_8 u4_9 u4_14 : Nat} {x3 : Int32} {x4 : Int32} {z : Int32 × (Nat → Int32) × Int64 × (Nat → Int32) × (Nat → Int32) × (Nat → Int32) × (Nat → Int32) × (Nat → Int32)} (hf : f_X4_takeFeeling T1 J1_8 V2 V3 T4 V5 V6 V7 V8 x3 x4 = some z) (sz : Nat) : Met l yX4_takeFeeling (Cond.code yX4_takeFeeling cX4_takeFeeling 7 (some .boolean) :: gw) ({ frames := 2, cells := 0, slots := 0, locals := 47 }) (xPc E [.ref a0, .ref a1, .ref a4, .int x3, .int x4] [(a0, o4 T0), (a1, o8 T1 J1_8 a2 a3), (a2, ab E 900 V2), (a3, al E 23 V3), (a4, o3 T4 u4_7 u4_8 u4_9 a6 a5 a7 a8 u4_14), (a5, ai E 12 V5), (a6, ai E 12 V6), (a7, ai E 12 V7), (a8, ai E 12 V8)] sz) (xQi E z.1 [(a0, o4 T0), (a1, o8 T1 J1_8 a2 a3), (a2, ab E 900 V2), (a3, al E 23 V3), (a4, o3 T4 u4_7 u4_8 u4_9 a6 a5 a7 a8 u4_14), (a5, ai E 12 V5), (a6, ai E 12 V6), (a7, ai E 12 V7), (a8, ai E 12 V8)] [(a0, o4 T0), (a1, o8 z.2.1 z.2.2.1 a2 a3), (a2, ab E 900 V2), (a3, al E 23 V3), (a4, o3 z.2.2.2.1 u4_7 u4_8 u4_9 a6 a5 a7 a8 u4_14), (a5, ai E 12 z.2.2.2.2.1), (a6, ai E 12 z.2.2.2.2.2.1), (a7, ai E 12 z.2.2.2.2.2.2.1), (a8, ai E 12 z.2.2.2.2.2.2.2)] sz) 0 0 (va_A [(a0, o4 T0), (a1, o8 T1 J1_8 a2 a3), (a2, ab E 900 V2), (a3, al E 23 V3), (a4, o3 T4 u4_7 u4_8 u4_9 a6 a5 a7 a8 u4_14), (a5, ai E 12 V5), (a6, ai E 12 V6), (a7, ai E 12 V7), (a8, ai E 12 V8)] sz) := by
  refine xM_i (by decide +kernel) (Nat.le_of_ble_eq_true rfl) ?_
  intro p e s m args below meth c A Q hx hb hml hown htg hK hG hA ret0 H locs ls hP hD hS hl
  have ret : ∀ (z' : Int32 × (Nat → Int32) × Int64 × (Nat → Int32) × (Nat → Int32) × (Nat → Int32) × (Nat → Int32) × (Nat → Int32)) {H : Heap} {locs : List Loc} {pc : Nat} {ls : Array Slot}, some z' = some z → narrow .boolean (.int z'.1) = .int z'.1 → va_P E.1 vwCl [(a0, o4 T0), (a1, o8 z'.2.1 z'.2.2.1 a2 a3), (a2, ab E 900 V2), (a3, al E 23 V3), (a4, o3 z'.2.2.2.1 u4_7 u4_8 u4_9 a6 a5 a7 a8 u4_14), (a5, ai E 12 z'.2.2.2.2.1), (a6, ai E 12 z'.2.2.2.2.2.1), (a7, ai E 12 z'.2.2.2.2.2.2.1), (a8, ai E 12 z'.2.2.2.2.2.2.2)] H → va_S A s.heap H locs → decode cX4_takeFeeling pc = .ok (.ireturn, 1) → W p l e ({ frames := 2, cells := 0, slots := 0, locals := 47 } : Room) s m args below meth c H locs 0 0 Q (F0 m pc ls [.int z'.1]) := by
    intro z' H locs pc ls h
    cases h
    exact ret0
  replace hl : lv_has ls 7 [(0, .ref a0), (1, .ref a1), (2, .ref a4), (3, .int x3), (4, .int x4)] := hl
  have b60 : ∀ (x5 : Int32) (x6 : Int32) (T1 : Nat → Int32) (J1_8 : Int64) (T4 : Nat → Int32) (V5 : Nat → Int32) (V6 : Nat → Int32) (V7 : Nat → Int32) (V8 : Nat → Int32) (H : Heap) (locs : List Loc) (ls : Array Slot), f_X4_takeFeeling_60 V2 V3 x3 x4 x5 x6 T1 J1_8 T4 V5 V6 V7 V8 = some z → va_P E.1 vwCl [(a0, o4 T0), (a1, o8 T1 J1_8 a2 a3), (a2, ab E 900 V2), (a3, al E 23 V3), (a4, o3 T4 u4_7 u4_8 u4_9 a6 a5 a7 a8 u4_14), (a5, ai E 12 V5), (a6, ai E 12 V6), (a7, ai E 12 V7), (a8, ai E 12 V8)] H → va_D A [(a0, o4 T0), (a1, o8 T1 J1_8 a2 a3), (a2, ab E 900 V2), (a3, al E 23 V3), (a4, o3 T4 u4_7 u4_8 u4_9 a6 a5 a7 a8 u4_14), (a5, ai E 12 V5), (a6, ai E 12 V6), (a7, ai E 12 V7), (a8, ai E 12 V8)] → va_S A s.heap H locs → lv_has ls 7 [(2, .ref a4), (3, .int x3), (4, .int x4), (5, .int x5), (6, .int x6)] → W p l e ({ frames := 2, cells := 0, slots := 0, locals := 47 } : Room) s m args below meth c H locs 0 0 Q (F0 m 60 ls []) := by
    intro x5 x6 T1 J1_8 T4 V5 V6 V7 V8 H locs ls hf hP hD hS hl
    unfold f_X4_takeFeeling_60 at hf
    refine lv_aload_n hx hb dX4_takeFeeling_60 rfl (lv_at hl 0 rfl) ?_
    refine lv_iload_n hx hb dX4_takeFeeling_61 rfl (lv_at hl 1 rfl) ?_
    refine lv_iload hx hb dX4_takeFeeling_62 (lv_at hl 2 rfl) ?_
    refine lv_iload hx hb dX4_takeFeeling_64 (lv_at hl 3 rfl) ?_
    refine lv_iload hx hb dX4_takeFeeling_66 (lv_at hl 4 rfl) ?_
    obtain ⟨z68, hz68, hf⟩ := bind_s hf
    refine xV_iu hx hb hml hown htg L4_144 (c_X3_addTelling l E a4 a5 a6 a7 a8 hz68 _) ⟨⟨rfl, rfl⟩, Nat.le_of_ble_eq_true rfl, Nat.le_of_ble_eq_true rfl⟩ hK hG hA hP hD hS (is := [4, 5, 6, 7, 8]) (sel := [none, none, none, none, some 0, some 1, some 2, some 3, some 4]) (ws2 := [(a0, o4 T0), (a1, o8 T1 J1_8 a2 a3), (a2, ab E 900 V2), (a3, al E 23 V3), (a4, o3 z68.2.1 u4_7 u4_8 u4_9 a6 a5 a7 a8 u4_14), (a5, ai E 12 z68.2.2.1), (a6, ai E 12 z68.2.2.2.1), (a7, ai E 12 z68.2.2.2.2.1), (a8, ai E 12 z68.2.2.2.2.2)]) rfl rfl rfl rfl rfl (xrecv hK hP (q0 := 4) (ci := 3) rfl rfl) rfl hl.1 rfl (Nat.le_of_ble_eq_true rfl) dX4_takeFeeling_68 (fun H locs hP hD hS => ?_)
    obtain ⟨g71, hf⟩ := ck_s hf
    exact ret (z68.1, T1, J1_8, z68.2.1, z68.2.2.1, z68.2.2.2.1, z68.2.2.2.2.1, z68.2.2.2.2.2) hf (bz_n g71).1 hP hS dX4_takeFeeling_71
  unfold f_X4_takeFeeling at hf
  refine lv_aload_n hx hb dX4_takeFeeling_0 rfl (lv_at hl 1 rfl) ?_
  obtain ⟨z1, hz1, hf⟩ := bind_s hf
  refine xV_ir hx hb hml hown htg L4_141 (c_X8_feeling l E a1 hz1 _) ⟨⟨rfl, rfl⟩, Nat.le_of_ble_eq_true rfl, Nat.le_of_ble_eq_true rfl⟩ hK hG hA hP hD hS (is := [1]) rfl rfl (xrecv hK hP (q0 := 1) (ci := 8) rfl rfl) rfl hl.1 rfl (Nat.le_of_ble_eq_true rfl) dX4_takeFeeling_1 (fun H locs hP hD hS => ?_)
  refine lv_istore (lv' := [(5, .int z1), (0, .ref a0), (1, .ref a1), (2, .ref a4), (3, .int x3), (4, .int x4)]) hx hb dX4_takeFeeling_4 hl (by decide) rfl (fun ls hl => ?_)
  refine lv_iload hx hb dX4_takeFeeling_6 (lv_at hl 0 rfl) ?_
  refine lv_iconst (v := (-1)) hx hb dX4_takeFeeling_8 rfl ?_
  refine lv_icmp_ne (tgt := 18) hx hb dX4_takeFeeling_9 (by decide) (fun c9 => ?_) (fun c9 => ?_)
  · have hf := it_f c9 hf
    refine lv_aload_n hx hb dX4_takeFeeling_18 rfl (lv_at hl 2 rfl) ?_
    obtain ⟨z19, hz19, hf⟩ := bind_s hf
    refine xV_vu hx hb hml hown htg L4_70 (c_X8_advance l E a1 a2 a3 hz19 _) ⟨⟨rfl, rfl⟩, Nat.le_of_ble_eq_true rfl, Nat.le_of_ble_eq_true rfl⟩ hK hG hA hP hD hS (is := [1, 2, 3]) (sel := [none, some 0, some 1, some 2, none, none, none, none, none]) (ws2 := [(a0, o4 T0), (a1, o8 z19.1 z19.2 a2 a3), (a2, ab E 900 V2), (a3, al E 23 V3), (a4, o3 T4 u4_7 u4_8 u4_9 a6 a5 a7 a8 u4_14), (a5, ai E 12 V5), (a6, ai E 12 V6), (a7, ai E 12 V7), (a8, ai E 12 V8)]) rfl rfl rfl rfl rfl (xrecv hK hP (q0 := 1) (ci := 8) rfl rfl) rfl hl.1 rfl (Nat.le_of_ble_eq_true rfl) dX4_takeFeeling_19 (fun H locs hP hD hS => ?_)
    refine lv_iconst (v := 0) hx hb dX4_takeFeeling_22 rfl ?_
    refine lv_istore (lv' := [(6, .int 0), (5, .int z1), (0, .ref a0), (1, .ref a1), (2, .ref a4), (3, .int x3), (4, .int x4)]) hx hb dX4_takeFeeling_23 hl (by decide) rfl (fun ls hl => ?_)
    refine lv_aload_n hx hb dX4_takeFeeling_25 rfl (lv_at hl 3 rfl) ?_
    refine lv_bipush (v := 7) hx hb dX4_takeFeeling_26 rfl ?_
    obtain ⟨z28, hz28, hf⟩ := bind_s hf
    refine xV_ir hx hb hml hown htg L4_127 (c_X8_isWord l E a1 hz28 _) ⟨⟨rfl, rfl⟩, Nat.le_of_ble_eq_true rfl, Nat.le_of_ble_eq_true rfl⟩ hK hG hA hP hD hS (is := [1]) rfl rfl (xrecv hK hP (q0 := 1) (ci := 8) rfl rfl) rfl hl.1 rfl (Nat.le_of_ble_eq_true rfl) dX4_takeFeeling_28 (fun H locs hP hD hS => ?_)
    refine lv_if_eq (tgt := 60) hx hb dX4_takeFeeling_31 (by decide) (fun c31 => ?_) (fun c31 => ?_)
    · have hf := it_t c31 hf
      exact b60 z1 0 z19.1 z19.2 T4 V5 V6 V7 V8 _ _ _ hf hP hD hS (lv_sub hl [4, 5, 6, 1, 0] rfl)
    · have hf := it_f c31 hf
      refine lv_aload_n hx hb dX4_takeFeeling_34 rfl (lv_at hl 3 rfl) ?_
      obtain ⟨z35, hz35, hf⟩ := bind_s hf
      refine xV_vu hx hb hml hown htg L4_70 (c_X8_advance l E a1 a2 a3 hz35 _) ⟨⟨rfl, rfl⟩, Nat.le_of_ble_eq_true rfl, Nat.le_of_ble_eq_true rfl⟩ hK hG hA hP hD hS (is := [1, 2, 3]) (sel := [none, some 0, some 1, some 2, none, none, none, none, none]) (ws2 := [(a0, o4 T0), (a1, o8 z35.1 z35.2 a2 a3), (a2, ab E 900 V2), (a3, al E 23 V3), (a4, o3 T4 u4_7 u4_8 u4_9 a6 a5 a7 a8 u4_14), (a5, ai E 12 V5), (a6, ai E 12 V6), (a7, ai E 12 V7), (a8, ai E 12 V8)]) rfl rfl rfl rfl rfl (xrecv hK hP (q0 := 1) (ci := 8) rfl rfl) rfl hl.1 rfl (Nat.le_of_ble_eq_true rfl) dX4_takeFeeling_35 (fun H locs hP hD hS => ?_)
      refine lv_aload_n hx hb dX4_takeFeeling_38 rfl (lv_at hl 3 rfl) ?_
      refine lv_iconst (v := 0) hx hb dX4_takeFeeling_39 rfl ?_
      refine lv_bipush (v := 9) hx hb dX4_takeFeeling_40 rfl ?_
      obtain ⟨z42, hz42, hf⟩ := bind_s hf
      refine xV_iu hx hb hml hown htg L4_100 (c_X8_isNumber l E a1 hz42 _) ⟨⟨rfl, rfl⟩, Nat.le_of_ble_eq_true rfl, Nat.le_of_ble_eq_true rfl⟩ hK hG hA hP hD hS (is := [1]) (sel := [none, some 0, none, none, none, none, none, none, none]) (ws2 := [(a0, o4 T0), (a1, o8 z42.2 z35.2 a2 a3), (a2, ab E 900 V2), (a3, al E 23 V3), (a4, o3 T4 u4_7 u4_8 u4_9 a6 a5 a7 a8 u4_14), (a5, ai E 12 V5), (a6, ai E 12 V6), (a7, ai E 12 V7), (a8, ai E 12 V8)]) rfl rfl rfl rfl rfl (xrecv hK hP (q0 := 1) (ci := 8) rfl rfl) rfl hl.1 rfl (Nat.le_of_ble_eq_true rfl) dX4_takeFeeling_42 (fun H locs hP hD hS => ?_)
      refine lv_if_ne (tgt := 50) hx hb dX4_takeFeeling_45 (by decide) (fun c45 => ?_) (fun c45 => ?_)
      · have hf := it_f c45 hf
        refine lv_aload_n hx hb dX4_takeFeeling_50 rfl (lv_at hl 3 rfl) ?_
        obtain ⟨z51, hz51, hf⟩ := bind_s hf
        refine xV_ir hx hb hml hown htg L4_104 (c_X8_number l E a1 hz51 _) ⟨⟨rfl, rfl⟩, Nat.le_of_ble_eq_true rfl, Nat.le_of_ble_eq_true rfl⟩ hK hG hA hP hD hS (is := [1]) rfl rfl (xrecv hK hP (q0 := 1) (ci := 8) rfl rfl) rfl hl.1 rfl (Nat.le_of_ble_eq_true rfl) dX4_takeFeeling_51 (fun H locs hP hD hS => ?_)
        refine lv_istore (lv' := [(6, .int z51), (5, .int z1), (0, .ref a0), (1, .ref a1), (2, .ref a4), (3, .int x3), (4, .int x4)]) hx hb dX4_takeFeeling_54 hl (by decide) rfl (fun ls hl => ?_)
        refine lv_aload_n hx hb dX4_takeFeeling_56 rfl (lv_at hl 3 rfl) ?_
        obtain ⟨z57, hz57, hf⟩ := bind_s hf
        refine xV_vu hx hb hml hown htg L4_70 (c_X8_advance l E a1 a2 a3 hz57 _) ⟨⟨rfl, rfl⟩, Nat.le_of_ble_eq_true rfl, Nat.le_of_ble_eq_true rfl⟩ hK hG hA hP hD hS (is := [1, 2, 3]) (sel := [none, some 0, some 1, some 2, none, none, none, none, none]) (ws2 := [(a0, o4 T0), (a1, o8 z57.1 z57.2 a2 a3), (a2, ab E 900 V2), (a3, al E 23 V3), (a4, o3 T4 u4_7 u4_8 u4_9 a6 a5 a7 a8 u4_14), (a5, ai E 12 V5), (a6, ai E 12 V6), (a7, ai E 12 V7), (a8, ai E 12 V8)]) rfl rfl rfl rfl rfl (xrecv hK hP (q0 := 1) (ci := 8) rfl rfl) rfl hl.1 rfl (Nat.le_of_ble_eq_true rfl) dX4_takeFeeling_57 (fun H locs hP hD hS => ?_)
        exact b60 z1 z51 z57.1 z57.2 T4 V5 V6 V7 V8 _ _ _ hf hP hD hS (lv_sub hl [4, 5, 6, 1, 0] rfl)
      · have hf := it_t c45 hf
        refine lv_iconst (v := 0) hx hb dX4_takeFeeling_48 rfl ?_
        exact ret (0, z42.2, z35.2, T4, V5, V6, V7, V8) hf nz0 hP hS dX4_takeFeeling_49
  · have hf := it_t c9 hf
    refine lv_aload_n hx hb dX4_takeFeeling_12 rfl (lv_at hl 2 rfl) ?_
    refine lv_iconst (v := 2) hx hb dX4_takeFeeling_13 rfl ?_
    obtain ⟨z14, hz14, hf⟩ := bind_s hf
    refine xV_iu hx hb hml hown htg L4_60 (c_X8_blame l E a1 hz14 _) ⟨⟨rfl, rfl⟩, Nat.le_of_ble_eq_true rfl, Nat.le_of_ble_eq_true rfl⟩ hK hG hA hP hD hS (is := [1]) (sel := [none, some 0, none, none, none, none, none, none, none]) (ws2 := [(a0, o4 T0), (a1, o8 z14.2 J1_8 a2 a3), (a2, ab E 900 V2), (a3, al E 23 V3), (a4, o3 T4 u4_7 u4_8 u4_9 a6 a5 a7 a8 u4_14), (a5, ai E 12 V5), (a6, ai E 12 V6), (a7, ai E 12 V7), (a8, ai E 12 V8)]) rfl rfl rfl rfl rfl (xrecv hK hP (q0 := 1) (ci := 8) rfl rfl) rfl hl.1 rfl (Nat.le_of_ble_eq_true rfl) dX4_takeFeeling_14 (fun H locs hP hD hS => ?_)
    obtain ⟨g17, hf⟩ := ck_s hf
    exact ret (z14.1, z14.2, J1_8, T4, V5, V6, V7, V8) hf (bz_n g17).1 hP hS dX4_takeFeeling_17
theorem dX4_takeTold_0 : decode cX4_takeTold 0 = .ok (.aload_n 2, 1) := by decide +kernel
theorem dX4_takeTold_1 : decode cX4_takeTold 1 = .ok (.getfield 63, 3) := by decide +kernel
theorem dX4_takeTold_4 : decode cX4_takeTold 4 = .ok (.bipush 12, 2) := by decide +kernel
theorem dX4_takeTold_6 : decode cX4_takeTold 6 = .ok (.if_icmp .lt 10, 3) := by decide +kernel
theorem dX4_takeTold_9 : decode cX4_takeTold 9 = .ok (.aload_n 1, 1) := by decide +kernel
theorem dX4_takeTold_10 : decode cX4_takeTold 10 = .ok (.bipush 6, 2) := by decide +kernel
theorem dX4_takeTold_12 : decode cX4_takeTold 12 = .ok (.invokevirtual 60, 3) := by decide +kernel
theorem dX4_takeTold_15 : decode cX4_takeTold 15 = .ok (.ireturn, 1) := by decide +kernel
theorem dX4_takeTold_16 : decode cX4_takeTold 16 = .ok (.aload_n 1, 1) := by decide +kernel
theorem dX4_takeTold_17 : decode cX4_takeTold 17 = .ok (.invokevirtual 70, 3) := by decide +kernel
theorem dX4_takeTold_20 : decode cX4_takeTold 20 = .ok (.aload_n 1, 1) := by decide +kernel
theorem dX4_takeTold_21 : decode cX4_takeTold 21 = .ok (.invokevirtual 116, 3) := by decide +kernel
theorem dX4_takeTold_24 : decode cX4_takeTold 24 = .ok (.ifCond .ne 9, 3) := by decide +kernel
theorem dX4_takeTold_27 : decode cX4_takeTold 27 = .ok (.aload_n 1, 1) := by decide +kernel
theorem dX4_takeTold_28 : decode cX4_takeTold 28 = .ok (.iconst 2, 1) := by decide +kernel
theorem dX4_takeTold_29 : decode cX4_takeTold 29 = .ok (.invokevirtual 60, 3) := by decide +kernel
theorem dX4_takeTold_32 : decode cX4_takeTold 32 = .ok (.ireturn, 1) := by decide +kernel
theorem dX4_takeTold_33 : decode cX4_takeTold 33 = .ok (.aload_n 2, 1) := by decide +kernel
theorem dX4_takeTold_34 : decode cX4_takeTold 34 = .ok (.aload_n 1, 1) := by decide +kernel
theorem dX4_takeTold_35 : decode cX4_takeTold 35 = .ok (.invokevirtual 119, 3) := by decide +kernel
theorem dX4_takeTold_38 : decode cX4_takeTold 38 = .ok (.invokevirtual 123, 3) := by decide +kernel
theorem dX4_takeTold_41 : decode cX4_takeTold 41 = .ok (.istore_n 3, 1) := by decide +kernel
theorem dX4_takeTold_42 : decode cX4_takeTold 42 = .ok (.iload_n 3, 1) := by decide +kernel
theorem dX4_takeTold_43 : decode cX4_takeTold 43 = .ok (.iconst (-1), 1) := by decide +kernel
theorem dX4_takeTold_44 : decode cX4_takeTold 44 = .ok (.if_icmp .ne 9, 3) := by decide +kernel
theorem dX4_takeTold_47 : decode cX4_takeTold 47 = .ok (.aload_n 1, 1) := by decide +kernel
theorem dX4_takeTold_48 : decode cX4_takeTold 48 = .ok (.iconst 3, 1) := by decide +kernel
theorem dX4_takeTold_49 : decode cX4_takeTold 49 = .ok (.invokevirtual 60, 3) := by decide +kernel
theorem dX4_takeTold_52 : decode cX4_takeTold 52 = .ok (.ireturn, 1) := by decide +kernel
theorem dX4_takeTold_53 : decode cX4_takeTold 53 = .ok (.aload_n 1, 1) := by decide +kernel
theorem dX4_takeTold_54 : decode cX4_takeTold 54 = .ok (.invokevirtual 70, 3) := by decide +kernel
theorem dX4_takeTold_57 : decode cX4_takeTold 57 = .ok (.aload_n 1, 1) := by decide +kernel
theorem dX4_takeTold_58 : decode cX4_takeTold 58 = .ok (.iconst 0, 1) := by decide +kernel
theorem dX4_takeTold_59 : decode cX4_takeTold 59 = .ok (.aload_n 2, 1) := by decide +kernel
theorem dX4_takeTold_60 : decode cX4_takeTold 60 = .ok (.getfield 67, 3) := by decide +kernel
theorem dX4_takeTold_63 : decode cX4_takeTold 63 = .ok (.iconst 1, 1) := by decide +kernel
theorem dX4_takeTold_64 : decode cX4_takeTold 64 = .ok (.isub, 1) := by decide +kernel
theorem dX4_takeTold_65 : decode cX4_takeTold 65 = .ok (.invokevirtual 100, 3) := by decide +kernel
theorem dX4_takeTold_68 : decode cX4_takeTold 68 = .ok (.ifCond .ne 5, 3) := by decide +kernel
theorem dX4_takeTold_71 : decode cX4_takeTold 71 = .ok (.iconst 0, 1) := by decide +kernel
theorem dX4_takeTold_72 : decode cX4_takeTold 72 = .ok (.ireturn, 1) := by decide +kernel
theorem dX4_takeTold_73 : decode cX4_takeTold 73 = .ok (.aload_n 1, 1) := by decide +kernel
theorem dX4_takeTold_74 : decode cX4_takeTold 74 = .ok (.invokevirtual 104, 3) := by decide +kernel
theorem dX4_takeTold_77 : decode cX4_takeTold 77 = .ok (.istore 4, 2) := by decide +kernel
theorem dX4_takeTold_79 : decode cX4_takeTold 79 = .ok (.aload_n 1, 1) := by decide +kernel
theorem dX4_takeTold_80 : decode cX4_takeTold 80 = .ok (.invokevirtual 70, 3) := by decide +kernel
theorem dX4_takeTold_83 : decode cX4_takeTold 83 = .ok (.aload_n 1, 1) := by decide +kernel
theorem dX4_takeTold_84 : decode cX4_takeTold 84 = .ok (.iconst 0, 1) := by decide +kernel
theorem dX4_takeTold_85 : decode cX4_takeTold 85 = .ok (.aload_n 2, 1) := by decide +kernel
theorem dX4_takeTold_86 : decode cX4_takeTold 86 = .ok (.getfield 79, 3) := by decide +kernel
theorem dX4_takeTold_89 : decode cX4_takeTold 89 = .ok (.iconst 1, 1) := by decide +kernel
theorem dX4_takeTold_90 : decode cX4_takeTold 90 = .ok (.isub, 1) := by decide +kernel
theorem dX4_takeTold_91 : decode cX4_takeTold 91 = .ok (.invokevirtual 100, 3) := by decide +kernel
theorem dX4_takeTold_94 : decode cX4_takeTold 94 = .ok (.ifCond .ne 5, 3) := by decide +kernel
theorem dX4_takeTold_97 : decode cX4_takeTold 97 = .ok (.iconst 0, 1) := by decide +kernel
theorem dX4_takeTold_98 : decode cX4_takeTold 98 = .ok (.ireturn, 1) := by decide +kernel
theorem dX4_takeTold_99 : decode cX4_takeTold 99 = .ok (.iload 4, 2) := by decide +kernel
theorem dX4_takeTold_101 : decode cX4_takeTold 101 = .ok (.aload_n 2, 1) := by decide +kernel
theorem dX4_takeTold_102 : decode cX4_takeTold 102 = .ok (.getfield 79, 3) := by decide +kernel
theorem dX4_takeTold_105 : decode cX4_takeTold 105 = .ok (.imul, 1) := by decide +kernel
theorem dX4_takeTold_106 : decode cX4_takeTold 106 = .ok (.aload_n 1, 1) := by decide +kernel
theorem dX4_takeTold_107 : decode cX4_takeTold 107 = .ok (.invokevirtual 104, 3) := by decide +kernel
theorem dX4_takeTold_110 : decode cX4_takeTold 110 = .ok (.iadd, 1) := by decide +kernel
theorem dX4_takeTold_111 : decode cX4_takeTold 111 = .ok (.istore 5, 2) := by decide +kernel
theorem dX4_takeTold_113 : decode cX4_takeTold 113 = .ok (.aload_n 2, 1) := by decide +kernel
theorem dX4_takeTold_114 : decode cX4_takeTold 114 = .ok (.iload 5, 2) := by decide +kernel
theorem dX4_takeTold_116 : decode cX4_takeTold 116 = .ok (.invokevirtual 134, 3) := by decide +kernel
theorem dX4_takeTold_119 : decode cX4_takeTold 119 = .ok (.iconst 5, 1) := by decide +kernel
theorem dX4_takeTold_120 : decode cX4_takeTold 120 = .ok (.if_icmp .lt 9, 3) := by decide +kernel
theorem dX4_takeTold_123 : decode cX4_takeTold 123 = .ok (.aload_n 1, 1) := by decide +kernel
theorem dX4_takeTold_124 : decode cX4_takeTold 124 = .ok (.iconst 5, 1) := by decide +kernel
theorem dX4_takeTold_125 : decode cX4_takeTold 125 = .ok (.invokevirtual 60, 3) := by decide +kernel
theorem dX4_takeTold_128 : decode cX4_takeTold 128 = .ok (.ireturn, 1) := by decide +kernel
theorem dX4_takeTold_129 : decode cX4_takeTold 129 = .ok (.aload_n 1, 1) := by decide +kernel
theorem dX4_takeTold_130 : decode cX4_takeTold 130 = .ok (.invokevirtual 70, 3) := by decide +kernel
theorem dX4_takeTold_133 : decode cX4_takeTold 133 = .ok (.aload_n 0, 1) := by decide +kernel
theorem dX4_takeTold_134 : decode cX4_takeTold 134 = .ok (.aload_n 1, 1) := by decide +kernel
theorem dX4_takeTold_135 : decode cX4_takeTold 135 = .ok (.aload_n 2, 1) := by decide +kernel
theorem dX4_takeTold_136 : decode cX4_takeTold 136 = .ok (.iload_n 3, 1) := by decide +kernel
theorem dX4_takeTold_137 : decode cX4_takeTold 137 = .ok (.iload 5, 2) := by decide +kernel
theorem dX4_takeTold_139 : decode cX4_takeTold 139 = .ok (.invokevirtual 137, 3) := by decide +kernel
theorem dX4_takeTold_142 : decode cX4_takeTold 142 = .ok (.ireturn, 1) := by decide +kernel
set_option maxRecDepth 100000 in
theorem c_X4_takeTold (l : Launch) (E : xE) (a0 a1 a2 a3 a4 a5 a6 a7 a8 a9 : Nat) {T0 : Nat → Int32} {T1 : Nat → Int32} {J1_8 : Int64} {T2 : Nat → Int32} {V3 : Nat → Int32} {V4 : Nat → Int64} {V5 : Nat → Int64} {V6 : Nat → Int32} {V7 : Nat → Int32} {V8 : Nat → Int32} {V9 : Nat → Int32} {u2_7 u2_8 u2_14 : Nat} {z : Int32 × (Nat → Int32) × Int64 × (Nat → Int32) × (Nat → Int32) × (Nat → Int32) × (Nat → Int32) × (Nat → Int32)} (hf : f_X4_takeTold T1 J1_8 T2 V3 V4 V5 V6 V7 V8 V9 = some z) (sz : Nat) : Met l yX4_takeTold (Cond.code yX4_takeTold cX4_takeTold 6 (some .boolean) :: gw) ({ frames := 3, cells := 0, slots := 0, locals := 73 }) (xPc E [.ref a0, .ref a1, .ref a2] [(a0, o4 T0), (a1, o8 T1 J1_8 a3 a4), (a2, o3 T2 u2_7 u2_8 a5 a7 a6 a8 a9 u2_14), (a3, ab E 900 V3), (a4, al E 23 V4), (a5, al E 5 V5), (a6, ai E 12 V6), (a7, ai E 12 V7), (a8, ai E 12 V8), (a9, ai E 12 V9)] sz) (xQi E z.1 [(a0, o4 T0), (a1, o8 T1 J1_8 a3 a4), (a2, o3 T2 u2_7 u2_8 a5 a7 a6 a8 a9 u2_14), (a3, ab E 900 V3), (a4, al E 23 V4), (a5, al E 5 V5), (a6, ai E 12 V6), (a7, ai E 12 V7), (a8, ai E 12 V8), (a9, ai E 12 V9)] [(a0, o4 T0), (a1, o8 z.2.1 z.2.2.1 a3 a4), (a2, o3 z.2.2.2.1 u2_7 u2_8 a5 a7 a6 a8 a9 u2_14), (a3, ab E 900 V3), (a4, al E 23 V4), (a5, al E 5 V5), (a6, ai E 12 z.2.2.2.2.1), (a7, ai E 12 z.2.2.2.2.2.1), (a8, ai E 12 z.2.2.2.2.2.2.1), (a9, ai E 12 z.2.2.2.2.2.2.2)] sz) 0 0 (va_A [(a0, o4 T0), (a1, o8 T1 J1_8 a3 a4), (a2, o3 T2 u2_7 u2_8 a5 a7 a6 a8 a9 u2_14), (a3, ab E 900 V3), (a4, al E 23 V4), (a5, al E 5 V5), (a6, ai E 12 V6), (a7, ai E 12 V7), (a8, ai E 12 V8), (a9, ai E 12 V9)] sz) := by
  refine xM_i (by decide +kernel) (Nat.le_of_ble_eq_true rfl) ?_
  intro p e s m args below meth c A Q hx hb hml hown htg hK hG hA ret0 H locs ls hP hD hS hl
  have ret : ∀ (z' : Int32 × (Nat → Int32) × Int64 × (Nat → Int32) × (Nat → Int32) × (Nat → Int32) × (Nat → Int32) × (Nat → Int32)) {H : Heap} {locs : List Loc} {pc : Nat} {ls : Array Slot}, some z' = some z → narrow .boolean (.int z'.1) = .int z'.1 → va_P E.1 vwCl [(a0, o4 T0), (a1, o8 z'.2.1 z'.2.2.1 a3 a4), (a2, o3 z'.2.2.2.1 u2_7 u2_8 a5 a7 a6 a8 a9 u2_14), (a3, ab E 900 V3), (a4, al E 23 V4), (a5, al E 5 V5), (a6, ai E 12 z'.2.2.2.2.1), (a7, ai E 12 z'.2.2.2.2.2.1), (a8, ai E 12 z'.2.2.2.2.2.2.1), (a9, ai E 12 z'.2.2.2.2.2.2.2)] H → va_S A s.heap H locs → decode cX4_takeTold pc = .ok (.ireturn, 1) → W p l e ({ frames := 3, cells := 0, slots := 0, locals := 73 } : Room) s m args below meth c H locs 0 0 Q (F0 m pc ls [.int z'.1]) := by
    intro z' H locs pc ls h
    cases h
    exact ret0
  replace hl : lv_has ls 6 [(0, .ref a0), (1, .ref a1), (2, .ref a2)] := hl
  unfold f_X4_takeTold at hf
  refine lv_aload_n hx hb dX4_takeTold_0 rfl (lv_at hl 2 rfl) ?_
  refine G4_63 hx hb htg hown hK hP 2 rfl dX4_takeTold_1 ?_
  refine lv_bipush (v := 12) hx hb dX4_takeTold_4 rfl ?_
  refine lv_icmp_lt (tgt := 16) hx hb dX4_takeTold_6 (by decide) (fun c6 => ?_) (fun c6 => ?_)
  · have hf := it_t c6 hf
    refine lv_aload_n hx hb dX4_takeTold_16 rfl (lv_at hl 1 rfl) ?_
    obtain ⟨z17, hz17, hf⟩ := bind_s hf
    refine xV_vu hx hb hml hown htg L4_70 (c_X8_advance l E a1 a3 a4 hz17 _) ⟨⟨rfl, rfl⟩, Nat.le_of_ble_eq_true rfl, Nat.le_of_ble_eq_true rfl⟩ hK hG hA hP hD hS (is := [1, 3, 4]) (sel := [none, some 0, none, some 1, some 2, none, none, none, none, none]) (ws2 := [(a0, o4 T0), (a1, o8 z17.1 z17.2 a3 a4), (a2, o3 T2 u2_7 u2_8 a5 a7 a6 a8 a9 u2_14), (a3, ab E 900 V3), (a4, al E 23 V4), (a5, al E 5 V5), (a6, ai E 12 V6), (a7, ai E 12 V7), (a8, ai E 12 V8), (a9, ai E 12 V9)]) rfl rfl rfl rfl rfl (xrecv hK hP (q0 := 1) (ci := 8) rfl rfl) rfl hl.1 rfl (Nat.le_of_ble_eq_true rfl) dX4_takeTold_17 (fun H locs hP hD hS => ?_)
    refine lv_aload_n hx hb dX4_takeTold_20 rfl (lv_at hl 1 rfl) ?_
    obtain ⟨z21, hz21, hf⟩ := bind_s hf
    refine xV_ir hx hb hml hown htg L4_116 (c_X8_isName l E a1 hz21 _) ⟨⟨rfl, rfl⟩, Nat.le_of_ble_eq_true rfl, Nat.le_of_ble_eq_true rfl⟩ hK hG hA hP hD hS (is := [1]) rfl rfl (xrecv hK hP (q0 := 1) (ci := 8) rfl rfl) rfl hl.1 rfl (Nat.le_of_ble_eq_true rfl) dX4_takeTold_21 (fun H locs hP hD hS => ?_)
    refine lv_if_ne (tgt := 33) hx hb dX4_takeTold_24 (by decide) (fun c24 => ?_) (fun c24 => ?_)
    · have hf := it_f c24 hf
      refine lv_aload_n hx hb dX4_takeTold_33 rfl (lv_at hl 2 rfl) ?_
      refine lv_aload_n hx hb dX4_takeTold_34 rfl (lv_at hl 1 rfl) ?_
      obtain ⟨z35, hz35, hf⟩ := bind_s hf
      refine xV_lr hx hb hml hown htg L4_119 (c_X8_nameCode l E a1 hz35 _) ⟨⟨rfl, rfl⟩, Nat.le_of_ble_eq_true rfl, Nat.le_of_ble_eq_true rfl⟩ hK hG hA hP hD hS (is := [1]) rfl rfl (xrecv hK hP (q0 := 1) (ci := 8) rfl rfl) rfl hl.1 rfl (Nat.le_of_ble_eq_true rfl) dX4_takeTold_35 (fun H locs hP hD hS => ?_)
      obtain ⟨z38, hz38, hf⟩ := bind_s hf
      refine xV_ir hx hb hml hown htg L4_123 (c_X3_travellerNamed l E a2 a5 hz38 _) ⟨⟨rfl, rfl⟩, Nat.le_of_ble_eq_true rfl, Nat.le_of_ble_eq_true rfl⟩ hK hG hA hP hD hS (is := [2, 5]) rfl rfl (xrecv hK hP (q0 := 2) (ci := 3) rfl rfl) rfl hl.1 rfl (Nat.le_of_ble_eq_true rfl) dX4_takeTold_38 (fun H locs hP hD hS => ?_)
      refine lv_istore_n (lv' := [(3, .int z38), (0, .ref a0), (1, .ref a1), (2, .ref a2)]) hx hb dX4_takeTold_41 rfl hl (by decide) rfl (fun ls hl => ?_)
      refine lv_iload_n hx hb dX4_takeTold_42 rfl (lv_at hl 0 rfl) ?_
      refine lv_iconst (v := (-1)) hx hb dX4_takeTold_43 rfl ?_
      refine lv_icmp_ne (tgt := 53) hx hb dX4_takeTold_44 (by decide) (fun c44 => ?_) (fun c44 => ?_)
      · have hf := it_f c44 hf
        refine lv_aload_n hx hb dX4_takeTold_53 rfl (lv_at hl 2 rfl) ?_
        obtain ⟨z54, hz54, hf⟩ := bind_s hf
        refine xV_vu hx hb hml hown htg L4_70 (c_X8_advance l E a1 a3 a4 hz54 _) ⟨⟨rfl, rfl⟩, Nat.le_of_ble_eq_true rfl, Nat.le_of_ble_eq_true rfl⟩ hK hG hA hP hD hS (is := [1, 3, 4]) (sel := [none, some 0, none, some 1, some 2, none, none, none, none, none]) (ws2 := [(a0, o4 T0), (a1, o8 z54.1 z54.2 a3 a4), (a2, o3 T2 u2_7 u2_8 a5 a7 a6 a8 a9 u2_14), (a3, ab E 900 V3), (a4, al E 23 V4), (a5, al E 5 V5), (a6, ai E 12 V6), (a7, ai E 12 V7), (a8, ai E 12 V8), (a9, ai E 12 V9)]) rfl rfl rfl rfl rfl (xrecv hK hP (q0 := 1) (ci := 8) rfl rfl) rfl hl.1 rfl (Nat.le_of_ble_eq_true rfl) dX4_takeTold_54 (fun H locs hP hD hS => ?_)
        refine lv_aload_n hx hb dX4_takeTold_57 rfl (lv_at hl 2 rfl) ?_
        refine lv_iconst (v := 0) hx hb dX4_takeTold_58 rfl ?_
        refine lv_aload_n hx hb dX4_takeTold_59 rfl (lv_at hl 3 rfl) ?_
        refine G4_67 hx hb htg hown hK hP 2 rfl dX4_takeTold_60 ?_
        refine lv_iconst (v := 1) hx hb dX4_takeTold_63 rfl ?_
        refine lv_isub hx hb dX4_takeTold_64 ?_
        obtain ⟨z65, hz65, hf⟩ := bind_s hf
        refine xV_iu hx hb hml hown htg L4_100 (c_X8_isNumber l E a1 hz65 _) ⟨⟨rfl, rfl⟩, Nat.le_of_ble_eq_true rfl, Nat.le_of_ble_eq_true rfl⟩ hK hG hA hP hD hS (is := [1]) (sel := [none, some 0, none, none, none, none, none, none, none, none]) (ws2 := [(a0, o4 T0), (a1, o8 z65.2 z54.2 a3 a4), (a2, o3 T2 u2_7 u2_8 a5 a7 a6 a8 a9 u2_14), (a3, ab E 900 V3), (a4, al E 23 V4), (a5, al E 5 V5), (a6, ai E 12 V6), (a7, ai E 12 V7), (a8, ai E 12 V8), (a9, ai E 12 V9)]) rfl rfl rfl rfl rfl (xrecv hK hP (q0 := 1) (ci := 8) rfl rfl) rfl hl.1 rfl (Nat.le_of_ble_eq_true rfl) dX4_takeTold_65 (fun H locs hP hD hS => ?_)
        refine lv_if_ne (tgt := 73) hx hb dX4_takeTold_68 (by decide) (fun c68 => ?_) (fun c68 => ?_)
        · have hf := it_f c68 hf
          refine lv_aload_n hx hb dX4_takeTold_73 rfl (lv_at hl 2 rfl) ?_
          obtain ⟨z74, hz74, hf⟩ := bind_s hf
          refine xV_ir hx hb hml hown htg L4_104 (c_X8_number l E a1 hz74 _) ⟨⟨rfl, rfl⟩, Nat.le_of_ble_eq_true rfl, Nat.le_of_ble_eq_true rfl⟩ hK hG hA hP hD hS (is := [1]) rfl rfl (xrecv hK hP (q0 := 1) (ci := 8) rfl rfl) rfl hl.1 rfl (Nat.le_of_ble_eq_true rfl) dX4_takeTold_74 (fun H locs hP hD hS => ?_)
          refine lv_istore (lv' := [(4, .int z74), (3, .int z38), (0, .ref a0), (1, .ref a1), (2, .ref a2)]) hx hb dX4_takeTold_77 hl (by decide) rfl (fun ls hl => ?_)
          refine lv_aload_n hx hb dX4_takeTold_79 rfl (lv_at hl 3 rfl) ?_
          obtain ⟨z80, hz80, hf⟩ := bind_s hf
          refine xV_vu hx hb hml hown htg L4_70 (c_X8_advance l E a1 a3 a4 hz80 _) ⟨⟨rfl, rfl⟩, Nat.le_of_ble_eq_true rfl, Nat.le_of_ble_eq_true rfl⟩ hK hG hA hP hD hS (is := [1, 3, 4]) (sel := [none, some 0, none, some 1, some 2, none, none, none, none, none]) (ws2 := [(a0, o4 T0), (a1, o8 z80.1 z80.2 a3 a4), (a2, o3 T2 u2_7 u2_8 a5 a7 a6 a8 a9 u2_14), (a3, ab E 900 V3), (a4, al E 23 V4), (a5, al E 5 V5), (a6, ai E 12 V6), (a7, ai E 12 V7), (a8, ai E 12 V8), (a9, ai E 12 V9)]) rfl rfl rfl rfl rfl (xrecv hK hP (q0 := 1) (ci := 8) rfl rfl) rfl hl.1 rfl (Nat.le_of_ble_eq_true rfl) dX4_takeTold_80 (fun H locs hP hD hS => ?_)
          refine lv_aload_n hx hb dX4_takeTold_83 rfl (lv_at hl 3 rfl) ?_
          refine lv_iconst (v := 0) hx hb dX4_takeTold_84 rfl ?_
          refine lv_aload_n hx hb dX4_takeTold_85 rfl (lv_at hl 4 rfl) ?_
          refine G4_79 hx hb htg hown hK hP 2 rfl dX4_takeTold_86 ?_
          refine lv_iconst (v := 1) hx hb dX4_takeTold_89 rfl ?_
          refine lv_isub hx hb dX4_takeTold_90 ?_
          obtain ⟨z91, hz91, hf⟩ := bind_s hf
          refine xV_iu hx hb hml hown htg L4_100 (c_X8_isNumber l E a1 hz91 _) ⟨⟨rfl, rfl⟩, Nat.le_of_ble_eq_true rfl, Nat.le_of_ble_eq_true rfl⟩ hK hG hA hP hD hS (is := [1]) (sel := [none, some 0, none, none, none, none, none, none, none, none]) (ws2 := [(a0, o4 T0), (a1, o8 z91.2 z80.2 a3 a4), (a2, o3 T2 u2_7 u2_8 a5 a7 a6 a8 a9 u2_14), (a3, ab E 900 V3), (a4, al E 23 V4), (a5, al E 5 V5), (a6, ai E 12 V6), (a7, ai E 12 V7), (a8, ai E 12 V8), (a9, ai E 12 V9)]) rfl rfl rfl rfl rfl (xrecv hK hP (q0 := 1) (ci := 8) rfl rfl) rfl hl.1 rfl (Nat.le_of_ble_eq_true rfl) dX4_takeTold_91 (fun H locs hP hD hS => ?_)
          refine lv_if_ne (tgt := 99) hx hb dX4_takeTold_94 (by decide) (fun c94 => ?_) (fun c94 => ?_)
          · have hf := it_f c94 hf
            refine lv_iload hx hb dX4_takeTold_99 (lv_at hl 0 rfl) ?_
            refine lv_aload_n hx hb dX4_takeTold_101 rfl (lv_at hl 4 rfl) ?_
            refine G4_79 hx hb htg hown hK hP 2 rfl dX4_takeTold_102 ?_
            refine lv_imul hx hb dX4_takeTold_105 ?_
            refine lv_aload_n hx hb dX4_takeTold_106 rfl (lv_at hl 3 rfl) ?_
            obtain ⟨z107, hz107, hf⟩ := bind_s hf
            refine xV_ir hx hb hml hown htg L4_104 (c_X8_number l E a1 hz107 _) ⟨⟨rfl, rfl⟩, Nat.le_of_ble_eq_true rfl, Nat.le_of_ble_eq_true rfl⟩ hK hG hA hP hD hS (is := [1]) rfl rfl (xrecv hK hP (q0 := 1) (ci := 8) rfl rfl) rfl hl.1 rfl (Nat.le_of_ble_eq_true rfl) dX4_takeTold_107 (fun H locs hP hD hS => ?_)
            refine lv_iadd hx hb dX4_takeTold_110 ?_
            refine lv_istore (lv' := [(5, .int ((z74 * (T2 1)) + z107)), (4, .int z74), (3, .int z38), (0, .ref a0), (1, .ref a1), (2, .ref a2)]) hx hb dX4_takeTold_111 hl (by decide) rfl (fun ls hl => ?_)
            refine lv_aload_n hx hb dX4_takeTold_113 rfl (lv_at hl 5 rfl) ?_
            refine lv_iload hx hb dX4_takeTold_114 (lv_at hl 0 rfl) ?_
            obtain ⟨z116, hz116, hf⟩ := bind_s hf
            refine xV_ir hx hb hml hown htg L4_134 (c_X3_tellingsOf l E a2 a6 hz116 _) ⟨⟨rfl, rfl⟩, Nat.le_of_ble_eq_true rfl, Nat.le_of_ble_eq_true rfl⟩ hK hG hA hP hD hS (is := [2, 6]) rfl rfl (xrecv hK hP (q0 := 2) (ci := 3) rfl rfl) rfl hl.1 rfl (Nat.le_of_ble_eq_true rfl) dX4_takeTold_116 (fun H locs hP hD hS => ?_)
            refine lv_iconst (v := 5) hx hb dX4_takeTold_119 rfl ?_
            refine lv_icmp_lt (tgt := 129) hx hb dX4_takeTold_120 (by decide) (fun c120 => ?_) (fun c120 => ?_)
            · have hf := it_t c120 hf
              refine lv_aload_n hx hb dX4_takeTold_129 rfl (lv_at hl 4 rfl) ?_
              obtain ⟨z130, hz130, hf⟩ := bind_s hf
              refine xV_vu hx hb hml hown htg L4_70 (c_X8_advance l E a1 a3 a4 hz130 _) ⟨⟨rfl, rfl⟩, Nat.le_of_ble_eq_true rfl, Nat.le_of_ble_eq_true rfl⟩ hK hG hA hP hD hS (is := [1, 3, 4]) (sel := [none, some 0, none, some 1, some 2, none, none, none, none, none]) (ws2 := [(a0, o4 T0), (a1, o8 z130.1 z130.2 a3 a4), (a2, o3 T2 u2_7 u2_8 a5 a7 a6 a8 a9 u2_14), (a3, ab E 900 V3), (a4, al E 23 V4), (a5, al E 5 V5), (a6, ai E 12 V6), (a7, ai E 12 V7), (a8, ai E 12 V8), (a9, ai E 12 V9)]) rfl rfl rfl rfl rfl (xrecv hK hP (q0 := 1) (ci := 8) rfl rfl) rfl hl.1 rfl (Nat.le_of_ble_eq_true rfl) dX4_takeTold_130 (fun H locs hP hD hS => ?_)
              refine lv_aload_n hx hb dX4_takeTold_133 rfl (lv_at hl 3 rfl) ?_
              refine lv_aload_n hx hb dX4_takeTold_134 rfl (lv_at hl 4 rfl) ?_
              refine lv_aload_n hx hb dX4_takeTold_135 rfl (lv_at hl 5 rfl) ?_
              refine lv_iload_n hx hb dX4_takeTold_136 rfl (lv_at hl 2 rfl) ?_
              refine lv_iload hx hb dX4_takeTold_137 (lv_at hl 0 rfl) ?_
              obtain ⟨z139, hz139, hf⟩ := bind_s hf
              refine xV_iu hx hb hml hown htg L4_137 (c_X4_takeFeeling l E a0 a1 a3 a4 a2 a6 a7 a8 a9 hz139 _) ⟨⟨rfl, rfl⟩, Nat.le_of_ble_eq_true rfl, Nat.le_of_ble_eq_true rfl⟩ hK hG hA hP hD hS (is := [0, 1, 3, 4, 2, 6, 7, 8, 9]) (sel := [some 0, some 1, some 4, some 2, some 3, none, some 5, some 6, some 7, some 8]) (ws2 := [(a0, o4 T0), (a1, o8 z139.2.1 z139.2.2.1 a3 a4), (a2, o3 z139.2.2.2.1 u2_7 u2_8 a5 a7 a6 a8 a9 u2_14), (a3, ab E 900 V3), (a4, al E 23 V4), (a5, al E 5 V5), (a6, ai E 12 z139.2.2.2.2.1), (a7, ai E 12 z139.2.2.2.2.2.1), (a8, ai E 12 z139.2.2.2.2.2.2.1), (a9, ai E 12 z139.2.2.2.2.2.2.2)]) rfl rfl rfl rfl rfl (xrecv hK hP (q0 := 0) (ci := 4) rfl rfl) rfl hl.1 rfl (Nat.le_of_ble_eq_true rfl) dX4_takeTold_139 (fun H locs hP hD hS => ?_)
              obtain ⟨g142, hf⟩ := ck_s hf
              exact ret (z139.1, z139.2.1, z139.2.2.1, z139.2.2.2.1, z139.2.2.2.2.1, z139.2.2.2.2.2.1, z139.2.2.2.2.2.2.1, z139.2.2.2.2.2.2.2) hf (bz_n g142).1 hP hS dX4_takeTold_142
            · have hf := it_f c120 hf
              refine lv_aload_n hx hb dX4_takeTold_123 rfl (lv_at hl 4 rfl) ?_
              refine lv_iconst (v := 5) hx hb dX4_takeTold_124 rfl ?_
              obtain ⟨z125, hz125, hf⟩ := bind_s hf
              refine xV_iu hx hb hml hown htg L4_60 (c_X8_blame l E a1 hz125 _) ⟨⟨rfl, rfl⟩, Nat.le_of_ble_eq_true rfl, Nat.le_of_ble_eq_true rfl⟩ hK hG hA hP hD hS (is := [1]) (sel := [none, some 0, none, none, none, none, none, none, none, none]) (ws2 := [(a0, o4 T0), (a1, o8 z125.2 z80.2 a3 a4), (a2, o3 T2 u2_7 u2_8 a5 a7 a6 a8 a9 u2_14), (a3, ab E 900 V3), (a4, al E 23 V4), (a5, al E 5 V5), (a6, ai E 12 V6), (a7, ai E 12 V7), (a8, ai E 12 V8), (a9, ai E 12 V9)]) rfl rfl rfl rfl rfl (xrecv hK hP (q0 := 1) (ci := 8) rfl rfl) rfl hl.1 rfl (Nat.le_of_ble_eq_true rfl) dX4_takeTold_125 (fun H locs hP hD hS => ?_)
              obtain ⟨g128, hf⟩ := ck_s hf
              exact ret (z125.1, z125.2, z80.2, T2, V6, V7, V8, V9) hf (bz_n g128).1 hP hS dX4_takeTold_128
          · have hf := it_t c94 hf
            refine lv_iconst (v := 0) hx hb dX4_takeTold_97 rfl ?_
            exact ret (0, z91.2, z80.2, T2, V6, V7, V8, V9) hf nz0 hP hS dX4_takeTold_98
        · have hf := it_t c68 hf
          refine lv_iconst (v := 0) hx hb dX4_takeTold_71 rfl ?_
          exact ret (0, z65.2, z54.2, T2, V6, V7, V8, V9) hf nz0 hP hS dX4_takeTold_72
      · have hf := it_t c44 hf
        refine lv_aload_n hx hb dX4_takeTold_47 rfl (lv_at hl 2 rfl) ?_
        refine lv_iconst (v := 3) hx hb dX4_takeTold_48 rfl ?_
        obtain ⟨z49, hz49, hf⟩ := bind_s hf
        refine xV_iu hx hb hml hown htg L4_60 (c_X8_blame l E a1 hz49 _) ⟨⟨rfl, rfl⟩, Nat.le_of_ble_eq_true rfl, Nat.le_of_ble_eq_true rfl⟩ hK hG hA hP hD hS (is := [1]) (sel := [none, some 0, none, none, none, none, none, none, none, none]) (ws2 := [(a0, o4 T0), (a1, o8 z49.2 z17.2 a3 a4), (a2, o3 T2 u2_7 u2_8 a5 a7 a6 a8 a9 u2_14), (a3, ab E 900 V3), (a4, al E 23 V4), (a5, al E 5 V5), (a6, ai E 12 V6), (a7, ai E 12 V7), (a8, ai E 12 V8), (a9, ai E 12 V9)]) rfl rfl rfl rfl rfl (xrecv hK hP (q0 := 1) (ci := 8) rfl rfl) rfl hl.1 rfl (Nat.le_of_ble_eq_true rfl) dX4_takeTold_49 (fun H locs hP hD hS => ?_)
        obtain ⟨g52, hf⟩ := ck_s hf
        exact ret (z49.1, z49.2, z17.2, T2, V6, V7, V8, V9) hf (bz_n g52).1 hP hS dX4_takeTold_52
    · have hf := it_t c24 hf
      refine lv_aload_n hx hb dX4_takeTold_27 rfl (lv_at hl 1 rfl) ?_
      refine lv_iconst (v := 2) hx hb dX4_takeTold_28 rfl ?_
      obtain ⟨z29, hz29, hf⟩ := bind_s hf
      refine xV_iu hx hb hml hown htg L4_60 (c_X8_blame l E a1 hz29 _) ⟨⟨rfl, rfl⟩, Nat.le_of_ble_eq_true rfl, Nat.le_of_ble_eq_true rfl⟩ hK hG hA hP hD hS (is := [1]) (sel := [none, some 0, none, none, none, none, none, none, none, none]) (ws2 := [(a0, o4 T0), (a1, o8 z29.2 z17.2 a3 a4), (a2, o3 T2 u2_7 u2_8 a5 a7 a6 a8 a9 u2_14), (a3, ab E 900 V3), (a4, al E 23 V4), (a5, al E 5 V5), (a6, ai E 12 V6), (a7, ai E 12 V7), (a8, ai E 12 V8), (a9, ai E 12 V9)]) rfl rfl rfl rfl rfl (xrecv hK hP (q0 := 1) (ci := 8) rfl rfl) rfl hl.1 rfl (Nat.le_of_ble_eq_true rfl) dX4_takeTold_29 (fun H locs hP hD hS => ?_)
      obtain ⟨g32, hf⟩ := ck_s hf
      exact ret (z29.1, z29.2, z17.2, T2, V6, V7, V8, V9) hf (bz_n g32).1 hP hS dX4_takeTold_32
  · have hf := it_f c6 hf
    refine lv_aload_n hx hb dX4_takeTold_9 rfl (lv_at hl 1 rfl) ?_
    refine lv_bipush (v := 6) hx hb dX4_takeTold_10 rfl ?_
    obtain ⟨z12, hz12, hf⟩ := bind_s hf
    refine xV_iu hx hb hml hown htg L4_60 (c_X8_blame l E a1 hz12 _) ⟨⟨rfl, rfl⟩, Nat.le_of_ble_eq_true rfl, Nat.le_of_ble_eq_true rfl⟩ hK hG hA hP hD hS (is := [1]) (sel := [none, some 0, none, none, none, none, none, none, none, none]) (ws2 := [(a0, o4 T0), (a1, o8 z12.2 J1_8 a3 a4), (a2, o3 T2 u2_7 u2_8 a5 a7 a6 a8 a9 u2_14), (a3, ab E 900 V3), (a4, al E 23 V4), (a5, al E 5 V5), (a6, ai E 12 V6), (a7, ai E 12 V7), (a8, ai E 12 V8), (a9, ai E 12 V9)]) rfl rfl rfl rfl rfl (xrecv hK hP (q0 := 1) (ci := 8) rfl rfl) rfl hl.1 rfl (Nat.le_of_ble_eq_true rfl) dX4_takeTold_12 (fun H locs hP hD hS => ?_)
    obtain ⟨g15, hf⟩ := ck_s hf
    exact ret (z12.1, z12.2, J1_8, T2, V6, V7, V8, V9) hf (bz_n g15).1 hP hS dX4_takeTold_15
