theorem dX4_takeOdds_0 : decode cX4_takeOdds 0 = .ok (.aload_n 0, 1) := by decide +kernel
theorem dX4_takeOdds_1 : decode cX4_takeOdds 1 = .ok (.getfield 20, 3) := by decide +kernel
theorem dX4_takeOdds_4 : decode cX4_takeOdds 4 = .ok (.ifCond .eq 9, 3) := by decide +kernel
theorem dX4_takeOdds_7 : decode cX4_takeOdds 7 = .ok (.aload_n 1, 1) := by decide +kernel
theorem dX4_takeOdds_8 : decode cX4_takeOdds 8 = .ok (.iconst 5, 1) := by decide +kernel
theorem dX4_takeOdds_9 : decode cX4_takeOdds 9 = .ok (.invokevirtual 64, 3) := by decide +kernel
theorem dX4_takeOdds_12 : decode cX4_takeOdds 12 = .ok (.ireturn, 1) := by decide +kernel
theorem dX4_takeOdds_13 : decode cX4_takeOdds 13 = .ok (.aload_n 1, 1) := by decide +kernel
theorem dX4_takeOdds_14 : decode cX4_takeOdds 14 = .ok (.invokevirtual 74, 3) := by decide +kernel
theorem dX4_takeOdds_17 : decode cX4_takeOdds 17 = .ok (.aload_n 1, 1) := by decide +kernel
theorem dX4_takeOdds_18 : decode cX4_takeOdds 18 = .ok (.iconst 0, 1) := by decide +kernel
theorem dX4_takeOdds_19 : decode cX4_takeOdds 19 = .ok (.bipush 16, 2) := by decide +kernel
theorem dX4_takeOdds_21 : decode cX4_takeOdds 21 = .ok (.invokevirtual 104, 3) := by decide +kernel
theorem dX4_takeOdds_24 : decode cX4_takeOdds 24 = .ok (.ifCond .ne 5, 3) := by decide +kernel
theorem dX4_takeOdds_27 : decode cX4_takeOdds 27 = .ok (.iconst 0, 1) := by decide +kernel
theorem dX4_takeOdds_28 : decode cX4_takeOdds 28 = .ok (.ireturn, 1) := by decide +kernel
theorem dX4_takeOdds_29 : decode cX4_takeOdds 29 = .ok (.aload_n 0, 1) := by decide +kernel
theorem dX4_takeOdds_30 : decode cX4_takeOdds 30 = .ok (.getfield 14, 3) := by decide +kernel
theorem dX4_takeOdds_33 : decode cX4_takeOdds 33 = .ok (.aload_n 1, 1) := by decide +kernel
theorem dX4_takeOdds_34 : decode cX4_takeOdds 34 = .ok (.invokevirtual 108, 3) := by decide +kernel
theorem dX4_takeOdds_37 : decode cX4_takeOdds 37 = .ok (.putfield 111, 3) := by decide +kernel
theorem dX4_takeOdds_40 : decode cX4_takeOdds 40 = .ok (.aload_n 0, 1) := by decide +kernel
theorem dX4_takeOdds_41 : decode cX4_takeOdds 41 = .ok (.iconst 1, 1) := by decide +kernel
theorem dX4_takeOdds_42 : decode cX4_takeOdds 42 = .ok (.putfield 20, 3) := by decide +kernel
theorem dX4_takeOdds_45 : decode cX4_takeOdds 45 = .ok (.aload_n 1, 1) := by decide +kernel
theorem dX4_takeOdds_46 : decode cX4_takeOdds 46 = .ok (.invokevirtual 74, 3) := by decide +kernel
theorem dX4_takeOdds_49 : decode cX4_takeOdds 49 = .ok (.iconst 1, 1) := by decide +kernel
theorem dX4_takeOdds_50 : decode cX4_takeOdds 50 = .ok (.ireturn, 1) := by decide +kernel
set_option maxRecDepth 100000 in
theorem c_X4_takeOdds (l : Launch) (E : xE) (a0 a1 a2 a3 a4 : Nat) {T0 : Nat → Int32} {T1 : Nat → Int32} {J1_8 : Int64} {V2 : Nat → Int32} {V3 : Nat → Int64} {T4 : Nat → Int32} {u4_7 u4_8 u4_9 u4_10 u4_11 u4_12 u4_13 u4_14 : Nat} {z : Int32 × (Nat → Int32) × (Nat → Int32) × Int64 × (Nat → Int32)} (hf : f_X4_takeOdds T0 T1 J1_8 V2 V3 T4 = some z) (sz : Nat) : Met l yX4_takeOdds (Cond.code yX4_takeOdds cX4_takeOdds 2 (some .boolean) :: gw) ({ frames := 2, cells := 0, slots := 0, locals := 44 }) (xPc E [.ref a0, .ref a1] [(a0, o4 T0 (.ref a4)), (a1, o8 T1 J1_8 a2 a3), (a2, ab E 900 V2), (a3, al E 23 V3), (a4, o3 T4 u4_7 u4_8 u4_9 u4_10 u4_11 u4_12 u4_13 u4_14)] sz) (xQi E z.1 [(a0, o4 T0 (.ref a4)), (a1, o8 T1 J1_8 a2 a3), (a2, ab E 900 V2), (a3, al E 23 V3), (a4, o3 T4 u4_7 u4_8 u4_9 u4_10 u4_11 u4_12 u4_13 u4_14)] [(a0, o4 z.2.1 (.ref a4)), (a1, o8 z.2.2.1 z.2.2.2.1 a2 a3), (a2, ab E 900 V2), (a3, al E 23 V3), (a4, o3 z.2.2.2.2 u4_7 u4_8 u4_9 u4_10 u4_11 u4_12 u4_13 u4_14)] sz) 0 0 (va_A [(a0, o4 T0 (.ref a4)), (a1, o8 T1 J1_8 a2 a3), (a2, ab E 900 V2), (a3, al E 23 V3), (a4, o3 T4 u4_7 u4_8 u4_9 u4_10 u4_11 u4_12 u4_13 u4_14)] sz) := by
  refine xM_i (by decide +kernel) (Nat.le_of_ble_eq_true rfl) ?_
  intro p e s m args below meth c A Q hx hb hml hown htg hK hG hA ret0 H locs ls hP hD hS hl
  have ret : ∀ (z' : Int32 × (Nat → Int32) × (Nat → Int32) × Int64 × (Nat → Int32)) {H : Heap} {locs : List Loc} {pc : Nat} {ls : Array Slot}, some z' = some z → narrow .boolean (.int z'.1) = .int z'.1 → va_P E.1 vwCl [(a0, o4 z'.2.1 (.ref a4)), (a1, o8 z'.2.2.1 z'.2.2.2.1 a2 a3), (a2, ab E 900 V2), (a3, al E 23 V3), (a4, o3 z'.2.2.2.2 u4_7 u4_8 u4_9 u4_10 u4_11 u4_12 u4_13 u4_14)] H → va_S A s.heap H locs → decode cX4_takeOdds pc = .ok (.ireturn, 1) → W p l e ({ frames := 2, cells := 0, slots := 0, locals := 44 } : Room) s m args below meth c H locs 0 0 Q (F0 m pc ls [.int z'.1]) := by
    intro z' H locs pc ls h
    cases h
    exact ret0
  replace hl : lv_has ls 2 [(0, .ref a0), (1, .ref a1)] := hl
  unfold f_X4_takeOdds at hf
  refine lv_aload_n hx hb dX4_takeOdds_0 rfl (lv_at hl 0 rfl) ?_
  refine G4_20 hx hb htg hown hK hP 0 rfl dX4_takeOdds_1 ?_
  refine lv_if_eq (tgt := 13) hx hb dX4_takeOdds_4 (by decide) (fun c4 => ?_) (fun c4 => ?_)
  · have hf := it_t c4 hf
    refine lv_aload_n hx hb dX4_takeOdds_13 rfl (lv_at hl 1 rfl) ?_
    obtain ⟨z14, hz14, hf⟩ := bind_s hf
    refine xV_vu hx hb hml hown htg L4_74 (c_X8_advance l E a1 a2 a3 hz14 _) ⟨⟨rfl, rfl⟩, Nat.le_of_ble_eq_true rfl, Nat.le_of_ble_eq_true rfl⟩ hK hG hA hP hD hS (is := [1, 2, 3]) (sel := [none, some 0, some 1, some 2, none]) (ws2 := [(a0, o4 T0 (.ref a4)), (a1, o8 z14.1 z14.2 a2 a3), (a2, ab E 900 V2), (a3, al E 23 V3), (a4, o3 T4 u4_7 u4_8 u4_9 u4_10 u4_11 u4_12 u4_13 u4_14)]) rfl rfl rfl rfl rfl (xrecv hK hP (q0 := 1) (ci := 8) rfl rfl) rfl hl.1 rfl (Nat.le_of_ble_eq_true rfl) dX4_takeOdds_14 (fun H locs hP hD hS => ?_)
    refine lv_aload_n hx hb dX4_takeOdds_17 rfl (lv_at hl 1 rfl) ?_
    refine lv_iconst (v := 0) hx hb dX4_takeOdds_18 rfl ?_
    refine lv_bipush (v := 16) hx hb dX4_takeOdds_19 rfl ?_
    obtain ⟨z21, hz21, hf⟩ := bind_s hf
    refine xV_iu hx hb hml hown htg L4_104 (c_X8_isNumber l E a1 hz21 _) ⟨⟨rfl, rfl⟩, Nat.le_of_ble_eq_true rfl, Nat.le_of_ble_eq_true rfl⟩ hK hG hA hP hD hS (is := [1]) (sel := [none, some 0, none, none, none]) (ws2 := [(a0, o4 T0 (.ref a4)), (a1, o8 z21.2 z14.2 a2 a3), (a2, ab E 900 V2), (a3, al E 23 V3), (a4, o3 T4 u4_7 u4_8 u4_9 u4_10 u4_11 u4_12 u4_13 u4_14)]) rfl rfl rfl rfl rfl (xrecv hK hP (q0 := 1) (ci := 8) rfl rfl) rfl hl.1 rfl (Nat.le_of_ble_eq_true rfl) dX4_takeOdds_21 (fun H locs hP hD hS => ?_)
    refine lv_if_ne (tgt := 29) hx hb dX4_takeOdds_24 (by decide) (fun c24 => ?_) (fun c24 => ?_)
    · have hf := it_f c24 hf
      refine lv_aload_n hx hb dX4_takeOdds_29 rfl (lv_at hl 0 rfl) ?_
      refine G4_14 hx hb htg hown hK hP 0 rfl dX4_takeOdds_30 ?_
      refine lv_aload_n hx hb dX4_takeOdds_33 rfl (lv_at hl 1 rfl) ?_
      obtain ⟨z34, hz34, hf⟩ := bind_s hf
      refine xV_ir hx hb hml hown htg L4_108 (c_X8_number l E a1 hz34 _) ⟨⟨rfl, rfl⟩, Nat.le_of_ble_eq_true rfl, Nat.le_of_ble_eq_true rfl⟩ hK hG hA hP hD hS (is := [1]) rfl rfl (xrecv hK hP (q0 := 1) (ci := 8) rfl rfl) rfl hl.1 rfl (Nat.le_of_ble_eq_true rfl) dX4_takeOdds_34 (fun H locs hP hD hS => ?_)
      refine P4_111 hx hb htg hown hK hP hD hS 4 rfl dX4_takeOdds_37 (fun H locs hP hD hS => ?_)
      refine lv_aload_n hx hb dX4_takeOdds_40 rfl (lv_at hl 0 rfl) ?_
      refine lv_iconst (v := 1) hx hb dX4_takeOdds_41 rfl ?_
      refine P4_20 hx hb htg hown hK hP hD hS 0 rfl rfl dX4_takeOdds_42 (fun H locs hP hD hS => ?_)
      refine lv_aload_n hx hb dX4_takeOdds_45 rfl (lv_at hl 1 rfl) ?_
      obtain ⟨z46, hz46, hf⟩ := bind_s hf
      refine xV_vu hx hb hml hown htg L4_74 (c_X8_advance l E a1 a2 a3 hz46 _) ⟨⟨rfl, rfl⟩, Nat.le_of_ble_eq_true rfl, Nat.le_of_ble_eq_true rfl⟩ hK hG hA hP hD hS (is := [1, 2, 3]) (sel := [none, some 0, some 1, some 2, none]) (ws2 := [(a0, o4 (upd T0 1 1) (.ref a4)), (a1, o8 z46.1 z46.2 a2 a3), (a2, ab E 900 V2), (a3, al E 23 V3), (a4, o3 (upd T4 2 z34) u4_7 u4_8 u4_9 u4_10 u4_11 u4_12 u4_13 u4_14)]) rfl rfl rfl rfl rfl (xrecv hK hP (q0 := 1) (ci := 8) rfl rfl) rfl hl.1 rfl (Nat.le_of_ble_eq_true rfl) dX4_takeOdds_46 (fun H locs hP hD hS => ?_)
      refine lv_iconst (v := 1) hx hb dX4_takeOdds_49 rfl ?_
      exact ret (1, upd T0 1 1, z46.1, z46.2, upd T4 2 z34) hf nz1 hP hS dX4_takeOdds_50
    · have hf := it_t c24 hf
      refine lv_iconst (v := 0) hx hb dX4_takeOdds_27 rfl ?_
      exact ret (0, T0, z21.2, z14.2, T4) hf nz0 hP hS dX4_takeOdds_28
  · have hf := it_f c4 hf
    refine lv_aload_n hx hb dX4_takeOdds_7 rfl (lv_at hl 1 rfl) ?_
    refine lv_iconst (v := 5) hx hb dX4_takeOdds_8 rfl ?_
    obtain ⟨z9, hz9, hf⟩ := bind_s hf
    refine xV_iu hx hb hml hown htg L4_64 (c_X8_blame l E a1 hz9 _) ⟨⟨rfl, rfl⟩, Nat.le_of_ble_eq_true rfl, Nat.le_of_ble_eq_true rfl⟩ hK hG hA hP hD hS (is := [1]) (sel := [none, some 0, none, none, none]) (ws2 := [(a0, o4 T0 (.ref a4)), (a1, o8 z9.2 J1_8 a2 a3), (a2, ab E 900 V2), (a3, al E 23 V3), (a4, o3 T4 u4_7 u4_8 u4_9 u4_10 u4_11 u4_12 u4_13 u4_14)]) rfl rfl rfl rfl rfl (xrecv hK hP (q0 := 1) (ci := 8) rfl rfl) rfl hl.1 rfl (Nat.le_of_ble_eq_true rfl) dX4_takeOdds_9 (fun H locs hP hD hS => ?_)
    obtain ⟨g12, hf⟩ := ck_s hf
    exact ret (z9.1, T0, z9.2, J1_8, T4) hf (bz_n g12).1 hP hS dX4_takeOdds_12
theorem dX4_takeHarbour_0 : decode cX4_takeHarbour 0 = .ok (.aload_n 0, 1) := by decide +kernel
theorem dX4_takeHarbour_1 : decode cX4_takeHarbour 1 = .ok (.getfield 24, 3) := by decide +kernel
theorem dX4_takeHarbour_4 : decode cX4_takeHarbour 4 = .ok (.ifCond .eq 9, 3) := by decide +kernel
theorem dX4_takeHarbour_7 : decode cX4_takeHarbour 7 = .ok (.aload_n 1, 1) := by decide +kernel
theorem dX4_takeHarbour_8 : decode cX4_takeHarbour 8 = .ok (.iconst 5, 1) := by decide +kernel
theorem dX4_takeHarbour_9 : decode cX4_takeHarbour 9 = .ok (.invokevirtual 64, 3) := by decide +kernel
theorem dX4_takeHarbour_12 : decode cX4_takeHarbour 12 = .ok (.ireturn, 1) := by decide +kernel
theorem dX4_takeHarbour_13 : decode cX4_takeHarbour 13 = .ok (.aload_n 1, 1) := by decide +kernel
theorem dX4_takeHarbour_14 : decode cX4_takeHarbour 14 = .ok (.invokevirtual 74, 3) := by decide +kernel
theorem dX4_takeHarbour_17 : decode cX4_takeHarbour 17 = .ok (.aload_n 1, 1) := by decide +kernel
theorem dX4_takeHarbour_18 : decode cX4_takeHarbour 18 = .ok (.iconst 0, 1) := by decide +kernel
theorem dX4_takeHarbour_19 : decode cX4_takeHarbour 19 = .ok (.aload_n 0, 1) := by decide +kernel
theorem dX4_takeHarbour_20 : decode cX4_takeHarbour 20 = .ok (.getfield 14, 3) := by decide +kernel
theorem dX4_takeHarbour_23 : decode cX4_takeHarbour 23 = .ok (.getfield 71, 3) := by decide +kernel
theorem dX4_takeHarbour_26 : decode cX4_takeHarbour 26 = .ok (.iconst 1, 1) := by decide +kernel
theorem dX4_takeHarbour_27 : decode cX4_takeHarbour 27 = .ok (.isub, 1) := by decide +kernel
theorem dX4_takeHarbour_28 : decode cX4_takeHarbour 28 = .ok (.invokevirtual 104, 3) := by decide +kernel
theorem dX4_takeHarbour_31 : decode cX4_takeHarbour 31 = .ok (.ifCond .ne 5, 3) := by decide +kernel
theorem dX4_takeHarbour_34 : decode cX4_takeHarbour 34 = .ok (.iconst 0, 1) := by decide +kernel
theorem dX4_takeHarbour_35 : decode cX4_takeHarbour 35 = .ok (.ireturn, 1) := by decide +kernel
theorem dX4_takeHarbour_36 : decode cX4_takeHarbour 36 = .ok (.aload_n 1, 1) := by decide +kernel
theorem dX4_takeHarbour_37 : decode cX4_takeHarbour 37 = .ok (.invokevirtual 108, 3) := by decide +kernel
theorem dX4_takeHarbour_40 : decode cX4_takeHarbour 40 = .ok (.istore_n 2, 1) := by decide +kernel
theorem dX4_takeHarbour_41 : decode cX4_takeHarbour 41 = .ok (.aload_n 1, 1) := by decide +kernel
theorem dX4_takeHarbour_42 : decode cX4_takeHarbour 42 = .ok (.invokevirtual 74, 3) := by decide +kernel
theorem dX4_takeHarbour_45 : decode cX4_takeHarbour 45 = .ok (.aload_n 1, 1) := by decide +kernel
theorem dX4_takeHarbour_46 : decode cX4_takeHarbour 46 = .ok (.iconst 0, 1) := by decide +kernel
theorem dX4_takeHarbour_47 : decode cX4_takeHarbour 47 = .ok (.aload_n 0, 1) := by decide +kernel
theorem dX4_takeHarbour_48 : decode cX4_takeHarbour 48 = .ok (.getfield 14, 3) := by decide +kernel
theorem dX4_takeHarbour_51 : decode cX4_takeHarbour 51 = .ok (.getfield 83, 3) := by decide +kernel
theorem dX4_takeHarbour_54 : decode cX4_takeHarbour 54 = .ok (.iconst 1, 1) := by decide +kernel
theorem dX4_takeHarbour_55 : decode cX4_takeHarbour 55 = .ok (.isub, 1) := by decide +kernel
theorem dX4_takeHarbour_56 : decode cX4_takeHarbour 56 = .ok (.invokevirtual 104, 3) := by decide +kernel
theorem dX4_takeHarbour_59 : decode cX4_takeHarbour 59 = .ok (.ifCond .ne 5, 3) := by decide +kernel
theorem dX4_takeHarbour_62 : decode cX4_takeHarbour 62 = .ok (.iconst 0, 1) := by decide +kernel
theorem dX4_takeHarbour_63 : decode cX4_takeHarbour 63 = .ok (.ireturn, 1) := by decide +kernel
theorem dX4_takeHarbour_64 : decode cX4_takeHarbour 64 = .ok (.aload_n 0, 1) := by decide +kernel
theorem dX4_takeHarbour_65 : decode cX4_takeHarbour 65 = .ok (.getfield 14, 3) := by decide +kernel
theorem dX4_takeHarbour_68 : decode cX4_takeHarbour 68 = .ok (.iload_n 2, 1) := by decide +kernel
theorem dX4_takeHarbour_69 : decode cX4_takeHarbour 69 = .ok (.aload_n 0, 1) := by decide +kernel
theorem dX4_takeHarbour_70 : decode cX4_takeHarbour 70 = .ok (.getfield 14, 3) := by decide +kernel
theorem dX4_takeHarbour_73 : decode cX4_takeHarbour 73 = .ok (.getfield 83, 3) := by decide +kernel
theorem dX4_takeHarbour_76 : decode cX4_takeHarbour 76 = .ok (.imul, 1) := by decide +kernel
theorem dX4_takeHarbour_77 : decode cX4_takeHarbour 77 = .ok (.aload_n 1, 1) := by decide +kernel
theorem dX4_takeHarbour_78 : decode cX4_takeHarbour 78 = .ok (.invokevirtual 108, 3) := by decide +kernel
theorem dX4_takeHarbour_81 : decode cX4_takeHarbour 81 = .ok (.iadd, 1) := by decide +kernel
theorem dX4_takeHarbour_82 : decode cX4_takeHarbour 82 = .ok (.putfield 114, 3) := by decide +kernel
theorem dX4_takeHarbour_85 : decode cX4_takeHarbour 85 = .ok (.aload_n 0, 1) := by decide +kernel
theorem dX4_takeHarbour_86 : decode cX4_takeHarbour 86 = .ok (.iconst 1, 1) := by decide +kernel
theorem dX4_takeHarbour_87 : decode cX4_takeHarbour 87 = .ok (.putfield 24, 3) := by decide +kernel
theorem dX4_takeHarbour_90 : decode cX4_takeHarbour 90 = .ok (.aload_n 1, 1) := by decide +kernel
theorem dX4_takeHarbour_91 : decode cX4_takeHarbour 91 = .ok (.invokevirtual 74, 3) := by decide +kernel
theorem dX4_takeHarbour_94 : decode cX4_takeHarbour 94 = .ok (.iconst 1, 1) := by decide +kernel
theorem dX4_takeHarbour_95 : decode cX4_takeHarbour 95 = .ok (.ireturn, 1) := by decide +kernel
set_option maxRecDepth 100000 in
theorem c_X4_takeHarbour (l : Launch) (E : xE) (a0 a1 a2 a3 a4 : Nat) {T0 : Nat → Int32} {T1 : Nat → Int32} {J1_8 : Int64} {V2 : Nat → Int32} {V3 : Nat → Int64} {T4 : Nat → Int32} {u4_7 u4_8 u4_9 u4_10 u4_11 u4_12 u4_13 u4_14 : Nat} {z : Int32 × (Nat → Int32) × (Nat → Int32) × Int64 × (Nat → Int32)} (hf : f_X4_takeHarbour T0 T1 J1_8 V2 V3 T4 = some z) (sz : Nat) : Met l yX4_takeHarbour (Cond.code yX4_takeHarbour cX4_takeHarbour 3 (some .boolean) :: gw) ({ frames := 2, cells := 0, slots := 0, locals := 44 }) (xPc E [.ref a0, .ref a1] [(a0, o4 T0 (.ref a4)), (a1, o8 T1 J1_8 a2 a3), (a2, ab E 900 V2), (a3, al E 23 V3), (a4, o3 T4 u4_7 u4_8 u4_9 u4_10 u4_11 u4_12 u4_13 u4_14)] sz) (xQi E z.1 [(a0, o4 T0 (.ref a4)), (a1, o8 T1 J1_8 a2 a3), (a2, ab E 900 V2), (a3, al E 23 V3), (a4, o3 T4 u4_7 u4_8 u4_9 u4_10 u4_11 u4_12 u4_13 u4_14)] [(a0, o4 z.2.1 (.ref a4)), (a1, o8 z.2.2.1 z.2.2.2.1 a2 a3), (a2, ab E 900 V2), (a3, al E 23 V3), (a4, o3 z.2.2.2.2 u4_7 u4_8 u4_9 u4_10 u4_11 u4_12 u4_13 u4_14)] sz) 0 0 (va_A [(a0, o4 T0 (.ref a4)), (a1, o8 T1 J1_8 a2 a3), (a2, ab E 900 V2), (a3, al E 23 V3), (a4, o3 T4 u4_7 u4_8 u4_9 u4_10 u4_11 u4_12 u4_13 u4_14)] sz) := by
  refine xM_i (by decide +kernel) (Nat.le_of_ble_eq_true rfl) ?_
  intro p e s m args below meth c A Q hx hb hml hown htg hK hG hA ret0 H locs ls hP hD hS hl
  have ret : ∀ (z' : Int32 × (Nat → Int32) × (Nat → Int32) × Int64 × (Nat → Int32)) {H : Heap} {locs : List Loc} {pc : Nat} {ls : Array Slot}, some z' = some z → narrow .boolean (.int z'.1) = .int z'.1 → va_P E.1 vwCl [(a0, o4 z'.2.1 (.ref a4)), (a1, o8 z'.2.2.1 z'.2.2.2.1 a2 a3), (a2, ab E 900 V2), (a3, al E 23 V3), (a4, o3 z'.2.2.2.2 u4_7 u4_8 u4_9 u4_10 u4_11 u4_12 u4_13 u4_14)] H → va_S A s.heap H locs → decode cX4_takeHarbour pc = .ok (.ireturn, 1) → W p l e ({ frames := 2, cells := 0, slots := 0, locals := 44 } : Room) s m args below meth c H locs 0 0 Q (F0 m pc ls [.int z'.1]) := by
    intro z' H locs pc ls h
    cases h
    exact ret0
  replace hl : lv_has ls 3 [(0, .ref a0), (1, .ref a1)] := hl
  unfold f_X4_takeHarbour at hf
  refine lv_aload_n hx hb dX4_takeHarbour_0 rfl (lv_at hl 0 rfl) ?_
  refine G4_24 hx hb htg hown hK hP 0 rfl dX4_takeHarbour_1 ?_
  refine lv_if_eq (tgt := 13) hx hb dX4_takeHarbour_4 (by decide) (fun c4 => ?_) (fun c4 => ?_)
  · have hf := it_t c4 hf
    refine lv_aload_n hx hb dX4_takeHarbour_13 rfl (lv_at hl 1 rfl) ?_
    obtain ⟨z14, hz14, hf⟩ := bind_s hf
    refine xV_vu hx hb hml hown htg L4_74 (c_X8_advance l E a1 a2 a3 hz14 _) ⟨⟨rfl, rfl⟩, Nat.le_of_ble_eq_true rfl, Nat.le_of_ble_eq_true rfl⟩ hK hG hA hP hD hS (is := [1, 2, 3]) (sel := [none, some 0, some 1, some 2, none]) (ws2 := [(a0, o4 T0 (.ref a4)), (a1, o8 z14.1 z14.2 a2 a3), (a2, ab E 900 V2), (a3, al E 23 V3), (a4, o3 T4 u4_7 u4_8 u4_9 u4_10 u4_11 u4_12 u4_13 u4_14)]) rfl rfl rfl rfl rfl (xrecv hK hP (q0 := 1) (ci := 8) rfl rfl) rfl hl.1 rfl (Nat.le_of_ble_eq_true rfl) dX4_takeHarbour_14 (fun H locs hP hD hS => ?_)
    refine lv_aload_n hx hb dX4_takeHarbour_17 rfl (lv_at hl 1 rfl) ?_
    refine lv_iconst (v := 0) hx hb dX4_takeHarbour_18 rfl ?_
    refine lv_aload_n hx hb dX4_takeHarbour_19 rfl (lv_at hl 0 rfl) ?_
    refine G4_14 hx hb htg hown hK hP 0 rfl dX4_takeHarbour_20 ?_
    refine G4_71 hx hb htg hown hK hP 4 rfl dX4_takeHarbour_23 ?_
    refine lv_iconst (v := 1) hx hb dX4_takeHarbour_26 rfl ?_
    refine lv_isub hx hb dX4_takeHarbour_27 ?_
    obtain ⟨z28, hz28, hf⟩ := bind_s hf
    refine xV_iu hx hb hml hown htg L4_104 (c_X8_isNumber l E a1 hz28 _) ⟨⟨rfl, rfl⟩, Nat.le_of_ble_eq_true rfl, Nat.le_of_ble_eq_true rfl⟩ hK hG hA hP hD hS (is := [1]) (sel := [none, some 0, none, none, none]) (ws2 := [(a0, o4 T0 (.ref a4)), (a1, o8 z28.2 z14.2 a2 a3), (a2, ab E 900 V2), (a3, al E 23 V3), (a4, o3 T4 u4_7 u4_8 u4_9 u4_10 u4_11 u4_12 u4_13 u4_14)]) rfl rfl rfl rfl rfl (xrecv hK hP (q0 := 1) (ci := 8) rfl rfl) rfl hl.1 rfl (Nat.le_of_ble_eq_true rfl) dX4_takeHarbour_28 (fun H locs hP hD hS => ?_)
    refine lv_if_ne (tgt := 36) hx hb dX4_takeHarbour_31 (by decide) (fun c31 => ?_) (fun c31 => ?_)
    · have hf := it_f c31 hf
      refine lv_aload_n hx hb dX4_takeHarbour_36 rfl (lv_at hl 1 rfl) ?_
      obtain ⟨z37, hz37, hf⟩ := bind_s hf
      refine xV_ir hx hb hml hown htg L4_108 (c_X8_number l E a1 hz37 _) ⟨⟨rfl, rfl⟩, Nat.le_of_ble_eq_true rfl, Nat.le_of_ble_eq_true rfl⟩ hK hG hA hP hD hS (is := [1]) rfl rfl (xrecv hK hP (q0 := 1) (ci := 8) rfl rfl) rfl hl.1 rfl (Nat.le_of_ble_eq_true rfl) dX4_takeHarbour_37 (fun H locs hP hD hS => ?_)
      refine lv_istore_n (lv' := [(2, .int z37), (0, .ref a0), (1, .ref a1)]) hx hb dX4_takeHarbour_40 rfl hl (by decide) rfl (fun ls hl => ?_)
      refine lv_aload_n hx hb dX4_takeHarbour_41 rfl (lv_at hl 2 rfl) ?_
      obtain ⟨z42, hz42, hf⟩ := bind_s hf
      refine xV_vu hx hb hml hown htg L4_74 (c_X8_advance l E a1 a2 a3 hz42 _) ⟨⟨rfl, rfl⟩, Nat.le_of_ble_eq_true rfl, Nat.le_of_ble_eq_true rfl⟩ hK hG hA hP hD hS (is := [1, 2, 3]) (sel := [none, some 0, some 1, some 2, none]) (ws2 := [(a0, o4 T0 (.ref a4)), (a1, o8 z42.1 z42.2 a2 a3), (a2, ab E 900 V2), (a3, al E 23 V3), (a4, o3 T4 u4_7 u4_8 u4_9 u4_10 u4_11 u4_12 u4_13 u4_14)]) rfl rfl rfl rfl rfl (xrecv hK hP (q0 := 1) (ci := 8) rfl rfl) rfl hl.1 rfl (Nat.le_of_ble_eq_true rfl) dX4_takeHarbour_42 (fun H locs hP hD hS => ?_)
      refine lv_aload_n hx hb dX4_takeHarbour_45 rfl (lv_at hl 2 rfl) ?_
      refine lv_iconst (v := 0) hx hb dX4_takeHarbour_46 rfl ?_
      refine lv_aload_n hx hb dX4_takeHarbour_47 rfl (lv_at hl 1 rfl) ?_
      refine G4_14 hx hb htg hown hK hP 0 rfl dX4_takeHarbour_48 ?_
      refine G4_83 hx hb htg hown hK hP 4 rfl dX4_takeHarbour_51 ?_
      refine lv_iconst (v := 1) hx hb dX4_takeHarbour_54 rfl ?_
      refine lv_isub hx hb dX4_takeHarbour_55 ?_
      obtain ⟨z56, hz56, hf⟩ := bind_s hf
      refine xV_iu hx hb hml hown htg L4_104 (c_X8_isNumber l E a1 hz56 _) ⟨⟨rfl, rfl⟩, Nat.le_of_ble_eq_true rfl, Nat.le_of_ble_eq_true rfl⟩ hK hG hA hP hD hS (is := [1]) (sel := [none, some 0, none, none, none]) (ws2 := [(a0, o4 T0 (.ref a4)), (a1, o8 z56.2 z42.2 a2 a3), (a2, ab E 900 V2), (a3, al E 23 V3), (a4, o3 T4 u4_7 u4_8 u4_9 u4_10 u4_11 u4_12 u4_13 u4_14)]) rfl rfl rfl rfl rfl (xrecv hK hP (q0 := 1) (ci := 8) rfl rfl) rfl hl.1 rfl (Nat.le_of_ble_eq_true rfl) dX4_takeHarbour_56 (fun H locs hP hD hS => ?_)
      refine lv_if_ne (tgt := 64) hx hb dX4_takeHarbour_59 (by decide) (fun c59 => ?_) (fun c59 => ?_)
      · have hf := it_f c59 hf
        refine lv_aload_n hx hb dX4_takeHarbour_64 rfl (lv_at hl 1 rfl) ?_
        refine G4_14 hx hb htg hown hK hP 0 rfl dX4_takeHarbour_65 ?_
        refine lv_iload_n hx hb dX4_takeHarbour_68 rfl (lv_at hl 0 rfl) ?_
        refine lv_aload_n hx hb dX4_takeHarbour_69 rfl (lv_at hl 1 rfl) ?_
        refine G4_14 hx hb htg hown hK hP 0 rfl dX4_takeHarbour_70 ?_
        refine G4_83 hx hb htg hown hK hP 4 rfl dX4_takeHarbour_73 ?_
        refine lv_imul hx hb dX4_takeHarbour_76 ?_
        refine lv_aload_n hx hb dX4_takeHarbour_77 rfl (lv_at hl 2 rfl) ?_
        obtain ⟨z78, hz78, hf⟩ := bind_s hf
        refine xV_ir hx hb hml hown htg L4_108 (c_X8_number l E a1 hz78 _) ⟨⟨rfl, rfl⟩, Nat.le_of_ble_eq_true rfl, Nat.le_of_ble_eq_true rfl⟩ hK hG hA hP hD hS (is := [1]) rfl rfl (xrecv hK hP (q0 := 1) (ci := 8) rfl rfl) rfl hl.1 rfl (Nat.le_of_ble_eq_true rfl) dX4_takeHarbour_78 (fun H locs hP hD hS => ?_)
        refine lv_iadd hx hb dX4_takeHarbour_81 ?_
        refine P4_114 hx hb htg hown hK hP hD hS 4 rfl dX4_takeHarbour_82 (fun H locs hP hD hS => ?_)
        refine lv_aload_n hx hb dX4_takeHarbour_85 rfl (lv_at hl 1 rfl) ?_
        refine lv_iconst (v := 1) hx hb dX4_takeHarbour_86 rfl ?_
        refine P4_24 hx hb htg hown hK hP hD hS 0 rfl rfl dX4_takeHarbour_87 (fun H locs hP hD hS => ?_)
        refine lv_aload_n hx hb dX4_takeHarbour_90 rfl (lv_at hl 2 rfl) ?_
        obtain ⟨z91, hz91, hf⟩ := bind_s hf
        refine xV_vu hx hb hml hown htg L4_74 (c_X8_advance l E a1 a2 a3 hz91 _) ⟨⟨rfl, rfl⟩, Nat.le_of_ble_eq_true rfl, Nat.le_of_ble_eq_true rfl⟩ hK hG hA hP hD hS (is := [1, 2, 3]) (sel := [none, some 0, some 1, some 2, none]) (ws2 := [(a0, o4 (upd T0 2 1) (.ref a4)), (a1, o8 z91.1 z91.2 a2 a3), (a2, ab E 900 V2), (a3, al E 23 V3), (a4, o3 (upd T4 3 ((z37 * (T4 1)) + z78)) u4_7 u4_8 u4_9 u4_10 u4_11 u4_12 u4_13 u4_14)]) rfl rfl rfl rfl rfl (xrecv hK hP (q0 := 1) (ci := 8) rfl rfl) rfl hl.1 rfl (Nat.le_of_ble_eq_true rfl) dX4_takeHarbour_91 (fun H locs hP hD hS => ?_)
        refine lv_iconst (v := 1) hx hb dX4_takeHarbour_94 rfl ?_
        exact ret (1, upd T0 2 1, z91.1, z91.2, upd T4 3 ((z37 * (T4 1)) + z78)) hf nz1 hP hS dX4_takeHarbour_95
      · have hf := it_t c59 hf
        refine lv_iconst (v := 0) hx hb dX4_takeHarbour_62 rfl ?_
        exact ret (0, T0, z56.2, z42.2, T4) hf nz0 hP hS dX4_takeHarbour_63
    · have hf := it_t c31 hf
      refine lv_iconst (v := 0) hx hb dX4_takeHarbour_34 rfl ?_
      exact ret (0, T0, z28.2, z14.2, T4) hf nz0 hP hS dX4_takeHarbour_35
  · have hf := it_f c4 hf
    refine lv_aload_n hx hb dX4_takeHarbour_7 rfl (lv_at hl 1 rfl) ?_
    refine lv_iconst (v := 5) hx hb dX4_takeHarbour_8 rfl ?_
    obtain ⟨z9, hz9, hf⟩ := bind_s hf
    refine xV_iu hx hb hml hown htg L4_64 (c_X8_blame l E a1 hz9 _) ⟨⟨rfl, rfl⟩, Nat.le_of_ble_eq_true rfl, Nat.le_of_ble_eq_true rfl⟩ hK hG hA hP hD hS (is := [1]) (sel := [none, some 0, none, none, none]) (ws2 := [(a0, o4 T0 (.ref a4)), (a1, o8 z9.2 J1_8 a2 a3), (a2, ab E 900 V2), (a3, al E 23 V3), (a4, o3 T4 u4_7 u4_8 u4_9 u4_10 u4_11 u4_12 u4_13 u4_14)]) rfl rfl rfl rfl rfl (xrecv hK hP (q0 := 1) (ci := 8) rfl rfl) rfl hl.1 rfl (Nat.le_of_ble_eq_true rfl) dX4_takeHarbour_9 (fun H locs hP hD hS => ?_)
    obtain ⟨g12, hf⟩ := ck_s hf
    exact ret (z9.1, T0, z9.2, J1_8, T4) hf (bz_n g12).1 hP hS dX4_takeHarbour_12
theorem dX4_takeTraveller_0 : decode cX4_takeTraveller 0 = .ok (.aload_n 0, 1) := by decide +kernel
theorem dX4_takeTraveller_1 : decode cX4_takeTraveller 1 = .ok (.getfield 14, 3) := by decide +kernel
theorem dX4_takeTraveller_4 : decode cX4_takeTraveller 4 = .ok (.getfield 117, 3) := by decide +kernel
theorem dX4_takeTraveller_7 : decode cX4_takeTraveller 7 = .ok (.iconst 5, 1) := by decide +kernel
theorem dX4_takeTraveller_8 : decode cX4_takeTraveller 8 = .ok (.if_icmp .lt 10, 3) := by decide +kernel
theorem dX4_takeTraveller_11 : decode cX4_takeTraveller 11 = .ok (.aload_n 1, 1) := by decide +kernel
theorem dX4_takeTraveller_12 : decode cX4_takeTraveller 12 = .ok (.bipush 6, 2) := by decide +kernel
theorem dX4_takeTraveller_14 : decode cX4_takeTraveller 14 = .ok (.invokevirtual 64, 3) := by decide +kernel
theorem dX4_takeTraveller_17 : decode cX4_takeTraveller 17 = .ok (.ireturn, 1) := by decide +kernel
theorem dX4_takeTraveller_18 : decode cX4_takeTraveller 18 = .ok (.aload_n 1, 1) := by decide +kernel
theorem dX4_takeTraveller_19 : decode cX4_takeTraveller 19 = .ok (.invokevirtual 74, 3) := by decide +kernel
theorem dX4_takeTraveller_22 : decode cX4_takeTraveller 22 = .ok (.aload_n 1, 1) := by decide +kernel
theorem dX4_takeTraveller_23 : decode cX4_takeTraveller 23 = .ok (.invokevirtual 120, 3) := by decide +kernel
theorem dX4_takeTraveller_26 : decode cX4_takeTraveller 26 = .ok (.ifCond .ne 9, 3) := by decide +kernel
theorem dX4_takeTraveller_29 : decode cX4_takeTraveller 29 = .ok (.aload_n 1, 1) := by decide +kernel
theorem dX4_takeTraveller_30 : decode cX4_takeTraveller 30 = .ok (.iconst 2, 1) := by decide +kernel
theorem dX4_takeTraveller_31 : decode cX4_takeTraveller 31 = .ok (.invokevirtual 64, 3) := by decide +kernel
theorem dX4_takeTraveller_34 : decode cX4_takeTraveller 34 = .ok (.ireturn, 1) := by decide +kernel
theorem dX4_takeTraveller_35 : decode cX4_takeTraveller 35 = .ok (.aload_n 1, 1) := by decide +kernel
theorem dX4_takeTraveller_36 : decode cX4_takeTraveller 36 = .ok (.invokevirtual 123, 3) := by decide +kernel
theorem dX4_takeTraveller_39 : decode cX4_takeTraveller 39 = .ok (.lstore_n 2, 1) := by decide +kernel
theorem dX4_takeTraveller_40 : decode cX4_takeTraveller 40 = .ok (.aload_n 0, 1) := by decide +kernel
theorem dX4_takeTraveller_41 : decode cX4_takeTraveller 41 = .ok (.getfield 14, 3) := by decide +kernel
theorem dX4_takeTraveller_44 : decode cX4_takeTraveller 44 = .ok (.lload_n 2, 1) := by decide +kernel
theorem dX4_takeTraveller_45 : decode cX4_takeTraveller 45 = .ok (.invokevirtual 127, 3) := by decide +kernel
theorem dX4_takeTraveller_48 : decode cX4_takeTraveller 48 = .ok (.iconst (-1), 1) := by decide +kernel
theorem dX4_takeTraveller_49 : decode cX4_takeTraveller 49 = .ok (.if_icmp .eq 9, 3) := by decide +kernel
theorem dX4_takeTraveller_52 : decode cX4_takeTraveller 52 = .ok (.aload_n 1, 1) := by decide +kernel
theorem dX4_takeTraveller_53 : decode cX4_takeTraveller 53 = .ok (.iconst 3, 1) := by decide +kernel
theorem dX4_takeTraveller_54 : decode cX4_takeTraveller 54 = .ok (.invokevirtual 64, 3) := by decide +kernel
theorem dX4_takeTraveller_57 : decode cX4_takeTraveller 57 = .ok (.ireturn, 1) := by decide +kernel
theorem dX4_takeTraveller_58 : decode cX4_takeTraveller 58 = .ok (.aload_n 1, 1) := by decide +kernel
theorem dX4_takeTraveller_59 : decode cX4_takeTraveller 59 = .ok (.invokevirtual 74, 3) := by decide +kernel
theorem dX4_takeTraveller_62 : decode cX4_takeTraveller 62 = .ok (.iconst 0, 1) := by decide +kernel
theorem dX4_takeTraveller_63 : decode cX4_takeTraveller 63 = .ok (.istore 4, 2) := by decide +kernel
theorem dX4_takeTraveller_65 : decode cX4_takeTraveller 65 = .ok (.aload_n 1, 1) := by decide +kernel
theorem dX4_takeTraveller_66 : decode cX4_takeTraveller 66 = .ok (.iconst 4, 1) := by decide +kernel
theorem dX4_takeTraveller_67 : decode cX4_takeTraveller 67 = .ok (.invokevirtual 131, 3) := by decide +kernel
theorem dX4_takeTraveller_70 : decode cX4_takeTraveller 70 = .ok (.ifCond .eq 29, 3) := by decide +kernel
theorem dX4_takeTraveller_73 : decode cX4_takeTraveller 73 = .ok (.aload_n 1, 1) := by decide +kernel
theorem dX4_takeTraveller_74 : decode cX4_takeTraveller 74 = .ok (.invokevirtual 74, 3) := by decide +kernel
theorem dX4_takeTraveller_77 : decode cX4_takeTraveller 77 = .ok (.aload_n 1, 1) := by decide +kernel
theorem dX4_takeTraveller_78 : decode cX4_takeTraveller 78 = .ok (.iconst 0, 1) := by decide +kernel
theorem dX4_takeTraveller_79 : decode cX4_takeTraveller 79 = .ok (.bipush 16, 2) := by decide +kernel
theorem dX4_takeTraveller_81 : decode cX4_takeTraveller 81 = .ok (.invokevirtual 104, 3) := by decide +kernel
theorem dX4_takeTraveller_84 : decode cX4_takeTraveller 84 = .ok (.ifCond .ne 5, 3) := by decide +kernel
theorem dX4_takeTraveller_87 : decode cX4_takeTraveller 87 = .ok (.iconst 0, 1) := by decide +kernel
theorem dX4_takeTraveller_88 : decode cX4_takeTraveller 88 = .ok (.ireturn, 1) := by decide +kernel
theorem dX4_takeTraveller_89 : decode cX4_takeTraveller 89 = .ok (.aload_n 1, 1) := by decide +kernel
theorem dX4_takeTraveller_90 : decode cX4_takeTraveller 90 = .ok (.invokevirtual 108, 3) := by decide +kernel
theorem dX4_takeTraveller_93 : decode cX4_takeTraveller 93 = .ok (.istore 4, 2) := by decide +kernel
theorem dX4_takeTraveller_95 : decode cX4_takeTraveller 95 = .ok (.aload_n 1, 1) := by decide +kernel
theorem dX4_takeTraveller_96 : decode cX4_takeTraveller 96 = .ok (.invokevirtual 74, 3) := by decide +kernel
theorem dX4_takeTraveller_99 : decode cX4_takeTraveller 99 = .ok (.aload_n 1, 1) := by decide +kernel
theorem dX4_takeTraveller_100 : decode cX4_takeTraveller 100 = .ok (.iconst 5, 1) := by decide +kernel
theorem dX4_takeTraveller_101 : decode cX4_takeTraveller 101 = .ok (.invokevirtual 131, 3) := by decide +kernel
theorem dX4_takeTraveller_104 : decode cX4_takeTraveller 104 = .ok (.istore 5, 2) := by decide +kernel
theorem dX4_takeTraveller_106 : decode cX4_takeTraveller 106 = .ok (.iload 5, 2) := by decide +kernel
theorem dX4_takeTraveller_108 : decode cX4_takeTraveller 108 = .ok (.ifCond .eq 7, 3) := by decide +kernel
theorem dX4_takeTraveller_111 : decode cX4_takeTraveller 111 = .ok (.aload_n 1, 1) := by decide +kernel
theorem dX4_takeTraveller_112 : decode cX4_takeTraveller 112 = .ok (.invokevirtual 74, 3) := by decide +kernel
theorem dX4_takeTraveller_115 : decode cX4_takeTraveller 115 = .ok (.aload_n 0, 1) := by decide +kernel
theorem dX4_takeTraveller_116 : decode cX4_takeTraveller 116 = .ok (.getfield 14, 3) := by decide +kernel
theorem dX4_takeTraveller_119 : decode cX4_takeTraveller 119 = .ok (.lload_n 2, 1) := by decide +kernel
theorem dX4_takeTraveller_120 : decode cX4_takeTraveller 120 = .ok (.iload 4, 2) := by decide +kernel
theorem dX4_takeTraveller_122 : decode cX4_takeTraveller 122 = .ok (.iload 5, 2) := by decide +kernel
theorem dX4_takeTraveller_124 : decode cX4_takeTraveller 124 = .ok (.invokevirtual 134, 3) := by decide +kernel
theorem dX4_takeTraveller_127 : decode cX4_takeTraveller 127 = .ok (.ireturn, 1) := by decide +kernel
set_option maxRecDepth 100000 in
theorem c_X4_takeTraveller (l : Launch) (E : xE) (a0 a1 a2 a3 a4 a5 a6 : Nat) {T0 : Nat → Int32} {T1 : Nat → Int32} {J1_8 : Int64} {T2 : Nat → Int32} {V3 : Nat → Int32} {V4 : Nat → Int64} {V5 : Nat → Int64} {V6 : Nat → Int32} {u2_7 u2_10 u2_11 u2_12 u2_13 u2_14 : Nat} {z : Int32 × (Nat → Int32) × Int64 × (Nat → Int32) × (Nat → Int64) × (Nat → Int32)} (hf : f_X4_takeTraveller T1 J1_8 T2 V3 V4 V5 V6 = some z) (sz : Nat) : Met l yX4_takeTraveller (Cond.code yX4_takeTraveller cX4_takeTraveller 6 (some .boolean) :: gw) ({ frames := 2, cells := 0, slots := 0, locals := 44 }) (xPc E [.ref a0, .ref a1] [(a0, o4 T0 (.ref a2)), (a1, o8 T1 J1_8 a3 a4), (a2, o3 T2 u2_7 a6 a5 u2_10 u2_11 u2_12 u2_13 u2_14), (a3, ab E 900 V3), (a4, al E 23 V4), (a5, al E 5 V5), (a6, ai E 5 V6)] sz) (xQi E z.1 [(a0, o4 T0 (.ref a2)), (a1, o8 T1 J1_8 a3 a4), (a2, o3 T2 u2_7 a6 a5 u2_10 u2_11 u2_12 u2_13 u2_14), (a3, ab E 900 V3), (a4, al E 23 V4), (a5, al E 5 V5), (a6, ai E 5 V6)] [(a0, o4 T0 (.ref a2)), (a1, o8 z.2.1 z.2.2.1 a3 a4), (a2, o3 z.2.2.2.1 u2_7 a6 a5 u2_10 u2_11 u2_12 u2_13 u2_14), (a3, ab E 900 V3), (a4, al E 23 V4), (a5, al E 5 z.2.2.2.2.1), (a6, ai E 5 z.2.2.2.2.2)] sz) 0 0 (va_A [(a0, o4 T0 (.ref a2)), (a1, o8 T1 J1_8 a3 a4), (a2, o3 T2 u2_7 a6 a5 u2_10 u2_11 u2_12 u2_13 u2_14), (a3, ab E 900 V3), (a4, al E 23 V4), (a5, al E 5 V5), (a6, ai E 5 V6)] sz) := by
  refine xM_i (by decide +kernel) (Nat.le_of_ble_eq_true rfl) ?_
  intro p e s m args below meth c A Q hx hb hml hown htg hK hG hA ret0 H locs ls hP hD hS hl
  have ret : ∀ (z' : Int32 × (Nat → Int32) × Int64 × (Nat → Int32) × (Nat → Int64) × (Nat → Int32)) {H : Heap} {locs : List Loc} {pc : Nat} {ls : Array Slot}, some z' = some z → narrow .boolean (.int z'.1) = .int z'.1 → va_P E.1 vwCl [(a0, o4 T0 (.ref a2)), (a1, o8 z'.2.1 z'.2.2.1 a3 a4), (a2, o3 z'.2.2.2.1 u2_7 a6 a5 u2_10 u2_11 u2_12 u2_13 u2_14), (a3, ab E 900 V3), (a4, al E 23 V4), (a5, al E 5 z'.2.2.2.2.1), (a6, ai E 5 z'.2.2.2.2.2)] H → va_S A s.heap H locs → decode cX4_takeTraveller pc = .ok (.ireturn, 1) → W p l e ({ frames := 2, cells := 0, slots := 0, locals := 44 } : Room) s m args below meth c H locs 0 0 Q (F0 m pc ls [.int z'.1]) := by
    intro z' H locs pc ls h
    cases h
    exact ret0
  replace hl : lv_has ls 6 [(0, .ref a0), (1, .ref a1)] := hl
  have b115 : ∀ (x2 : Int64) (x4 : Int32) (x5 : Int32) (T1 : Nat → Int32) (J1_8 : Int64) (T2 : Nat → Int32) (V5 : Nat → Int64) (V6 : Nat → Int32) (H : Heap) (locs : List Loc) (ls : Array Slot), f_X4_takeTraveller_115 V3 V4 x2 x4 x5 T1 J1_8 T2 V5 V6 = some z → va_P E.1 vwCl [(a0, o4 T0 (.ref a2)), (a1, o8 T1 J1_8 a3 a4), (a2, o3 T2 u2_7 a6 a5 u2_10 u2_11 u2_12 u2_13 u2_14), (a3, ab E 900 V3), (a4, al E 23 V4), (a5, al E 5 V5), (a6, ai E 5 V6)] H → va_D A [(a0, o4 T0 (.ref a2)), (a1, o8 T1 J1_8 a3 a4), (a2, o3 T2 u2_7 a6 a5 u2_10 u2_11 u2_12 u2_13 u2_14), (a3, ab E 900 V3), (a4, al E 23 V4), (a5, al E 5 V5), (a6, ai E 5 V6)] → va_S A s.heap H locs → lv_has ls 6 [(0, .ref a0), (2, .long x2), (4, .int x4), (5, .int x5)] → W p l e ({ frames := 2, cells := 0, slots := 0, locals := 44 } : Room) s m args below meth c H locs 0 0 Q (F0 m 115 ls []) := by
    intro x2 x4 x5 T1 J1_8 T2 V5 V6 H locs ls hf hP hD hS hl
    unfold f_X4_takeTraveller_115 at hf
    refine lv_aload_n hx hb dX4_takeTraveller_115 rfl (lv_at hl 0 rfl) ?_
    refine G4_14 hx hb htg hown hK hP 0 rfl dX4_takeTraveller_116 ?_
    refine lv_lload_n hx hb dX4_takeTraveller_119 rfl (lv_at hl 1 rfl) ?_
    refine lv_iload hx hb dX4_takeTraveller_120 (lv_at hl 2 rfl) ?_
    refine lv_iload hx hb dX4_takeTraveller_122 (lv_at hl 3 rfl) ?_
    obtain ⟨z124, hz124, hf⟩ := bind_s hf
    refine xV_iu hx hb hml hown htg L4_134 (c_X3_addTraveller l E a2 a5 a6 hz124 _) ⟨⟨rfl, rfl⟩, Nat.le_of_ble_eq_true rfl, Nat.le_of_ble_eq_true rfl⟩ hK hG hA hP hD hS (is := [2, 5, 6]) (sel := [none, none, some 0, none, none, some 1, some 2]) (ws2 := [(a0, o4 T0 (.ref a2)), (a1, o8 T1 J1_8 a3 a4), (a2, o3 z124.2.1 u2_7 a6 a5 u2_10 u2_11 u2_12 u2_13 u2_14), (a3, ab E 900 V3), (a4, al E 23 V4), (a5, al E 5 z124.2.2.1), (a6, ai E 5 z124.2.2.2)]) rfl rfl rfl rfl rfl (xrecv hK hP (q0 := 2) (ci := 3) rfl rfl) rfl hl.1 rfl (Nat.le_of_ble_eq_true rfl) dX4_takeTraveller_124 (fun H locs hP hD hS => ?_)
    obtain ⟨g127, hf⟩ := ck_s hf
    exact ret (z124.1, T1, J1_8, z124.2.1, z124.2.2.1, z124.2.2.2) hf (bz_n g127).1 hP hS dX4_takeTraveller_127
  have b99 : ∀ (x2 : Int64) (x4 : Int32) (T1 : Nat → Int32) (J1_8 : Int64) (T2 : Nat → Int32) (V5 : Nat → Int64) (V6 : Nat → Int32) (H : Heap) (locs : List Loc) (ls : Array Slot), f_X4_takeTraveller_99 V3 V4 x2 x4 T1 J1_8 T2 V5 V6 = some z → va_P E.1 vwCl [(a0, o4 T0 (.ref a2)), (a1, o8 T1 J1_8 a3 a4), (a2, o3 T2 u2_7 a6 a5 u2_10 u2_11 u2_12 u2_13 u2_14), (a3, ab E 900 V3), (a4, al E 23 V4), (a5, al E 5 V5), (a6, ai E 5 V6)] H → va_D A [(a0, o4 T0 (.ref a2)), (a1, o8 T1 J1_8 a3 a4), (a2, o3 T2 u2_7 a6 a5 u2_10 u2_11 u2_12 u2_13 u2_14), (a3, ab E 900 V3), (a4, al E 23 V4), (a5, al E 5 V5), (a6, ai E 5 V6)] → va_S A s.heap H locs → lv_has ls 6 [(0, .ref a0), (1, .ref a1), (2, .long x2), (4, .int x4)] → W p l e ({ frames := 2, cells := 0, slots := 0, locals := 44 } : Room) s m args below meth c H locs 0 0 Q (F0 m 99 ls []) := by
    intro x2 x4 T1 J1_8 T2 V5 V6 H locs ls hf hP hD hS hl
    unfold f_X4_takeTraveller_99 at hf
    refine lv_aload_n hx hb dX4_takeTraveller_99 rfl (lv_at hl 1 rfl) ?_
    refine lv_iconst (v := 5) hx hb dX4_takeTraveller_100 rfl ?_
    obtain ⟨z101, hz101, hf⟩ := bind_s hf
    refine xV_ir hx hb hml hown htg L4_131 (c_X8_isWord l E a1 hz101 _) ⟨⟨rfl, rfl⟩, Nat.le_of_ble_eq_true rfl, Nat.le_of_ble_eq_true rfl⟩ hK hG hA hP hD hS (is := [1]) rfl rfl (xrecv hK hP (q0 := 1) (ci := 8) rfl rfl) rfl hl.1 rfl (Nat.le_of_ble_eq_true rfl) dX4_takeTraveller_101 (fun H locs hP hD hS => ?_)
    refine lv_istore (lv' := [(5, .int z101), (0, .ref a0), (1, .ref a1), (2, .long x2), (4, .int x4)]) hx hb dX4_takeTraveller_104 hl (by decide) rfl (fun ls hl => ?_)
    refine lv_iload hx hb dX4_takeTraveller_106 (lv_at hl 0 rfl) ?_
    refine lv_if_eq (tgt := 115) hx hb dX4_takeTraveller_108 (by decide) (fun c108 => ?_) (fun c108 => ?_)
    · have hf := it_t c108 hf
      exact b115 x2 x4 z101 T1 J1_8 T2 V5 V6 _ _ _ hf hP hD hS (lv_sub hl [1, 3, 4, 0] rfl)
    · have hf := it_f c108 hf
      refine lv_aload_n hx hb dX4_takeTraveller_111 rfl (lv_at hl 2 rfl) ?_
      obtain ⟨z112, hz112, hf⟩ := bind_s hf
      refine xV_vu hx hb hml hown htg L4_74 (c_X8_advance l E a1 a3 a4 hz112 _) ⟨⟨rfl, rfl⟩, Nat.le_of_ble_eq_true rfl, Nat.le_of_ble_eq_true rfl⟩ hK hG hA hP hD hS (is := [1, 3, 4]) (sel := [none, some 0, none, some 1, some 2, none, none]) (ws2 := [(a0, o4 T0 (.ref a2)), (a1, o8 z112.1 z112.2 a3 a4), (a2, o3 T2 u2_7 a6 a5 u2_10 u2_11 u2_12 u2_13 u2_14), (a3, ab E 900 V3), (a4, al E 23 V4), (a5, al E 5 V5), (a6, ai E 5 V6)]) rfl rfl rfl rfl rfl (xrecv hK hP (q0 := 1) (ci := 8) rfl rfl) rfl hl.1 rfl (Nat.le_of_ble_eq_true rfl) dX4_takeTraveller_112 (fun H locs hP hD hS => ?_)
      exact b115 x2 x4 z101 z112.1 z112.2 T2 V5 V6 _ _ _ hf hP hD hS (lv_sub hl [1, 3, 4, 0] rfl)
  unfold f_X4_takeTraveller at hf
  refine lv_aload_n hx hb dX4_takeTraveller_0 rfl (lv_at hl 0 rfl) ?_
  refine G4_14 hx hb htg hown hK hP 0 rfl dX4_takeTraveller_1 ?_
  refine G4_117 hx hb htg hown hK hP 2 rfl dX4_takeTraveller_4 ?_
  refine lv_iconst (v := 5) hx hb dX4_takeTraveller_7 rfl ?_
  refine lv_icmp_lt (tgt := 18) hx hb dX4_takeTraveller_8 (by decide) (fun c8 => ?_) (fun c8 => ?_)
  · have hf := it_t c8 hf
    refine lv_aload_n hx hb dX4_takeTraveller_18 rfl (lv_at hl 1 rfl) ?_
    obtain ⟨z19, hz19, hf⟩ := bind_s hf
    refine xV_vu hx hb hml hown htg L4_74 (c_X8_advance l E a1 a3 a4 hz19 _) ⟨⟨rfl, rfl⟩, Nat.le_of_ble_eq_true rfl, Nat.le_of_ble_eq_true rfl⟩ hK hG hA hP hD hS (is := [1, 3, 4]) (sel := [none, some 0, none, some 1, some 2, none, none]) (ws2 := [(a0, o4 T0 (.ref a2)), (a1, o8 z19.1 z19.2 a3 a4), (a2, o3 T2 u2_7 a6 a5 u2_10 u2_11 u2_12 u2_13 u2_14), (a3, ab E 900 V3), (a4, al E 23 V4), (a5, al E 5 V5), (a6, ai E 5 V6)]) rfl rfl rfl rfl rfl (xrecv hK hP (q0 := 1) (ci := 8) rfl rfl) rfl hl.1 rfl (Nat.le_of_ble_eq_true rfl) dX4_takeTraveller_19 (fun H locs hP hD hS => ?_)
    refine lv_aload_n hx hb dX4_takeTraveller_22 rfl (lv_at hl 1 rfl) ?_
    obtain ⟨z23, hz23, hf⟩ := bind_s hf
    refine xV_ir hx hb hml hown htg L4_120 (c_X8_isName l E a1 hz23 _) ⟨⟨rfl, rfl⟩, Nat.le_of_ble_eq_true rfl, Nat.le_of_ble_eq_true rfl⟩ hK hG hA hP hD hS (is := [1]) rfl rfl (xrecv hK hP (q0 := 1) (ci := 8) rfl rfl) rfl hl.1 rfl (Nat.le_of_ble_eq_true rfl) dX4_takeTraveller_23 (fun H locs hP hD hS => ?_)
    refine lv_if_ne (tgt := 35) hx hb dX4_takeTraveller_26 (by decide) (fun c26 => ?_) (fun c26 => ?_)
    · have hf := it_f c26 hf
      refine lv_aload_n hx hb dX4_takeTraveller_35 rfl (lv_at hl 1 rfl) ?_
      obtain ⟨z36, hz36, hf⟩ := bind_s hf
      refine xV_lr hx hb hml hown htg L4_123 (c_X8_nameCode l E a1 hz36 _) ⟨⟨rfl, rfl⟩, Nat.le_of_ble_eq_true rfl, Nat.le_of_ble_eq_true rfl⟩ hK hG hA hP hD hS (is := [1]) rfl rfl (xrecv hK hP (q0 := 1) (ci := 8) rfl rfl) rfl hl.1 rfl (Nat.le_of_ble_eq_true rfl) dX4_takeTraveller_36 (fun H locs hP hD hS => ?_)
      refine lv_lstore_n (lv' := [(2, .long z36), (0, .ref a0), (1, .ref a1)]) hx hb dX4_takeTraveller_39 rfl hl (by decide) rfl (fun ls hl => ?_)
      refine lv_aload_n hx hb dX4_takeTraveller_40 rfl (lv_at hl 1 rfl) ?_
      refine G4_14 hx hb htg hown hK hP 0 rfl dX4_takeTraveller_41 ?_
      refine lv_lload_n hx hb dX4_takeTraveller_44 rfl (lv_at hl 0 rfl) ?_
      obtain ⟨z45, hz45, hf⟩ := bind_s hf
      refine xV_ir hx hb hml hown htg L4_127 (c_X3_travellerNamed l E a2 a5 hz45 _) ⟨⟨rfl, rfl⟩, Nat.le_of_ble_eq_true rfl, Nat.le_of_ble_eq_true rfl⟩ hK hG hA hP hD hS (is := [2, 5]) rfl rfl (xrecv hK hP (q0 := 2) (ci := 3) rfl rfl) rfl hl.1 rfl (Nat.le_of_ble_eq_true rfl) dX4_takeTraveller_45 (fun H locs hP hD hS => ?_)
      refine lv_iconst (v := (-1)) hx hb dX4_takeTraveller_48 rfl ?_
      refine lv_icmp_eq (tgt := 58) hx hb dX4_takeTraveller_49 (by decide) (fun c49 => ?_) (fun c49 => ?_)
      · have hf := it_t c49 hf
        refine lv_aload_n hx hb dX4_takeTraveller_58 rfl (lv_at hl 2 rfl) ?_
        obtain ⟨z59, hz59, hf⟩ := bind_s hf
        refine xV_vu hx hb hml hown htg L4_74 (c_X8_advance l E a1 a3 a4 hz59 _) ⟨⟨rfl, rfl⟩, Nat.le_of_ble_eq_true rfl, Nat.le_of_ble_eq_true rfl⟩ hK hG hA hP hD hS (is := [1, 3, 4]) (sel := [none, some 0, none, some 1, some 2, none, none]) (ws2 := [(a0, o4 T0 (.ref a2)), (a1, o8 z59.1 z59.2 a3 a4), (a2, o3 T2 u2_7 a6 a5 u2_10 u2_11 u2_12 u2_13 u2_14), (a3, ab E 900 V3), (a4, al E 23 V4), (a5, al E 5 V5), (a6, ai E 5 V6)]) rfl rfl rfl rfl rfl (xrecv hK hP (q0 := 1) (ci := 8) rfl rfl) rfl hl.1 rfl (Nat.le_of_ble_eq_true rfl) dX4_takeTraveller_59 (fun H locs hP hD hS => ?_)
        refine lv_iconst (v := 0) hx hb dX4_takeTraveller_62 rfl ?_
        refine lv_istore (lv' := [(4, .int 0), (2, .long z36), (0, .ref a0), (1, .ref a1)]) hx hb dX4_takeTraveller_63 hl (by decide) rfl (fun ls hl => ?_)
        refine lv_aload_n hx hb dX4_takeTraveller_65 rfl (lv_at hl 3 rfl) ?_
        refine lv_iconst (v := 4) hx hb dX4_takeTraveller_66 rfl ?_
        obtain ⟨z67, hz67, hf⟩ := bind_s hf
        refine xV_ir hx hb hml hown htg L4_131 (c_X8_isWord l E a1 hz67 _) ⟨⟨rfl, rfl⟩, Nat.le_of_ble_eq_true rfl, Nat.le_of_ble_eq_true rfl⟩ hK hG hA hP hD hS (is := [1]) rfl rfl (xrecv hK hP (q0 := 1) (ci := 8) rfl rfl) rfl hl.1 rfl (Nat.le_of_ble_eq_true rfl) dX4_takeTraveller_67 (fun H locs hP hD hS => ?_)
        refine lv_if_eq (tgt := 99) hx hb dX4_takeTraveller_70 (by decide) (fun c70 => ?_) (fun c70 => ?_)
        · have hf := it_t c70 hf
          exact b99 z36 0 z59.1 z59.2 T2 V5 V6 _ _ _ hf hP hD hS (lv_sub hl [2, 3, 1, 0] rfl)
        · have hf := it_f c70 hf
          refine lv_aload_n hx hb dX4_takeTraveller_73 rfl (lv_at hl 3 rfl) ?_
          obtain ⟨z74, hz74, hf⟩ := bind_s hf
          refine xV_vu hx hb hml hown htg L4_74 (c_X8_advance l E a1 a3 a4 hz74 _) ⟨⟨rfl, rfl⟩, Nat.le_of_ble_eq_true rfl, Nat.le_of_ble_eq_true rfl⟩ hK hG hA hP hD hS (is := [1, 3, 4]) (sel := [none, some 0, none, some 1, some 2, none, none]) (ws2 := [(a0, o4 T0 (.ref a2)), (a1, o8 z74.1 z74.2 a3 a4), (a2, o3 T2 u2_7 a6 a5 u2_10 u2_11 u2_12 u2_13 u2_14), (a3, ab E 900 V3), (a4, al E 23 V4), (a5, al E 5 V5), (a6, ai E 5 V6)]) rfl rfl rfl rfl rfl (xrecv hK hP (q0 := 1) (ci := 8) rfl rfl) rfl hl.1 rfl (Nat.le_of_ble_eq_true rfl) dX4_takeTraveller_74 (fun H locs hP hD hS => ?_)
          refine lv_aload_n hx hb dX4_takeTraveller_77 rfl (lv_at hl 3 rfl) ?_
          refine lv_iconst (v := 0) hx hb dX4_takeTraveller_78 rfl ?_
          refine lv_bipush (v := 16) hx hb dX4_takeTraveller_79 rfl ?_
          obtain ⟨z81, hz81, hf⟩ := bind_s hf
          refine xV_iu hx hb hml hown htg L4_104 (c_X8_isNumber l E a1 hz81 _) ⟨⟨rfl, rfl⟩, Nat.le_of_ble_eq_true rfl, Nat.le_of_ble_eq_true rfl⟩ hK hG hA hP hD hS (is := [1]) (sel := [none, some 0, none, none, none, none, none]) (ws2 := [(a0, o4 T0 (.ref a2)), (a1, o8 z81.2 z74.2 a3 a4), (a2, o3 T2 u2_7 a6 a5 u2_10 u2_11 u2_12 u2_13 u2_14), (a3, ab E 900 V3), (a4, al E 23 V4), (a5, al E 5 V5), (a6, ai E 5 V6)]) rfl rfl rfl rfl rfl (xrecv hK hP (q0 := 1) (ci := 8) rfl rfl) rfl hl.1 rfl (Nat.le_of_ble_eq_true rfl) dX4_takeTraveller_81 (fun H locs hP hD hS => ?_)
          refine lv_if_ne (tgt := 89) hx hb dX4_takeTraveller_84 (by decide) (fun c84 => ?_) (fun c84 => ?_)
          · have hf := it_f c84 hf
            refine lv_aload_n hx hb dX4_takeTraveller_89 rfl (lv_at hl 3 rfl) ?_
            obtain ⟨z90, hz90, hf⟩ := bind_s hf
            refine xV_ir hx hb hml hown htg L4_108 (c_X8_number l E a1 hz90 _) ⟨⟨rfl, rfl⟩, Nat.le_of_ble_eq_true rfl, Nat.le_of_ble_eq_true rfl⟩ hK hG hA hP hD hS (is := [1]) rfl rfl (xrecv hK hP (q0 := 1) (ci := 8) rfl rfl) rfl hl.1 rfl (Nat.le_of_ble_eq_true rfl) dX4_takeTraveller_90 (fun H locs hP hD hS => ?_)
            refine lv_istore (lv' := [(4, .int z90), (2, .long z36), (0, .ref a0), (1, .ref a1)]) hx hb dX4_takeTraveller_93 hl (by decide) rfl (fun ls hl => ?_)
            refine lv_aload_n hx hb dX4_takeTraveller_95 rfl (lv_at hl 3 rfl) ?_
            obtain ⟨z96, hz96, hf⟩ := bind_s hf
            refine xV_vu hx hb hml hown htg L4_74 (c_X8_advance l E a1 a3 a4 hz96 _) ⟨⟨rfl, rfl⟩, Nat.le_of_ble_eq_true rfl, Nat.le_of_ble_eq_true rfl⟩ hK hG hA hP hD hS (is := [1, 3, 4]) (sel := [none, some 0, none, some 1, some 2, none, none]) (ws2 := [(a0, o4 T0 (.ref a2)), (a1, o8 z96.1 z96.2 a3 a4), (a2, o3 T2 u2_7 a6 a5 u2_10 u2_11 u2_12 u2_13 u2_14), (a3, ab E 900 V3), (a4, al E 23 V4), (a5, al E 5 V5), (a6, ai E 5 V6)]) rfl rfl rfl rfl rfl (xrecv hK hP (q0 := 1) (ci := 8) rfl rfl) rfl hl.1 rfl (Nat.le_of_ble_eq_true rfl) dX4_takeTraveller_96 (fun H locs hP hD hS => ?_)
            exact b99 z36 z90 z96.1 z96.2 T2 V5 V6 _ _ _ hf hP hD hS (lv_sub hl [2, 3, 1, 0] rfl)
          · have hf := it_t c84 hf
            refine lv_iconst (v := 0) hx hb dX4_takeTraveller_87 rfl ?_
            exact ret (0, z81.2, z74.2, T2, V5, V6) hf nz0 hP hS dX4_takeTraveller_88
      · have hf := it_f c49 hf
        refine lv_aload_n hx hb dX4_takeTraveller_52 rfl (lv_at hl 2 rfl) ?_
        refine lv_iconst (v := 3) hx hb dX4_takeTraveller_53 rfl ?_
        obtain ⟨z54, hz54, hf⟩ := bind_s hf
        refine xV_iu hx hb hml hown htg L4_64 (c_X8_blame l E a1 hz54 _) ⟨⟨rfl, rfl⟩, Nat.le_of_ble_eq_true rfl, Nat.le_of_ble_eq_true rfl⟩ hK hG hA hP hD hS (is := [1]) (sel := [none, some 0, none, none, none, none, none]) (ws2 := [(a0, o4 T0 (.ref a2)), (a1, o8 z54.2 z19.2 a3 a4), (a2, o3 T2 u2_7 a6 a5 u2_10 u2_11 u2_12 u2_13 u2_14), (a3, ab E 900 V3), (a4, al E 23 V4), (a5, al E 5 V5), (a6, ai E 5 V6)]) rfl rfl rfl rfl rfl (xrecv hK hP (q0 := 1) (ci := 8) rfl rfl) rfl hl.1 rfl (Nat.le_of_ble_eq_true rfl) dX4_takeTraveller_54 (fun H locs hP hD hS => ?_)
        obtain ⟨g57, hf⟩ := ck_s hf
        exact ret (z54.1, z54.2, z19.2, T2, V5, V6) hf (bz_n g57).1 hP hS dX4_takeTraveller_57
    · have hf := it_t c26 hf
      refine lv_aload_n hx hb dX4_takeTraveller_29 rfl (lv_at hl 1 rfl) ?_
      refine lv_iconst (v := 2) hx hb dX4_takeTraveller_30 rfl ?_
      obtain ⟨z31, hz31, hf⟩ := bind_s hf
      refine xV_iu hx hb hml hown htg L4_64 (c_X8_blame l E a1 hz31 _) ⟨⟨rfl, rfl⟩, Nat.le_of_ble_eq_true rfl, Nat.le_of_ble_eq_true rfl⟩ hK hG hA hP hD hS (is := [1]) (sel := [none, some 0, none, none, none, none, none]) (ws2 := [(a0, o4 T0 (.ref a2)), (a1, o8 z31.2 z19.2 a3 a4), (a2, o3 T2 u2_7 a6 a5 u2_10 u2_11 u2_12 u2_13 u2_14), (a3, ab E 900 V3), (a4, al E 23 V4), (a5, al E 5 V5), (a6, ai E 5 V6)]) rfl rfl rfl rfl rfl (xrecv hK hP (q0 := 1) (ci := 8) rfl rfl) rfl hl.1 rfl (Nat.le_of_ble_eq_true rfl) dX4_takeTraveller_31 (fun H locs hP hD hS => ?_)
      obtain ⟨g34, hf⟩ := ck_s hf
      exact ret (z31.1, z31.2, z19.2, T2, V5, V6) hf (bz_n g34).1 hP hS dX4_takeTraveller_34
  · have hf := it_f c8 hf
    refine lv_aload_n hx hb dX4_takeTraveller_11 rfl (lv_at hl 1 rfl) ?_
    refine lv_bipush (v := 6) hx hb dX4_takeTraveller_12 rfl ?_
    obtain ⟨z14, hz14, hf⟩ := bind_s hf
    refine xV_iu hx hb hml hown htg L4_64 (c_X8_blame l E a1 hz14 _) ⟨⟨rfl, rfl⟩, Nat.le_of_ble_eq_true rfl, Nat.le_of_ble_eq_true rfl⟩ hK hG hA hP hD hS (is := [1]) (sel := [none, some 0, none, none, none, none, none]) (ws2 := [(a0, o4 T0 (.ref a2)), (a1, o8 z14.2 J1_8 a3 a4), (a2, o3 T2 u2_7 a6 a5 u2_10 u2_11 u2_12 u2_13 u2_14), (a3, ab E 900 V3), (a4, al E 23 V4), (a5, al E 5 V5), (a6, ai E 5 V6)]) rfl rfl rfl rfl rfl (xrecv hK hP (q0 := 1) (ci := 8) rfl rfl) rfl hl.1 rfl (Nat.le_of_ble_eq_true rfl) dX4_takeTraveller_14 (fun H locs hP hD hS => ?_)
    obtain ⟨g17, hf⟩ := ck_s hf
    exact ret (z14.1, z14.2, J1_8, T2, V5, V6) hf (bz_n g17).1 hP hS dX4_takeTraveller_17
theorem dX4_takeFeeling_0 : decode cX4_takeFeeling 0 = .ok (.aload_n 1, 1) := by decide +kernel
theorem dX4_takeFeeling_1 : decode cX4_takeFeeling 1 = .ok (.invokevirtual 145, 3) := by decide +kernel
theorem dX4_takeFeeling_4 : decode cX4_takeFeeling 4 = .ok (.istore 4, 2) := by decide +kernel
theorem dX4_takeFeeling_6 : decode cX4_takeFeeling 6 = .ok (.iload 4, 2) := by decide +kernel
theorem dX4_takeFeeling_8 : decode cX4_takeFeeling 8 = .ok (.iconst (-1), 1) := by decide +kernel
theorem dX4_takeFeeling_9 : decode cX4_takeFeeling 9 = .ok (.if_icmp .ne 9, 3) := by decide +kernel
theorem dX4_takeFeeling_12 : decode cX4_takeFeeling 12 = .ok (.aload_n 1, 1) := by decide +kernel
theorem dX4_takeFeeling_13 : decode cX4_takeFeeling 13 = .ok (.iconst 2, 1) := by decide +kernel
theorem dX4_takeFeeling_14 : decode cX4_takeFeeling 14 = .ok (.invokevirtual 64, 3) := by decide +kernel
theorem dX4_takeFeeling_17 : decode cX4_takeFeeling 17 = .ok (.ireturn, 1) := by decide +kernel
theorem dX4_takeFeeling_18 : decode cX4_takeFeeling 18 = .ok (.aload_n 1, 1) := by decide +kernel
theorem dX4_takeFeeling_19 : decode cX4_takeFeeling 19 = .ok (.invokevirtual 74, 3) := by decide +kernel
theorem dX4_takeFeeling_22 : decode cX4_takeFeeling 22 = .ok (.iconst 0, 1) := by decide +kernel
theorem dX4_takeFeeling_23 : decode cX4_takeFeeling 23 = .ok (.istore 5, 2) := by decide +kernel
theorem dX4_takeFeeling_25 : decode cX4_takeFeeling 25 = .ok (.aload_n 1, 1) := by decide +kernel
theorem dX4_takeFeeling_26 : decode cX4_takeFeeling 26 = .ok (.bipush 7, 2) := by decide +kernel
theorem dX4_takeFeeling_28 : decode cX4_takeFeeling 28 = .ok (.invokevirtual 131, 3) := by decide +kernel
theorem dX4_takeFeeling_31 : decode cX4_takeFeeling 31 = .ok (.ifCond .eq 29, 3) := by decide +kernel
theorem dX4_takeFeeling_34 : decode cX4_takeFeeling 34 = .ok (.aload_n 1, 1) := by decide +kernel
theorem dX4_takeFeeling_35 : decode cX4_takeFeeling 35 = .ok (.invokevirtual 74, 3) := by decide +kernel
theorem dX4_takeFeeling_38 : decode cX4_takeFeeling 38 = .ok (.aload_n 1, 1) := by decide +kernel
theorem dX4_takeFeeling_39 : decode cX4_takeFeeling 39 = .ok (.iconst 0, 1) := by decide +kernel
theorem dX4_takeFeeling_40 : decode cX4_takeFeeling 40 = .ok (.bipush 9, 2) := by decide +kernel
theorem dX4_takeFeeling_42 : decode cX4_takeFeeling 42 = .ok (.invokevirtual 104, 3) := by decide +kernel
theorem dX4_takeFeeling_45 : decode cX4_takeFeeling 45 = .ok (.ifCond .ne 5, 3) := by decide +kernel
theorem dX4_takeFeeling_48 : decode cX4_takeFeeling 48 = .ok (.iconst 0, 1) := by decide +kernel
theorem dX4_takeFeeling_49 : decode cX4_takeFeeling 49 = .ok (.ireturn, 1) := by decide +kernel
theorem dX4_takeFeeling_50 : decode cX4_takeFeeling 50 = .ok (.aload_n 1, 1) := by decide +kernel
theorem dX4_takeFeeling_51 : decode cX4_takeFeeling 51 = .ok (.invokevirtual 108, 3) := by decide +kernel
theorem dX4_takeFeeling_54 : decode cX4_takeFeeling 54 = .ok (.istore 5, 2) := by decide +kernel
theorem dX4_takeFeeling_56 : decode cX4_takeFeeling 56 = .ok (.aload_n 1, 1) := by decide +kernel
theorem dX4_takeFeeling_57 : decode cX4_takeFeeling 57 = .ok (.invokevirtual 74, 3) := by decide +kernel
theorem dX4_takeFeeling_60 : decode cX4_takeFeeling 60 = .ok (.aload_n 0, 1) := by decide +kernel
theorem dX4_takeFeeling_61 : decode cX4_takeFeeling 61 = .ok (.getfield 14, 3) := by decide +kernel
theorem dX4_takeFeeling_64 : decode cX4_takeFeeling 64 = .ok (.iload_n 2, 1) := by decide +kernel
theorem dX4_takeFeeling_65 : decode cX4_takeFeeling 65 = .ok (.iload_n 3, 1) := by decide +kernel
theorem dX4_takeFeeling_66 : decode cX4_takeFeeling 66 = .ok (.iload 4, 2) := by decide +kernel
theorem dX4_takeFeeling_68 : decode cX4_takeFeeling 68 = .ok (.iload 5, 2) := by decide +kernel
theorem dX4_takeFeeling_70 : decode cX4_takeFeeling 70 = .ok (.invokevirtual 148, 3) := by decide +kernel
theorem dX4_takeFeeling_73 : decode cX4_takeFeeling 73 = .ok (.ireturn, 1) := by decide +kernel
set_option maxRecDepth 100000 in
theorem c_X4_takeFeeling (l : Launch) (E : xE) (a0 a1 a2 a3 a4 a5 a6 a7 a8 : Nat) {T0 : Nat → Int32} {T1 : Nat → Int32} {J1_8 : Int64} {V2 : Nat → Int32} {V3 : Nat → Int64} {T4 : Nat → Int32} {V5 : Nat → Int32} {V6 : Nat → Int32} {V7 : Nat → Int32} {V8 : Nat → Int32} {u4_7 u4_8 u4_9 u4_14 : Nat} {x2 : Int32} {x3 : Int32} {z : Int32 × (Nat → Int32) × Int64 × (Nat → Int32) × (Nat → Int32) × (Nat → Int32) × (Nat → Int32) × (Nat → Int32)} (hf : f_X4_takeFeeling T1 J1_8 V2 V3 T4 V5 V6 V7 V8 x2 x3 = some z) (sz : Nat) : Met l yX4_takeFeeling (Cond.code yX4_takeFeeling cX4_takeFeeling 6 (some .boolean) :: gw) ({ frames := 2, cells := 0, slots := 0, locals := 47 }) (xPc E [.ref a0, .ref a1, .int x2, .int x3] [(a0, o4 T0 (.ref a4)), (a1, o8 T1 J1_8 a2 a3), (a2, ab E 900 V2), (a3, al E 23 V3), (a4, o3 T4 u4_7 u4_8 u4_9 a6 a5 a7 a8 u4_14), (a5, ai E 12 V5), (a6, ai E 12 V6), (a7, ai E 12 V7), (a8, ai E 12 V8)] sz) (xQi E z.1 [(a0, o4 T0 (.ref a4)), (a1, o8 T1 J1_8 a2 a3), (a2, ab E 900 V2), (a3, al E 23 V3), (a4, o3 T4 u4_7 u4_8 u4_9 a6 a5 a7 a8 u4_14), (a5, ai E 12 V5), (a6, ai E 12 V6), (a7, ai E 12 V7), (a8, ai E 12 V8)] [(a0, o4 T0 (.ref a4)), (a1, o8 z.2.1 z.2.2.1 a2 a3), (a2, ab E 900 V2), (a3, al E 23 V3), (a4, o3 z.2.2.2.1 u4_7 u4_8 u4_9 a6 a5 a7 a8 u4_14), (a5, ai E 12 z.2.2.2.2.1), (a6, ai E 12 z.2.2.2.2.2.1), (a7, ai E 12 z.2.2.2.2.2.2.1), (a8, ai E 12 z.2.2.2.2.2.2.2)] sz) 0 0 (va_A [(a0, o4 T0 (.ref a4)), (a1, o8 T1 J1_8 a2 a3), (a2, ab E 900 V2), (a3, al E 23 V3), (a4, o3 T4 u4_7 u4_8 u4_9 a6 a5 a7 a8 u4_14), (a5, ai E 12 V5), (a6, ai E 12 V6), (a7, ai E 12 V7), (a8, ai E 12 V8)] sz) := by
  refine xM_i (by decide +kernel) (Nat.le_of_ble_eq_true rfl) ?_
  intro p e s m args below meth c A Q hx hb hml hown htg hK hG hA ret0 H locs ls hP hD hS hl
  have ret : ∀ (z' : Int32 × (Nat → Int32) × Int64 × (Nat → Int32) × (Nat → Int32) × (Nat → Int32) × (Nat → Int32) × (Nat → Int32)) {H : Heap} {locs : List Loc} {pc : Nat} {ls : Array Slot}, some z' = some z → narrow .boolean (.int z'.1) = .int z'.1 → va_P E.1 vwCl [(a0, o4 T0 (.ref a4)), (a1, o8 z'.2.1 z'.2.2.1 a2 a3), (a2, ab E 900 V2), (a3, al E 23 V3), (a4, o3 z'.2.2.2.1 u4_7 u4_8 u4_9 a6 a5 a7 a8 u4_14), (a5, ai E 12 z'.2.2.2.2.1), (a6, ai E 12 z'.2.2.2.2.2.1), (a7, ai E 12 z'.2.2.2.2.2.2.1), (a8, ai E 12 z'.2.2.2.2.2.2.2)] H → va_S A s.heap H locs → decode cX4_takeFeeling pc = .ok (.ireturn, 1) → W p l e ({ frames := 2, cells := 0, slots := 0, locals := 47 } : Room) s m args below meth c H locs 0 0 Q (F0 m pc ls [.int z'.1]) := by
    intro z' H locs pc ls h
    cases h
    exact ret0
  replace hl : lv_has ls 6 [(0, .ref a0), (1, .ref a1), (2, .int x2), (3, .int x3)] := hl
  have b60 : ∀ (x4 : Int32) (x5 : Int32) (T1 : Nat → Int32) (J1_8 : Int64) (T4 : Nat → Int32) (V5 : Nat → Int32) (V6 : Nat → Int32) (V7 : Nat → Int32) (V8 : Nat → Int32) (H : Heap) (locs : List Loc) (ls : Array Slot), f_X4_takeFeeling_60 V2 V3 x2 x3 x4 x5 T1 J1_8 T4 V5 V6 V7 V8 = some z → va_P E.1 vwCl [(a0, o4 T0 (.ref a4)), (a1, o8 T1 J1_8 a2 a3), (a2, ab E 900 V2), (a3, al E 23 V3), (a4, o3 T4 u4_7 u4_8 u4_9 a6 a5 a7 a8 u4_14), (a5, ai E 12 V5), (a6, ai E 12 V6), (a7, ai E 12 V7), (a8, ai E 12 V8)] H → va_D A [(a0, o4 T0 (.ref a4)), (a1, o8 T1 J1_8 a2 a3), (a2, ab E 900 V2), (a3, al E 23 V3), (a4, o3 T4 u4_7 u4_8 u4_9 a6 a5 a7 a8 u4_14), (a5, ai E 12 V5), (a6, ai E 12 V6), (a7, ai E 12 V7), (a8, ai E 12 V8)] → va_S A s.heap H locs → lv_has ls 6 [(0, .ref a0), (2, .int x2), (3, .int x3), (4, .int x4), (5, .int x5)] → W p l e ({ frames := 2, cells := 0, slots := 0, locals := 47 } : Room) s m args below meth c H locs 0 0 Q (F0 m 60 ls []) := by
    intro x4 x5 T1 J1_8 T4 V5 V6 V7 V8 H locs ls hf hP hD hS hl
    unfold f_X4_takeFeeling_60 at hf
    refine lv_aload_n hx hb dX4_takeFeeling_60 rfl (lv_at hl 0 rfl) ?_
    refine G4_14 hx hb htg hown hK hP 0 rfl dX4_takeFeeling_61 ?_
    refine lv_iload_n hx hb dX4_takeFeeling_64 rfl (lv_at hl 1 rfl) ?_
    refine lv_iload_n hx hb dX4_takeFeeling_65 rfl (lv_at hl 2 rfl) ?_
    refine lv_iload hx hb dX4_takeFeeling_66 (lv_at hl 3 rfl) ?_
    refine lv_iload hx hb dX4_takeFeeling_68 (lv_at hl 4 rfl) ?_
    obtain ⟨z70, hz70, hf⟩ := bind_s hf
    refine xV_iu hx hb hml hown htg L4_148 (c_X3_addTelling l E a4 a5 a6 a7 a8 hz70 _) ⟨⟨rfl, rfl⟩, Nat.le_of_ble_eq_true rfl, Nat.le_of_ble_eq_true rfl⟩ hK hG hA hP hD hS (is := [4, 5, 6, 7, 8]) (sel := [none, none, none, none, some 0, some 1, some 2, some 3, some 4]) (ws2 := [(a0, o4 T0 (.ref a4)), (a1, o8 T1 J1_8 a2 a3), (a2, ab E 900 V2), (a3, al E 23 V3), (a4, o3 z70.2.1 u4_7 u4_8 u4_9 a6 a5 a7 a8 u4_14), (a5, ai E 12 z70.2.2.1), (a6, ai E 12 z70.2.2.2.1), (a7, ai E 12 z70.2.2.2.2.1), (a8, ai E 12 z70.2.2.2.2.2)]) rfl rfl rfl rfl rfl (xrecv hK hP (q0 := 4) (ci := 3) rfl rfl) rfl hl.1 rfl (Nat.le_of_ble_eq_true rfl) dX4_takeFeeling_70 (fun H locs hP hD hS => ?_)
    obtain ⟨g73, hf⟩ := ck_s hf
    exact ret (z70.1, T1, J1_8, z70.2.1, z70.2.2.1, z70.2.2.2.1, z70.2.2.2.2.1, z70.2.2.2.2.2) hf (bz_n g73).1 hP hS dX4_takeFeeling_73
  unfold f_X4_takeFeeling at hf
  refine lv_aload_n hx hb dX4_takeFeeling_0 rfl (lv_at hl 1 rfl) ?_
  obtain ⟨z1, hz1, hf⟩ := bind_s hf
  refine xV_ir hx hb hml hown htg L4_145 (c_X8_feeling l E a1 hz1 _) ⟨⟨rfl, rfl⟩, Nat.le_of_ble_eq_true rfl, Nat.le_of_ble_eq_true rfl⟩ hK hG hA hP hD hS (is := [1]) rfl rfl (xrecv hK hP (q0 := 1) (ci := 8) rfl rfl) rfl hl.1 rfl (Nat.le_of_ble_eq_true rfl) dX4_takeFeeling_1 (fun H locs hP hD hS => ?_)
  refine lv_istore (lv' := [(4, .int z1), (0, .ref a0), (1, .ref a1), (2, .int x2), (3, .int x3)]) hx hb dX4_takeFeeling_4 hl (by decide) rfl (fun ls hl => ?_)
  refine lv_iload hx hb dX4_takeFeeling_6 (lv_at hl 0 rfl) ?_
  refine lv_iconst (v := (-1)) hx hb dX4_takeFeeling_8 rfl ?_
  refine lv_icmp_ne (tgt := 18) hx hb dX4_takeFeeling_9 (by decide) (fun c9 => ?_) (fun c9 => ?_)
  · have hf := it_f c9 hf
    refine lv_aload_n hx hb dX4_takeFeeling_18 rfl (lv_at hl 2 rfl) ?_
    obtain ⟨z19, hz19, hf⟩ := bind_s hf
    refine xV_vu hx hb hml hown htg L4_74 (c_X8_advance l E a1 a2 a3 hz19 _) ⟨⟨rfl, rfl⟩, Nat.le_of_ble_eq_true rfl, Nat.le_of_ble_eq_true rfl⟩ hK hG hA hP hD hS (is := [1, 2, 3]) (sel := [none, some 0, some 1, some 2, none, none, none, none, none]) (ws2 := [(a0, o4 T0 (.ref a4)), (a1, o8 z19.1 z19.2 a2 a3), (a2, ab E 900 V2), (a3, al E 23 V3), (a4, o3 T4 u4_7 u4_8 u4_9 a6 a5 a7 a8 u4_14), (a5, ai E 12 V5), (a6, ai E 12 V6), (a7, ai E 12 V7), (a8, ai E 12 V8)]) rfl rfl rfl rfl rfl (xrecv hK hP (q0 := 1) (ci := 8) rfl rfl) rfl hl.1 rfl (Nat.le_of_ble_eq_true rfl) dX4_takeFeeling_19 (fun H locs hP hD hS => ?_)
    refine lv_iconst (v := 0) hx hb dX4_takeFeeling_22 rfl ?_
    refine lv_istore (lv' := [(5, .int 0), (4, .int z1), (0, .ref a0), (1, .ref a1), (2, .int x2), (3, .int x3)]) hx hb dX4_takeFeeling_23 hl (by decide) rfl (fun ls hl => ?_)
    refine lv_aload_n hx hb dX4_takeFeeling_25 rfl (lv_at hl 3 rfl) ?_
    refine lv_bipush (v := 7) hx hb dX4_takeFeeling_26 rfl ?_
    obtain ⟨z28, hz28, hf⟩ := bind_s hf
    refine xV_ir hx hb hml hown htg L4_131 (c_X8_isWord l E a1 hz28 _) ⟨⟨rfl, rfl⟩, Nat.le_of_ble_eq_true rfl, Nat.le_of_ble_eq_true rfl⟩ hK hG hA hP hD hS (is := [1]) rfl rfl (xrecv hK hP (q0 := 1) (ci := 8) rfl rfl) rfl hl.1 rfl (Nat.le_of_ble_eq_true rfl) dX4_takeFeeling_28 (fun H locs hP hD hS => ?_)
    refine lv_if_eq (tgt := 60) hx hb dX4_takeFeeling_31 (by decide) (fun c31 => ?_) (fun c31 => ?_)
    · have hf := it_t c31 hf
      exact b60 z1 0 z19.1 z19.2 T4 V5 V6 V7 V8 _ _ _ hf hP hD hS (lv_sub hl [2, 4, 5, 1, 0] rfl)
    · have hf := it_f c31 hf
      refine lv_aload_n hx hb dX4_takeFeeling_34 rfl (lv_at hl 3 rfl) ?_
      obtain ⟨z35, hz35, hf⟩ := bind_s hf
      refine xV_vu hx hb hml hown htg L4_74 (c_X8_advance l E a1 a2 a3 hz35 _) ⟨⟨rfl, rfl⟩, Nat.le_of_ble_eq_true rfl, Nat.le_of_ble_eq_true rfl⟩ hK hG hA hP hD hS (is := [1, 2, 3]) (sel := [none, some 0, some 1, some 2, none, none, none, none, none]) (ws2 := [(a0, o4 T0 (.ref a4)), (a1, o8 z35.1 z35.2 a2 a3), (a2, ab E 900 V2), (a3, al E 23 V3), (a4, o3 T4 u4_7 u4_8 u4_9 a6 a5 a7 a8 u4_14), (a5, ai E 12 V5), (a6, ai E 12 V6), (a7, ai E 12 V7), (a8, ai E 12 V8)]) rfl rfl rfl rfl rfl (xrecv hK hP (q0 := 1) (ci := 8) rfl rfl) rfl hl.1 rfl (Nat.le_of_ble_eq_true rfl) dX4_takeFeeling_35 (fun H locs hP hD hS => ?_)
      refine lv_aload_n hx hb dX4_takeFeeling_38 rfl (lv_at hl 3 rfl) ?_
      refine lv_iconst (v := 0) hx hb dX4_takeFeeling_39 rfl ?_
      refine lv_bipush (v := 9) hx hb dX4_takeFeeling_40 rfl ?_
      obtain ⟨z42, hz42, hf⟩ := bind_s hf
      refine xV_iu hx hb hml hown htg L4_104 (c_X8_isNumber l E a1 hz42 _) ⟨⟨rfl, rfl⟩, Nat.le_of_ble_eq_true rfl, Nat.le_of_ble_eq_true rfl⟩ hK hG hA hP hD hS (is := [1]) (sel := [none, some 0, none, none, none, none, none, none, none]) (ws2 := [(a0, o4 T0 (.ref a4)), (a1, o8 z42.2 z35.2 a2 a3), (a2, ab E 900 V2), (a3, al E 23 V3), (a4, o3 T4 u4_7 u4_8 u4_9 a6 a5 a7 a8 u4_14), (a5, ai E 12 V5), (a6, ai E 12 V6), (a7, ai E 12 V7), (a8, ai E 12 V8)]) rfl rfl rfl rfl rfl (xrecv hK hP (q0 := 1) (ci := 8) rfl rfl) rfl hl.1 rfl (Nat.le_of_ble_eq_true rfl) dX4_takeFeeling_42 (fun H locs hP hD hS => ?_)
      refine lv_if_ne (tgt := 50) hx hb dX4_takeFeeling_45 (by decide) (fun c45 => ?_) (fun c45 => ?_)
      · have hf := it_f c45 hf
        refine lv_aload_n hx hb dX4_takeFeeling_50 rfl (lv_at hl 3 rfl) ?_
        obtain ⟨z51, hz51, hf⟩ := bind_s hf
        refine xV_ir hx hb hml hown htg L4_108 (c_X8_number l E a1 hz51 _) ⟨⟨rfl, rfl⟩, Nat.le_of_ble_eq_true rfl, Nat.le_of_ble_eq_true rfl⟩ hK hG hA hP hD hS (is := [1]) rfl rfl (xrecv hK hP (q0 := 1) (ci := 8) rfl rfl) rfl hl.1 rfl (Nat.le_of_ble_eq_true rfl) dX4_takeFeeling_51 (fun H locs hP hD hS => ?_)
        refine lv_istore (lv' := [(5, .int z51), (4, .int z1), (0, .ref a0), (1, .ref a1), (2, .int x2), (3, .int x3)]) hx hb dX4_takeFeeling_54 hl (by decide) rfl (fun ls hl => ?_)
        refine lv_aload_n hx hb dX4_takeFeeling_56 rfl (lv_at hl 3 rfl) ?_
        obtain ⟨z57, hz57, hf⟩ := bind_s hf
        refine xV_vu hx hb hml hown htg L4_74 (c_X8_advance l E a1 a2 a3 hz57 _) ⟨⟨rfl, rfl⟩, Nat.le_of_ble_eq_true rfl, Nat.le_of_ble_eq_true rfl⟩ hK hG hA hP hD hS (is := [1, 2, 3]) (sel := [none, some 0, some 1, some 2, none, none, none, none, none]) (ws2 := [(a0, o4 T0 (.ref a4)), (a1, o8 z57.1 z57.2 a2 a3), (a2, ab E 900 V2), (a3, al E 23 V3), (a4, o3 T4 u4_7 u4_8 u4_9 a6 a5 a7 a8 u4_14), (a5, ai E 12 V5), (a6, ai E 12 V6), (a7, ai E 12 V7), (a8, ai E 12 V8)]) rfl rfl rfl rfl rfl (xrecv hK hP (q0 := 1) (ci := 8) rfl rfl) rfl hl.1 rfl (Nat.le_of_ble_eq_true rfl) dX4_takeFeeling_57 (fun H locs hP hD hS => ?_)
        exact b60 z1 z51 z57.1 z57.2 T4 V5 V6 V7 V8 _ _ _ hf hP hD hS (lv_sub hl [2, 4, 5, 1, 0] rfl)
      · have hf := it_t c45 hf
        refine lv_iconst (v := 0) hx hb dX4_takeFeeling_48 rfl ?_
        exact ret (0, z42.2, z35.2, T4, V5, V6, V7, V8) hf nz0 hP hS dX4_takeFeeling_49
  · have hf := it_t c9 hf
    refine lv_aload_n hx hb dX4_takeFeeling_12 rfl (lv_at hl 2 rfl) ?_
    refine lv_iconst (v := 2) hx hb dX4_takeFeeling_13 rfl ?_
    obtain ⟨z14, hz14, hf⟩ := bind_s hf
    refine xV_iu hx hb hml hown htg L4_64 (c_X8_blame l E a1 hz14 _) ⟨⟨rfl, rfl⟩, Nat.le_of_ble_eq_true rfl, Nat.le_of_ble_eq_true rfl⟩ hK hG hA hP hD hS (is := [1]) (sel := [none, some 0, none, none, none, none, none, none, none]) (ws2 := [(a0, o4 T0 (.ref a4)), (a1, o8 z14.2 J1_8 a2 a3), (a2, ab E 900 V2), (a3, al E 23 V3), (a4, o3 T4 u4_7 u4_8 u4_9 a6 a5 a7 a8 u4_14), (a5, ai E 12 V5), (a6, ai E 12 V6), (a7, ai E 12 V7), (a8, ai E 12 V8)]) rfl rfl rfl rfl rfl (xrecv hK hP (q0 := 1) (ci := 8) rfl rfl) rfl hl.1 rfl (Nat.le_of_ble_eq_true rfl) dX4_takeFeeling_14 (fun H locs hP hD hS => ?_)
    obtain ⟨g17, hf⟩ := ck_s hf
    exact ret (z14.1, z14.2, J1_8, T4, V5, V6, V7, V8) hf (bz_n g17).1 hP hS dX4_takeFeeling_17
theorem dX4_takeTold_0 : decode cX4_takeTold 0 = .ok (.aload_n 0, 1) := by decide +kernel
theorem dX4_takeTold_1 : decode cX4_takeTold 1 = .ok (.getfield 14, 3) := by decide +kernel
theorem dX4_takeTold_4 : decode cX4_takeTold 4 = .ok (.getfield 67, 3) := by decide +kernel
theorem dX4_takeTold_7 : decode cX4_takeTold 7 = .ok (.bipush 12, 2) := by decide +kernel
theorem dX4_takeTold_9 : decode cX4_takeTold 9 = .ok (.if_icmp .lt 10, 3) := by decide +kernel
theorem dX4_takeTold_12 : decode cX4_takeTold 12 = .ok (.aload_n 1, 1) := by decide +kernel
theorem dX4_takeTold_13 : decode cX4_takeTold 13 = .ok (.bipush 6, 2) := by decide +kernel
theorem dX4_takeTold_15 : decode cX4_takeTold 15 = .ok (.invokevirtual 64, 3) := by decide +kernel
theorem dX4_takeTold_18 : decode cX4_takeTold 18 = .ok (.ireturn, 1) := by decide +kernel
theorem dX4_takeTold_19 : decode cX4_takeTold 19 = .ok (.aload_n 1, 1) := by decide +kernel
theorem dX4_takeTold_20 : decode cX4_takeTold 20 = .ok (.invokevirtual 74, 3) := by decide +kernel
theorem dX4_takeTold_23 : decode cX4_takeTold 23 = .ok (.aload_n 1, 1) := by decide +kernel
theorem dX4_takeTold_24 : decode cX4_takeTold 24 = .ok (.invokevirtual 120, 3) := by decide +kernel
theorem dX4_takeTold_27 : decode cX4_takeTold 27 = .ok (.ifCond .ne 9, 3) := by decide +kernel
theorem dX4_takeTold_30 : decode cX4_takeTold 30 = .ok (.aload_n 1, 1) := by decide +kernel
theorem dX4_takeTold_31 : decode cX4_takeTold 31 = .ok (.iconst 2, 1) := by decide +kernel
theorem dX4_takeTold_32 : decode cX4_takeTold 32 = .ok (.invokevirtual 64, 3) := by decide +kernel
theorem dX4_takeTold_35 : decode cX4_takeTold 35 = .ok (.ireturn, 1) := by decide +kernel
theorem dX4_takeTold_36 : decode cX4_takeTold 36 = .ok (.aload_n 0, 1) := by decide +kernel
theorem dX4_takeTold_37 : decode cX4_takeTold 37 = .ok (.getfield 14, 3) := by decide +kernel
theorem dX4_takeTold_40 : decode cX4_takeTold 40 = .ok (.aload_n 1, 1) := by decide +kernel
theorem dX4_takeTold_41 : decode cX4_takeTold 41 = .ok (.invokevirtual 123, 3) := by decide +kernel
theorem dX4_takeTold_44 : decode cX4_takeTold 44 = .ok (.invokevirtual 127, 3) := by decide +kernel
theorem dX4_takeTold_47 : decode cX4_takeTold 47 = .ok (.istore_n 2, 1) := by decide +kernel
theorem dX4_takeTold_48 : decode cX4_takeTold 48 = .ok (.iload_n 2, 1) := by decide +kernel
theorem dX4_takeTold_49 : decode cX4_takeTold 49 = .ok (.iconst (-1), 1) := by decide +kernel
theorem dX4_takeTold_50 : decode cX4_takeTold 50 = .ok (.if_icmp .ne 9, 3) := by decide +kernel
theorem dX4_takeTold_53 : decode cX4_takeTold 53 = .ok (.aload_n 1, 1) := by decide +kernel
theorem dX4_takeTold_54 : decode cX4_takeTold 54 = .ok (.iconst 3, 1) := by decide +kernel
theorem dX4_takeTold_55 : decode cX4_takeTold 55 = .ok (.invokevirtual 64, 3) := by decide +kernel
theorem dX4_takeTold_58 : decode cX4_takeTold 58 = .ok (.ireturn, 1) := by decide +kernel
theorem dX4_takeTold_59 : decode cX4_takeTold 59 = .ok (.aload_n 1, 1) := by decide +kernel
theorem dX4_takeTold_60 : decode cX4_takeTold 60 = .ok (.invokevirtual 74, 3) := by decide +kernel
theorem dX4_takeTold_63 : decode cX4_takeTold 63 = .ok (.aload_n 1, 1) := by decide +kernel
theorem dX4_takeTold_64 : decode cX4_takeTold 64 = .ok (.iconst 0, 1) := by decide +kernel
theorem dX4_takeTold_65 : decode cX4_takeTold 65 = .ok (.aload_n 0, 1) := by decide +kernel
theorem dX4_takeTold_66 : decode cX4_takeTold 66 = .ok (.getfield 14, 3) := by decide +kernel
theorem dX4_takeTold_69 : decode cX4_takeTold 69 = .ok (.getfield 71, 3) := by decide +kernel
theorem dX4_takeTold_72 : decode cX4_takeTold 72 = .ok (.iconst 1, 1) := by decide +kernel
theorem dX4_takeTold_73 : decode cX4_takeTold 73 = .ok (.isub, 1) := by decide +kernel
theorem dX4_takeTold_74 : decode cX4_takeTold 74 = .ok (.invokevirtual 104, 3) := by decide +kernel
theorem dX4_takeTold_77 : decode cX4_takeTold 77 = .ok (.ifCond .ne 5, 3) := by decide +kernel
theorem dX4_takeTold_80 : decode cX4_takeTold 80 = .ok (.iconst 0, 1) := by decide +kernel
theorem dX4_takeTold_81 : decode cX4_takeTold 81 = .ok (.ireturn, 1) := by decide +kernel
theorem dX4_takeTold_82 : decode cX4_takeTold 82 = .ok (.aload_n 1, 1) := by decide +kernel
theorem dX4_takeTold_83 : decode cX4_takeTold 83 = .ok (.invokevirtual 108, 3) := by decide +kernel
theorem dX4_takeTold_86 : decode cX4_takeTold 86 = .ok (.istore_n 3, 1) := by decide +kernel
theorem dX4_takeTold_87 : decode cX4_takeTold 87 = .ok (.aload_n 1, 1) := by decide +kernel
theorem dX4_takeTold_88 : decode cX4_takeTold 88 = .ok (.invokevirtual 74, 3) := by decide +kernel
theorem dX4_takeTold_91 : decode cX4_takeTold 91 = .ok (.aload_n 1, 1) := by decide +kernel
theorem dX4_takeTold_92 : decode cX4_takeTold 92 = .ok (.iconst 0, 1) := by decide +kernel
theorem dX4_takeTold_93 : decode cX4_takeTold 93 = .ok (.aload_n 0, 1) := by decide +kernel
theorem dX4_takeTold_94 : decode cX4_takeTold 94 = .ok (.getfield 14, 3) := by decide +kernel
theorem dX4_takeTold_97 : decode cX4_takeTold 97 = .ok (.getfield 83, 3) := by decide +kernel
theorem dX4_takeTold_100 : decode cX4_takeTold 100 = .ok (.iconst 1, 1) := by decide +kernel
theorem dX4_takeTold_101 : decode cX4_takeTold 101 = .ok (.isub, 1) := by decide +kernel
theorem dX4_takeTold_102 : decode cX4_takeTold 102 = .ok (.invokevirtual 104, 3) := by decide +kernel
theorem dX4_takeTold_105 : decode cX4_takeTold 105 = .ok (.ifCond .ne 5, 3) := by decide +kernel
theorem dX4_takeTold_108 : decode cX4_takeTold 108 = .ok (.iconst 0, 1) := by decide +kernel
theorem dX4_takeTold_109 : decode cX4_takeTold 109 = .ok (.ireturn, 1) := by decide +kernel
theorem dX4_takeTold_110 : decode cX4_takeTold 110 = .ok (.iload_n 3, 1) := by decide +kernel
theorem dX4_takeTold_111 : decode cX4_takeTold 111 = .ok (.aload_n 0, 1) := by decide +kernel
theorem dX4_takeTold_112 : decode cX4_takeTold 112 = .ok (.getfield 14, 3) := by decide +kernel
theorem dX4_takeTold_115 : decode cX4_takeTold 115 = .ok (.getfield 83, 3) := by decide +kernel
theorem dX4_takeTold_118 : decode cX4_takeTold 118 = .ok (.imul, 1) := by decide +kernel
theorem dX4_takeTold_119 : decode cX4_takeTold 119 = .ok (.aload_n 1, 1) := by decide +kernel
theorem dX4_takeTold_120 : decode cX4_takeTold 120 = .ok (.invokevirtual 108, 3) := by decide +kernel
theorem dX4_takeTold_123 : decode cX4_takeTold 123 = .ok (.iadd, 1) := by decide +kernel
theorem dX4_takeTold_124 : decode cX4_takeTold 124 = .ok (.istore 4, 2) := by decide +kernel
theorem dX4_takeTold_126 : decode cX4_takeTold 126 = .ok (.aload_n 0, 1) := by decide +kernel
theorem dX4_takeTold_127 : decode cX4_takeTold 127 = .ok (.getfield 14, 3) := by decide +kernel
theorem dX4_takeTold_130 : decode cX4_takeTold 130 = .ok (.iload 4, 2) := by decide +kernel
theorem dX4_takeTold_132 : decode cX4_takeTold 132 = .ok (.invokevirtual 138, 3) := by decide +kernel
theorem dX4_takeTold_135 : decode cX4_takeTold 135 = .ok (.iconst 5, 1) := by decide +kernel
theorem dX4_takeTold_136 : decode cX4_takeTold 136 = .ok (.if_icmp .lt 9, 3) := by decide +kernel
theorem dX4_takeTold_139 : decode cX4_takeTold 139 = .ok (.aload_n 1, 1) := by decide +kernel
theorem dX4_takeTold_140 : decode cX4_takeTold 140 = .ok (.iconst 5, 1) := by decide +kernel
theorem dX4_takeTold_141 : decode cX4_takeTold 141 = .ok (.invokevirtual 64, 3) := by decide +kernel
theorem dX4_takeTold_144 : decode cX4_takeTold 144 = .ok (.ireturn, 1) := by decide +kernel
theorem dX4_takeTold_145 : decode cX4_takeTold 145 = .ok (.aload_n 1, 1) := by decide +kernel
theorem dX4_takeTold_146 : decode cX4_takeTold 146 = .ok (.invokevirtual 74, 3) := by decide +kernel
theorem dX4_takeTold_149 : decode cX4_takeTold 149 = .ok (.aload_n 0, 1) := by decide +kernel
theorem dX4_takeTold_150 : decode cX4_takeTold 150 = .ok (.aload_n 1, 1) := by decide +kernel
theorem dX4_takeTold_151 : decode cX4_takeTold 151 = .ok (.iload_n 2, 1) := by decide +kernel
theorem dX4_takeTold_152 : decode cX4_takeTold 152 = .ok (.iload 4, 2) := by decide +kernel
theorem dX4_takeTold_154 : decode cX4_takeTold 154 = .ok (.invokevirtual 141, 3) := by decide +kernel
theorem dX4_takeTold_157 : decode cX4_takeTold 157 = .ok (.ireturn, 1) := by decide +kernel
set_option maxRecDepth 100000 in
theorem c_X4_takeTold (l : Launch) (E : xE) (a0 a1 a2 a3 a4 a5 a6 a7 a8 a9 : Nat) {T0 : Nat → Int32} {T1 : Nat → Int32} {J1_8 : Int64} {T2 : Nat → Int32} {V3 : Nat → Int32} {V4 : Nat → Int64} {V5 : Nat → Int64} {V6 : Nat → Int32} {V7 : Nat → Int32} {V8 : Nat → Int32} {V9 : Nat → Int32} {u2_7 u2_8 u2_14 : Nat} {z : Int32 × (Nat → Int32) × Int64 × (Nat → Int32) × (Nat → Int32) × (Nat → Int32) × (Nat → Int32) × (Nat → Int32)} (hf : f_X4_takeTold T1 J1_8 T2 V3 V4 V5 V6 V7 V8 V9 = some z) (sz : Nat) : Met l yX4_takeTold (Cond.code yX4_takeTold cX4_takeTold 5 (some .boolean) :: gw) ({ frames := 3, cells := 0, slots := 0, locals := 72 }) (xPc E [.ref a0, .ref a1] [(a0, o4 T0 (.ref a2)), (a1, o8 T1 J1_8 a3 a4), (a2, o3 T2 u2_7 u2_8 a5 a7 a6 a8 a9 u2_14), (a3, ab E 900 V3), (a4, al E 23 V4), (a5, al E 5 V5), (a6, ai E 12 V6), (a7, ai E 12 V7), (a8, ai E 12 V8), (a9, ai E 12 V9)] sz) (xQi E z.1 [(a0, o4 T0 (.ref a2)), (a1, o8 T1 J1_8 a3 a4), (a2, o3 T2 u2_7 u2_8 a5 a7 a6 a8 a9 u2_14), (a3, ab E 900 V3), (a4, al E 23 V4), (a5, al E 5 V5), (a6, ai E 12 V6), (a7, ai E 12 V7), (a8, ai E 12 V8), (a9, ai E 12 V9)] [(a0, o4 T0 (.ref a2)), (a1, o8 z.2.1 z.2.2.1 a3 a4), (a2, o3 z.2.2.2.1 u2_7 u2_8 a5 a7 a6 a8 a9 u2_14), (a3, ab E 900 V3), (a4, al E 23 V4), (a5, al E 5 V5), (a6, ai E 12 z.2.2.2.2.1), (a7, ai E 12 z.2.2.2.2.2.1), (a8, ai E 12 z.2.2.2.2.2.2.1), (a9, ai E 12 z.2.2.2.2.2.2.2)] sz) 0 0 (va_A [(a0, o4 T0 (.ref a2)), (a1, o8 T1 J1_8 a3 a4), (a2, o3 T2 u2_7 u2_8 a5 a7 a6 a8 a9 u2_14), (a3, ab E 900 V3), (a4, al E 23 V4), (a5, al E 5 V5), (a6, ai E 12 V6), (a7, ai E 12 V7), (a8, ai E 12 V8), (a9, ai E 12 V9)] sz) := by
  refine xM_i (by decide +kernel) (Nat.le_of_ble_eq_true rfl) ?_
  intro p e s m args below meth c A Q hx hb hml hown htg hK hG hA ret0 H locs ls hP hD hS hl
  have ret : ∀ (z' : Int32 × (Nat → Int32) × Int64 × (Nat → Int32) × (Nat → Int32) × (Nat → Int32) × (Nat → Int32) × (Nat → Int32)) {H : Heap} {locs : List Loc} {pc : Nat} {ls : Array Slot}, some z' = some z → narrow .boolean (.int z'.1) = .int z'.1 → va_P E.1 vwCl [(a0, o4 T0 (.ref a2)), (a1, o8 z'.2.1 z'.2.2.1 a3 a4), (a2, o3 z'.2.2.2.1 u2_7 u2_8 a5 a7 a6 a8 a9 u2_14), (a3, ab E 900 V3), (a4, al E 23 V4), (a5, al E 5 V5), (a6, ai E 12 z'.2.2.2.2.1), (a7, ai E 12 z'.2.2.2.2.2.1), (a8, ai E 12 z'.2.2.2.2.2.2.1), (a9, ai E 12 z'.2.2.2.2.2.2.2)] H → va_S A s.heap H locs → decode cX4_takeTold pc = .ok (.ireturn, 1) → W p l e ({ frames := 3, cells := 0, slots := 0, locals := 72 } : Room) s m args below meth c H locs 0 0 Q (F0 m pc ls [.int z'.1]) := by
    intro z' H locs pc ls h
    cases h
    exact ret0
  replace hl : lv_has ls 5 [(0, .ref a0), (1, .ref a1)] := hl
  unfold f_X4_takeTold at hf
  refine lv_aload_n hx hb dX4_takeTold_0 rfl (lv_at hl 0 rfl) ?_
  refine G4_14 hx hb htg hown hK hP 0 rfl dX4_takeTold_1 ?_
  refine G4_67 hx hb htg hown hK hP 2 rfl dX4_takeTold_4 ?_
  refine lv_bipush (v := 12) hx hb dX4_takeTold_7 rfl ?_
  refine lv_icmp_lt (tgt := 19) hx hb dX4_takeTold_9 (by decide) (fun c9 => ?_) (fun c9 => ?_)
  · have hf := it_t c9 hf
    refine lv_aload_n hx hb dX4_takeTold_19 rfl (lv_at hl 1 rfl) ?_
    obtain ⟨z20, hz20, hf⟩ := bind_s hf
    refine xV_vu hx hb hml hown htg L4_74 (c_X8_advance l E a1 a3 a4 hz20 _) ⟨⟨rfl, rfl⟩, Nat.le_of_ble_eq_true rfl, Nat.le_of_ble_eq_true rfl⟩ hK hG hA hP hD hS (is := [1, 3, 4]) (sel := [none, some 0, none, some 1, some 2, none, none, none, none, none]) (ws2 := [(a0, o4 T0 (.ref a2)), (a1, o8 z20.1 z20.2 a3 a4), (a2, o3 T2 u2_7 u2_8 a5 a7 a6 a8 a9 u2_14), (a3, ab E 900 V3), (a4, al E 23 V4), (a5, al E 5 V5), (a6, ai E 12 V6), (a7, ai E 12 V7), (a8, ai E 12 V8), (a9, ai E 12 V9)]) rfl rfl rfl rfl rfl (xrecv hK hP (q0 := 1) (ci := 8) rfl rfl) rfl hl.1 rfl (Nat.le_of_ble_eq_true rfl) dX4_takeTold_20 (fun H locs hP hD hS => ?_)
    refine lv_aload_n hx hb dX4_takeTold_23 rfl (lv_at hl 1 rfl) ?_
    obtain ⟨z24, hz24, hf⟩ := bind_s hf
    refine xV_ir hx hb hml hown htg L4_120 (c_X8_isName l E a1 hz24 _) ⟨⟨rfl, rfl⟩, Nat.le_of_ble_eq_true rfl, Nat.le_of_ble_eq_true rfl⟩ hK hG hA hP hD hS (is := [1]) rfl rfl (xrecv hK hP (q0 := 1) (ci := 8) rfl rfl) rfl hl.1 rfl (Nat.le_of_ble_eq_true rfl) dX4_takeTold_24 (fun H locs hP hD hS => ?_)
    refine lv_if_ne (tgt := 36) hx hb dX4_takeTold_27 (by decide) (fun c27 => ?_) (fun c27 => ?_)
    · have hf := it_f c27 hf
      refine lv_aload_n hx hb dX4_takeTold_36 rfl (lv_at hl 0 rfl) ?_
      refine G4_14 hx hb htg hown hK hP 0 rfl dX4_takeTold_37 ?_
      refine lv_aload_n hx hb dX4_takeTold_40 rfl (lv_at hl 1 rfl) ?_
      obtain ⟨z41, hz41, hf⟩ := bind_s hf
      refine xV_lr hx hb hml hown htg L4_123 (c_X8_nameCode l E a1 hz41 _) ⟨⟨rfl, rfl⟩, Nat.le_of_ble_eq_true rfl, Nat.le_of_ble_eq_true rfl⟩ hK hG hA hP hD hS (is := [1]) rfl rfl (xrecv hK hP (q0 := 1) (ci := 8) rfl rfl) rfl hl.1 rfl (Nat.le_of_ble_eq_true rfl) dX4_takeTold_41 (fun H locs hP hD hS => ?_)
      obtain ⟨z44, hz44, hf⟩ := bind_s hf
      refine xV_ir hx hb hml hown htg L4_127 (c_X3_travellerNamed l E a2 a5 hz44 _) ⟨⟨rfl, rfl⟩, Nat.le_of_ble_eq_true rfl, Nat.le_of_ble_eq_true rfl⟩ hK hG hA hP hD hS (is := [2, 5]) rfl rfl (xrecv hK hP (q0 := 2) (ci := 3) rfl rfl) rfl hl.1 rfl (Nat.le_of_ble_eq_true rfl) dX4_takeTold_44 (fun H locs hP hD hS => ?_)
      refine lv_istore_n (lv' := [(2, .int z44), (0, .ref a0), (1, .ref a1)]) hx hb dX4_takeTold_47 rfl hl (by decide) rfl (fun ls hl => ?_)
      refine lv_iload_n hx hb dX4_takeTold_48 rfl (lv_at hl 0 rfl) ?_
      refine lv_iconst (v := (-1)) hx hb dX4_takeTold_49 rfl ?_
      refine lv_icmp_ne (tgt := 59) hx hb dX4_takeTold_50 (by decide) (fun c50 => ?_) (fun c50 => ?_)
      · have hf := it_f c50 hf
        refine lv_aload_n hx hb dX4_takeTold_59 rfl (lv_at hl 2 rfl) ?_
        obtain ⟨z60, hz60, hf⟩ := bind_s hf
        refine xV_vu hx hb hml hown htg L4_74 (c_X8_advance l E a1 a3 a4 hz60 _) ⟨⟨rfl, rfl⟩, Nat.le_of_ble_eq_true rfl, Nat.le_of_ble_eq_true rfl⟩ hK hG hA hP hD hS (is := [1, 3, 4]) (sel := [none, some 0, none, some 1, some 2, none, none, none, none, none]) (ws2 := [(a0, o4 T0 (.ref a2)), (a1, o8 z60.1 z60.2 a3 a4), (a2, o3 T2 u2_7 u2_8 a5 a7 a6 a8 a9 u2_14), (a3, ab E 900 V3), (a4, al E 23 V4), (a5, al E 5 V5), (a6, ai E 12 V6), (a7, ai E 12 V7), (a8, ai E 12 V8), (a9, ai E 12 V9)]) rfl rfl rfl rfl rfl (xrecv hK hP (q0 := 1) (ci := 8) rfl rfl) rfl hl.1 rfl (Nat.le_of_ble_eq_true rfl) dX4_takeTold_60 (fun H locs hP hD hS => ?_)
        refine lv_aload_n hx hb dX4_takeTold_63 rfl (lv_at hl 2 rfl) ?_
        refine lv_iconst (v := 0) hx hb dX4_takeTold_64 rfl ?_
        refine lv_aload_n hx hb dX4_takeTold_65 rfl (lv_at hl 1 rfl) ?_
        refine G4_14 hx hb htg hown hK hP 0 rfl dX4_takeTold_66 ?_
        refine G4_71 hx hb htg hown hK hP 2 rfl dX4_takeTold_69 ?_
        refine lv_iconst (v := 1) hx hb dX4_takeTold_72 rfl ?_
        refine lv_isub hx hb dX4_takeTold_73 ?_
        obtain ⟨z74, hz74, hf⟩ := bind_s hf
        refine xV_iu hx hb hml hown htg L4_104 (c_X8_isNumber l E a1 hz74 _) ⟨⟨rfl, rfl⟩, Nat.le_of_ble_eq_true rfl, Nat.le_of_ble_eq_true rfl⟩ hK hG hA hP hD hS (is := [1]) (sel := [none, some 0, none, none, none, none, none, none, none, none]) (ws2 := [(a0, o4 T0 (.ref a2)), (a1, o8 z74.2 z60.2 a3 a4), (a2, o3 T2 u2_7 u2_8 a5 a7 a6 a8 a9 u2_14), (a3, ab E 900 V3), (a4, al E 23 V4), (a5, al E 5 V5), (a6, ai E 12 V6), (a7, ai E 12 V7), (a8, ai E 12 V8), (a9, ai E 12 V9)]) rfl rfl rfl rfl rfl (xrecv hK hP (q0 := 1) (ci := 8) rfl rfl) rfl hl.1 rfl (Nat.le_of_ble_eq_true rfl) dX4_takeTold_74 (fun H locs hP hD hS => ?_)
        refine lv_if_ne (tgt := 82) hx hb dX4_takeTold_77 (by decide) (fun c77 => ?_) (fun c77 => ?_)
        · have hf := it_f c77 hf
          refine lv_aload_n hx hb dX4_takeTold_82 rfl (lv_at hl 2 rfl) ?_
          obtain ⟨z83, hz83, hf⟩ := bind_s hf
          refine xV_ir hx hb hml hown htg L4_108 (c_X8_number l E a1 hz83 _) ⟨⟨rfl, rfl⟩, Nat.le_of_ble_eq_true rfl, Nat.le_of_ble_eq_true rfl⟩ hK hG hA hP hD hS (is := [1]) rfl rfl (xrecv hK hP (q0 := 1) (ci := 8) rfl rfl) rfl hl.1 rfl (Nat.le_of_ble_eq_true rfl) dX4_takeTold_83 (fun H locs hP hD hS => ?_)
          refine lv_istore_n (lv' := [(3, .int z83), (2, .int z44), (0, .ref a0), (1, .ref a1)]) hx hb dX4_takeTold_86 rfl hl (by decide) rfl (fun ls hl => ?_)
          refine lv_aload_n hx hb dX4_takeTold_87 rfl (lv_at hl 3 rfl) ?_
          obtain ⟨z88, hz88, hf⟩ := bind_s hf
          refine xV_vu hx hb hml hown htg L4_74 (c_X8_advance l E a1 a3 a4 hz88 _) ⟨⟨rfl, rfl⟩, Nat.le_of_ble_eq_true rfl, Nat.le_of_ble_eq_true rfl⟩ hK hG hA hP hD hS (is := [1, 3, 4]) (sel := [none, some 0, none, some 1, some 2, none, none, none, none, none]) (ws2 := [(a0, o4 T0 (.ref a2)), (a1, o8 z88.1 z88.2 a3 a4), (a2, o3 T2 u2_7 u2_8 a5 a7 a6 a8 a9 u2_14), (a3, ab E 900 V3), (a4, al E 23 V4), (a5, al E 5 V5), (a6, ai E 12 V6), (a7, ai E 12 V7), (a8, ai E 12 V8), (a9, ai E 12 V9)]) rfl rfl rfl rfl rfl (xrecv hK hP (q0 := 1) (ci := 8) rfl rfl) rfl hl.1 rfl (Nat.le_of_ble_eq_true rfl) dX4_takeTold_88 (fun H locs hP hD hS => ?_)
          refine lv_aload_n hx hb dX4_takeTold_91 rfl (lv_at hl 3 rfl) ?_
          refine lv_iconst (v := 0) hx hb dX4_takeTold_92 rfl ?_
          refine lv_aload_n hx hb dX4_takeTold_93 rfl (lv_at hl 2 rfl) ?_
          refine G4_14 hx hb htg hown hK hP 0 rfl dX4_takeTold_94 ?_
          refine G4_83 hx hb htg hown hK hP 2 rfl dX4_takeTold_97 ?_
          refine lv_iconst (v := 1) hx hb dX4_takeTold_100 rfl ?_
          refine lv_isub hx hb dX4_takeTold_101 ?_
          obtain ⟨z102, hz102, hf⟩ := bind_s hf
          refine xV_iu hx hb hml hown htg L4_104 (c_X8_isNumber l E a1 hz102 _) ⟨⟨rfl, rfl⟩, Nat.le_of_ble_eq_true rfl, Nat.le_of_ble_eq_true rfl⟩ hK hG hA hP hD hS (is := [1]) (sel := [none, some 0, none, none, none, none, none, none, none, none]) (ws2 := [(a0, o4 T0 (.ref a2)), (a1, o8 z102.2 z88.2 a3 a4), (a2, o3 T2 u2_7 u2_8 a5 a7 a6 a8 a9 u2_14), (a3, ab E 900 V3), (a4, al E 23 V4), (a5, al E 5 V5), (a6, ai E 12 V6), (a7, ai E 12 V7), (a8, ai E 12 V8), (a9, ai E 12 V9)]) rfl rfl rfl rfl rfl (xrecv hK hP (q0 := 1) (ci := 8) rfl rfl) rfl hl.1 rfl (Nat.le_of_ble_eq_true rfl) dX4_takeTold_102 (fun H locs hP hD hS => ?_)
          refine lv_if_ne (tgt := 110) hx hb dX4_takeTold_105 (by decide) (fun c105 => ?_) (fun c105 => ?_)
          · have hf := it_f c105 hf
            refine lv_iload_n hx hb dX4_takeTold_110 rfl (lv_at hl 0 rfl) ?_
            refine lv_aload_n hx hb dX4_takeTold_111 rfl (lv_at hl 2 rfl) ?_
            refine G4_14 hx hb htg hown hK hP 0 rfl dX4_takeTold_112 ?_
            refine G4_83 hx hb htg hown hK hP 2 rfl dX4_takeTold_115 ?_
            refine lv_imul hx hb dX4_takeTold_118 ?_
            refine lv_aload_n hx hb dX4_takeTold_119 rfl (lv_at hl 3 rfl) ?_
            obtain ⟨z120, hz120, hf⟩ := bind_s hf
            refine xV_ir hx hb hml hown htg L4_108 (c_X8_number l E a1 hz120 _) ⟨⟨rfl, rfl⟩, Nat.le_of_ble_eq_true rfl, Nat.le_of_ble_eq_true rfl⟩ hK hG hA hP hD hS (is := [1]) rfl rfl (xrecv hK hP (q0 := 1) (ci := 8) rfl rfl) rfl hl.1 rfl (Nat.le_of_ble_eq_true rfl) dX4_takeTold_120 (fun H locs hP hD hS => ?_)
            refine lv_iadd hx hb dX4_takeTold_123 ?_
            refine lv_istore (lv' := [(4, .int ((z83 * (T2 1)) + z120)), (3, .int z83), (2, .int z44), (0, .ref a0), (1, .ref a1)]) hx hb dX4_takeTold_124 hl (by decide) rfl (fun ls hl => ?_)
            refine lv_aload_n hx hb dX4_takeTold_126 rfl (lv_at hl 3 rfl) ?_
            refine G4_14 hx hb htg hown hK hP 0 rfl dX4_takeTold_127 ?_
            refine lv_iload hx hb dX4_takeTold_130 (lv_at hl 0 rfl) ?_
            obtain ⟨z132, hz132, hf⟩ := bind_s hf
            refine xV_ir hx hb hml hown htg L4_138 (c_X3_tellingsOf l E a2 a6 hz132 _) ⟨⟨rfl, rfl⟩, Nat.le_of_ble_eq_true rfl, Nat.le_of_ble_eq_true rfl⟩ hK hG hA hP hD hS (is := [2, 6]) rfl rfl (xrecv hK hP (q0 := 2) (ci := 3) rfl rfl) rfl hl.1 rfl (Nat.le_of_ble_eq_true rfl) dX4_takeTold_132 (fun H locs hP hD hS => ?_)
            refine lv_iconst (v := 5) hx hb dX4_takeTold_135 rfl ?_
            refine lv_icmp_lt (tgt := 145) hx hb dX4_takeTold_136 (by decide) (fun c136 => ?_) (fun c136 => ?_)
            · have hf := it_t c136 hf
              refine lv_aload_n hx hb dX4_takeTold_145 rfl (lv_at hl 4 rfl) ?_
              obtain ⟨z146, hz146, hf⟩ := bind_s hf
              refine xV_vu hx hb hml hown htg L4_74 (c_X8_advance l E a1 a3 a4 hz146 _) ⟨⟨rfl, rfl⟩, Nat.le_of_ble_eq_true rfl, Nat.le_of_ble_eq_true rfl⟩ hK hG hA hP hD hS (is := [1, 3, 4]) (sel := [none, some 0, none, some 1, some 2, none, none, none, none, none]) (ws2 := [(a0, o4 T0 (.ref a2)), (a1, o8 z146.1 z146.2 a3 a4), (a2, o3 T2 u2_7 u2_8 a5 a7 a6 a8 a9 u2_14), (a3, ab E 900 V3), (a4, al E 23 V4), (a5, al E 5 V5), (a6, ai E 12 V6), (a7, ai E 12 V7), (a8, ai E 12 V8), (a9, ai E 12 V9)]) rfl rfl rfl rfl rfl (xrecv hK hP (q0 := 1) (ci := 8) rfl rfl) rfl hl.1 rfl (Nat.le_of_ble_eq_true rfl) dX4_takeTold_146 (fun H locs hP hD hS => ?_)
              refine lv_aload_n hx hb dX4_takeTold_149 rfl (lv_at hl 3 rfl) ?_
              refine lv_aload_n hx hb dX4_takeTold_150 rfl (lv_at hl 4 rfl) ?_
              refine lv_iload_n hx hb dX4_takeTold_151 rfl (lv_at hl 2 rfl) ?_
              refine lv_iload hx hb dX4_takeTold_152 (lv_at hl 0 rfl) ?_
              obtain ⟨z154, hz154, hf⟩ := bind_s hf
              refine xV_iu hx hb hml hown htg L4_141 (c_X4_takeFeeling l E a0 a1 a3 a4 a2 a6 a7 a8 a9 hz154 _) ⟨⟨rfl, rfl⟩, Nat.le_of_ble_eq_true rfl, Nat.le_of_ble_eq_true rfl⟩ hK hG hA hP hD hS (is := [0, 1, 3, 4, 2, 6, 7, 8, 9]) (sel := [some 0, some 1, some 4, some 2, some 3, none, some 5, some 6, some 7, some 8]) (ws2 := [(a0, o4 T0 (.ref a2)), (a1, o8 z154.2.1 z154.2.2.1 a3 a4), (a2, o3 z154.2.2.2.1 u2_7 u2_8 a5 a7 a6 a8 a9 u2_14), (a3, ab E 900 V3), (a4, al E 23 V4), (a5, al E 5 V5), (a6, ai E 12 z154.2.2.2.2.1), (a7, ai E 12 z154.2.2.2.2.2.1), (a8, ai E 12 z154.2.2.2.2.2.2.1), (a9, ai E 12 z154.2.2.2.2.2.2.2)]) rfl rfl rfl rfl rfl (xrecv hK hP (q0 := 0) (ci := 4) rfl rfl) rfl hl.1 rfl (Nat.le_of_ble_eq_true rfl) dX4_takeTold_154 (fun H locs hP hD hS => ?_)
              obtain ⟨g157, hf⟩ := ck_s hf
              exact ret (z154.1, z154.2.1, z154.2.2.1, z154.2.2.2.1, z154.2.2.2.2.1, z154.2.2.2.2.2.1, z154.2.2.2.2.2.2.1, z154.2.2.2.2.2.2.2) hf (bz_n g157).1 hP hS dX4_takeTold_157
            · have hf := it_f c136 hf
              refine lv_aload_n hx hb dX4_takeTold_139 rfl (lv_at hl 4 rfl) ?_
              refine lv_iconst (v := 5) hx hb dX4_takeTold_140 rfl ?_
              obtain ⟨z141, hz141, hf⟩ := bind_s hf
              refine xV_iu hx hb hml hown htg L4_64 (c_X8_blame l E a1 hz141 _) ⟨⟨rfl, rfl⟩, Nat.le_of_ble_eq_true rfl, Nat.le_of_ble_eq_true rfl⟩ hK hG hA hP hD hS (is := [1]) (sel := [none, some 0, none, none, none, none, none, none, none, none]) (ws2 := [(a0, o4 T0 (.ref a2)), (a1, o8 z141.2 z88.2 a3 a4), (a2, o3 T2 u2_7 u2_8 a5 a7 a6 a8 a9 u2_14), (a3, ab E 900 V3), (a4, al E 23 V4), (a5, al E 5 V5), (a6, ai E 12 V6), (a7, ai E 12 V7), (a8, ai E 12 V8), (a9, ai E 12 V9)]) rfl rfl rfl rfl rfl (xrecv hK hP (q0 := 1) (ci := 8) rfl rfl) rfl hl.1 rfl (Nat.le_of_ble_eq_true rfl) dX4_takeTold_141 (fun H locs hP hD hS => ?_)
              obtain ⟨g144, hf⟩ := ck_s hf
              exact ret (z141.1, z141.2, z88.2, T2, V6, V7, V8, V9) hf (bz_n g144).1 hP hS dX4_takeTold_144
          · have hf := it_t c105 hf
            refine lv_iconst (v := 0) hx hb dX4_takeTold_108 rfl ?_
            exact ret (0, z102.2, z88.2, T2, V6, V7, V8, V9) hf nz0 hP hS dX4_takeTold_109
        · have hf := it_t c77 hf
          refine lv_iconst (v := 0) hx hb dX4_takeTold_80 rfl ?_
          exact ret (0, z74.2, z60.2, T2, V6, V7, V8, V9) hf nz0 hP hS dX4_takeTold_81
      · have hf := it_t c50 hf
        refine lv_aload_n hx hb dX4_takeTold_53 rfl (lv_at hl 2 rfl) ?_
        refine lv_iconst (v := 3) hx hb dX4_takeTold_54 rfl ?_
        obtain ⟨z55, hz55, hf⟩ := bind_s hf
        refine xV_iu hx hb hml hown htg L4_64 (c_X8_blame l E a1 hz55 _) ⟨⟨rfl, rfl⟩, Nat.le_of_ble_eq_true rfl, Nat.le_of_ble_eq_true rfl⟩ hK hG hA hP hD hS (is := [1]) (sel := [none, some 0, none, none, none, none, none, none, none, none]) (ws2 := [(a0, o4 T0 (.ref a2)), (a1, o8 z55.2 z20.2 a3 a4), (a2, o3 T2 u2_7 u2_8 a5 a7 a6 a8 a9 u2_14), (a3, ab E 900 V3), (a4, al E 23 V4), (a5, al E 5 V5), (a6, ai E 12 V6), (a7, ai E 12 V7), (a8, ai E 12 V8), (a9, ai E 12 V9)]) rfl rfl rfl rfl rfl (xrecv hK hP (q0 := 1) (ci := 8) rfl rfl) rfl hl.1 rfl (Nat.le_of_ble_eq_true rfl) dX4_takeTold_55 (fun H locs hP hD hS => ?_)
        obtain ⟨g58, hf⟩ := ck_s hf
        exact ret (z55.1, z55.2, z20.2, T2, V6, V7, V8, V9) hf (bz_n g58).1 hP hS dX4_takeTold_58
    · have hf := it_t c27 hf
      refine lv_aload_n hx hb dX4_takeTold_30 rfl (lv_at hl 1 rfl) ?_
      refine lv_iconst (v := 2) hx hb dX4_takeTold_31 rfl ?_
      obtain ⟨z32, hz32, hf⟩ := bind_s hf
      refine xV_iu hx hb hml hown htg L4_64 (c_X8_blame l E a1 hz32 _) ⟨⟨rfl, rfl⟩, Nat.le_of_ble_eq_true rfl, Nat.le_of_ble_eq_true rfl⟩ hK hG hA hP hD hS (is := [1]) (sel := [none, some 0, none, none, none, none, none, none, none, none]) (ws2 := [(a0, o4 T0 (.ref a2)), (a1, o8 z32.2 z20.2 a3 a4), (a2, o3 T2 u2_7 u2_8 a5 a7 a6 a8 a9 u2_14), (a3, ab E 900 V3), (a4, al E 23 V4), (a5, al E 5 V5), (a6, ai E 12 V6), (a7, ai E 12 V7), (a8, ai E 12 V8), (a9, ai E 12 V9)]) rfl rfl rfl rfl rfl (xrecv hK hP (q0 := 1) (ci := 8) rfl rfl) rfl hl.1 rfl (Nat.le_of_ble_eq_true rfl) dX4_takeTold_32 (fun H locs hP hD hS => ?_)
      obtain ⟨g35, hf⟩ := ck_s hf
      exact ret (z32.1, z32.2, z20.2, T2, V6, V7, V8, V9) hf (bz_n g35).1 hP hS dX4_takeTold_35
  · have hf := it_f c9 hf
    refine lv_aload_n hx hb dX4_takeTold_12 rfl (lv_at hl 1 rfl) ?_
    refine lv_bipush (v := 6) hx hb dX4_takeTold_13 rfl ?_
    obtain ⟨z15, hz15, hf⟩ := bind_s hf
    refine xV_iu hx hb hml hown htg L4_64 (c_X8_blame l E a1 hz15 _) ⟨⟨rfl, rfl⟩, Nat.le_of_ble_eq_true rfl, Nat.le_of_ble_eq_true rfl⟩ hK hG hA hP hD hS (is := [1]) (sel := [none, some 0, none, none, none, none, none, none, none, none]) (ws2 := [(a0, o4 T0 (.ref a2)), (a1, o8 z15.2 J1_8 a3 a4), (a2, o3 T2 u2_7 u2_8 a5 a7 a6 a8 a9 u2_14), (a3, ab E 900 V3), (a4, al E 23 V4), (a5, al E 5 V5), (a6, ai E 12 V6), (a7, ai E 12 V7), (a8, ai E 12 V8), (a9, ai E 12 V9)]) rfl rfl rfl rfl rfl (xrecv hK hP (q0 := 1) (ci := 8) rfl rfl) rfl hl.1 rfl (Nat.le_of_ble_eq_true rfl) dX4_takeTold_15 (fun H locs hP hD hS => ?_)
    obtain ⟨g18, hf⟩ := ck_s hf
    exact ret (z15.1, z15.2, J1_8, T2, V6, V7, V8, V9) hf (bz_n g18).1 hP hS dX4_takeTold_18
