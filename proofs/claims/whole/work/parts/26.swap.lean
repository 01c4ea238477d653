theorem dX4_takeRow_0 : decode cX4_takeRow 0 = .ok (.aload_n 0, 1) := by decide +kernel
theorem dX4_takeRow_1 : decode cX4_takeRow 1 = .ok (.getfield 24, 3) := by decide +kernel
theorem dX4_takeRow_4 : decode cX4_takeRow 4 = .ok (.ifCond .ne 13, 3) := by decide +kernel
theorem dX4_takeRow_7 : decode cX4_takeRow 7 = .ok (.aload_n 0, 1) := by decide +kernel
theorem dX4_takeRow_8 : decode cX4_takeRow 8 = .ok (.getfield 14, 3) := by decide +kernel
theorem dX4_takeRow_11 : decode cX4_takeRow 11 = .ok (.getfield 67, 3) := by decide +kernel
theorem dX4_takeRow_14 : decode cX4_takeRow 14 = .ok (.ifCond .le 9, 3) := by decide +kernel
theorem dX4_takeRow_17 : decode cX4_takeRow 17 = .ok (.aload_n 1, 1) := by decide +kernel
theorem dX4_takeRow_18 : decode cX4_takeRow 18 = .ok (.iconst 5, 1) := by decide +kernel
theorem dX4_takeRow_19 : decode cX4_takeRow 19 = .ok (.invokevirtual 64, 3) := by decide +kernel
theorem dX4_takeRow_22 : decode cX4_takeRow 22 = .ok (.ireturn, 1) := by decide +kernel
theorem dX4_takeRow_23 : decode cX4_takeRow 23 = .ok (.aload_n 0, 1) := by decide +kernel
theorem dX4_takeRow_24 : decode cX4_takeRow 24 = .ok (.getfield 14, 3) := by decide +kernel
theorem dX4_takeRow_27 : decode cX4_takeRow 27 = .ok (.getfield 71, 3) := by decide +kernel
theorem dX4_takeRow_30 : decode cX4_takeRow 30 = .ok (.bipush 6, 2) := by decide +kernel
theorem dX4_takeRow_32 : decode cX4_takeRow 32 = .ok (.if_icmp .lt 10, 3) := by decide +kernel
theorem dX4_takeRow_35 : decode cX4_takeRow 35 = .ok (.aload_n 1, 1) := by decide +kernel
theorem dX4_takeRow_36 : decode cX4_takeRow 36 = .ok (.bipush 6, 2) := by decide +kernel
theorem dX4_takeRow_38 : decode cX4_takeRow 38 = .ok (.invokevirtual 64, 3) := by decide +kernel
theorem dX4_takeRow_41 : decode cX4_takeRow 41 = .ok (.ireturn, 1) := by decide +kernel
theorem dX4_takeRow_42 : decode cX4_takeRow 42 = .ok (.aload_n 1, 1) := by decide +kernel
theorem dX4_takeRow_43 : decode cX4_takeRow 43 = .ok (.invokevirtual 74, 3) := by decide +kernel
theorem dX4_takeRow_46 : decode cX4_takeRow 46 = .ok (.aload_n 1, 1) := by decide +kernel
theorem dX4_takeRow_47 : decode cX4_takeRow 47 = .ok (.invokevirtual 77, 3) := by decide +kernel
theorem dX4_takeRow_50 : decode cX4_takeRow 50 = .ok (.ifCond .ne 9, 3) := by decide +kernel
theorem dX4_takeRow_53 : decode cX4_takeRow 53 = .ok (.aload_n 1, 1) := by decide +kernel
theorem dX4_takeRow_54 : decode cX4_takeRow 54 = .ok (.iconst 2, 1) := by decide +kernel
theorem dX4_takeRow_55 : decode cX4_takeRow 55 = .ok (.invokevirtual 64, 3) := by decide +kernel
theorem dX4_takeRow_58 : decode cX4_takeRow 58 = .ok (.ireturn, 1) := by decide +kernel
theorem dX4_takeRow_59 : decode cX4_takeRow 59 = .ok (.aload_n 1, 1) := by decide +kernel
theorem dX4_takeRow_60 : decode cX4_takeRow 60 = .ok (.invokevirtual 80, 3) := by decide +kernel
theorem dX4_takeRow_63 : decode cX4_takeRow 63 = .ok (.istore_n 2, 1) := by decide +kernel
theorem dX4_takeRow_64 : decode cX4_takeRow 64 = .ok (.iload_n 2, 1) := by decide +kernel
theorem dX4_takeRow_65 : decode cX4_takeRow 65 = .ok (.bipush 6, 2) := by decide +kernel
theorem dX4_takeRow_67 : decode cX4_takeRow 67 = .ok (.if_icmp .gt 24, 3) := by decide +kernel
theorem dX4_takeRow_70 : decode cX4_takeRow 70 = .ok (.aload_n 0, 1) := by decide +kernel
theorem dX4_takeRow_71 : decode cX4_takeRow 71 = .ok (.getfield 14, 3) := by decide +kernel
theorem dX4_takeRow_74 : decode cX4_takeRow 74 = .ok (.getfield 71, 3) := by decide +kernel
theorem dX4_takeRow_77 : decode cX4_takeRow 77 = .ok (.ifCond .le 20, 3) := by decide +kernel
theorem dX4_takeRow_80 : decode cX4_takeRow 80 = .ok (.iload_n 2, 1) := by decide +kernel
theorem dX4_takeRow_81 : decode cX4_takeRow 81 = .ok (.aload_n 0, 1) := by decide +kernel
theorem dX4_takeRow_82 : decode cX4_takeRow 82 = .ok (.getfield 14, 3) := by decide +kernel
theorem dX4_takeRow_85 : decode cX4_takeRow 85 = .ok (.getfield 83, 3) := by decide +kernel
theorem dX4_takeRow_88 : decode cX4_takeRow 88 = .ok (.if_icmp .eq 9, 3) := by decide +kernel
theorem dX4_takeRow_91 : decode cX4_takeRow 91 = .ok (.aload_n 1, 1) := by decide +kernel
theorem dX4_takeRow_92 : decode cX4_takeRow 92 = .ok (.iconst 4, 1) := by decide +kernel
theorem dX4_takeRow_93 : decode cX4_takeRow 93 = .ok (.invokevirtual 64, 3) := by decide +kernel
theorem dX4_takeRow_96 : decode cX4_takeRow 96 = .ok (.ireturn, 1) := by decide +kernel
theorem dX4_takeRow_97 : decode cX4_takeRow 97 = .ok (.iconst 0, 1) := by decide +kernel
theorem dX4_takeRow_98 : decode cX4_takeRow 98 = .ok (.istore_n 3, 1) := by decide +kernel
theorem dX4_takeRow_99 : decode cX4_takeRow 99 = .ok (.iload_n 3, 1) := by decide +kernel
theorem dX4_takeRow_100 : decode cX4_takeRow 100 = .ok (.iload_n 2, 1) := by decide +kernel
theorem dX4_takeRow_101 : decode cX4_takeRow 101 = .ok (.if_icmp .ge 57, 3) := by decide +kernel
theorem dX4_takeRow_104 : decode cX4_takeRow 104 = .ok (.ldc 86, 2) := by decide +kernel
theorem dX4_takeRow_106 : decode cX4_takeRow 106 = .ok (.aload_n 1, 1) := by decide +kernel
theorem dX4_takeRow_107 : decode cX4_takeRow 107 = .ok (.iload_n 3, 1) := by decide +kernel
theorem dX4_takeRow_108 : decode cX4_takeRow 108 = .ok (.invokevirtual 88, 3) := by decide +kernel
theorem dX4_takeRow_111 : decode cX4_takeRow 111 = .ok (.i2c, 1) := by decide +kernel
theorem dX4_takeRow_112 : decode cX4_takeRow 112 = .ok (.invokevirtual 92, 3) := by decide +kernel
theorem dX4_takeRow_115 : decode cX4_takeRow 115 = .ok (.istore 4, 2) := by decide +kernel
theorem dX4_takeRow_117 : decode cX4_takeRow 117 = .ok (.iload 4, 2) := by decide +kernel
theorem dX4_takeRow_119 : decode cX4_takeRow 119 = .ok (.invokestatic 97, 3) := by decide +kernel
theorem dX4_takeRow_122 : decode cX4_takeRow 122 = .ok (.ifCond .ne 9, 3) := by decide +kernel
theorem dX4_takeRow_125 : decode cX4_takeRow 125 = .ok (.aload_n 1, 1) := by decide +kernel
theorem dX4_takeRow_126 : decode cX4_takeRow 126 = .ok (.iconst 4, 1) := by decide +kernel
theorem dX4_takeRow_127 : decode cX4_takeRow 127 = .ok (.invokevirtual 64, 3) := by decide +kernel
theorem dX4_takeRow_130 : decode cX4_takeRow 130 = .ok (.ireturn, 1) := by decide +kernel
theorem dX4_takeRow_131 : decode cX4_takeRow 131 = .ok (.aload_n 0, 1) := by decide +kernel
theorem dX4_takeRow_132 : decode cX4_takeRow 132 = .ok (.getfield 14, 3) := by decide +kernel
theorem dX4_takeRow_135 : decode cX4_takeRow 135 = .ok (.getfield 100, 3) := by decide +kernel
theorem dX4_takeRow_138 : decode cX4_takeRow 138 = .ok (.aload_n 0, 1) := by decide +kernel
theorem dX4_takeRow_139 : decode cX4_takeRow 139 = .ok (.getfield 14, 3) := by decide +kernel
theorem dX4_takeRow_142 : decode cX4_takeRow 142 = .ok (.getfield 71, 3) := by decide +kernel
theorem dX4_takeRow_145 : decode cX4_takeRow 145 = .ok (.iload_n 2, 1) := by decide +kernel
theorem dX4_takeRow_146 : decode cX4_takeRow 146 = .ok (.imul, 1) := by decide +kernel
theorem dX4_takeRow_147 : decode cX4_takeRow 147 = .ok (.iload_n 3, 1) := by decide +kernel
theorem dX4_takeRow_148 : decode cX4_takeRow 148 = .ok (.iadd, 1) := by decide +kernel
theorem dX4_takeRow_149 : decode cX4_takeRow 149 = .ok (.iload 4, 2) := by decide +kernel
theorem dX4_takeRow_151 : decode cX4_takeRow 151 = .ok (.iastore, 1) := by decide +kernel
theorem dX4_takeRow_152 : decode cX4_takeRow 152 = .ok (.iinc 3 1, 3) := by decide +kernel
theorem dX4_takeRow_155 : decode cX4_takeRow 155 = .ok (.goto (-56), 3) := by decide +kernel
theorem dX4_takeRow_158 : decode cX4_takeRow 158 = .ok (.aload_n 0, 1) := by decide +kernel
theorem dX4_takeRow_159 : decode cX4_takeRow 159 = .ok (.getfield 14, 3) := by decide +kernel
theorem dX4_takeRow_162 : decode cX4_takeRow 162 = .ok (.iload_n 2, 1) := by decide +kernel
theorem dX4_takeRow_163 : decode cX4_takeRow 163 = .ok (.putfield 83, 3) := by decide +kernel
theorem dX4_takeRow_166 : decode cX4_takeRow 166 = .ok (.aload_n 0, 1) := by decide +kernel
theorem dX4_takeRow_167 : decode cX4_takeRow 167 = .ok (.getfield 14, 3) := by decide +kernel
theorem dX4_takeRow_170 : decode cX4_takeRow 170 = .ok (.dup, 1) := by decide +kernel
theorem dX4_takeRow_171 : decode cX4_takeRow 171 = .ok (.getfield 71, 3) := by decide +kernel
theorem dX4_takeRow_174 : decode cX4_takeRow 174 = .ok (.iconst 1, 1) := by decide +kernel
theorem dX4_takeRow_175 : decode cX4_takeRow 175 = .ok (.iadd, 1) := by decide +kernel
theorem dX4_takeRow_176 : decode cX4_takeRow 176 = .ok (.putfield 71, 3) := by decide +kernel
theorem dX4_takeRow_179 : decode cX4_takeRow 179 = .ok (.aload_n 1, 1) := by decide +kernel
theorem dX4_takeRow_180 : decode cX4_takeRow 180 = .ok (.invokevirtual 74, 3) := by decide +kernel
theorem dX4_takeRow_183 : decode cX4_takeRow 183 = .ok (.iconst 1, 1) := by decide +kernel
theorem dX4_takeRow_184 : decode cX4_takeRow 184 = .ok (.ireturn, 1) := by decide +kernel
set_option maxRecDepth 100000 in
theorem c_X4_takeRow (l : Launch) (E : xE) (a0 a1 a2 a3 a4 a5 : Nat) {T0 : Nat → Int32} {T1 : Nat → Int32} {J1_8 : Int64} {T2 : Nat → Int32} {V3 : Nat → Int32} {V4 : Nat → Int64} {V5 : Nat → Int32} {u2_8 u2_9 u2_10 u2_11 u2_12 u2_13 u2_14 : Nat} {z : Int32 × (Nat → Int32) × Int64 × (Nat → Int32) × (Nat → Int32)} (hf : f_X4_takeRow T0 T1 J1_8 T2 V3 V4 V5 = some z) (sz : Nat) : Met l yX4_takeRow (Cond.code yX4_takeRow cX4_takeRow 5 (some .boolean) :: gw) ({ frames := 4, cells := 0, slots := 0, locals := 106 }) (xPc E [.ref a0, .ref a1] [(a0, o4 T0 (.ref a2)), (a1, o8 T1 J1_8 a3 a4), (a2, o3 T2 a5 u2_8 u2_9 u2_10 u2_11 u2_12 u2_13 u2_14), (a3, ab E 900 V3), (a4, al E 23 V4), (a5, ai E 36 V5)] sz) (xQi E z.1 [(a0, o4 T0 (.ref a2)), (a1, o8 T1 J1_8 a3 a4), (a2, o3 T2 a5 u2_8 u2_9 u2_10 u2_11 u2_12 u2_13 u2_14), (a3, ab E 900 V3), (a4, al E 23 V4), (a5, ai E 36 V5)] [(a0, o4 T0 (.ref a2)), (a1, o8 z.2.1 z.2.2.1 a3 a4), (a2, o3 z.2.2.2.1 a5 u2_8 u2_9 u2_10 u2_11 u2_12 u2_13 u2_14), (a3, ab E 900 V3), (a4, al E 23 V4), (a5, ai E 36 z.2.2.2.2)] sz) 0 0 (va_A [(a0, o4 T0 (.ref a2)), (a1, o8 T1 J1_8 a3 a4), (a2, o3 T2 a5 u2_8 u2_9 u2_10 u2_11 u2_12 u2_13 u2_14), (a3, ab E 900 V3), (a4, al E 23 V4), (a5, ai E 36 V5)] sz) := by
  refine xM_i (by decide +kernel) (Nat.le_of_ble_eq_true rfl) ?_
  intro p e s m args below meth c A Q hx hb hml hown htg hK hG hA ret0 H locs ls hP hD hS hl
  have ret : ∀ (z' : Int32 × (Nat → Int32) × Int64 × (Nat → Int32) × (Nat → Int32)) {H : Heap} {locs : List Loc} {pc : Nat} {ls : Array Slot}, some z' = some z → narrow .boolean (.int z'.1) = .int z'.1 → va_P E.1 vwCl [(a0, o4 T0 (.ref a2)), (a1, o8 z'.2.1 z'.2.2.1 a3 a4), (a2, o3 z'.2.2.2.1 a5 u2_8 u2_9 u2_10 u2_11 u2_12 u2_13 u2_14), (a3, ab E 900 V3), (a4, al E 23 V4), (a5, ai E 36 z'.2.2.2.2)] H → va_S A s.heap H locs → decode cX4_takeRow pc = .ok (.ireturn, 1) → W p l e ({ frames := 4, cells := 0, slots := 0, locals := 106 } : Room) s m args below meth c H locs 0 0 Q (F0 m pc ls [.int z'.1]) := by
    intro z' H locs pc ls h
    cases h
    exact ret0
  replace hl : lv_has ls 5 [(0, .ref a0), (1, .ref a1)] := hl
  have b17 : ∀ (T1 : Nat → Int32) (J1_8 : Int64) (T2 : Nat → Int32) (V5 : Nat → Int32) (H : Heap) (locs : List Loc) (ls : Array Slot), f_X4_takeRow_17 T0 V3 V4 T1 J1_8 T2 V5 = some z → va_P E.1 vwCl [(a0, o4 T0 (.ref a2)), (a1, o8 T1 J1_8 a3 a4), (a2, o3 T2 a5 u2_8 u2_9 u2_10 u2_11 u2_12 u2_13 u2_14), (a3, ab E 900 V3), (a4, al E 23 V4), (a5, ai E 36 V5)] H → va_D A [(a0, o4 T0 (.ref a2)), (a1, o8 T1 J1_8 a3 a4), (a2, o3 T2 a5 u2_8 u2_9 u2_10 u2_11 u2_12 u2_13 u2_14), (a3, ab E 900 V3), (a4, al E 23 V4), (a5, ai E 36 V5)] → va_S A s.heap H locs → lv_has ls 5 [(1, .ref a1)] → W p l e ({ frames := 4, cells := 0, slots := 0, locals := 106 } : Room) s m args below meth c H locs 0 0 Q (F0 m 17 ls []) := by
    intro T1 J1_8 T2 V5 H locs ls hf hP hD hS hl
    unfold f_X4_takeRow_17 at hf
    refine lv_aload_n hx hb dX4_takeRow_17 rfl (lv_at hl 0 rfl) ?_
    refine lv_iconst (v := 5) hx hb dX4_takeRow_18 rfl ?_
    obtain ⟨z19, hz19, hf⟩ := bind_s hf
    refine xV_iu hx hb hml hown htg L4_64 (c_X8_blame l E a1 hz19 _) ⟨⟨rfl, rfl⟩, Nat.le_of_ble_eq_true rfl, Nat.le_of_ble_eq_true rfl⟩ hK hG hA hP hD hS (is := [1]) (sel := [none, some 0, none, none, none, none]) (ws2 := [(a0, o4 T0 (.ref a2)), (a1, o8 z19.2 J1_8 a3 a4), (a2, o3 T2 a5 u2_8 u2_9 u2_10 u2_11 u2_12 u2_13 u2_14), (a3, ab E 900 V3), (a4, al E 23 V4), (a5, ai E 36 V5)]) rfl rfl rfl rfl rfl (xrecv hK hP (q0 := 1) (ci := 8) rfl rfl) rfl hl.1 rfl (Nat.le_of_ble_eq_true rfl) dX4_takeRow_19 (fun H locs hP hD hS => ?_)
    obtain ⟨g22, hf⟩ := ck_s hf
    exact ret (z19.1, z19.2, J1_8, T2, V5) hf (bz_n g22).1 hP hS dX4_takeRow_22
  have b91 : ∀ (T1 : Nat → Int32) (J1_8 : Int64) (T2 : Nat → Int32) (V5 : Nat → Int32) (H : Heap) (locs : List Loc) (ls : Array Slot), f_X4_takeRow_91 T0 V3 V4 T1 J1_8 T2 V5 = some z → va_P E.1 vwCl [(a0, o4 T0 (.ref a2)), (a1, o8 T1 J1_8 a3 a4), (a2, o3 T2 a5 u2_8 u2_9 u2_10 u2_11 u2_12 u2_13 u2_14), (a3, ab E 900 V3), (a4, al E 23 V4), (a5, ai E 36 V5)] H → va_D A [(a0, o4 T0 (.ref a2)), (a1, o8 T1 J1_8 a3 a4), (a2, o3 T2 a5 u2_8 u2_9 u2_10 u2_11 u2_12 u2_13 u2_14), (a3, ab E 900 V3), (a4, al E 23 V4), (a5, ai E 36 V5)] → va_S A s.heap H locs → lv_has ls 5 [(1, .ref a1)] → W p l e ({ frames := 4, cells := 0, slots := 0, locals := 106 } : Room) s m args below meth c H locs 0 0 Q (F0 m 91 ls []) := by
    intro T1 J1_8 T2 V5 H locs ls hf hP hD hS hl
    unfold f_X4_takeRow_91 at hf
    refine lv_aload_n hx hb dX4_takeRow_91 rfl (lv_at hl 0 rfl) ?_
    refine lv_iconst (v := 4) hx hb dX4_takeRow_92 rfl ?_
    obtain ⟨z93, hz93, hf⟩ := bind_s hf
    refine xV_iu hx hb hml hown htg L4_64 (c_X8_blame l E a1 hz93 _) ⟨⟨rfl, rfl⟩, Nat.le_of_ble_eq_true rfl, Nat.le_of_ble_eq_true rfl⟩ hK hG hA hP hD hS (is := [1]) (sel := [none, some 0, none, none, none, none]) (ws2 := [(a0, o4 T0 (.ref a2)), (a1, o8 z93.2 J1_8 a3 a4), (a2, o3 T2 a5 u2_8 u2_9 u2_10 u2_11 u2_12 u2_13 u2_14), (a3, ab E 900 V3), (a4, al E 23 V4), (a5, ai E 36 V5)]) rfl rfl rfl rfl rfl (xrecv hK hP (q0 := 1) (ci := 8) rfl rfl) rfl hl.1 rfl (Nat.le_of_ble_eq_true rfl) dX4_takeRow_93 (fun H locs hP hD hS => ?_)
    obtain ⟨g96, hf⟩ := ck_s hf
    exact ret (z93.1, z93.2, J1_8, T2, V5) hf (bz_n g96).1 hP hS dX4_takeRow_96
  have b99 : ∀ (n : Nat) (x2 : Int32) (x3 : Int32) (T1 : Nat → Int32) (J1_8 : Int64) (T2 : Nat → Int32) (V5 : Nat → Int32) (H : Heap) (locs : List Loc) (ls : Array Slot), f_X4_takeRow_99 T0 V3 V4 n x2 x3 T1 J1_8 T2 V5 = some z → va_P E.1 vwCl [(a0, o4 T0 (.ref a2)), (a1, o8 T1 J1_8 a3 a4), (a2, o3 T2 a5 u2_8 u2_9 u2_10 u2_11 u2_12 u2_13 u2_14), (a3, ab E 900 V3), (a4, al E 23 V4), (a5, ai E 36 V5)] H → va_D A [(a0, o4 T0 (.ref a2)), (a1, o8 T1 J1_8 a3 a4), (a2, o3 T2 a5 u2_8 u2_9 u2_10 u2_11 u2_12 u2_13 u2_14), (a3, ab E 900 V3), (a4, al E 23 V4), (a5, ai E 36 V5)] → va_S A s.heap H locs → lv_has ls 5 [(0, .ref a0), (1, .ref a1), (2, .int x2), (3, .int x3)] → W p l e ({ frames := 4, cells := 0, slots := 0, locals := 106 } : Room) s m args below meth c H locs 0 0 Q (F0 m 99 ls []) := by
    intro n
    induction n with
    | zero => intro x2 x3 T1 J1_8 T2 V5 H locs ls hf; exact (nn_s hf).elim
    | succ n ih99 =>
      obtain ⟨k99, ek99⟩ : ∃ k, k = f_X4_takeRow_99 T0 V3 V4 n := ⟨_, rfl⟩
      rw [← ek99] at ih99
      intro x2 x3 T1 J1_8 T2 V5 H locs ls hf hP hD hS hl
      replace hf : g_X4_takeRow_99 T0 V3 V4 k99 x2 x3 T1 J1_8 T2 V5 = some z := by rw [ek99]; exact hf
      unfold g_X4_takeRow_99 at hf
      refine lv_iload_n hx hb dX4_takeRow_99 rfl (lv_at hl 3 rfl) ?_
      refine lv_iload_n hx hb dX4_takeRow_100 rfl (lv_at hl 2 rfl) ?_
      refine lv_icmp_ge (tgt := 158) hx hb dX4_takeRow_101 (by decide) (fun c101 => ?_) (fun c101 => ?_)
      · have hf := it_t c101 hf
        refine lv_aload_n hx hb dX4_takeRow_158 rfl (lv_at hl 0 rfl) ?_
        refine G4_14 hx hb htg hown hK hP 0 rfl dX4_takeRow_159 ?_
        refine lv_iload_n hx hb dX4_takeRow_162 rfl (lv_at hl 2 rfl) ?_
        refine P4_83 hx hb htg hown hK hP hD hS 2 rfl dX4_takeRow_163 (fun H locs hP hD hS => ?_)
        refine lv_aload_n hx hb dX4_takeRow_166 rfl (lv_at hl 0 rfl) ?_
        refine G4_14 hx hb htg hown hK hP 0 rfl dX4_takeRow_167 ?_
        refine lv_dup hx hb dX4_takeRow_170 rfl ?_
        refine G4_71 hx hb htg hown hK hP 2 rfl dX4_takeRow_171 ?_
        refine lv_iconst (v := 1) hx hb dX4_takeRow_174 rfl ?_
        refine lv_iadd hx hb dX4_takeRow_175 ?_
        refine P4_71 hx hb htg hown hK hP hD hS 2 rfl dX4_takeRow_176 (fun H locs hP hD hS => ?_)
        refine lv_aload_n hx hb dX4_takeRow_179 rfl (lv_at hl 1 rfl) ?_
        obtain ⟨z180, hz180, hf⟩ := bind_s hf
        refine xV_vu hx hb hml hown htg L4_74 (c_X8_advance l E a1 a3 a4 hz180 _) ⟨⟨rfl, rfl⟩, Nat.le_of_ble_eq_true rfl, Nat.le_of_ble_eq_true rfl⟩ hK hG hA hP hD hS (is := [1, 3, 4]) (sel := [none, some 0, none, some 1, some 2, none]) (ws2 := [(a0, o4 T0 (.ref a2)), (a1, o8 z180.1 z180.2 a3 a4), (a2, o3 (upd (upd T2 1 x2) 0 (((upd T2 1 x2) 0) + 1)) a5 u2_8 u2_9 u2_10 u2_11 u2_12 u2_13 u2_14), (a3, ab E 900 V3), (a4, al E 23 V4), (a5, ai E 36 V5)]) rfl rfl rfl rfl rfl (xrecv hK hP (q0 := 1) (ci := 8) rfl rfl) rfl hl.1 rfl (Nat.le_of_ble_eq_true rfl) dX4_takeRow_180 (fun H locs hP hD hS => ?_)
        refine lv_iconst (v := 1) hx hb dX4_takeRow_183 rfl ?_
        exact ret (1, z180.1, z180.2, upd (upd T2 1 x2) 0 (((upd T2 1 x2) 0) + 1), V5) hf nz1 hP hS dX4_takeRow_184
      · have hf := it_f c101 hf
        refine va_ldcS hx hb hown hG.2.2.1 dX4_takeRow_104 ?_
        refine lv_aload_n hx hb dX4_takeRow_106 rfl (lv_at hl 1 rfl) ?_
        refine lv_iload_n hx hb dX4_takeRow_107 rfl (lv_at hl 3 rfl) ?_
        obtain ⟨z108, hz108, hf⟩ := bind_s hf
        refine xV_ir hx hb hml hown htg L4_88 (c_X8_letter l E a1 a3 hz108 _) ⟨⟨rfl, rfl⟩, Nat.le_of_ble_eq_true rfl, Nat.le_of_ble_eq_true rfl⟩ hK hG hA hP hD hS (is := [1, 3]) rfl rfl (xrecv hK hP (q0 := 1) (ci := 8) rfl rfl) rfl hl.1 rfl (Nat.le_of_ble_eq_true rfl) dX4_takeRow_108 (fun H locs hP hD hS => ?_)
        refine lv_i2c hx hb dX4_takeRow_111 rfl ?_
        obtain ⟨z112, hz112, hf⟩ := bind_s hf
        refine xV_ir hx hb hml hown htg L4_92 (c_J0_indexOf_0f7a4_s1 l E hz112 _) ⟨⟨rfl, rfl⟩, Nat.le_of_ble_eq_true rfl, Nat.le_of_ble_eq_true rfl⟩ hK hG hA hP hD hS (is := []) rfl rfl (vk_recv hG.1.1 (i := 1) (by decide) hS) rfl hl.1 rfl (Nat.le_of_ble_eq_true rfl) dX4_takeRow_112 (fun H locs hP hD hS => ?_)
        refine lv_istore (lv' := [(4, .int z112), (0, .ref a0), (1, .ref a1), (2, .int x2), (3, .int x3)]) hx hb dX4_takeRow_115 hl (by decide) rfl (fun ls hl => ?_)
        refine lv_iload hx hb dX4_takeRow_117 (lv_at hl 0 rfl) ?_
        obtain ⟨z119, hz119, hf⟩ := bind_s hf
        refine xN_ir hx hb hml hown htg L4_97 14 rfl (c_X11_isKind l E hz119 _) ⟨⟨rfl, rfl⟩, Nat.le_of_ble_eq_true rfl, Nat.le_of_ble_eq_true rfl⟩ hK hG hA hP hD hS (is := []) rfl rfl rfl hl.1 rfl (Nat.le_of_ble_eq_true rfl) dX4_takeRow_119 (fun H locs hP hD hS => ?_)
        refine lv_if_ne (tgt := 131) hx hb dX4_takeRow_122 (by decide) (fun c122 => ?_) (fun c122 => ?_)
        · have hf := it_f c122 hf
          refine lv_aload_n hx hb dX4_takeRow_131 rfl (lv_at hl 1 rfl) ?_
          refine G4_14 hx hb htg hown hK hP 0 rfl dX4_takeRow_132 ?_
          refine G4_100 hx hb htg hown hK hP 2 rfl dX4_takeRow_135 ?_
          refine lv_aload_n hx hb dX4_takeRow_138 rfl (lv_at hl 1 rfl) ?_
          refine G4_14 hx hb htg hown hK hP 0 rfl dX4_takeRow_139 ?_
          refine G4_71 hx hb htg hown hK hP 2 rfl dX4_takeRow_142 ?_
          refine lv_iload_n hx hb dX4_takeRow_145 rfl (lv_at hl 3 rfl) ?_
          refine lv_imul hx hb dX4_takeRow_146 ?_
          refine lv_iload_n hx hb dX4_takeRow_147 rfl (lv_at hl 4 rfl) ?_
          refine lv_iadd hx hb dX4_takeRow_148 ?_
          refine lv_iload hx hb dX4_takeRow_149 (lv_at hl 0 rfl) ?_
          obtain ⟨g151, hf⟩ := ck_s hf
          refine xiast hx hb hK hP hD hS 5 rfl g151 dX4_takeRow_151 (fun H locs hP hD hS => ?_)
          refine lv_iinc (v := x3 + 1) (lv' := [(3, .int (x3 + 1)), (4, .int z112), (0, .ref a0), (1, .ref a1), (2, .int x2)]) hx hb dX4_takeRow_152 hl (k := 4) rfl rfl (by decide) rfl (fun ls hl => ?_)
          refine lv_goto (tgt := 99) hx hb dX4_takeRow_155 (by decide) ?_
          exact ih99 x2 (x3 + 1) T1 J1_8 T2 (upd V5 (Int32.toNatClampNeg (((T2 0) * x2) + x3)) z112) _ _ _ hf hP hD hS (lv_sub hl [2, 3, 4, 0] rfl)
        · have hf := it_t c122 hf
          refine lv_aload_n hx hb dX4_takeRow_125 rfl (lv_at hl 2 rfl) ?_
          refine lv_iconst (v := 4) hx hb dX4_takeRow_126 rfl ?_
          obtain ⟨z127, hz127, hf⟩ := bind_s hf
          refine xV_iu hx hb hml hown htg L4_64 (c_X8_blame l E a1 hz127 _) ⟨⟨rfl, rfl⟩, Nat.le_of_ble_eq_true rfl, Nat.le_of_ble_eq_true rfl⟩ hK hG hA hP hD hS (is := [1]) (sel := [none, some 0, none, none, none, none]) (ws2 := [(a0, o4 T0 (.ref a2)), (a1, o8 z127.2 J1_8 a3 a4), (a2, o3 T2 a5 u2_8 u2_9 u2_10 u2_11 u2_12 u2_13 u2_14), (a3, ab E 900 V3), (a4, al E 23 V4), (a5, ai E 36 V5)]) rfl rfl rfl rfl rfl (xrecv hK hP (q0 := 1) (ci := 8) rfl rfl) rfl hl.1 rfl (Nat.le_of_ble_eq_true rfl) dX4_takeRow_127 (fun H locs hP hD hS => ?_)
          obtain ⟨g130, hf⟩ := ck_s hf
          exact ret (z127.1, z127.2, J1_8, T2, V5) hf (bz_n g130).1 hP hS dX4_takeRow_130
  have b97 : ∀ (x2 : Int32) (T1 : Nat → Int32) (J1_8 : Int64) (T2 : Nat → Int32) (V5 : Nat → Int32) (H : Heap) (locs : List Loc) (ls : Array Slot), f_X4_takeRow_97 T0 V3 V4 x2 T1 J1_8 T2 V5 = some z → va_P E.1 vwCl [(a0, o4 T0 (.ref a2)), (a1, o8 T1 J1_8 a3 a4), (a2, o3 T2 a5 u2_8 u2_9 u2_10 u2_11 u2_12 u2_13 u2_14), (a3, ab E 900 V3), (a4, al E 23 V4), (a5, ai E 36 V5)] H → va_D A [(a0, o4 T0 (.ref a2)), (a1, o8 T1 J1_8 a3 a4), (a2, o3 T2 a5 u2_8 u2_9 u2_10 u2_11 u2_12 u2_13 u2_14), (a3, ab E 900 V3), (a4, al E 23 V4), (a5, ai E 36 V5)] → va_S A s.heap H locs → lv_has ls 5 [(0, .ref a0), (1, .ref a1), (2, .int x2)] → W p l e ({ frames := 4, cells := 0, slots := 0, locals := 106 } : Room) s m args below meth c H locs 0 0 Q (F0 m 97 ls []) := by
    intro x2 T1 J1_8 T2 V5 H locs ls hf hP hD hS hl
    unfold f_X4_takeRow_97 at hf
    refine lv_iconst (v := 0) hx hb dX4_takeRow_97 rfl ?_
    refine lv_istore_n (lv' := [(3, .int 0), (0, .ref a0), (1, .ref a1), (2, .int x2)]) hx hb dX4_takeRow_98 rfl hl (by decide) rfl (fun ls hl => ?_)
    exact b99 xF x2 0 T1 J1_8 T2 V5 _ _ _ hf hP hD hS (lv_sub hl [1, 2, 3, 0] rfl)
  unfold f_X4_takeRow at hf
  refine lv_aload_n hx hb dX4_takeRow_0 rfl (lv_at hl 0 rfl) ?_
  refine G4_24 hx hb htg hown hK hP 0 rfl dX4_takeRow_1 ?_
  refine lv_if_ne (tgt := 17) hx hb dX4_takeRow_4 (by decide) (fun c4 => ?_) (fun c4 => ?_)
  · have hf := it_f c4 hf
    exact b17 T1 J1_8 T2 V5 _ _ _ hf hP hD hS (lv_sub hl [1] rfl)
  · have hf := it_t c4 hf
    refine lv_aload_n hx hb dX4_takeRow_7 rfl (lv_at hl 0 rfl) ?_
    refine G4_14 hx hb htg hown hK hP 0 rfl dX4_takeRow_8 ?_
    refine G4_67 hx hb htg hown hK hP 2 rfl dX4_takeRow_11 ?_
    refine lv_if_le (tgt := 23) hx hb dX4_takeRow_14 (by decide) (fun c14 => ?_) (fun c14 => ?_)
    · have hf := it_t c14 hf
      refine lv_aload_n hx hb dX4_takeRow_23 rfl (lv_at hl 0 rfl) ?_
      refine G4_14 hx hb htg hown hK hP 0 rfl dX4_takeRow_24 ?_
      refine G4_71 hx hb htg hown hK hP 2 rfl dX4_takeRow_27 ?_
      refine lv_bipush (v := 6) hx hb dX4_takeRow_30 rfl ?_
      refine lv_icmp_lt (tgt := 42) hx hb dX4_takeRow_32 (by decide) (fun c32 => ?_) (fun c32 => ?_)
      · have hf := it_t c32 hf
        refine lv_aload_n hx hb dX4_takeRow_42 rfl (lv_at hl 1 rfl) ?_
        obtain ⟨z43, hz43, hf⟩ := bind_s hf
        refine xV_vu hx hb hml hown htg L4_74 (c_X8_advance l E a1 a3 a4 hz43 _) ⟨⟨rfl, rfl⟩, Nat.le_of_ble_eq_true rfl, Nat.le_of_ble_eq_true rfl⟩ hK hG hA hP hD hS (is := [1, 3, 4]) (sel := [none, some 0, none, some 1, some 2, none]) (ws2 := [(a0, o4 T0 (.ref a2)), (a1, o8 z43.1 z43.2 a3 a4), (a2, o3 T2 a5 u2_8 u2_9 u2_10 u2_11 u2_12 u2_13 u2_14), (a3, ab E 900 V3), (a4, al E 23 V4), (a5, ai E 36 V5)]) rfl rfl rfl rfl rfl (xrecv hK hP (q0 := 1) (ci := 8) rfl rfl) rfl hl.1 rfl (Nat.le_of_ble_eq_true rfl) dX4_takeRow_43 (fun H locs hP hD hS => ?_)
        refine lv_aload_n hx hb dX4_takeRow_46 rfl (lv_at hl 1 rfl) ?_
        obtain ⟨z47, hz47, hf⟩ := bind_s hf
        refine xV_ir hx hb hml hown htg L4_77 (c_X8_isAnyWord l E a1 hz47 _) ⟨⟨rfl, rfl⟩, Nat.le_of_ble_eq_true rfl, Nat.le_of_ble_eq_true rfl⟩ hK hG hA hP hD hS (is := [1]) rfl rfl (xrecv hK hP (q0 := 1) (ci := 8) rfl rfl) rfl hl.1 rfl (Nat.le_of_ble_eq_true rfl) dX4_takeRow_47 (fun H locs hP hD hS => ?_)
        refine lv_if_ne (tgt := 59) hx hb dX4_takeRow_50 (by decide) (fun c50 => ?_) (fun c50 => ?_)
        · have hf := it_f c50 hf
          refine lv_aload_n hx hb dX4_takeRow_59 rfl (lv_at hl 1 rfl) ?_
          obtain ⟨z60, hz60, hf⟩ := bind_s hf
          refine xV_ir hx hb hml hown htg L4_80 (c_X8_letters l E a1 hz60 _) ⟨⟨rfl, rfl⟩, Nat.le_of_ble_eq_true rfl, Nat.le_of_ble_eq_true rfl⟩ hK hG hA hP hD hS (is := [1]) rfl rfl (xrecv hK hP (q0 := 1) (ci := 8) rfl rfl) rfl hl.1 rfl (Nat.le_of_ble_eq_true rfl) dX4_takeRow_60 (fun H locs hP hD hS => ?_)
          refine lv_istore_n (lv' := [(2, .int z60), (0, .ref a0), (1, .ref a1)]) hx hb dX4_takeRow_63 rfl hl (by decide) rfl (fun ls hl => ?_)
          refine lv_iload_n hx hb dX4_takeRow_64 rfl (lv_at hl 0 rfl) ?_
          refine lv_bipush (v := 6) hx hb dX4_takeRow_65 rfl ?_
          refine lv_icmp_gt (tgt := 91) hx hb dX4_takeRow_67 (by decide) (fun c67 => ?_) (fun c67 => ?_)
          · have hf := it_t c67 hf
            exact b91 z43.1 z43.2 T2 V5 _ _ _ hf hP hD hS (lv_sub hl [2] rfl)
          · have hf := it_f c67 hf
            refine lv_aload_n hx hb dX4_takeRow_70 rfl (lv_at hl 1 rfl) ?_
            refine G4_14 hx hb htg hown hK hP 0 rfl dX4_takeRow_71 ?_
            refine G4_71 hx hb htg hown hK hP 2 rfl dX4_takeRow_74 ?_
            refine lv_if_le (tgt := 97) hx hb dX4_takeRow_77 (by decide) (fun c77 => ?_) (fun c77 => ?_)
            · have hf := it_t c77 hf
              exact b97 z60 z43.1 z43.2 T2 V5 _ _ _ hf hP hD hS (lv_sub hl [1, 2, 0] rfl)
            · have hf := it_f c77 hf
              refine lv_iload_n hx hb dX4_takeRow_80 rfl (lv_at hl 0 rfl) ?_
              refine lv_aload_n hx hb dX4_takeRow_81 rfl (lv_at hl 1 rfl) ?_
              refine G4_14 hx hb htg hown hK hP 0 rfl dX4_takeRow_82 ?_
              refine G4_83 hx hb htg hown hK hP 2 rfl dX4_takeRow_85 ?_
              refine lv_icmp_eq (tgt := 97) hx hb dX4_takeRow_88 (by decide) (fun c88 => ?_) (fun c88 => ?_)
              · have hf := it_t c88 hf
                exact b97 z60 z43.1 z43.2 T2 V5 _ _ _ hf hP hD hS (lv_sub hl [1, 2, 0] rfl)
              · have hf := it_f c88 hf
                exact b91 z43.1 z43.2 T2 V5 _ _ _ hf hP hD hS (lv_sub hl [2] rfl)
        · have hf := it_t c50 hf
          refine lv_aload_n hx hb dX4_takeRow_53 rfl (lv_at hl 1 rfl) ?_
          refine lv_iconst (v := 2) hx hb dX4_takeRow_54 rfl ?_
          obtain ⟨z55, hz55, hf⟩ := bind_s hf
          refine xV_iu hx hb hml hown htg L4_64 (c_X8_blame l E a1 hz55 _) ⟨⟨rfl, rfl⟩, Nat.le_of_ble_eq_true rfl, Nat.le_of_ble_eq_true rfl⟩ hK hG hA hP hD hS (is := [1]) (sel := [none, some 0, none, none, none, none]) (ws2 := [(a0, o4 T0 (.ref a2)), (a1, o8 z55.2 z43.2 a3 a4), (a2, o3 T2 a5 u2_8 u2_9 u2_10 u2_11 u2_12 u2_13 u2_14), (a3, ab E 900 V3), (a4, al E 23 V4), (a5, ai E 36 V5)]) rfl rfl rfl rfl rfl (xrecv hK hP (q0 := 1) (ci := 8) rfl rfl) rfl hl.1 rfl (Nat.le_of_ble_eq_true rfl) dX4_takeRow_55 (fun H locs hP hD hS => ?_)
          obtain ⟨g58, hf⟩ := ck_s hf
          exact ret (z55.1, z55.2, z43.2, T2, V5) hf (bz_n g58).1 hP hS dX4_takeRow_58
      · have hf := it_f c32 hf
        refine lv_aload_n hx hb dX4_takeRow_35 rfl (lv_at hl 1 rfl) ?_
        refine lv_bipush (v := 6) hx hb dX4_takeRow_36 rfl ?_
        obtain ⟨z38, hz38, hf⟩ := bind_s hf
        refine xV_iu hx hb hml hown htg L4_64 (c_X8_blame l E a1 hz38 _) ⟨⟨rfl, rfl⟩, Nat.le_of_ble_eq_true rfl, Nat.le_of_ble_eq_true rfl⟩ hK hG hA hP hD hS (is := [1]) (sel := [none, some 0, none, none, none, none]) (ws2 := [(a0, o4 T0 (.ref a2)), (a1, o8 z38.2 J1_8 a3 a4), (a2, o3 T2 a5 u2_8 u2_9 u2_10 u2_11 u2_12 u2_13 u2_14), (a3, ab E 900 V3), (a4, al E 23 V4), (a5, ai E 36 V5)]) rfl rfl rfl rfl rfl (xrecv hK hP (q0 := 1) (ci := 8) rfl rfl) rfl hl.1 rfl (Nat.le_of_ble_eq_true rfl) dX4_takeRow_38 (fun H locs hP hD hS => ?_)
        obtain ⟨g41, hf⟩ := ck_s hf
        exact ret (z38.1, z38.2, J1_8, T2, V5) hf (bz_n g41).1 hP hS dX4_takeRow_41
    · have hf := it_f c14 hf
      exact b17 T1 J1_8 T2 V5 _ _ _ hf hP hD hS (lv_sub hl [1] rfl)
theorem dX4_takePart_0 : decode cX4_takePart 0 = .ok (.aload_n 1, 1) := by decide +kernel
theorem dX4_takePart_1 : decode cX4_takePart 1 = .ok (.invokevirtual 41, 3) := by decide +kernel
theorem dX4_takePart_4 : decode cX4_takePart 4 = .ok (.tableswitch 159 0 6 #[44, 67, 90, 113, 159, 159, 136], 44) := by decide +kernel
theorem dX4_takePart_48 : decode cX4_takePart 48 = .ok (.aload_n 0, 1) := by decide +kernel
theorem dX4_takePart_49 : decode cX4_takePart 49 = .ok (.aload_n 1, 1) := by decide +kernel
theorem dX4_takePart_50 : decode cX4_takePart 50 = .ok (.invokevirtual 45, 3) := by decide +kernel
theorem dX4_takePart_53 : decode cX4_takePart 53 = .ok (.ifCond .eq 16, 3) := by decide +kernel
theorem dX4_takePart_56 : decode cX4_takePart 56 = .ok (.aload_n 1, 1) := by decide +kernel
theorem dX4_takePart_57 : decode cX4_takePart 57 = .ok (.bipush 59, 2) := by decide +kernel
theorem dX4_takePart_59 : decode cX4_takePart 59 = .ok (.invokevirtual 48, 3) := by decide +kernel
theorem dX4_takePart_62 : decode cX4_takePart 62 = .ok (.ifCond .eq 7, 3) := by decide +kernel
theorem dX4_takePart_65 : decode cX4_takePart 65 = .ok (.iconst 1, 1) := by decide +kernel
theorem dX4_takePart_66 : decode cX4_takePart 66 = .ok (.goto 4, 3) := by decide +kernel
theorem dX4_takePart_69 : decode cX4_takePart 69 = .ok (.iconst 0, 1) := by decide +kernel
theorem dX4_takePart_70 : decode cX4_takePart 70 = .ok (.ireturn, 1) := by decide +kernel
theorem dX4_takePart_71 : decode cX4_takePart 71 = .ok (.aload_n 0, 1) := by decide +kernel
theorem dX4_takePart_72 : decode cX4_takePart 72 = .ok (.aload_n 1, 1) := by decide +kernel
theorem dX4_takePart_73 : decode cX4_takePart 73 = .ok (.invokevirtual 52, 3) := by decide +kernel
theorem dX4_takePart_76 : decode cX4_takePart 76 = .ok (.ifCond .eq 16, 3) := by decide +kernel
theorem dX4_takePart_79 : decode cX4_takePart 79 = .ok (.aload_n 1, 1) := by decide +kernel
theorem dX4_takePart_80 : decode cX4_takePart 80 = .ok (.bipush 59, 2) := by decide +kernel
theorem dX4_takePart_82 : decode cX4_takePart 82 = .ok (.invokevirtual 48, 3) := by decide +kernel
theorem dX4_takePart_85 : decode cX4_takePart 85 = .ok (.ifCond .eq 7, 3) := by decide +kernel
theorem dX4_takePart_88 : decode cX4_takePart 88 = .ok (.iconst 1, 1) := by decide +kernel
theorem dX4_takePart_89 : decode cX4_takePart 89 = .ok (.goto 4, 3) := by decide +kernel
theorem dX4_takePart_92 : decode cX4_takePart 92 = .ok (.iconst 0, 1) := by decide +kernel
theorem dX4_takePart_93 : decode cX4_takePart 93 = .ok (.ireturn, 1) := by decide +kernel
theorem dX4_takePart_94 : decode cX4_takePart 94 = .ok (.aload_n 0, 1) := by decide +kernel
theorem dX4_takePart_95 : decode cX4_takePart 95 = .ok (.aload_n 1, 1) := by decide +kernel
theorem dX4_takePart_96 : decode cX4_takePart 96 = .ok (.invokevirtual 55, 3) := by decide +kernel
theorem dX4_takePart_99 : decode cX4_takePart 99 = .ok (.ifCond .eq 16, 3) := by decide +kernel
theorem dX4_takePart_102 : decode cX4_takePart 102 = .ok (.aload_n 1, 1) := by decide +kernel
theorem dX4_takePart_103 : decode cX4_takePart 103 = .ok (.bipush 59, 2) := by decide +kernel
theorem dX4_takePart_105 : decode cX4_takePart 105 = .ok (.invokevirtual 48, 3) := by decide +kernel
theorem dX4_takePart_108 : decode cX4_takePart 108 = .ok (.ifCond .eq 7, 3) := by decide +kernel
theorem dX4_takePart_111 : decode cX4_takePart 111 = .ok (.iconst 1, 1) := by decide +kernel
theorem dX4_takePart_112 : decode cX4_takePart 112 = .ok (.goto 4, 3) := by decide +kernel
theorem dX4_takePart_115 : decode cX4_takePart 115 = .ok (.iconst 0, 1) := by decide +kernel
theorem dX4_takePart_116 : decode cX4_takePart 116 = .ok (.ireturn, 1) := by decide +kernel
theorem dX4_takePart_117 : decode cX4_takePart 117 = .ok (.aload_n 0, 1) := by decide +kernel
theorem dX4_takePart_118 : decode cX4_takePart 118 = .ok (.aload_n 1, 1) := by decide +kernel
theorem dX4_takePart_119 : decode cX4_takePart 119 = .ok (.invokevirtual 58, 3) := by decide +kernel
theorem dX4_takePart_122 : decode cX4_takePart 122 = .ok (.ifCond .eq 16, 3) := by decide +kernel
theorem dX4_takePart_125 : decode cX4_takePart 125 = .ok (.aload_n 1, 1) := by decide +kernel
theorem dX4_takePart_126 : decode cX4_takePart 126 = .ok (.bipush 59, 2) := by decide +kernel
theorem dX4_takePart_128 : decode cX4_takePart 128 = .ok (.invokevirtual 48, 3) := by decide +kernel
theorem dX4_takePart_131 : decode cX4_takePart 131 = .ok (.ifCond .eq 7, 3) := by decide +kernel
theorem dX4_takePart_134 : decode cX4_takePart 134 = .ok (.iconst 1, 1) := by decide +kernel
theorem dX4_takePart_135 : decode cX4_takePart 135 = .ok (.goto 4, 3) := by decide +kernel
theorem dX4_takePart_138 : decode cX4_takePart 138 = .ok (.iconst 0, 1) := by decide +kernel
theorem dX4_takePart_139 : decode cX4_takePart 139 = .ok (.ireturn, 1) := by decide +kernel
theorem dX4_takePart_140 : decode cX4_takePart 140 = .ok (.aload_n 0, 1) := by decide +kernel
theorem dX4_takePart_141 : decode cX4_takePart 141 = .ok (.aload_n 1, 1) := by decide +kernel
theorem dX4_takePart_142 : decode cX4_takePart 142 = .ok (.invokevirtual 61, 3) := by decide +kernel
theorem dX4_takePart_145 : decode cX4_takePart 145 = .ok (.ifCond .eq 16, 3) := by decide +kernel
theorem dX4_takePart_148 : decode cX4_takePart 148 = .ok (.aload_n 1, 1) := by decide +kernel
theorem dX4_takePart_149 : decode cX4_takePart 149 = .ok (.bipush 59, 2) := by decide +kernel
theorem dX4_takePart_151 : decode cX4_takePart 151 = .ok (.invokevirtual 48, 3) := by decide +kernel
theorem dX4_takePart_154 : decode cX4_takePart 154 = .ok (.ifCond .eq 7, 3) := by decide +kernel
theorem dX4_takePart_157 : decode cX4_takePart 157 = .ok (.iconst 1, 1) := by decide +kernel
theorem dX4_takePart_158 : decode cX4_takePart 158 = .ok (.goto 4, 3) := by decide +kernel
theorem dX4_takePart_161 : decode cX4_takePart 161 = .ok (.iconst 0, 1) := by decide +kernel
theorem dX4_takePart_162 : decode cX4_takePart 162 = .ok (.ireturn, 1) := by decide +kernel
theorem dX4_takePart_163 : decode cX4_takePart 163 = .ok (.aload_n 1, 1) := by decide +kernel
theorem dX4_takePart_164 : decode cX4_takePart 164 = .ok (.iconst 2, 1) := by decide +kernel
theorem dX4_takePart_165 : decode cX4_takePart 165 = .ok (.invokevirtual 64, 3) := by decide +kernel
theorem dX4_takePart_168 : decode cX4_takePart 168 = .ok (.ireturn, 1) := by decide +kernel
set_option maxRecDepth 100000 in
theorem c_X4_takePart (l : Launch) (E : xE) (a0 a1 a2 a3 a4 a5 a6 a7 a8 a9 a10 a11 : Nat) {T0 : Nat → Int32} {T1 : Nat → Int32} {J1_8 : Int64} {T2 : Nat → Int32} {V3 : Nat → Int32} {V4 : Nat → Int64} {V5 : Nat → Int32} {V6 : Nat → Int64} {V7 : Nat → Int32} {V8 : Nat → Int32} {V9 : Nat → Int32} {V10 : Nat → Int32} {V11 : Nat → Int32} {u2_14 : Nat} {z : Int32 × (Nat → Int32) × (Nat → Int32) × Int64 × (Nat → Int32) × (Nat → Int32) × (Nat → Int64) × (Nat → Int32) × (Nat → Int32) × (Nat → Int32) × (Nat → Int32) × (Nat → Int32)} (hf : f_X4_takePart T0 T1 J1_8 T2 V3 V4 V5 V6 V7 V8 V9 V10 V11 = some z) (sz : Nat) : Met l yX4_takePart (Cond.code yX4_takePart cX4_takePart 2 (some .boolean) :: gw) ({ frames := 5, cells := 0, slots := 0, locals := 130 }) (xPc E [.ref a0, .ref a1] [(a0, o4 T0 (.ref a2)), (a1, o8 T1 J1_8 a3 a4), (a2, o3 T2 a5 a7 a6 a9 a8 a10 a11 u2_14), (a3, ab E 900 V3), (a4, al E 23 V4), (a5, ai E 36 V5), (a6, al E 5 V6), (a7, ai E 5 V7), (a8, ai E 12 V8), (a9, ai E 12 V9), (a10, ai E 12 V10), (a11, ai E 12 V11)] sz) (xQi E z.1 [(a0, o4 T0 (.ref a2)), (a1, o8 T1 J1_8 a3 a4), (a2, o3 T2 a5 a7 a6 a9 a8 a10 a11 u2_14), (a3, ab E 900 V3), (a4, al E 23 V4), (a5, ai E 36 V5), (a6, al E 5 V6), (a7, ai E 5 V7), (a8, ai E 12 V8), (a9, ai E 12 V9), (a10, ai E 12 V10), (a11, ai E 12 V11)] [(a0, o4 z.2.1 (.ref a2)), (a1, o8 z.2.2.1 z.2.2.2.1 a3 a4), (a2, o3 z.2.2.2.2.1 a5 a7 a6 a9 a8 a10 a11 u2_14), (a3, ab E 900 V3), (a4, al E 23 V4), (a5, ai E 36 z.2.2.2.2.2.1), (a6, al E 5 z.2.2.2.2.2.2.1), (a7, ai E 5 z.2.2.2.2.2.2.2.1), (a8, ai E 12 z.2.2.2.2.2.2.2.2.1), (a9, ai E 12 z.2.2.2.2.2.2.2.2.2.1), (a10, ai E 12 z.2.2.2.2.2.2.2.2.2.2.1), (a11, ai E 12 z.2.2.2.2.2.2.2.2.2.2.2)] sz) 0 0 (va_A [(a0, o4 T0 (.ref a2)), (a1, o8 T1 J1_8 a3 a4), (a2, o3 T2 a5 a7 a6 a9 a8 a10 a11 u2_14), (a3, ab E 900 V3), (a4, al E 23 V4), (a5, ai E 36 V5), (a6, al E 5 V6), (a7, ai E 5 V7), (a8, ai E 12 V8), (a9, ai E 12 V9), (a10, ai E 12 V10), (a11, ai E 12 V11)] sz) := by
  refine xM_i (by decide +kernel) (Nat.le_of_ble_eq_true rfl) ?_
  intro p e s m args below meth c A Q hx hb hml hown htg hK hG hA ret0 H locs ls hP hD hS hl
  have ret : ∀ (z' : Int32 × (Nat → Int32) × (Nat → Int32) × Int64 × (Nat → Int32) × (Nat → Int32) × (Nat → Int64) × (Nat → Int32) × (Nat → Int32) × (Nat → Int32) × (Nat → Int32) × (Nat → Int32)) {H : Heap} {locs : List Loc} {pc : Nat} {ls : Array Slot}, some z' = some z → narrow .boolean (.int z'.1) = .int z'.1 → va_P E.1 vwCl [(a0, o4 z'.2.1 (.ref a2)), (a1, o8 z'.2.2.1 z'.2.2.2.1 a3 a4), (a2, o3 z'.2.2.2.2.1 a5 a7 a6 a9 a8 a10 a11 u2_14), (a3, ab E 900 V3), (a4, al E 23 V4), (a5, ai E 36 z'.2.2.2.2.2.1), (a6, al E 5 z'.2.2.2.2.2.2.1), (a7, ai E 5 z'.2.2.2.2.2.2.2.1), (a8, ai E 12 z'.2.2.2.2.2.2.2.2.1), (a9, ai E 12 z'.2.2.2.2.2.2.2.2.2.1), (a10, ai E 12 z'.2.2.2.2.2.2.2.2.2.2.1), (a11, ai E 12 z'.2.2.2.2.2.2.2.2.2.2.2)] H → va_S A s.heap H locs → decode cX4_takePart pc = .ok (.ireturn, 1) → W p l e ({ frames := 5, cells := 0, slots := 0, locals := 130 } : Room) s m args below meth c H locs 0 0 Q (F0 m pc ls [.int z'.1]) := by
    intro z' H locs pc ls h
    cases h
    exact ret0
  replace hl : lv_has ls 2 [(0, .ref a0), (1, .ref a1)] := hl
  have b163 : ∀ (T0 : Nat → Int32) (T1 : Nat → Int32) (J1_8 : Int64) (T2 : Nat → Int32) (V5 : Nat → Int32) (V6 : Nat → Int64) (V7 : Nat → Int32) (V8 : Nat → Int32) (V9 : Nat → Int32) (V10 : Nat → Int32) (V11 : Nat → Int32) (H : Heap) (locs : List Loc) (ls : Array Slot), f_X4_takePart_163 V3 V4 T0 T1 J1_8 T2 V5 V6 V7 V8 V9 V10 V11 = some z → va_P E.1 vwCl [(a0, o4 T0 (.ref a2)), (a1, o8 T1 J1_8 a3 a4), (a2, o3 T2 a5 a7 a6 a9 a8 a10 a11 u2_14), (a3, ab E 900 V3), (a4, al E 23 V4), (a5, ai E 36 V5), (a6, al E 5 V6), (a7, ai E 5 V7), (a8, ai E 12 V8), (a9, ai E 12 V9), (a10, ai E 12 V10), (a11, ai E 12 V11)] H → va_D A [(a0, o4 T0 (.ref a2)), (a1, o8 T1 J1_8 a3 a4), (a2, o3 T2 a5 a7 a6 a9 a8 a10 a11 u2_14), (a3, ab E 900 V3), (a4, al E 23 V4), (a5, ai E 36 V5), (a6, al E 5 V6), (a7, ai E 5 V7), (a8, ai E 12 V8), (a9, ai E 12 V9), (a10, ai E 12 V10), (a11, ai E 12 V11)] → va_S A s.heap H locs → lv_has ls 2 [(1, .ref a1)] → W p l e ({ frames := 5, cells := 0, slots := 0, locals := 130 } : Room) s m args below meth c H locs 0 0 Q (F0 m 163 ls []) := by
    intro T0 T1 J1_8 T2 V5 V6 V7 V8 V9 V10 V11 H locs ls hf hP hD hS hl
    unfold f_X4_takePart_163 at hf
    refine lv_aload_n hx hb dX4_takePart_163 rfl (lv_at hl 0 rfl) ?_
    refine lv_iconst (v := 2) hx hb dX4_takePart_164 rfl ?_
    obtain ⟨z165, hz165, hf⟩ := bind_s hf
    refine xV_iu hx hb hml hown htg L4_64 (c_X8_blame l E a1 hz165 _) ⟨⟨rfl, rfl⟩, Nat.le_of_ble_eq_true rfl, Nat.le_of_ble_eq_true rfl⟩ hK hG hA hP hD hS (is := [1]) (sel := [none, some 0, none, none, none, none, none, none, none, none, none, none]) (ws2 := [(a0, o4 T0 (.ref a2)), (a1, o8 z165.2 J1_8 a3 a4), (a2, o3 T2 a5 a7 a6 a9 a8 a10 a11 u2_14), (a3, ab E 900 V3), (a4, al E 23 V4), (a5, ai E 36 V5), (a6, al E 5 V6), (a7, ai E 5 V7), (a8, ai E 12 V8), (a9, ai E 12 V9), (a10, ai E 12 V10), (a11, ai E 12 V11)]) rfl rfl rfl rfl rfl (xrecv hK hP (q0 := 1) (ci := 8) rfl rfl) rfl hl.1 rfl (Nat.le_of_ble_eq_true rfl) dX4_takePart_165 (fun H locs hP hD hS => ?_)
    obtain ⟨g168, hf⟩ := ck_s hf
    exact ret (z165.1, T0, z165.2, J1_8, T2, V5, V6, V7, V8, V9, V10, V11) hf (bz_n g168).1 hP hS dX4_takePart_168
  unfold f_X4_takePart at hf
  refine lv_aload_n hx hb dX4_takePart_0 rfl (lv_at hl 1 rfl) ?_
  obtain ⟨z1, hz1, hf⟩ := bind_s hf
  refine xV_ir hx hb hml hown htg L4_41 (c_X8_word l E a1 hz1 _) ⟨⟨rfl, rfl⟩, Nat.le_of_ble_eq_true rfl, Nat.le_of_ble_eq_true rfl⟩ hK hG hA hP hD hS (is := [1]) rfl rfl (xrecv hK hP (q0 := 1) (ci := 8) rfl rfl) rfl hl.1 rfl (Nat.le_of_ble_eq_true rfl) dX4_takePart_1 (fun H locs hP hD hS => ?_)
  by_cases c4_0 : z1 = 0
  · have hf := it_t c4_0 hf
    refine xtabI (off := 44) (tgt := 48) hx hb c4_0 dX4_takePart_4 rfl (by decide) ?_
    refine lv_aload_n hx hb dX4_takePart_48 rfl (lv_at hl 0 rfl) ?_
    refine lv_aload_n hx hb dX4_takePart_49 rfl (lv_at hl 1 rfl) ?_
    obtain ⟨z50, hz50, hf⟩ := bind_s hf
    refine xV_iu hx hb hml hown htg L4_45 (c_X4_takeRow l E a0 a1 a2 a3 a4 a5 hz50 _) ⟨⟨rfl, rfl⟩, Nat.le_of_ble_eq_true rfl, Nat.le_of_ble_eq_true rfl⟩ hK hG hA hP hD hS (is := [0, 1, 2, 3, 4, 5]) (sel := [some 0, some 1, some 2, some 3, some 4, some 5, none, none, none, none, none, none]) (ws2 := [(a0, o4 T0 (.ref a2)), (a1, o8 z50.2.1 z50.2.2.1 a3 a4), (a2, o3 z50.2.2.2.1 a5 a7 a6 a9 a8 a10 a11 u2_14), (a3, ab E 900 V3), (a4, al E 23 V4), (a5, ai E 36 z50.2.2.2.2), (a6, al E 5 V6), (a7, ai E 5 V7), (a8, ai E 12 V8), (a9, ai E 12 V9), (a10, ai E 12 V10), (a11, ai E 12 V11)]) rfl rfl rfl rfl rfl (xrecv hK hP (q0 := 0) (ci := 4) rfl rfl) rfl hl.1 rfl (Nat.le_of_ble_eq_true rfl) dX4_takePart_50 (fun H locs hP hD hS => ?_)
    refine lv_if_eq (tgt := 69) hx hb dX4_takePart_53 (by decide) (fun c53 => ?_) (fun c53 => ?_)
    · have hf := it_t c53 hf
      refine lv_iconst (v := 0) hx hb dX4_takePart_69 rfl ?_
      exact ret (0, T0, z50.2.1, z50.2.2.1, z50.2.2.2.1, z50.2.2.2.2, V6, V7, V8, V9, V10, V11) hf nz0 hP hS dX4_takePart_70
    · have hf := it_f c53 hf
      refine lv_aload_n hx hb dX4_takePart_56 rfl (lv_at hl 1 rfl) ?_
      refine lv_bipush (v := 59) hx hb dX4_takePart_57 rfl ?_
      obtain ⟨z59, hz59, hf⟩ := bind_s hf
      refine xV_iu hx hb hml hown htg L4_48 (c_X8_passSign l E a1 a3 a4 hz59 _) ⟨⟨rfl, rfl⟩, Nat.le_of_ble_eq_true rfl, Nat.le_of_ble_eq_true rfl⟩ hK hG hA hP hD hS (is := [1, 3, 4]) (sel := [none, some 0, none, some 1, some 2, none, none, none, none, none, none, none]) (ws2 := [(a0, o4 T0 (.ref a2)), (a1, o8 z59.2.1 z59.2.2 a3 a4), (a2, o3 z50.2.2.2.1 a5 a7 a6 a9 a8 a10 a11 u2_14), (a3, ab E 900 V3), (a4, al E 23 V4), (a5, ai E 36 z50.2.2.2.2), (a6, al E 5 V6), (a7, ai E 5 V7), (a8, ai E 12 V8), (a9, ai E 12 V9), (a10, ai E 12 V10), (a11, ai E 12 V11)]) rfl rfl rfl rfl rfl (xrecv hK hP (q0 := 1) (ci := 8) rfl rfl) rfl hl.1 rfl (Nat.le_of_ble_eq_true rfl) dX4_takePart_59 (fun H locs hP hD hS => ?_)
      refine lv_if_eq (tgt := 69) hx hb dX4_takePart_62 (by decide) (fun c62 => ?_) (fun c62 => ?_)
      · have hf := it_t c62 hf
        refine lv_iconst (v := 0) hx hb dX4_takePart_69 rfl ?_
        exact ret (0, T0, z59.2.1, z59.2.2, z50.2.2.2.1, z50.2.2.2.2, V6, V7, V8, V9, V10, V11) hf nz0 hP hS dX4_takePart_70
      · have hf := it_f c62 hf
        refine lv_iconst (v := 1) hx hb dX4_takePart_65 rfl ?_
        refine lv_goto (tgt := 70) hx hb dX4_takePart_66 (by decide) ?_
        exact ret (1, T0, z59.2.1, z59.2.2, z50.2.2.2.1, z50.2.2.2.2, V6, V7, V8, V9, V10, V11) hf nz1 hP hS dX4_takePart_70
  have hf := it_f c4_0 hf
  by_cases c4_1 : z1 = 1
  · have hf := it_t c4_1 hf
    refine xtabI (off := 67) (tgt := 71) hx hb c4_1 dX4_takePart_4 rfl (by decide) ?_
    refine lv_aload_n hx hb dX4_takePart_71 rfl (lv_at hl 0 rfl) ?_
    refine lv_aload_n hx hb dX4_takePart_72 rfl (lv_at hl 1 rfl) ?_
    obtain ⟨z73, hz73, hf⟩ := bind_s hf
    refine xV_iu hx hb hml hown htg L4_52 (c_X4_takeOdds l E a0 a1 a3 a4 a2 hz73 _) ⟨⟨rfl, rfl⟩, Nat.le_of_ble_eq_true rfl, Nat.le_of_ble_eq_true rfl⟩ hK hG hA hP hD hS (is := [0, 1, 3, 4, 2]) (sel := [some 0, some 1, some 4, some 2, some 3, none, none, none, none, none, none, none]) (ws2 := [(a0, o4 z73.2.1 (.ref a2)), (a1, o8 z73.2.2.1 z73.2.2.2.1 a3 a4), (a2, o3 z73.2.2.2.2 a5 a7 a6 a9 a8 a10 a11 u2_14), (a3, ab E 900 V3), (a4, al E 23 V4), (a5, ai E 36 V5), (a6, al E 5 V6), (a7, ai E 5 V7), (a8, ai E 12 V8), (a9, ai E 12 V9), (a10, ai E 12 V10), (a11, ai E 12 V11)]) rfl rfl rfl rfl rfl (xrecv hK hP (q0 := 0) (ci := 4) rfl rfl) rfl hl.1 rfl (Nat.le_of_ble_eq_true rfl) dX4_takePart_73 (fun H locs hP hD hS => ?_)
    refine lv_if_eq (tgt := 92) hx hb dX4_takePart_76 (by decide) (fun c76 => ?_) (fun c76 => ?_)
    · have hf := it_t c76 hf
      refine lv_iconst (v := 0) hx hb dX4_takePart_92 rfl ?_
      exact ret (0, z73.2.1, z73.2.2.1, z73.2.2.2.1, z73.2.2.2.2, V5, V6, V7, V8, V9, V10, V11) hf nz0 hP hS dX4_takePart_93
    · have hf := it_f c76 hf
      refine lv_aload_n hx hb dX4_takePart_79 rfl (lv_at hl 1 rfl) ?_
      refine lv_bipush (v := 59) hx hb dX4_takePart_80 rfl ?_
      obtain ⟨z82, hz82, hf⟩ := bind_s hf
      refine xV_iu hx hb hml hown htg L4_48 (c_X8_passSign l E a1 a3 a4 hz82 _) ⟨⟨rfl, rfl⟩, Nat.le_of_ble_eq_true rfl, Nat.le_of_ble_eq_true rfl⟩ hK hG hA hP hD hS (is := [1, 3, 4]) (sel := [none, some 0, none, some 1, some 2, none, none, none, none, none, none, none]) (ws2 := [(a0, o4 z73.2.1 (.ref a2)), (a1, o8 z82.2.1 z82.2.2 a3 a4), (a2, o3 z73.2.2.2.2 a5 a7 a6 a9 a8 a10 a11 u2_14), (a3, ab E 900 V3), (a4, al E 23 V4), (a5, ai E 36 V5), (a6, al E 5 V6), (a7, ai E 5 V7), (a8, ai E 12 V8), (a9, ai E 12 V9), (a10, ai E 12 V10), (a11, ai E 12 V11)]) rfl rfl rfl rfl rfl (xrecv hK hP (q0 := 1) (ci := 8) rfl rfl) rfl hl.1 rfl (Nat.le_of_ble_eq_true rfl) dX4_takePart_82 (fun H locs hP hD hS => ?_)
      refine lv_if_eq (tgt := 92) hx hb dX4_takePart_85 (by decide) (fun c85 => ?_) (fun c85 => ?_)
      · have hf := it_t c85 hf
        refine lv_iconst (v := 0) hx hb dX4_takePart_92 rfl ?_
        exact ret (0, z73.2.1, z82.2.1, z82.2.2, z73.2.2.2.2, V5, V6, V7, V8, V9, V10, V11) hf nz0 hP hS dX4_takePart_93
      · have hf := it_f c85 hf
        refine lv_iconst (v := 1) hx hb dX4_takePart_88 rfl ?_
        refine lv_goto (tgt := 93) hx hb dX4_takePart_89 (by decide) ?_
        exact ret (1, z73.2.1, z82.2.1, z82.2.2, z73.2.2.2.2, V5, V6, V7, V8, V9, V10, V11) hf nz1 hP hS dX4_takePart_93
  have hf := it_f c4_1 hf
  by_cases c4_2 : z1 = 2
  · have hf := it_t c4_2 hf
    refine xtabI (off := 90) (tgt := 94) hx hb c4_2 dX4_takePart_4 rfl (by decide) ?_
    refine lv_aload_n hx hb dX4_takePart_94 rfl (lv_at hl 0 rfl) ?_
    refine lv_aload_n hx hb dX4_takePart_95 rfl (lv_at hl 1 rfl) ?_
    obtain ⟨z96, hz96, hf⟩ := bind_s hf
    refine xV_iu hx hb hml hown htg L4_55 (c_X4_takeHarbour l E a0 a1 a3 a4 a2 hz96 _) ⟨⟨rfl, rfl⟩, Nat.le_of_ble_eq_true rfl, Nat.le_of_ble_eq_true rfl⟩ hK hG hA hP hD hS (is := [0, 1, 3, 4, 2]) (sel := [some 0, some 1, some 4, some 2, some 3, none, none, none, none, none, none, none]) (ws2 := [(a0, o4 z96.2.1 (.ref a2)), (a1, o8 z96.2.2.1 z96.2.2.2.1 a3 a4), (a2, o3 z96.2.2.2.2 a5 a7 a6 a9 a8 a10 a11 u2_14), (a3, ab E 900 V3), (a4, al E 23 V4), (a5, ai E 36 V5), (a6, al E 5 V6), (a7, ai E 5 V7), (a8, ai E 12 V8), (a9, ai E 12 V9), (a10, ai E 12 V10), (a11, ai E 12 V11)]) rfl rfl rfl rfl rfl (xrecv hK hP (q0 := 0) (ci := 4) rfl rfl) rfl hl.1 rfl (Nat.le_of_ble_eq_true rfl) dX4_takePart_96 (fun H locs hP hD hS => ?_)
    refine lv_if_eq (tgt := 115) hx hb dX4_takePart_99 (by decide) (fun c99 => ?_) (fun c99 => ?_)
    · have hf := it_t c99 hf
      refine lv_iconst (v := 0) hx hb dX4_takePart_115 rfl ?_
      exact ret (0, z96.2.1, z96.2.2.1, z96.2.2.2.1, z96.2.2.2.2, V5, V6, V7, V8, V9, V10, V11) hf nz0 hP hS dX4_takePart_116
    · have hf := it_f c99 hf
      refine lv_aload_n hx hb dX4_takePart_102 rfl (lv_at hl 1 rfl) ?_
      refine lv_bipush (v := 59) hx hb dX4_takePart_103 rfl ?_
      obtain ⟨z105, hz105, hf⟩ := bind_s hf
      refine xV_iu hx hb hml hown htg L4_48 (c_X8_passSign l E a1 a3 a4 hz105 _) ⟨⟨rfl, rfl⟩, Nat.le_of_ble_eq_true rfl, Nat.le_of_ble_eq_true rfl⟩ hK hG hA hP hD hS (is := [1, 3, 4]) (sel := [none, some 0, none, some 1, some 2, none, none, none, none, none, none, none]) (ws2 := [(a0, o4 z96.2.1 (.ref a2)), (a1, o8 z105.2.1 z105.2.2 a3 a4), (a2, o3 z96.2.2.2.2 a5 a7 a6 a9 a8 a10 a11 u2_14), (a3, ab E 900 V3), (a4, al E 23 V4), (a5, ai E 36 V5), (a6, al E 5 V6), (a7, ai E 5 V7), (a8, ai E 12 V8), (a9, ai E 12 V9), (a10, ai E 12 V10), (a11, ai E 12 V11)]) rfl rfl rfl rfl rfl (xrecv hK hP (q0 := 1) (ci := 8) rfl rfl) rfl hl.1 rfl (Nat.le_of_ble_eq_true rfl) dX4_takePart_105 (fun H locs hP hD hS => ?_)
      refine lv_if_eq (tgt := 115) hx hb dX4_takePart_108 (by decide) (fun c108 => ?_) (fun c108 => ?_)
      · have hf := it_t c108 hf
        refine lv_iconst (v := 0) hx hb dX4_takePart_115 rfl ?_
        exact ret (0, z96.2.1, z105.2.1, z105.2.2, z96.2.2.2.2, V5, V6, V7, V8, V9, V10, V11) hf nz0 hP hS dX4_takePart_116
      · have hf := it_f c108 hf
        refine lv_iconst (v := 1) hx hb dX4_takePart_111 rfl ?_
        refine lv_goto (tgt := 116) hx hb dX4_takePart_112 (by decide) ?_
        exact ret (1, z96.2.1, z105.2.1, z105.2.2, z96.2.2.2.2, V5, V6, V7, V8, V9, V10, V11) hf nz1 hP hS dX4_takePart_116
  have hf := it_f c4_2 hf
  by_cases c4_3 : z1 = 3
  · have hf := it_t c4_3 hf
    refine xtabI (off := 113) (tgt := 117) hx hb c4_3 dX4_takePart_4 rfl (by decide) ?_
    refine lv_aload_n hx hb dX4_takePart_117 rfl (lv_at hl 0 rfl) ?_
    refine lv_aload_n hx hb dX4_takePart_118 rfl (lv_at hl 1 rfl) ?_
    obtain ⟨z119, hz119, hf⟩ := bind_s hf
    refine xV_iu hx hb hml hown htg L4_58 (c_X4_takeTraveller l E a0 a1 a2 a3 a4 a6 a7 hz119 _) ⟨⟨rfl, rfl⟩, Nat.le_of_ble_eq_true rfl, Nat.le_of_ble_eq_true rfl⟩ hK hG hA hP hD hS (is := [0, 1, 2, 3, 4, 6, 7]) (sel := [some 0, some 1, some 2, some 3, some 4, none, some 5, some 6, none, none, none, none]) (ws2 := [(a0, o4 T0 (.ref a2)), (a1, o8 z119.2.1 z119.2.2.1 a3 a4), (a2, o3 z119.2.2.2.1 a5 a7 a6 a9 a8 a10 a11 u2_14), (a3, ab E 900 V3), (a4, al E 23 V4), (a5, ai E 36 V5), (a6, al E 5 z119.2.2.2.2.1), (a7, ai E 5 z119.2.2.2.2.2), (a8, ai E 12 V8), (a9, ai E 12 V9), (a10, ai E 12 V10), (a11, ai E 12 V11)]) rfl rfl rfl rfl rfl (xrecv hK hP (q0 := 0) (ci := 4) rfl rfl) rfl hl.1 rfl (Nat.le_of_ble_eq_true rfl) dX4_takePart_119 (fun H locs hP hD hS => ?_)
    refine lv_if_eq (tgt := 138) hx hb dX4_takePart_122 (by decide) (fun c122 => ?_) (fun c122 => ?_)
    · have hf := it_t c122 hf
      refine lv_iconst (v := 0) hx hb dX4_takePart_138 rfl ?_
      exact ret (0, T0, z119.2.1, z119.2.2.1, z119.2.2.2.1, V5, z119.2.2.2.2.1, z119.2.2.2.2.2, V8, V9, V10, V11) hf nz0 hP hS dX4_takePart_139
    · have hf := it_f c122 hf
      refine lv_aload_n hx hb dX4_takePart_125 rfl (lv_at hl 1 rfl) ?_
      refine lv_bipush (v := 59) hx hb dX4_takePart_126 rfl ?_
      obtain ⟨z128, hz128, hf⟩ := bind_s hf
      refine xV_iu hx hb hml hown htg L4_48 (c_X8_passSign l E a1 a3 a4 hz128 _) ⟨⟨rfl, rfl⟩, Nat.le_of_ble_eq_true rfl, Nat.le_of_ble_eq_true rfl⟩ hK hG hA hP hD hS (is := [1, 3, 4]) (sel := [none, some 0, none, some 1, some 2, none, none, none, none, none, none, none]) (ws2 := [(a0, o4 T0 (.ref a2)), (a1, o8 z128.2.1 z128.2.2 a3 a4), (a2, o3 z119.2.2.2.1 a5 a7 a6 a9 a8 a10 a11 u2_14), (a3, ab E 900 V3), (a4, al E 23 V4), (a5, ai E 36 V5), (a6, al E 5 z119.2.2.2.2.1), (a7, ai E 5 z119.2.2.2.2.2), (a8, ai E 12 V8), (a9, ai E 12 V9), (a10, ai E 12 V10), (a11, ai E 12 V11)]) rfl rfl rfl rfl rfl (xrecv hK hP (q0 := 1) (ci := 8) rfl rfl) rfl hl.1 rfl (Nat.le_of_ble_eq_true rfl) dX4_takePart_128 (fun H locs hP hD hS => ?_)
      refine lv_if_eq (tgt := 138) hx hb dX4_takePart_131 (by decide) (fun c131 => ?_) (fun c131 => ?_)
      · have hf := it_t c131 hf
        refine lv_iconst (v := 0) hx hb dX4_takePart_138 rfl ?_
        exact ret (0, T0, z128.2.1, z128.2.2, z119.2.2.2.1, V5, z119.2.2.2.2.1, z119.2.2.2.2.2, V8, V9, V10, V11) hf nz0 hP hS dX4_takePart_139
      · have hf := it_f c131 hf
        refine lv_iconst (v := 1) hx hb dX4_takePart_134 rfl ?_
        refine lv_goto (tgt := 139) hx hb dX4_takePart_135 (by decide) ?_
        exact ret (1, T0, z128.2.1, z128.2.2, z119.2.2.2.1, V5, z119.2.2.2.2.1, z119.2.2.2.2.2, V8, V9, V10, V11) hf nz1 hP hS dX4_takePart_139
  have hf := it_f c4_3 hf
  by_cases c4_6 : z1 = 6
  · have hf := it_t c4_6 hf
    refine xtabI (off := 136) (tgt := 140) hx hb c4_6 dX4_takePart_4 rfl (by decide) ?_
    refine lv_aload_n hx hb dX4_takePart_140 rfl (lv_at hl 0 rfl) ?_
    refine lv_aload_n hx hb dX4_takePart_141 rfl (lv_at hl 1 rfl) ?_
    obtain ⟨z142, hz142, hf⟩ := bind_s hf
    refine xV_iu hx hb hml hown htg L4_61 (c_X4_takeTold l E a0 a1 a2 a3 a4 a6 a8 a9 a10 a11 hz142 _) ⟨⟨rfl, rfl⟩, Nat.le_of_ble_eq_true rfl, Nat.le_of_ble_eq_true rfl⟩ hK hG hA hP hD hS (is := [0, 1, 2, 3, 4, 6, 8, 9, 10, 11]) (sel := [some 0, some 1, some 2, some 3, some 4, none, some 5, none, some 6, some 7, some 8, some 9]) (ws2 := [(a0, o4 T0 (.ref a2)), (a1, o8 z142.2.1 z142.2.2.1 a3 a4), (a2, o3 z142.2.2.2.1 a5 a7 a6 a9 a8 a10 a11 u2_14), (a3, ab E 900 V3), (a4, al E 23 V4), (a5, ai E 36 V5), (a6, al E 5 V6), (a7, ai E 5 V7), (a8, ai E 12 z142.2.2.2.2.1), (a9, ai E 12 z142.2.2.2.2.2.1), (a10, ai E 12 z142.2.2.2.2.2.2.1), (a11, ai E 12 z142.2.2.2.2.2.2.2)]) rfl rfl rfl rfl rfl (xrecv hK hP (q0 := 0) (ci := 4) rfl rfl) rfl hl.1 rfl (Nat.le_of_ble_eq_true rfl) dX4_takePart_142 (fun H locs hP hD hS => ?_)
    refine lv_if_eq (tgt := 161) hx hb dX4_takePart_145 (by decide) (fun c145 => ?_) (fun c145 => ?_)
    · have hf := it_t c145 hf
      refine lv_iconst (v := 0) hx hb dX4_takePart_161 rfl ?_
      exact ret (0, T0, z142.2.1, z142.2.2.1, z142.2.2.2.1, V5, V6, V7, z142.2.2.2.2.1, z142.2.2.2.2.2.1, z142.2.2.2.2.2.2.1, z142.2.2.2.2.2.2.2) hf nz0 hP hS dX4_takePart_162
    · have hf := it_f c145 hf
      refine lv_aload_n hx hb dX4_takePart_148 rfl (lv_at hl 1 rfl) ?_
      refine lv_bipush (v := 59) hx hb dX4_takePart_149 rfl ?_
      obtain ⟨z151, hz151, hf⟩ := bind_s hf
      refine xV_iu hx hb hml hown htg L4_48 (c_X8_passSign l E a1 a3 a4 hz151 _) ⟨⟨rfl, rfl⟩, Nat.le_of_ble_eq_true rfl, Nat.le_of_ble_eq_true rfl⟩ hK hG hA hP hD hS (is := [1, 3, 4]) (sel := [none, some 0, none, some 1, some 2, none, none, none, none, none, none, none]) (ws2 := [(a0, o4 T0 (.ref a2)), (a1, o8 z151.2.1 z151.2.2 a3 a4), (a2, o3 z142.2.2.2.1 a5 a7 a6 a9 a8 a10 a11 u2_14), (a3, ab E 900 V3), (a4, al E 23 V4), (a5, ai E 36 V5), (a6, al E 5 V6), (a7, ai E 5 V7), (a8, ai E 12 z142.2.2.2.2.1), (a9, ai E 12 z142.2.2.2.2.2.1), (a10, ai E 12 z142.2.2.2.2.2.2.1), (a11, ai E 12 z142.2.2.2.2.2.2.2)]) rfl rfl rfl rfl rfl (xrecv hK hP (q0 := 1) (ci := 8) rfl rfl) rfl hl.1 rfl (Nat.le_of_ble_eq_true rfl) dX4_takePart_151 (fun H locs hP hD hS => ?_)
      refine lv_if_eq (tgt := 161) hx hb dX4_takePart_154 (by decide) (fun c154 => ?_) (fun c154 => ?_)
      · have hf := it_t c154 hf
        refine lv_iconst (v := 0) hx hb dX4_takePart_161 rfl ?_
        exact ret (0, T0, z151.2.1, z151.2.2, z142.2.2.2.1, V5, V6, V7, z142.2.2.2.2.1, z142.2.2.2.2.2.1, z142.2.2.2.2.2.2.1, z142.2.2.2.2.2.2.2) hf nz0 hP hS dX4_takePart_162
      · have hf := it_f c154 hf
        refine lv_iconst (v := 1) hx hb dX4_takePart_157 rfl ?_
        refine lv_goto (tgt := 162) hx hb dX4_takePart_158 (by decide) ?_
        exact ret (1, T0, z151.2.1, z151.2.2, z142.2.2.2.1, V5, V6, V7, z142.2.2.2.2.1, z142.2.2.2.2.2.1, z142.2.2.2.2.2.2.1, z142.2.2.2.2.2.2.2) hf nz1 hP hS dX4_takePart_162
  have hf := it_f c4_6 hf
  refine xtabD (tgt := 163) (cs := [0, 1, 2, 3, 6]) hx hb (by simp only [List.forall_mem_cons]; exact ⟨c4_0, c4_1, c4_2, c4_3, c4_6, fun _ h => absurd h List.not_mem_nil⟩) rfl dX4_takePart_4 (by decide) ?_
  exact b163 T0 T1 J1_8 T2 V5 V6 V7 V8 V9 V10 V11 _ _ _ hf hP hD hS (lv_sub hl [1] rfl)
theorem dX4_take_0 : decode cX4_take 0 = .ok (.aload_n 3, 1) := by decide +kernel
theorem dX4_take_1 : decode cX4_take 1 = .ok (.invokevirtual 9, 3) := by decide +kernel
theorem dX4_take_4 : decode cX4_take 4 = .ok (.aload_n 0, 1) := by decide +kernel
theorem dX4_take_5 : decode cX4_take 5 = .ok (.aload_n 3, 1) := by decide +kernel
theorem dX4_take_6 : decode cX4_take 6 = .ok (.putfield 14, 3) := by decide +kernel
theorem dX4_take_9 : decode cX4_take 9 = .ok (.aload_n 0, 1) := by decide +kernel
theorem dX4_take_10 : decode cX4_take 10 = .ok (.iconst 0, 1) := by decide +kernel
theorem dX4_take_11 : decode cX4_take 11 = .ok (.putfield 20, 3) := by decide +kernel
theorem dX4_take_14 : decode cX4_take 14 = .ok (.aload_n 0, 1) := by decide +kernel
theorem dX4_take_15 : decode cX4_take 15 = .ok (.iconst 0, 1) := by decide +kernel
theorem dX4_take_16 : decode cX4_take 16 = .ok (.putfield 24, 3) := by decide +kernel
theorem dX4_take_19 : decode cX4_take 19 = .ok (.aload_n 1, 1) := by decide +kernel
theorem dX4_take_20 : decode cX4_take 20 = .ok (.iload_n 2, 1) := by decide +kernel
theorem dX4_take_21 : decode cX4_take 21 = .ok (.invokevirtual 27, 3) := by decide +kernel
theorem dX4_take_24 : decode cX4_take 24 = .ok (.iconst 0, 1) := by decide +kernel
theorem dX4_take_25 : decode cX4_take 25 = .ok (.istore 4, 2) := by decide +kernel
theorem dX4_take_27 : decode cX4_take 27 = .ok (.iload 4, 2) := by decide +kernel
theorem dX4_take_29 : decode cX4_take 29 = .ok (.iload_n 2, 1) := by decide +kernel
theorem dX4_take_30 : decode cX4_take 30 = .ok (.if_icmp .ge 26, 3) := by decide +kernel
theorem dX4_take_33 : decode cX4_take 33 = .ok (.aload_n 1, 1) := by decide +kernel
theorem dX4_take_34 : decode cX4_take 34 = .ok (.invokevirtual 33, 3) := by decide +kernel
theorem dX4_take_37 : decode cX4_take 37 = .ok (.ifCond .ne 19, 3) := by decide +kernel
theorem dX4_take_40 : decode cX4_take 40 = .ok (.aload_n 0, 1) := by decide +kernel
theorem dX4_take_41 : decode cX4_take 41 = .ok (.aload_n 1, 1) := by decide +kernel
theorem dX4_take_42 : decode cX4_take 42 = .ok (.invokevirtual 37, 3) := by decide +kernel
theorem dX4_take_45 : decode cX4_take 45 = .ok (.ifCond .ne 5, 3) := by decide +kernel
theorem dX4_take_48 : decode cX4_take 48 = .ok (.iconst 0, 1) := by decide +kernel
theorem dX4_take_49 : decode cX4_take 49 = .ok (.ireturn, 1) := by decide +kernel
theorem dX4_take_50 : decode cX4_take 50 = .ok (.iinc 4 1, 3) := by decide +kernel
theorem dX4_take_53 : decode cX4_take 53 = .ok (.goto (-26), 3) := by decide +kernel
theorem dX4_take_56 : decode cX4_take 56 = .ok (.iconst 1, 1) := by decide +kernel
theorem dX4_take_57 : decode cX4_take 57 = .ok (.ireturn, 1) := by decide +kernel
set_option maxRecDepth 100000 in
theorem c_X4_take (l : Launch) (E : xE) (a0 a1 a2 a3 a4 a5 a6 a7 a8 a9 a10 a11 a12 : Nat) {T0 : Nat → Int32} {u0_0 : Value} {T1 : Nat → Int32} {J1_8 : Int64} {T2 : Nat → Int32} {T3 : Nat → Int32} {V4 : Nat → Int32} {V5 : Nat → Int64} {V6 : Nat → Int32} {V7 : Nat → Int64} {V8 : Nat → Int32} {V9 : Nat → Int32} {V10 : Nat → Int32} {V11 : Nat → Int32} {V12 : Nat → Int32} {u3_3 u3_4 u3_5 u3_6 u3_7 : Nat} {x2 : Int32} {z : Int32 × (Nat → Int32) × (Nat → Int32) × Int64 × (Nat → Int32) × (Nat → Int32) × (Nat → Int32) × (Nat → Int64) × (Nat → Int32) × (Nat → Int32) × (Nat → Int32) × (Nat → Int32) × (Nat → Int32)} (hf : f_X4_take T0 T1 J1_8 T2 T3 V4 V5 V6 V7 V8 V9 V10 V11 V12 x2 = some z) (sz : Nat) : Met l yX4_take (Cond.code yX4_take cX4_take 5 (some .boolean) :: gw) ({ frames := 6, cells := 0, slots := 0, locals := 151 }) (xPc E [.ref a0, .ref a1, .int x2, .ref a2] [(a0, o4 T0 u0_0), (a1, o8 T1 J1_8 a4 a5), (a2, o3 T2 a6 a8 a7 a10 a9 a11 a12 a3), (a3, o0 T3 u3_3 u3_4 u3_5 u3_6 u3_7), (a4, ab E 900 V4), (a5, al E 23 V5), (a6, ai E 36 V6), (a7, al E 5 V7), (a8, ai E 5 V8), (a9, ai E 12 V9), (a10, ai E 12 V10), (a11, ai E 12 V11), (a12, ai E 12 V12)] sz) (xQi E z.1 [(a0, o4 T0 u0_0), (a1, o8 T1 J1_8 a4 a5), (a2, o3 T2 a6 a8 a7 a10 a9 a11 a12 a3), (a3, o0 T3 u3_3 u3_4 u3_5 u3_6 u3_7), (a4, ab E 900 V4), (a5, al E 23 V5), (a6, ai E 36 V6), (a7, al E 5 V7), (a8, ai E 5 V8), (a9, ai E 12 V9), (a10, ai E 12 V10), (a11, ai E 12 V11), (a12, ai E 12 V12)] [(a0, o4 z.2.1 (.ref a2)), (a1, o8 z.2.2.1 z.2.2.2.1 a4 a5), (a2, o3 z.2.2.2.2.1 a6 a8 a7 a10 a9 a11 a12 a3), (a3, o0 z.2.2.2.2.2.1 u3_3 u3_4 u3_5 u3_6 u3_7), (a4, ab E 900 V4), (a5, al E 23 V5), (a6, ai E 36 z.2.2.2.2.2.2.1), (a7, al E 5 z.2.2.2.2.2.2.2.1), (a8, ai E 5 z.2.2.2.2.2.2.2.2.1), (a9, ai E 12 z.2.2.2.2.2.2.2.2.2.1), (a10, ai E 12 z.2.2.2.2.2.2.2.2.2.2.1), (a11, ai E 12 z.2.2.2.2.2.2.2.2.2.2.2.1), (a12, ai E 12 z.2.2.2.2.2.2.2.2.2.2.2.2)] sz) 0 0 (va_A [(a0, o4 T0 u0_0), (a1, o8 T1 J1_8 a4 a5), (a2, o3 T2 a6 a8 a7 a10 a9 a11 a12 a3), (a3, o0 T3 u3_3 u3_4 u3_5 u3_6 u3_7), (a4, ab E 900 V4), (a5, al E 23 V5), (a6, ai E 36 V6), (a7, al E 5 V7), (a8, ai E 5 V8), (a9, ai E 12 V9), (a10, ai E 12 V10), (a11, ai E 12 V11), (a12, ai E 12 V12)] sz) := by
  refine xM_i (by decide +kernel) (Nat.le_of_ble_eq_true rfl) ?_
  intro p e s m args below meth c A Q hx hb hml hown htg hK hG hA ret0 H locs ls hP hD hS hl
  have ret : ∀ (z' : Int32 × (Nat → Int32) × (Nat → Int32) × Int64 × (Nat → Int32) × (Nat → Int32) × (Nat → Int32) × (Nat → Int64) × (Nat → Int32) × (Nat → Int32) × (Nat → Int32) × (Nat → Int32) × (Nat → Int32)) {H : Heap} {locs : List Loc} {pc : Nat} {ls : Array Slot}, some z' = some z → narrow .boolean (.int z'.1) = .int z'.1 → va_P E.1 vwCl [(a0, o4 z'.2.1 (.ref a2)), (a1, o8 z'.2.2.1 z'.2.2.2.1 a4 a5), (a2, o3 z'.2.2.2.2.1 a6 a8 a7 a10 a9 a11 a12 a3), (a3, o0 z'.2.2.2.2.2.1 u3_3 u3_4 u3_5 u3_6 u3_7), (a4, ab E 900 V4), (a5, al E 23 V5), (a6, ai E 36 z'.2.2.2.2.2.2.1), (a7, al E 5 z'.2.2.2.2.2.2.2.1), (a8, ai E 5 z'.2.2.2.2.2.2.2.2.1), (a9, ai E 12 z'.2.2.2.2.2.2.2.2.2.1), (a10, ai E 12 z'.2.2.2.2.2.2.2.2.2.2.1), (a11, ai E 12 z'.2.2.2.2.2.2.2.2.2.2.2.1), (a12, ai E 12 z'.2.2.2.2.2.2.2.2.2.2.2.2)] H → va_S A s.heap H locs → decode cX4_take pc = .ok (.ireturn, 1) → W p l e ({ frames := 6, cells := 0, slots := 0, locals := 151 } : Room) s m args below meth c H locs 0 0 Q (F0 m pc ls [.int z'.1]) := by
    intro z' H locs pc ls h
    cases h
    exact ret0
  replace hl : lv_has ls 5 [(0, .ref a0), (1, .ref a1), (2, .int x2), (3, .ref a2)] := hl
  have b27 : ∀ (n : Nat) (x4 : Int32) (T0 : Nat → Int32) (T1 : Nat → Int32) (J1_8 : Int64) (T2 : Nat → Int32) (T3 : Nat → Int32) (V6 : Nat → Int32) (V7 : Nat → Int64) (V8 : Nat → Int32) (V9 : Nat → Int32) (V10 : Nat → Int32) (V11 : Nat → Int32) (V12 : Nat → Int32) (H : Heap) (locs : List Loc) (ls : Array Slot), f_X4_take_27 V4 V5 x2 n x4 T0 T1 J1_8 T2 T3 V6 V7 V8 V9 V10 V11 V12 = some z → va_P E.1 vwCl [(a0, o4 T0 (.ref a2)), (a1, o8 T1 J1_8 a4 a5), (a2, o3 T2 a6 a8 a7 a10 a9 a11 a12 a3), (a3, o0 T3 u3_3 u3_4 u3_5 u3_6 u3_7), (a4, ab E 900 V4), (a5, al E 23 V5), (a6, ai E 36 V6), (a7, al E 5 V7), (a8, ai E 5 V8), (a9, ai E 12 V9), (a10, ai E 12 V10), (a11, ai E 12 V11), (a12, ai E 12 V12)] H → va_D A [(a0, o4 T0 (.ref a2)), (a1, o8 T1 J1_8 a4 a5), (a2, o3 T2 a6 a8 a7 a10 a9 a11 a12 a3), (a3, o0 T3 u3_3 u3_4 u3_5 u3_6 u3_7), (a4, ab E 900 V4), (a5, al E 23 V5), (a6, ai E 36 V6), (a7, al E 5 V7), (a8, ai E 5 V8), (a9, ai E 12 V9), (a10, ai E 12 V10), (a11, ai E 12 V11), (a12, ai E 12 V12)] → va_S A s.heap H locs → lv_has ls 5 [(0, .ref a0), (1, .ref a1), (2, .int x2), (4, .int x4)] → W p l e ({ frames := 6, cells := 0, slots := 0, locals := 151 } : Room) s m args below meth c H locs 0 0 Q (F0 m 27 ls []) := by
    intro n
    induction n with
    | zero => intro x4 T0 T1 J1_8 T2 T3 V6 V7 V8 V9 V10 V11 V12 H locs ls hf; exact (nn_s hf).elim
    | succ n ih27 =>
      obtain ⟨k27, ek27⟩ : ∃ k, k = f_X4_take_27 V4 V5 x2 n := ⟨_, rfl⟩
      rw [← ek27] at ih27
      intro x4 T0 T1 J1_8 T2 T3 V6 V7 V8 V9 V10 V11 V12 H locs ls hf hP hD hS hl
      replace hf : g_X4_take_27 V4 V5 x2 k27 x4 T0 T1 J1_8 T2 T3 V6 V7 V8 V9 V10 V11 V12 = some z := by rw [ek27]; exact hf
      unfold g_X4_take_27 at hf
      refine lv_iload hx hb dX4_take_27 (lv_at hl 3 rfl) ?_
      refine lv_iload_n hx hb dX4_take_29 rfl (lv_at hl 2 rfl) ?_
      refine lv_icmp_ge (tgt := 56) hx hb dX4_take_30 (by decide) (fun c30 => ?_) (fun c30 => ?_)
      · have hf := it_t c30 hf
        refine lv_iconst (v := 1) hx hb dX4_take_56 rfl ?_
        exact ret (1, T0, T1, J1_8, T2, T3, V6, V7, V8, V9, V10, V11, V12) hf nz1 hP hS dX4_take_57
      · have hf := it_f c30 hf
        refine lv_aload_n hx hb dX4_take_33 rfl (lv_at hl 1 rfl) ?_
        obtain ⟨z34, hz34, hf⟩ := bind_s hf
        refine xV_ir hx hb hml hown htg L4_33 (c_X8_atEnd l E a1 hz34 _) ⟨⟨rfl, rfl⟩, Nat.le_of_ble_eq_true rfl, Nat.le_of_ble_eq_true rfl⟩ hK hG hA hP hD hS (is := [1]) rfl rfl (xrecv hK hP (q0 := 1) (ci := 8) rfl rfl) rfl hl.1 rfl (Nat.le_of_ble_eq_true rfl) dX4_take_34 (fun H locs hP hD hS => ?_)
        refine lv_if_ne (tgt := 56) hx hb dX4_take_37 (by decide) (fun c37 => ?_) (fun c37 => ?_)
        · have hf := it_f c37 hf
          refine lv_iconst (v := 1) hx hb dX4_take_56 rfl ?_
          exact ret (1, T0, T1, J1_8, T2, T3, V6, V7, V8, V9, V10, V11, V12) hf nz1 hP hS dX4_take_57
        · have hf := it_t c37 hf
          refine lv_aload_n hx hb dX4_take_40 rfl (lv_at hl 0 rfl) ?_
          refine lv_aload_n hx hb dX4_take_41 rfl (lv_at hl 1 rfl) ?_
          obtain ⟨z42, hz42, hf⟩ := bind_s hf
          refine xV_iu hx hb hml hown htg L4_37 (c_X4_takePart l E a0 a1 a2 a4 a5 a6 a7 a8 a9 a10 a11 a12 hz42 _) ⟨⟨rfl, rfl⟩, Nat.le_of_ble_eq_true rfl, Nat.le_of_ble_eq_true rfl⟩ hK hG hA hP hD hS (is := [0, 1, 2, 4, 5, 6, 7, 8, 9, 10, 11, 12]) (sel := [some 0, some 1, some 2, none, some 3, some 4, some 5, some 6, some 7, some 8, some 9, some 10, some 11]) (ws2 := [(a0, o4 z42.2.1 (.ref a2)), (a1, o8 z42.2.2.1 z42.2.2.2.1 a4 a5), (a2, o3 z42.2.2.2.2.1 a6 a8 a7 a10 a9 a11 a12 a3), (a3, o0 T3 u3_3 u3_4 u3_5 u3_6 u3_7), (a4, ab E 900 V4), (a5, al E 23 V5), (a6, ai E 36 z42.2.2.2.2.2.1), (a7, al E 5 z42.2.2.2.2.2.2.1), (a8, ai E 5 z42.2.2.2.2.2.2.2.1), (a9, ai E 12 z42.2.2.2.2.2.2.2.2.1), (a10, ai E 12 z42.2.2.2.2.2.2.2.2.2.1), (a11, ai E 12 z42.2.2.2.2.2.2.2.2.2.2.1), (a12, ai E 12 z42.2.2.2.2.2.2.2.2.2.2.2)]) rfl rfl rfl rfl rfl (xrecv hK hP (q0 := 0) (ci := 4) rfl rfl) rfl hl.1 rfl (Nat.le_of_ble_eq_true rfl) dX4_take_42 (fun H locs hP hD hS => ?_)
          refine lv_if_ne (tgt := 50) hx hb dX4_take_45 (by decide) (fun c45 => ?_) (fun c45 => ?_)
          · have hf := it_f c45 hf
            refine lv_iinc (v := x4 + 1) (lv' := [(4, .int (x4 + 1)), (0, .ref a0), (1, .ref a1), (2, .int x2)]) hx hb dX4_take_50 hl (k := 3) rfl rfl (by decide) rfl (fun ls hl => ?_)
            refine lv_goto (tgt := 27) hx hb dX4_take_53 (by decide) ?_
            exact ih27 (x4 + 1) z42.2.1 z42.2.2.1 z42.2.2.2.1 z42.2.2.2.2.1 T3 z42.2.2.2.2.2.1 z42.2.2.2.2.2.2.1 z42.2.2.2.2.2.2.2.1 z42.2.2.2.2.2.2.2.2.1 z42.2.2.2.2.2.2.2.2.2.1 z42.2.2.2.2.2.2.2.2.2.2.1 z42.2.2.2.2.2.2.2.2.2.2.2 _ _ _ hf hP hD hS (lv_sub hl [1, 2, 3, 0] rfl)
          · have hf := it_t c45 hf
            refine lv_iconst (v := 0) hx hb dX4_take_48 rfl ?_
            exact ret (0, z42.2.1, z42.2.2.1, z42.2.2.2.1, z42.2.2.2.2.1, T3, z42.2.2.2.2.2.1, z42.2.2.2.2.2.2.1, z42.2.2.2.2.2.2.2.1, z42.2.2.2.2.2.2.2.2.1, z42.2.2.2.2.2.2.2.2.2.1, z42.2.2.2.2.2.2.2.2.2.2.1, z42.2.2.2.2.2.2.2.2.2.2.2) hf nz0 hP hS dX4_take_49
  unfold f_X4_take at hf
  refine lv_aload_n hx hb dX4_take_0 rfl (lv_at hl 3 rfl) ?_
  obtain ⟨z1, hz1, hf⟩ := bind_s hf
  refine xV_vu hx hb hml hown htg L4_9 (c_X3_clear l E a2 a3 hz1 _) ⟨⟨rfl, rfl⟩, Nat.le_of_ble_eq_true rfl, Nat.le_of_ble_eq_true rfl⟩ hK hG hA hP hD hS (is := [2, 3]) (sel := [none, none, some 0, some 1, none, none, none, none, none, none, none, none, none]) (ws2 := [(a0, o4 T0 u0_0), (a1, o8 T1 J1_8 a4 a5), (a2, o3 z1.1 a6 a8 a7 a10 a9 a11 a12 a3), (a3, o0 z1.2 u3_3 u3_4 u3_5 u3_6 u3_7), (a4, ab E 900 V4), (a5, al E 23 V5), (a6, ai E 36 V6), (a7, al E 5 V7), (a8, ai E 5 V8), (a9, ai E 12 V9), (a10, ai E 12 V10), (a11, ai E 12 V11), (a12, ai E 12 V12)]) rfl rfl rfl rfl rfl (xrecv hK hP (q0 := 2) (ci := 3) rfl rfl) rfl hl.1 rfl (Nat.le_of_ble_eq_true rfl) dX4_take_1 (fun H locs hP hD hS => ?_)
  refine lv_aload_n hx hb dX4_take_4 rfl (lv_at hl 0 rfl) ?_
  refine lv_aload_n hx hb dX4_take_5 rfl (lv_at hl 3 rfl) ?_
  refine P4_14 hx hb htg hown hK hP hD hS 0 rfl dX4_take_6 (fun H locs hP hD hS => ?_)
  refine lv_aload_n hx hb dX4_take_9 rfl (lv_at hl 0 rfl) ?_
  refine lv_iconst (v := 0) hx hb dX4_take_10 rfl ?_
  refine P4_20 hx hb htg hown hK hP hD hS 0 rfl rfl dX4_take_11 (fun H locs hP hD hS => ?_)
  refine lv_aload_n hx hb dX4_take_14 rfl (lv_at hl 0 rfl) ?_
  refine lv_iconst (v := 0) hx hb dX4_take_15 rfl ?_
  refine P4_24 hx hb htg hown hK hP hD hS 0 rfl rfl dX4_take_16 (fun H locs hP hD hS => ?_)
  replace hP : va_P E.1 vwCl [(a0, o4 (upd (upd T0 1 0) 2 0) (.ref a2)), (a1, o8 T1 J1_8 a4 a5), (a2, o3 z1.1 a6 a8 a7 a10 a9 a11 a12 a3), (a3, o0 z1.2 u3_3 u3_4 u3_5 u3_6 u3_7), (a4, ab E 900 V4), (a5, al E 23 V5), (a6, ai E 36 V6), (a7, al E 5 V7), (a8, ai E 5 V8), (a9, ai E 12 V9), (a10, ai E 12 V10), (a11, ai E 12 V11), (a12, ai E 12 V12)] H := hP
  replace hD : va_D A [(a0, o4 (upd (upd T0 1 0) 2 0) (.ref a2)), (a1, o8 T1 J1_8 a4 a5), (a2, o3 z1.1 a6 a8 a7 a10 a9 a11 a12 a3), (a3, o0 z1.2 u3_3 u3_4 u3_5 u3_6 u3_7), (a4, ab E 900 V4), (a5, al E 23 V5), (a6, ai E 36 V6), (a7, al E 5 V7), (a8, ai E 5 V8), (a9, ai E 12 V9), (a10, ai E 12 V10), (a11, ai E 12 V11), (a12, ai E 12 V12)] := hD
  refine lv_aload_n hx hb dX4_take_19 rfl (lv_at hl 1 rfl) ?_
  refine lv_iload_n hx hb dX4_take_20 rfl (lv_at hl 2 rfl) ?_
  obtain ⟨z21, hz21, hf⟩ := bind_s hf
  refine xV_vu hx hb hml hown htg L4_27 (c_X8_begin l E a1 a4 a5 hz21 _) ⟨⟨rfl, rfl⟩, Nat.le_of_ble_eq_true rfl, Nat.le_of_ble_eq_true rfl⟩ hK hG hA hP hD hS (is := [1, 4, 5]) (sel := [none, some 0, none, none, some 1, some 2, none, none, none, none, none, none, none]) (ws2 := [(a0, o4 (upd (upd T0 1 0) 2 0) (.ref a2)), (a1, o8 z21.1 z21.2 a4 a5), (a2, o3 z1.1 a6 a8 a7 a10 a9 a11 a12 a3), (a3, o0 z1.2 u3_3 u3_4 u3_5 u3_6 u3_7), (a4, ab E 900 V4), (a5, al E 23 V5), (a6, ai E 36 V6), (a7, al E 5 V7), (a8, ai E 5 V8), (a9, ai E 12 V9), (a10, ai E 12 V10), (a11, ai E 12 V11), (a12, ai E 12 V12)]) rfl rfl rfl rfl rfl (xrecv hK hP (q0 := 1) (ci := 8) rfl rfl) rfl hl.1 rfl (Nat.le_of_ble_eq_true rfl) dX4_take_21 (fun H locs hP hD hS => ?_)
  refine lv_iconst (v := 0) hx hb dX4_take_24 rfl ?_
  refine lv_istore (lv' := [(4, .int 0), (0, .ref a0), (1, .ref a1), (2, .int x2), (3, .ref a2)]) hx hb dX4_take_25 hl (by decide) rfl (fun ls hl => ?_)
  exact b27 xF 0 (upd (upd T0 1 0) 2 0) z21.1 z21.2 z1.1 z1.2 V6 V7 V8 V9 V10 V11 V12 _ _ _ hf hP hD hS (lv_sub hl [1, 2, 3, 0] rfl)
theorem dX11_duchy_0 : decode cX11_duchy 0 = .ok (.iload_n 1, 1) := by decide +kernel
theorem dX11_duchy_1 : decode cX11_duchy 1 = .ok (.iconst 0, 1) := by decide +kernel
theorem dX11_duchy_2 : decode cX11_duchy 2 = .ok (.aload_n 0, 1) := by decide +kernel
theorem dX11_duchy_3 : decode cX11_duchy 3 = .ok (.getfield 19, 3) := by decide +kernel
theorem dX11_duchy_6 : decode cX11_duchy 6 = .ok (.invokevirtual 165, 3) := by decide +kernel
theorem dX11_duchy_9 : decode cX11_duchy 9 = .ok (.invokestatic 114, 3) := by decide +kernel
theorem dX11_duchy_12 : decode cX11_duchy 12 = .ok (.ifCond .ne 9, 3) := by decide +kernel
theorem dX11_duchy_15 : decode cX11_duchy 15 = .ok (.aload_n 0, 1) := by decide +kernel
theorem dX11_duchy_16 : decode cX11_duchy 16 = .ok (.iconst 5, 1) := by decide +kernel
theorem dX11_duchy_17 : decode cX11_duchy 17 = .ok (.invokevirtual 137, 3) := by decide +kernel
theorem dX11_duchy_20 : decode cX11_duchy 20 = .ok (.ireturn, 1) := by decide +kernel
theorem dX11_duchy_21 : decode cX11_duchy 21 = .ok (.aload_n 0, 1) := by decide +kernel
theorem dX11_duchy_22 : decode cX11_duchy 22 = .ok (.getfield 26, 3) := by decide +kernel
theorem dX11_duchy_25 : decode cX11_duchy 25 = .ok (.aload_n 0, 1) := by decide +kernel
theorem dX11_duchy_26 : decode cX11_duchy 26 = .ok (.getfield 19, 3) := by decide +kernel
theorem dX11_duchy_29 : decode cX11_duchy 29 = .ok (.iload_n 1, 1) := by decide +kernel
theorem dX11_duchy_30 : decode cX11_duchy 30 = .ok (.aload_n 0, 1) := by decide +kernel
theorem dX11_duchy_31 : decode cX11_duchy 31 = .ok (.getfield 83, 3) := by decide +kernel
theorem dX11_duchy_34 : decode cX11_duchy 34 = .ok (.invokevirtual 169, 3) := by decide +kernel
theorem dX11_duchy_37 : decode cX11_duchy 37 = .ok (.istore_n 2, 1) := by decide +kernel
theorem dX11_duchy_38 : decode cX11_duchy 38 = .ok (.aload_n 0, 1) := by decide +kernel
theorem dX11_duchy_39 : decode cX11_duchy 39 = .ok (.invokevirtual 173, 3) := by decide +kernel
theorem dX11_duchy_42 : decode cX11_duchy 42 = .ok (.iload_n 2, 1) := by decide +kernel
theorem dX11_duchy_43 : decode cX11_duchy 43 = .ok (.ifCond .ne 10, 3) := by decide +kernel
theorem dX11_duchy_46 : decode cX11_duchy 46 = .ok (.aload_n 0, 1) := by decide +kernel
theorem dX11_duchy_47 : decode cX11_duchy 47 = .ok (.bipush 10, 2) := by decide +kernel
theorem dX11_duchy_49 : decode cX11_duchy 49 = .ok (.invokevirtual 137, 3) := by decide +kernel
theorem dX11_duchy_52 : decode cX11_duchy 52 = .ok (.ireturn, 1) := by decide +kernel
theorem dX11_duchy_53 : decode cX11_duchy 53 = .ok (.aload_n 0, 1) := by decide +kernel
theorem dX11_duchy_54 : decode cX11_duchy 54 = .ok (.getfield 79, 3) := by decide +kernel
theorem dX11_duchy_57 : decode cX11_duchy 57 = .ok (.astore_n 3, 1) := by decide +kernel
theorem dX11_duchy_58 : decode cX11_duchy 58 = .ok (.aload_n 0, 1) := by decide +kernel
theorem dX11_duchy_59 : decode cX11_duchy 59 = .ok (.aload_n 0, 1) := by decide +kernel
theorem dX11_duchy_60 : decode cX11_duchy 60 = .ok (.getfield 83, 3) := by decide +kernel
theorem dX11_duchy_63 : decode cX11_duchy 63 = .ok (.putfield 79, 3) := by decide +kernel
theorem dX11_duchy_66 : decode cX11_duchy 66 = .ok (.aload_n 0, 1) := by decide +kernel
theorem dX11_duchy_67 : decode cX11_duchy 67 = .ok (.aload_n 3, 1) := by decide +kernel
theorem dX11_duchy_68 : decode cX11_duchy 68 = .ok (.putfield 83, 3) := by decide +kernel
theorem dX11_duchy_71 : decode cX11_duchy 71 = .ok (.aload_n 0, 1) := by decide +kernel
theorem dX11_duchy_72 : decode cX11_duchy 72 = .ok (.aload_n 0, 1) := by decide +kernel
theorem dX11_duchy_73 : decode cX11_duchy 73 = .ok (.getfield 79, 3) := by decide +kernel
theorem dX11_duchy_76 : decode cX11_duchy 76 = .ok (.invokevirtual 176, 3) := by decide +kernel
theorem dX11_duchy_79 : decode cX11_duchy 79 = .ok (.invokevirtual 179, 3) := by decide +kernel
theorem dX11_duchy_82 : decode cX11_duchy 82 = .ok (.ireturn, 1) := by decide +kernel
set_option maxRecDepth 100000 in
theorem c_X11_duchy (l : Launch) (E : xE) (a0 a1 a2 a3 a4 a5 a6 a7 a8 a9 a10 a11 a12 a13 a14 : Nat) {T0 : Nat → Int32} {J0_15 : Int64} {J0_16 : Int64} {T1 : Nat → Int32} {J1_8 : Int64} {T2 : Nat → Int32} {u2_0 : Value} {T3 : Nat → Int32} {T4 : Nat → Int32} {V5 : Nat → Int32} {V6 : Nat → Int64} {V7 : Nat → Int32} {V8 : Nat → Int64} {V9 : Nat → Int32} {V10 : Nat → Int32} {V11 : Nat → Int32} {V12 : Nat → Int32} {V13 : Nat → Int32} {T14 : Nat → Int32} {u0_0 u0_3 u0_4 u0_5 u0_6 u0_7 u0_8 u0_9 u0_13 u4_3 u4_4 u4_5 u4_6 u4_7 u14_7 u14_8 u14_9 u14_10 u14_11 u14_12 u14_13 u14_14 : Nat} {x1 : Int32} {z : Int32 × (Nat → Int32) × Nat × Nat × (Nat → Int32) × Int64 × (Nat → Int32) × Value × (Nat → Int32) × (Nat → Int32) × (Nat → Int32) × (Nat → Int64) × (Nat → Int32) × (Nat → Int32) × (Nat → Int32) × (Nat → Int32) × (Nat → Int32)} (hf : f_X11_duchy T0 a14 a3 T1 J1_8 T2 u2_0 T3 T4 V5 V6 V7 V8 V9 V10 V11 V12 V13 x1 = some z) (sz : Nat) : Met l yX11_duchy (Cond.code yX11_duchy cX11_duchy 4 (some .int) :: gw) ({ frames := 7, cells := 0, slots := 0, locals := 175 }) (xPc E [.ref a0, .int x1] [(a0, o11 T0 J0_15 J0_16 u0_0 a1 a2 u0_3 u0_4 u0_5 u0_6 u0_7 u0_8 u0_9 a14 a3 u0_13), (a1, o8 T1 J1_8 a5 a6), (a2, o4 T2 u2_0), (a3, o3 T3 a7 a9 a8 a11 a10 a12 a13 a4), (a4, o0 T4 u4_3 u4_4 u4_5 u4_6 u4_7), (a5, ab E 900 V5), (a6, al E 23 V6), (a7, ai E 36 V7), (a8, al E 5 V8), (a9, ai E 5 V9), (a10, ai E 12 V10), (a11, ai E 12 V11), (a12, ai E 12 V12), (a13, ai E 12 V13), (a14, o3 T14 u14_7 u14_8 u14_9 u14_10 u14_11 u14_12 u14_13 u14_14)] sz) (xQi E z.1 [(a0, o11 T0 J0_15 J0_16 u0_0 a1 a2 u0_3 u0_4 u0_5 u0_6 u0_7 u0_8 u0_9 a14 a3 u0_13), (a1, o8 T1 J1_8 a5 a6), (a2, o4 T2 u2_0), (a3, o3 T3 a7 a9 a8 a11 a10 a12 a13 a4), (a4, o0 T4 u4_3 u4_4 u4_5 u4_6 u4_7), (a5, ab E 900 V5), (a6, al E 23 V6), (a7, ai E 36 V7), (a8, al E 5 V8), (a9, ai E 5 V9), (a10, ai E 12 V10), (a11, ai E 12 V11), (a12, ai E 12 V12), (a13, ai E 12 V13), (a14, o3 T14 u14_7 u14_8 u14_9 u14_10 u14_11 u14_12 u14_13 u14_14)] [(a0, o11 z.2.1 J0_15 J0_16 u0_0 a1 a2 u0_3 u0_4 u0_5 u0_6 u0_7 u0_8 u0_9 z.2.2.1 z.2.2.2.1 u0_13), (a1, o8 z.2.2.2.2.1 z.2.2.2.2.2.1 a5 a6), (a2, o4 z.2.2.2.2.2.2.1 z.2.2.2.2.2.2.2.1), (a3, o3 z.2.2.2.2.2.2.2.2.1 a7 a9 a8 a11 a10 a12 a13 a4), (a4, o0 z.2.2.2.2.2.2.2.2.2.1 u4_3 u4_4 u4_5 u4_6 u4_7), (a5, ab E 900 V5), (a6, al E 23 V6), (a7, ai E 36 z.2.2.2.2.2.2.2.2.2.2.1), (a8, al E 5 z.2.2.2.2.2.2.2.2.2.2.2.1), (a9, ai E 5 z.2.2.2.2.2.2.2.2.2.2.2.2.1), (a10, ai E 12 z.2.2.2.2.2.2.2.2.2.2.2.2.2.1), (a11, ai E 12 z.2.2.2.2.2.2.2.2.2.2.2.2.2.2.1), (a12, ai E 12 z.2.2.2.2.2.2.2.2.2.2.2.2.2.2.2.1), (a13, ai E 12 z.2.2.2.2.2.2.2.2.2.2.2.2.2.2.2.2), (a14, o3 T14 u14_7 u14_8 u14_9 u14_10 u14_11 u14_12 u14_13 u14_14)] sz) 0 0 (va_A [(a0, o11 T0 J0_15 J0_16 u0_0 a1 a2 u0_3 u0_4 u0_5 u0_6 u0_7 u0_8 u0_9 a14 a3 u0_13), (a1, o8 T1 J1_8 a5 a6), (a2, o4 T2 u2_0), (a3, o3 T3 a7 a9 a8 a11 a10 a12 a13 a4), (a4, o0 T4 u4_3 u4_4 u4_5 u4_6 u4_7), (a5, ab E 900 V5), (a6, al E 23 V6), (a7, ai E 36 V7), (a8, al E 5 V8), (a9, ai E 5 V9), (a10, ai E 12 V10), (a11, ai E 12 V11), (a12, ai E 12 V12), (a13, ai E 12 V13), (a14, o3 T14 u14_7 u14_8 u14_9 u14_10 u14_11 u14_12 u14_13 u14_14)] sz) := by
  refine xM_i (by decide +kernel) (Nat.le_of_ble_eq_true rfl) ?_
  intro p e s m args below meth c A Q hx hb hml hown htg hK hG hA ret0 H locs ls hP hD hS hl
  have ret : ∀ (z' : Int32 × (Nat → Int32) × Nat × Nat × (Nat → Int32) × Int64 × (Nat → Int32) × Value × (Nat → Int32) × (Nat → Int32) × (Nat → Int32) × (Nat → Int64) × (Nat → Int32) × (Nat → Int32) × (Nat → Int32) × (Nat → Int32) × (Nat → Int32)) {H : Heap} {locs : List Loc} {pc : Nat} {ls : Array Slot}, some z' = some z → narrow .int (.int z'.1) = .int z'.1 → va_P E.1 vwCl [(a0, o11 z'.2.1 J0_15 J0_16 u0_0 a1 a2 u0_3 u0_4 u0_5 u0_6 u0_7 u0_8 u0_9 z'.2.2.1 z'.2.2.2.1 u0_13), (a1, o8 z'.2.2.2.2.1 z'.2.2.2.2.2.1 a5 a6), (a2, o4 z'.2.2.2.2.2.2.1 z'.2.2.2.2.2.2.2.1), (a3, o3 z'.2.2.2.2.2.2.2.2.1 a7 a9 a8 a11 a10 a12 a13 a4), (a4, o0 z'.2.2.2.2.2.2.2.2.2.1 u4_3 u4_4 u4_5 u4_6 u4_7), (a5, ab E 900 V5), (a6, al E 23 V6), (a7, ai E 36 z'.2.2.2.2.2.2.2.2.2.2.1), (a8, al E 5 z'.2.2.2.2.2.2.2.2.2.2.2.1), (a9, ai E 5 z'.2.2.2.2.2.2.2.2.2.2.2.2.1), (a10, ai E 12 z'.2.2.2.2.2.2.2.2.2.2.2.2.2.1), (a11, ai E 12 z'.2.2.2.2.2.2.2.2.2.2.2.2.2.2.1), (a12, ai E 12 z'.2.2.2.2.2.2.2.2.2.2.2.2.2.2.2.1), (a13, ai E 12 z'.2.2.2.2.2.2.2.2.2.2.2.2.2.2.2.2), (a14, o3 T14 u14_7 u14_8 u14_9 u14_10 u14_11 u14_12 u14_13 u14_14)] H → va_S A s.heap H locs → decode cX11_duchy pc = .ok (.ireturn, 1) → W p l e ({ frames := 7, cells := 0, slots := 0, locals := 175 } : Room) s m args below meth c H locs 0 0 Q (F0 m pc ls [.int z'.1]) := by
    intro z' H locs pc ls h
    cases h
    exact ret0
  replace hl : lv_has ls 4 [(0, .ref a0), (1, .int x1)] := hl
  unfold f_X11_duchy at hf
  refine lv_iload_n hx hb dX11_duchy_0 rfl (lv_at hl 1 rfl) ?_
  refine lv_iconst (v := 0) hx hb dX11_duchy_1 rfl ?_
  refine lv_aload_n hx hb dX11_duchy_2 rfl (lv_at hl 0 rfl) ?_
  refine G11_19 hx hb htg hown hK hP 0 rfl dX11_duchy_3 ?_
  obtain ⟨z6, hz6, hf⟩ := bind_s hf
  refine xV_ir hx hb hml hown htg L11_165 (c_X8_length l E a1 hz6 _) ⟨⟨rfl, rfl⟩, Nat.le_of_ble_eq_true rfl, Nat.le_of_ble_eq_true rfl⟩ hK hG hA hP hD hS (is := [1]) rfl rfl (xrecv hK hP (q0 := 1) (ci := 8) rfl rfl) rfl hl.1 rfl (Nat.le_of_ble_eq_true rfl) dX11_duchy_6 (fun H locs hP hD hS => ?_)
  obtain ⟨z9, hz9, hf⟩ := bind_s hf
  refine xS_ir hx hb hml hown htg L11_114 (c_X11_within l E hz9 _) ⟨⟨rfl, rfl⟩, Nat.le_of_ble_eq_true rfl, Nat.le_of_ble_eq_true rfl⟩ hK hG hA hP hD hS (is := []) rfl rfl rfl hl.1 rfl (Nat.le_of_ble_eq_true rfl) dX11_duchy_9 (fun H locs hP hD hS => ?_)
  refine lv_if_ne (tgt := 21) hx hb dX11_duchy_12 (by decide) (fun c12 => ?_) (fun c12 => ?_)
  · have hf := it_f c12 hf
    refine lv_aload_n hx hb dX11_duchy_21 rfl (lv_at hl 0 rfl) ?_
    refine G11_26 hx hb htg hown hK hP 0 rfl dX11_duchy_22 ?_
    refine lv_aload_n hx hb dX11_duchy_25 rfl (lv_at hl 0 rfl) ?_
    refine G11_19 hx hb htg hown hK hP 0 rfl dX11_duchy_26 ?_
    refine lv_iload_n hx hb dX11_duchy_29 rfl (lv_at hl 1 rfl) ?_
    refine lv_aload_n hx hb dX11_duchy_30 rfl (lv_at hl 0 rfl) ?_
    refine G11_83 hx hb htg hown hK hP 0 rfl dX11_duchy_31 ?_
    obtain ⟨z34, hz34, hf⟩ := bind_s hf
    refine xV_iu hx hb hml hown htg L11_169 (c_X4_take l E a2 a1 a3 a4 a5 a6 a7 a8 a9 a10 a11 a12 a13 hz34 _) ⟨⟨rfl, rfl⟩, Nat.le_of_ble_eq_true rfl, Nat.le_of_ble_eq_true rfl⟩ hK hG hA hP hD hS (is := [2, 1, 3, 4, 5, 6, 7, 8, 9, 10, 11, 12, 13]) (sel := [none, some 1, some 0, some 2, some 3, some 4, some 5, some 6, some 7, some 8, some 9, some 10, some 11, some 12, none]) (ws2 := [(a0, o11 T0 J0_15 J0_16 u0_0 a1 a2 u0_3 u0_4 u0_5 u0_6 u0_7 u0_8 u0_9 a14 a3 u0_13), (a1, o8 z34.2.2.1 z34.2.2.2.1 a5 a6), (a2, o4 z34.2.1 (.ref a3)), (a3, o3 z34.2.2.2.2.1 a7 a9 a8 a11 a10 a12 a13 a4), (a4, o0 z34.2.2.2.2.2.1 u4_3 u4_4 u4_5 u4_6 u4_7), (a5, ab E 900 V5), (a6, al E 23 V6), (a7, ai E 36 z34.2.2.2.2.2.2.1), (a8, al E 5 z34.2.2.2.2.2.2.2.1), (a9, ai E 5 z34.2.2.2.2.2.2.2.2.1), (a10, ai E 12 z34.2.2.2.2.2.2.2.2.2.1), (a11, ai E 12 z34.2.2.2.2.2.2.2.2.2.2.1), (a12, ai E 12 z34.2.2.2.2.2.2.2.2.2.2.2.1), (a13, ai E 12 z34.2.2.2.2.2.2.2.2.2.2.2.2), (a14, o3 T14 u14_7 u14_8 u14_9 u14_10 u14_11 u14_12 u14_13 u14_14)]) rfl rfl rfl rfl rfl (xrecv hK hP (q0 := 2) (ci := 4) rfl rfl) rfl hl.1 rfl (Nat.le_of_ble_eq_true rfl) dX11_duchy_34 (fun H locs hP hD hS => ?_)
    refine lv_istore_n (lv' := [(2, .int z34.1), (0, .ref a0), (1, .int x1)]) hx hb dX11_duchy_37 rfl hl (by decide) rfl (fun ls hl => ?_)
    refine lv_aload_n hx hb dX11_duchy_38 rfl (lv_at hl 1 rfl) ?_
    obtain ⟨z39, hz39, hf⟩ := bind_s hf
    refine xV_vu hx hb hml hown htg L11_173 (c_X11_endReading l E a0 a1 hz39 _) ⟨⟨rfl, rfl⟩, Nat.le_of_ble_eq_true rfl, Nat.le_of_ble_eq_true rfl⟩ hK hG hA hP hD hS (is := [0, 1]) (sel := [some 0, some 1, none, none, none, none, none, none, none, none, none, none, none, none, none]) (ws2 := [(a0, o11 z39.1 J0_15 J0_16 u0_0 a1 a2 u0_3 u0_4 u0_5 u0_6 u0_7 u0_8 u0_9 a14 a3 u0_13), (a1, o8 z39.2 z34.2.2.2.1 a5 a6), (a2, o4 z34.2.1 (.ref a3)), (a3, o3 z34.2.2.2.2.1 a7 a9 a8 a11 a10 a12 a13 a4), (a4, o0 z34.2.2.2.2.2.1 u4_3 u4_4 u4_5 u4_6 u4_7), (a5, ab E 900 V5), (a6, al E 23 V6), (a7, ai E 36 z34.2.2.2.2.2.2.1), (a8, al E 5 z34.2.2.2.2.2.2.2.1), (a9, ai E 5 z34.2.2.2.2.2.2.2.2.1), (a10, ai E 12 z34.2.2.2.2.2.2.2.2.2.1), (a11, ai E 12 z34.2.2.2.2.2.2.2.2.2.2.1), (a12, ai E 12 z34.2.2.2.2.2.2.2.2.2.2.2.1), (a13, ai E 12 z34.2.2.2.2.2.2.2.2.2.2.2.2), (a14, o3 T14 u14_7 u14_8 u14_9 u14_10 u14_11 u14_12 u14_13 u14_14)]) rfl rfl rfl rfl rfl (xrecv hK hP (q0 := 0) (ci := 11) rfl rfl) rfl hl.1 rfl (Nat.le_of_ble_eq_true rfl) dX11_duchy_39 (fun H locs hP hD hS => ?_)
    refine lv_iload_n hx hb dX11_duchy_42 rfl (lv_at hl 0 rfl) ?_
    refine lv_if_ne (tgt := 53) hx hb dX11_duchy_43 (by decide) (fun c43 => ?_) (fun c43 => ?_)
    · have hf := it_f c43 hf
      refine lv_aload_n hx hb dX11_duchy_53 rfl (lv_at hl 1 rfl) ?_
      refine G11_79 hx hb htg hown hK hP 0 rfl dX11_duchy_54 ?_
      refine lv_astore_n (lv' := [(3, .ref a14), (2, .int z34.1), (0, .ref a0), (1, .int x1)]) hx hb dX11_duchy_57 rfl hl (by decide) rfl (fun ls hl => ?_)
      refine lv_aload_n hx hb dX11_duchy_58 rfl (lv_at hl 2 rfl) ?_
      refine lv_aload_n hx hb dX11_duchy_59 rfl (lv_at hl 2 rfl) ?_
      refine G11_83 hx hb htg hown hK hP 0 rfl dX11_duchy_60 ?_
      refine P11_79 hx hb htg hown hK hP hD hS 0 rfl dX11_duchy_63 (fun H locs hP hD hS => ?_)
      refine lv_aload_n hx hb dX11_duchy_66 rfl (lv_at hl 2 rfl) ?_
      refine lv_aload_n hx hb dX11_duchy_67 rfl (lv_at hl 0 rfl) ?_
      refine P11_83 hx hb htg hown hK hP hD hS 0 rfl dX11_duchy_68 (fun H locs hP hD hS => ?_)
      refine lv_aload_n hx hb dX11_duchy_71 rfl (lv_at hl 2 rfl) ?_
      refine lv_aload_n hx hb dX11_duchy_72 rfl (lv_at hl 2 rfl) ?_
      refine G11_79 hx hb htg hown hK hP 0 rfl dX11_duchy_73 ?_
      obtain ⟨z76, hz76, hf⟩ := bind_s hf
      refine xV_ir hx hb hml hown htg L11_176 (c_X3_cellCount l E a3 hz76 _) ⟨⟨rfl, rfl⟩, Nat.le_of_ble_eq_true rfl, Nat.le_of_ble_eq_true rfl⟩ hK hG hA hP hD hS (is := [3]) rfl rfl (xrecv hK hP (q0 := 3) (ci := 3) rfl rfl) rfl hl.1 rfl (Nat.le_of_ble_eq_true rfl) dX11_duchy_76 (fun H locs hP hD hS => ?_)
      obtain ⟨z79, hz79, hf⟩ := bind_s hf
      refine xV_iu hx hb hml hown htg L11_179 (c_X11_answer l E a0 hz79 _) ⟨⟨rfl, rfl⟩, Nat.le_of_ble_eq_true rfl, Nat.le_of_ble_eq_true rfl⟩ hK hG hA hP hD hS (is := [0]) (sel := [some 0, none, none, none, none, none, none, none, none, none, none, none, none, none, none]) (ws2 := [(a0, o11 z79.2 J0_15 J0_16 u0_0 a1 a2 u0_3 u0_4 u0_5 u0_6 u0_7 u0_8 u0_9 a3 a14 u0_13), (a1, o8 z39.2 z34.2.2.2.1 a5 a6), (a2, o4 z34.2.1 (.ref a3)), (a3, o3 z34.2.2.2.2.1 a7 a9 a8 a11 a10 a12 a13 a4), (a4, o0 z34.2.2.2.2.2.1 u4_3 u4_4 u4_5 u4_6 u4_7), (a5, ab E 900 V5), (a6, al E 23 V6), (a7, ai E 36 z34.2.2.2.2.2.2.1), (a8, al E 5 z34.2.2.2.2.2.2.2.1), (a9, ai E 5 z34.2.2.2.2.2.2.2.2.1), (a10, ai E 12 z34.2.2.2.2.2.2.2.2.2.1), (a11, ai E 12 z34.2.2.2.2.2.2.2.2.2.2.1), (a12, ai E 12 z34.2.2.2.2.2.2.2.2.2.2.2.1), (a13, ai E 12 z34.2.2.2.2.2.2.2.2.2.2.2.2), (a14, o3 T14 u14_7 u14_8 u14_9 u14_10 u14_11 u14_12 u14_13 u14_14)]) rfl rfl rfl rfl rfl (xrecv hK hP (q0 := 0) (ci := 11) rfl rfl) rfl hl.1 rfl (Nat.le_of_ble_eq_true rfl) dX11_duchy_79 (fun H locs hP hD hS => ?_)
      exact ret (z79.1, z79.2, a3, a14, z39.2, z34.2.2.2.1, z34.2.1, (.ref a3), z34.2.2.2.2.1, z34.2.2.2.2.2.1, z34.2.2.2.2.2.2.1, z34.2.2.2.2.2.2.2.1, z34.2.2.2.2.2.2.2.2.1, z34.2.2.2.2.2.2.2.2.2.1, z34.2.2.2.2.2.2.2.2.2.2.1, z34.2.2.2.2.2.2.2.2.2.2.2.1, z34.2.2.2.2.2.2.2.2.2.2.2.2) hf nzi hP hS dX11_duchy_82
    · have hf := it_t c43 hf
      refine lv_aload_n hx hb dX11_duchy_46 rfl (lv_at hl 1 rfl) ?_
      refine lv_bipush (v := 10) hx hb dX11_duchy_47 rfl ?_
      obtain ⟨z49, hz49, hf⟩ := bind_s hf
      refine xV_iu hx hb hml hown htg L11_137 (c_X11_refused l E a0 hz49 _) ⟨⟨rfl, rfl⟩, Nat.le_of_ble_eq_true rfl, Nat.le_of_ble_eq_true rfl⟩ hK hG hA hP hD hS (is := [0]) (sel := [some 0, none, none, none, none, none, none, none, none, none, none, none, none, none, none]) (ws2 := [(a0, o11 z49.2 J0_15 J0_16 u0_0 a1 a2 u0_3 u0_4 u0_5 u0_6 u0_7 u0_8 u0_9 a14 a3 u0_13), (a1, o8 z39.2 z34.2.2.2.1 a5 a6), (a2, o4 z34.2.1 (.ref a3)), (a3, o3 z34.2.2.2.2.1 a7 a9 a8 a11 a10 a12 a13 a4), (a4, o0 z34.2.2.2.2.2.1 u4_3 u4_4 u4_5 u4_6 u4_7), (a5, ab E 900 V5), (a6, al E 23 V6), (a7, ai E 36 z34.2.2.2.2.2.2.1), (a8, al E 5 z34.2.2.2.2.2.2.2.1), (a9, ai E 5 z34.2.2.2.2.2.2.2.2.1), (a10, ai E 12 z34.2.2.2.2.2.2.2.2.2.1), (a11, ai E 12 z34.2.2.2.2.2.2.2.2.2.2.1), (a12, ai E 12 z34.2.2.2.2.2.2.2.2.2.2.2.1), (a13, ai E 12 z34.2.2.2.2.2.2.2.2.2.2.2.2), (a14, o3 T14 u14_7 u14_8 u14_9 u14_10 u14_11 u14_12 u14_13 u14_14)]) rfl rfl rfl rfl rfl (xrecv hK hP (q0 := 0) (ci := 11) rfl rfl) rfl hl.1 rfl (Nat.le_of_ble_eq_true rfl) dX11_duchy_49 (fun H locs hP hD hS => ?_)
      exact ret (z49.1, z49.2, a14, a3, z39.2, z34.2.2.2.1, z34.2.1, (.ref a3), z34.2.2.2.2.1, z34.2.2.2.2.2.1, z34.2.2.2.2.2.2.1, z34.2.2.2.2.2.2.2.1, z34.2.2.2.2.2.2.2.2.1, z34.2.2.2.2.2.2.2.2.2.1, z34.2.2.2.2.2.2.2.2.2.2.1, z34.2.2.2.2.2.2.2.2.2.2.2.1, z34.2.2.2.2.2.2.2.2.2.2.2.2) hf nzi hP hS dX11_duchy_52
  · have hf := it_t c12 hf
    refine lv_aload_n hx hb dX11_duchy_15 rfl (lv_at hl 0 rfl) ?_
    refine lv_iconst (v := 5) hx hb dX11_duchy_16 rfl ?_
    obtain ⟨z17, hz17, hf⟩ := bind_s hf
    refine xV_iu hx hb hml hown htg L11_137 (c_X11_refused l E a0 hz17 _) ⟨⟨rfl, rfl⟩, Nat.le_of_ble_eq_true rfl, Nat.le_of_ble_eq_true rfl⟩ hK hG hA hP hD hS (is := [0]) (sel := [some 0, none, none, none, none, none, none, none, none, none, none, none, none, none, none]) (ws2 := [(a0, o11 z17.2 J0_15 J0_16 u0_0 a1 a2 u0_3 u0_4 u0_5 u0_6 u0_7 u0_8 u0_9 a14 a3 u0_13), (a1, o8 T1 J1_8 a5 a6), (a2, o4 T2 u2_0), (a3, o3 T3 a7 a9 a8 a11 a10 a12 a13 a4), (a4, o0 T4 u4_3 u4_4 u4_5 u4_6 u4_7), (a5, ab E 900 V5), (a6, al E 23 V6), (a7, ai E 36 V7), (a8, al E 5 V8), (a9, ai E 5 V9), (a10, ai E 12 V10), (a11, ai E 12 V11), (a12, ai E 12 V12), (a13, ai E 12 V13), (a14, o3 T14 u14_7 u14_8 u14_9 u14_10 u14_11 u14_12 u14_13 u14_14)]) rfl rfl rfl rfl rfl (xrecv hK hP (q0 := 0) (ci := 11) rfl rfl) rfl hl.1 rfl (Nat.le_of_ble_eq_true rfl) dX11_duchy_17 (fun H locs hP hD hS => ?_)
    exact ret (z17.1, z17.2, a14, a3, T1, J1_8, T2, u2_0, T3, T4, V7, V8, V9, V10, V11, V12, V13) hf nzi hP hS dX11_duchy_20
theorem dX11_years_0 : decode cX11_years 0 = .ok (.iload_n 1, 1) := by decide +kernel
theorem dX11_years_1 : decode cX11_years 1 = .ok (.iconst 0, 1) := by decide +kernel
theorem dX11_years_2 : decode cX11_years 2 = .ok (.aload_n 0, 1) := by decide +kernel
theorem dX11_years_3 : decode cX11_years 3 = .ok (.getfield 19, 3) := by decide +kernel
theorem dX11_years_6 : decode cX11_years 6 = .ok (.invokevirtual 165, 3) := by decide +kernel
theorem dX11_years_9 : decode cX11_years 9 = .ok (.sipush 300, 3) := by decide +kernel
theorem dX11_years_12 : decode cX11_years 12 = .ok (.invokestatic 182, 3) := by decide +kernel
theorem dX11_years_15 : decode cX11_years 15 = .ok (.invokestatic 114, 3) := by decide +kernel
theorem dX11_years_18 : decode cX11_years 18 = .ok (.ifCond .ne 9, 3) := by decide +kernel
theorem dX11_years_21 : decode cX11_years 21 = .ok (.aload_n 0, 1) := by decide +kernel
theorem dX11_years_22 : decode cX11_years 22 = .ok (.iconst 5, 1) := by decide +kernel
theorem dX11_years_23 : decode cX11_years 23 = .ok (.invokevirtual 137, 3) := by decide +kernel
theorem dX11_years_26 : decode cX11_years 26 = .ok (.ireturn, 1) := by decide +kernel
theorem dX11_years_27 : decode cX11_years 27 = .ok (.aload_n 0, 1) := by decide +kernel
theorem dX11_years_28 : decode cX11_years 28 = .ok (.getfield 33, 3) := by decide +kernel
theorem dX11_years_31 : decode cX11_years 31 = .ok (.aload_n 0, 1) := by decide +kernel
theorem dX11_years_32 : decode cX11_years 32 = .ok (.getfield 19, 3) := by decide +kernel
theorem dX11_years_35 : decode cX11_years 35 = .ok (.iload_n 1, 1) := by decide +kernel
theorem dX11_years_36 : decode cX11_years 36 = .ok (.aload_n 0, 1) := by decide +kernel
theorem dX11_years_37 : decode cX11_years 37 = .ok (.getfield 79, 3) := by decide +kernel
theorem dX11_years_40 : decode cX11_years 40 = .ok (.aload_n 0, 1) := by decide +kernel
theorem dX11_years_41 : decode cX11_years 41 = .ok (.getfield 89, 3) := by decide +kernel
theorem dX11_years_44 : decode cX11_years 44 = .ok (.invokevirtual 187, 3) := by decide +kernel
theorem dX11_years_47 : decode cX11_years 47 = .ok (.istore_n 2, 1) := by decide +kernel
theorem dX11_years_48 : decode cX11_years 48 = .ok (.aload_n 0, 1) := by decide +kernel
theorem dX11_years_49 : decode cX11_years 49 = .ok (.invokevirtual 173, 3) := by decide +kernel
theorem dX11_years_52 : decode cX11_years 52 = .ok (.iload_n 2, 1) := by decide +kernel
theorem dX11_years_53 : decode cX11_years 53 = .ok (.ifCond .ne 10, 3) := by decide +kernel
theorem dX11_years_56 : decode cX11_years 56 = .ok (.aload_n 0, 1) := by decide +kernel
theorem dX11_years_57 : decode cX11_years 57 = .ok (.bipush 10, 2) := by decide +kernel
theorem dX11_years_59 : decode cX11_years 59 = .ok (.invokevirtual 137, 3) := by decide +kernel
theorem dX11_years_62 : decode cX11_years 62 = .ok (.ireturn, 1) := by decide +kernel
theorem dX11_years_63 : decode cX11_years 63 = .ok (.aload_n 0, 1) := by decide +kernel
theorem dX11_years_64 : decode cX11_years 64 = .ok (.getfield 79, 3) := by decide +kernel
theorem dX11_years_67 : decode cX11_years 67 = .ok (.getfield 190, 3) := by decide +kernel
theorem dX11_years_70 : decode cX11_years 70 = .ok (.astore_n 3, 1) := by decide +kernel
theorem dX11_years_71 : decode cX11_years 71 = .ok (.aload_n 0, 1) := by decide +kernel
theorem dX11_years_72 : decode cX11_years 72 = .ok (.getfield 79, 3) := by decide +kernel
theorem dX11_years_75 : decode cX11_years 75 = .ok (.aload_n 0, 1) := by decide +kernel
theorem dX11_years_76 : decode cX11_years 76 = .ok (.getfield 89, 3) := by decide +kernel
theorem dX11_years_79 : decode cX11_years 79 = .ok (.putfield 190, 3) := by decide +kernel
theorem dX11_years_82 : decode cX11_years 82 = .ok (.aload_n 0, 1) := by decide +kernel
theorem dX11_years_83 : decode cX11_years 83 = .ok (.aload_n 3, 1) := by decide +kernel
theorem dX11_years_84 : decode cX11_years 84 = .ok (.putfield 89, 3) := by decide +kernel
theorem dX11_years_87 : decode cX11_years 87 = .ok (.aload_n 0, 1) := by decide +kernel
theorem dX11_years_88 : decode cX11_years 88 = .ok (.aload_n 0, 1) := by decide +kernel
theorem dX11_years_89 : decode cX11_years 89 = .ok (.getfield 79, 3) := by decide +kernel
theorem dX11_years_92 : decode cX11_years 92 = .ok (.getfield 190, 3) := by decide +kernel
theorem dX11_years_95 : decode cX11_years 95 = .ok (.getfield 193, 3) := by decide +kernel
theorem dX11_years_98 : decode cX11_years 98 = .ok (.invokevirtual 179, 3) := by decide +kernel
theorem dX11_years_101 : decode cX11_years 101 = .ok (.ireturn, 1) := by decide +kernel
set_option maxRecDepth 100000 in
theorem c_X11_years (l : Launch) (E : xE) (a0 a1 a2 a3 a4 a5 a6 a7 a8 a9 a10 a11 a12 a13 a14 : Nat) {T0 : Nat → Int32} {J0_15 : Int64} {J0_16 : Int64} {T1 : Nat → Int32} {J1_8 : Int64} {T2 : Nat → Int32} {u2_0 : Value} {u2_1 : Value} {T3 : Nat → Int32} {T4 : Nat → Int32} {V5 : Nat → Int32} {V6 : Nat → Int64} {V7 : Nat → Int64} {V8 : Nat → Int32} {V9 : Nat → Int32} {V10 : Nat → Int32} {V11 : Nat → Int32} {V12 : Nat → Int32} {V13 : Nat → Int32} {T14 : Nat → Int32} {u0_0 u0_2 u0_4 u0_5 u0_6 u0_7 u0_8 u0_9 u0_12 u3_7 u3_8 u3_10 u3_11 u3_12 u3_13 u14_3 u14_4 u14_5 u14_6 u14_7 : Nat} {x1 : Int32} {z : Int32 × (Nat → Int32) × Nat × (Nat → Int32) × Int64 × (Nat → Int32) × Value × Value × Nat × (Nat → Int32) × (Nat → Int32) × (Nat → Int32) × (Nat → Int32) × (Nat → Int32) × (Nat → Int32) × (Nat → Int32)} (hf : f_X11_years T0 a4 T1 J1_8 T2 u2_0 u2_1 T3 a14 a3 T4 V5 V6 V7 V8 V9 V10 V11 V12 V13 x1 = some z) (sz : Nat) : Met l yX11_years (Cond.code yX11_years cX11_years 4 (some .int) :: gw) ({ frames := 6, cells := 0, slots := 0, locals := 138 }) (xPc E [.ref a0, .int x1] [(a0, o11 T0 J0_15 J0_16 u0_0 a1 u0_2 a2 u0_4 u0_5 u0_6 u0_7 u0_8 u0_9 a3 u0_12 a4), (a1, o8 T1 J1_8 a5 a6), (a2, o10 T2 u2_0 u2_1 a13), (a3, o3 T3 u3_7 u3_8 a7 u3_10 u3_11 u3_12 u3_13 a14), (a4, o0 T4 a8 a9 a10 a11 a12), (a5, ab E 900 V5), (a6, al E 23 V6), (a7, al E 5 V7), (a8, ai E 60 V8), (a9, ai E 60 V9), (a10, ai E 60 V10), (a11, ai E 60 V11), (a12, ai E 60 V12), (a13, ai E 3 V13), (a14, o0 T14 u14_3 u14_4 u14_5 u14_6 u14_7)] sz) (xQi E z.1 [(a0, o11 T0 J0_15 J0_16 u0_0 a1 u0_2 a2 u0_4 u0_5 u0_6 u0_7 u0_8 u0_9 a3 u0_12 a4), (a1, o8 T1 J1_8 a5 a6), (a2, o10 T2 u2_0 u2_1 a13), (a3, o3 T3 u3_7 u3_8 a7 u3_10 u3_11 u3_12 u3_13 a14), (a4, o0 T4 a8 a9 a10 a11 a12), (a5, ab E 900 V5), (a6, al E 23 V6), (a7, al E 5 V7), (a8, ai E 60 V8), (a9, ai E 60 V9), (a10, ai E 60 V10), (a11, ai E 60 V11), (a12, ai E 60 V12), (a13, ai E 3 V13), (a14, o0 T14 u14_3 u14_4 u14_5 u14_6 u14_7)] [(a0, o11 z.2.1 J0_15 J0_16 u0_0 a1 u0_2 a2 u0_4 u0_5 u0_6 u0_7 u0_8 u0_9 a3 u0_12 z.2.2.1), (a1, o8 z.2.2.2.1 z.2.2.2.2.1 a5 a6), (a2, o10 z.2.2.2.2.2.1 z.2.2.2.2.2.2.1 z.2.2.2.2.2.2.2.1 a13), (a3, o3 T3 u3_7 u3_8 a7 u3_10 u3_11 u3_12 u3_13 z.2.2.2.2.2.2.2.2.1), (a4, o0 z.2.2.2.2.2.2.2.2.2.1 a8 a9 a10 a11 a12), (a5, ab E 900 V5), (a6, al E 23 V6), (a7, al E 5 V7), (a8, ai E 60 z.2.2.2.2.2.2.2.2.2.2.1), (a9, ai E 60 z.2.2.2.2.2.2.2.2.2.2.2.1), (a10, ai E 60 z.2.2.2.2.2.2.2.2.2.2.2.2.1), (a11, ai E 60 z.2.2.2.2.2.2.2.2.2.2.2.2.2.1), (a12, ai E 60 z.2.2.2.2.2.2.2.2.2.2.2.2.2.2.1), (a13, ai E 3 z.2.2.2.2.2.2.2.2.2.2.2.2.2.2.2), (a14, o0 T14 u14_3 u14_4 u14_5 u14_6 u14_7)] sz) 0 0 (va_A [(a0, o11 T0 J0_15 J0_16 u0_0 a1 u0_2 a2 u0_4 u0_5 u0_6 u0_7 u0_8 u0_9 a3 u0_12 a4), (a1, o8 T1 J1_8 a5 a6), (a2, o10 T2 u2_0 u2_1 a13), (a3, o3 T3 u3_7 u3_8 a7 u3_10 u3_11 u3_12 u3_13 a14), (a4, o0 T4 a8 a9 a10 a11 a12), (a5, ab E 900 V5), (a6, al E 23 V6), (a7, al E 5 V7), (a8, ai E 60 V8), (a9, ai E 60 V9), (a10, ai E 60 V10), (a11, ai E 60 V11), (a12, ai E 60 V12), (a13, ai E 3 V13), (a14, o0 T14 u14_3 u14_4 u14_5 u14_6 u14_7)] sz) := by
  refine xM_i (by decide +kernel) (Nat.le_of_ble_eq_true rfl) ?_
  intro p e s m args below meth c A Q hx hb hml hown htg hK hG hA ret0 H locs ls hP hD hS hl
  have ret : ∀ (z' : Int32 × (Nat → Int32) × Nat × (Nat → Int32) × Int64 × (Nat → Int32) × Value × Value × Nat × (Nat → Int32) × (Nat → Int32) × (Nat → Int32) × (Nat → Int32) × (Nat → Int32) × (Nat → Int32) × (Nat → Int32)) {H : Heap} {locs : List Loc} {pc : Nat} {ls : Array Slot}, some z' = some z → narrow .int (.int z'.1) = .int z'.1 → va_P E.1 vwCl [(a0, o11 z'.2.1 J0_15 J0_16 u0_0 a1 u0_2 a2 u0_4 u0_5 u0_6 u0_7 u0_8 u0_9 a3 u0_12 z'.2.2.1), (a1, o8 z'.2.2.2.1 z'.2.2.2.2.1 a5 a6), (a2, o10 z'.2.2.2.2.2.1 z'.2.2.2.2.2.2.1 z'.2.2.2.2.2.2.2.1 a13), (a3, o3 T3 u3_7 u3_8 a7 u3_10 u3_11 u3_12 u3_13 z'.2.2.2.2.2.2.2.2.1), (a4, o0 z'.2.2.2.2.2.2.2.2.2.1 a8 a9 a10 a11 a12), (a5, ab E 900 V5), (a6, al E 23 V6), (a7, al E 5 V7), (a8, ai E 60 z'.2.2.2.2.2.2.2.2.2.2.1), (a9, ai E 60 z'.2.2.2.2.2.2.2.2.2.2.2.1), (a10, ai E 60 z'.2.2.2.2.2.2.2.2.2.2.2.2.1), (a11, ai E 60 z'.2.2.2.2.2.2.2.2.2.2.2.2.2.1), (a12, ai E 60 z'.2.2.2.2.2.2.2.2.2.2.2.2.2.2.1), (a13, ai E 3 z'.2.2.2.2.2.2.2.2.2.2.2.2.2.2.2), (a14, o0 T14 u14_3 u14_4 u14_5 u14_6 u14_7)] H → va_S A s.heap H locs → decode cX11_years pc = .ok (.ireturn, 1) → W p l e ({ frames := 6, cells := 0, slots := 0, locals := 138 } : Room) s m args below meth c H locs 0 0 Q (F0 m pc ls [.int z'.1]) := by
    intro z' H locs pc ls h
    cases h
    exact ret0
  replace hl : lv_has ls 4 [(0, .ref a0), (1, .int x1)] := hl
  unfold f_X11_years at hf
  refine lv_iload_n hx hb dX11_years_0 rfl (lv_at hl 1 rfl) ?_
  refine lv_iconst (v := 0) hx hb dX11_years_1 rfl ?_
  refine lv_aload_n hx hb dX11_years_2 rfl (lv_at hl 0 rfl) ?_
  refine G11_19 hx hb htg hown hK hP 0 rfl dX11_years_3 ?_
  obtain ⟨z6, hz6, hf⟩ := bind_s hf
  refine xV_ir hx hb hml hown htg L11_165 (c_X8_length l E a1 hz6 _) ⟨⟨rfl, rfl⟩, Nat.le_of_ble_eq_true rfl, Nat.le_of_ble_eq_true rfl⟩ hK hG hA hP hD hS (is := [1]) rfl rfl (xrecv hK hP (q0 := 1) (ci := 8) rfl rfl) rfl hl.1 rfl (Nat.le_of_ble_eq_true rfl) dX11_years_6 (fun H locs hP hD hS => ?_)
  refine lv_sipush (v := 300) hx hb dX11_years_9 rfl ?_
  refine xmin hx hb hml hl.1 hown htg ml11_182 (Nat.le_of_ble_eq_true rfl) (Nat.le_of_ble_eq_true rfl) dX11_years_12 ?_
  refine lv_topi (fun w12 ew12 => ?_)
  have hf := letv_s ew12 hf
  obtain ⟨z15, hz15, hf⟩ := bind_s hf
  refine xS_ir hx hb hml hown htg L11_114 (c_X11_within l E hz15 _) ⟨⟨rfl, rfl⟩, Nat.le_of_ble_eq_true rfl, Nat.le_of_ble_eq_true rfl⟩ hK hG hA hP hD hS (is := []) rfl rfl rfl hl.1 rfl (Nat.le_of_ble_eq_true rfl) dX11_years_15 (fun H locs hP hD hS => ?_)
  refine lv_if_ne (tgt := 27) hx hb dX11_years_18 (by decide) (fun c18 => ?_) (fun c18 => ?_)
  · have hf := it_f c18 hf
    refine lv_aload_n hx hb dX11_years_27 rfl (lv_at hl 0 rfl) ?_
    refine G11_33 hx hb htg hown hK hP 0 rfl dX11_years_28 ?_
    refine lv_aload_n hx hb dX11_years_31 rfl (lv_at hl 0 rfl) ?_
    refine G11_19 hx hb htg hown hK hP 0 rfl dX11_years_32 ?_
    refine lv_iload_n hx hb dX11_years_35 rfl (lv_at hl 1 rfl) ?_
    refine lv_aload_n hx hb dX11_years_36 rfl (lv_at hl 0 rfl) ?_
    refine G11_79 hx hb htg hown hK hP 0 rfl dX11_years_37 ?_
    refine lv_aload_n hx hb dX11_years_40 rfl (lv_at hl 0 rfl) ?_
    refine G11_89 hx hb htg hown hK hP 0 rfl dX11_years_41 ?_
    obtain ⟨z44, hz44, hf⟩ := bind_s hf
    refine xV_iu hx hb hml hown htg L11_187 (c_X10_take l E a2 a1 a3 a4 a5 a6 a7 a8 a9 a10 a11 a12 a13 hz44 _) ⟨⟨rfl, rfl⟩, Nat.le_of_ble_eq_true rfl, Nat.le_of_ble_eq_true rfl⟩ hK hG hA hP hD hS (is := [2, 1, 3, 4, 5, 6, 7, 8, 9, 10, 11, 12, 13]) (sel := [none, some 1, some 0, some 2, some 3, some 4, some 5, some 6, some 7, some 8, some 9, some 10, some 11, some 12, none]) (ws2 := [(a0, o11 T0 J0_15 J0_16 u0_0 a1 u0_2 a2 u0_4 u0_5 u0_6 u0_7 u0_8 u0_9 a3 u0_12 a4), (a1, o8 z44.2.2.1 z44.2.2.2.1 a5 a6), (a2, o10 z44.2.1 (.ref a3) (.ref a4) a13), (a3, o3 T3 u3_7 u3_8 a7 u3_10 u3_11 u3_12 u3_13 a14), (a4, o0 z44.2.2.2.2.1 a8 a9 a10 a11 a12), (a5, ab E 900 V5), (a6, al E 23 V6), (a7, al E 5 V7), (a8, ai E 60 z44.2.2.2.2.2.1), (a9, ai E 60 z44.2.2.2.2.2.2.1), (a10, ai E 60 z44.2.2.2.2.2.2.2.1), (a11, ai E 60 z44.2.2.2.2.2.2.2.2.1), (a12, ai E 60 z44.2.2.2.2.2.2.2.2.2.1), (a13, ai E 3 z44.2.2.2.2.2.2.2.2.2.2), (a14, o0 T14 u14_3 u14_4 u14_5 u14_6 u14_7)]) rfl rfl rfl rfl rfl (xrecv hK hP (q0 := 2) (ci := 10) rfl rfl) rfl hl.1 rfl (Nat.le_of_ble_eq_true rfl) dX11_years_44 (fun H locs hP hD hS => ?_)
    refine lv_istore_n (lv' := [(2, .int z44.1), (0, .ref a0), (1, .int x1)]) hx hb dX11_years_47 rfl hl (by decide) rfl (fun ls hl => ?_)
    refine lv_aload_n hx hb dX11_years_48 rfl (lv_at hl 1 rfl) ?_
    obtain ⟨z49, hz49, hf⟩ := bind_s hf
    refine xV_vu hx hb hml hown htg L11_173 (c_X11_endReading l E a0 a1 hz49 _) ⟨⟨rfl, rfl⟩, Nat.le_of_ble_eq_true rfl, Nat.le_of_ble_eq_true rfl⟩ hK hG hA hP hD hS (is := [0, 1]) (sel := [some 0, some 1, none, none, none, none, none, none, none, none, none, none, none, none, none]) (ws2 := [(a0, o11 z49.1 J0_15 J0_16 u0_0 a1 u0_2 a2 u0_4 u0_5 u0_6 u0_7 u0_8 u0_9 a3 u0_12 a4), (a1, o8 z49.2 z44.2.2.2.1 a5 a6), (a2, o10 z44.2.1 (.ref a3) (.ref a4) a13), (a3, o3 T3 u3_7 u3_8 a7 u3_10 u3_11 u3_12 u3_13 a14), (a4, o0 z44.2.2.2.2.1 a8 a9 a10 a11 a12), (a5, ab E 900 V5), (a6, al E 23 V6), (a7, al E 5 V7), (a8, ai E 60 z44.2.2.2.2.2.1), (a9, ai E 60 z44.2.2.2.2.2.2.1), (a10, ai E 60 z44.2.2.2.2.2.2.2.1), (a11, ai E 60 z44.2.2.2.2.2.2.2.2.1), (a12, ai E 60 z44.2.2.2.2.2.2.2.2.2.1), (a13, ai E 3 z44.2.2.2.2.2.2.2.2.2.2), (a14, o0 T14 u14_3 u14_4 u14_5 u14_6 u14_7)]) rfl rfl rfl rfl rfl (xrecv hK hP (q0 := 0) (ci := 11) rfl rfl) rfl hl.1 rfl (Nat.le_of_ble_eq_true rfl) dX11_years_49 (fun H locs hP hD hS => ?_)
    refine lv_iload_n hx hb dX11_years_52 rfl (lv_at hl 0 rfl) ?_
    refine lv_if_ne (tgt := 63) hx hb dX11_years_53 (by decide) (fun c53 => ?_) (fun c53 => ?_)
    · have hf := it_f c53 hf
      refine lv_aload_n hx hb dX11_years_63 rfl (lv_at hl 1 rfl) ?_
      refine G11_79 hx hb htg hown hK hP 0 rfl dX11_years_64 ?_
      refine G11_190 hx hb htg hown hK hP 3 rfl dX11_years_67 ?_
      refine lv_astore_n (lv' := [(3, .ref a14), (2, .int z44.1), (0, .ref a0), (1, .int x1)]) hx hb dX11_years_70 rfl hl (by decide) rfl (fun ls hl => ?_)
      refine lv_aload_n hx hb dX11_years_71 rfl (lv_at hl 2 rfl) ?_
      refine G11_79 hx hb htg hown hK hP 0 rfl dX11_years_72 ?_
      refine lv_aload_n hx hb dX11_years_75 rfl (lv_at hl 2 rfl) ?_
      refine G11_89 hx hb htg hown hK hP 0 rfl dX11_years_76 ?_
      refine P11_190 hx hb htg hown hK hP hD hS 3 rfl dX11_years_79 (fun H locs hP hD hS => ?_)
      refine lv_aload_n hx hb dX11_years_82 rfl (lv_at hl 2 rfl) ?_
      refine lv_aload_n hx hb dX11_years_83 rfl (lv_at hl 0 rfl) ?_
      refine P11_89 hx hb htg hown hK hP hD hS 0 rfl dX11_years_84 (fun H locs hP hD hS => ?_)
      refine lv_aload_n hx hb dX11_years_87 rfl (lv_at hl 2 rfl) ?_
      refine lv_aload_n hx hb dX11_years_88 rfl (lv_at hl 2 rfl) ?_
      refine G11_79 hx hb htg hown hK hP 0 rfl dX11_years_89 ?_
      refine G11_190 hx hb htg hown hK hP 3 rfl dX11_years_92 ?_
      refine G11_193 hx hb htg hown hK hP 4 rfl dX11_years_95 ?_
      obtain ⟨z98, hz98, hf⟩ := bind_s hf
      refine xV_iu hx hb hml hown htg L11_179 (c_X11_answer l E a0 hz98 _) ⟨⟨rfl, rfl⟩, Nat.le_of_ble_eq_true rfl, Nat.le_of_ble_eq_true rfl⟩ hK hG hA hP hD hS (is := [0]) (sel := [some 0, none, none, none, none, none, none, none, none, none, none, none, none, none, none]) (ws2 := [(a0, o11 z98.2 J0_15 J0_16 u0_0 a1 u0_2 a2 u0_4 u0_5 u0_6 u0_7 u0_8 u0_9 a3 u0_12 a14), (a1, o8 z49.2 z44.2.2.2.1 a5 a6), (a2, o10 z44.2.1 (.ref a3) (.ref a4) a13), (a3, o3 T3 u3_7 u3_8 a7 u3_10 u3_11 u3_12 u3_13 a4), (a4, o0 z44.2.2.2.2.1 a8 a9 a10 a11 a12), (a5, ab E 900 V5), (a6, al E 23 V6), (a7, al E 5 V7), (a8, ai E 60 z44.2.2.2.2.2.1), (a9, ai E 60 z44.2.2.2.2.2.2.1), (a10, ai E 60 z44.2.2.2.2.2.2.2.1), (a11, ai E 60 z44.2.2.2.2.2.2.2.2.1), (a12, ai E 60 z44.2.2.2.2.2.2.2.2.2.1), (a13, ai E 3 z44.2.2.2.2.2.2.2.2.2.2), (a14, o0 T14 u14_3 u14_4 u14_5 u14_6 u14_7)]) rfl rfl rfl rfl rfl (xrecv hK hP (q0 := 0) (ci := 11) rfl rfl) rfl hl.1 rfl (Nat.le_of_ble_eq_true rfl) dX11_years_98 (fun H locs hP hD hS => ?_)
      exact ret (z98.1, z98.2, a14, z49.2, z44.2.2.2.1, z44.2.1, (.ref a3), (.ref a4), a4, z44.2.2.2.2.1, z44.2.2.2.2.2.1, z44.2.2.2.2.2.2.1, z44.2.2.2.2.2.2.2.1, z44.2.2.2.2.2.2.2.2.1, z44.2.2.2.2.2.2.2.2.2.1, z44.2.2.2.2.2.2.2.2.2.2) hf nzi hP hS dX11_years_101
    · have hf := it_t c53 hf
      refine lv_aload_n hx hb dX11_years_56 rfl (lv_at hl 1 rfl) ?_
      refine lv_bipush (v := 10) hx hb dX11_years_57 rfl ?_
      obtain ⟨z59, hz59, hf⟩ := bind_s hf
      refine xV_iu hx hb hml hown htg L11_137 (c_X11_refused l E a0 hz59 _) ⟨⟨rfl, rfl⟩, Nat.le_of_ble_eq_true rfl, Nat.le_of_ble_eq_true rfl⟩ hK hG hA hP hD hS (is := [0]) (sel := [some 0, none, none, none, none, none, none, none, none, none, none, none, none, none, none]) (ws2 := [(a0, o11 z59.2 J0_15 J0_16 u0_0 a1 u0_2 a2 u0_4 u0_5 u0_6 u0_7 u0_8 u0_9 a3 u0_12 a4), (a1, o8 z49.2 z44.2.2.2.1 a5 a6), (a2, o10 z44.2.1 (.ref a3) (.ref a4) a13), (a3, o3 T3 u3_7 u3_8 a7 u3_10 u3_11 u3_12 u3_13 a14), (a4, o0 z44.2.2.2.2.1 a8 a9 a10 a11 a12), (a5, ab E 900 V5), (a6, al E 23 V6), (a7, al E 5 V7), (a8, ai E 60 z44.2.2.2.2.2.1), (a9, ai E 60 z44.2.2.2.2.2.2.1), (a10, ai E 60 z44.2.2.2.2.2.2.2.1), (a11, ai E 60 z44.2.2.2.2.2.2.2.2.1), (a12, ai E 60 z44.2.2.2.2.2.2.2.2.2.1), (a13, ai E 3 z44.2.2.2.2.2.2.2.2.2.2), (a14, o0 T14 u14_3 u14_4 u14_5 u14_6 u14_7)]) rfl rfl rfl rfl rfl (xrecv hK hP (q0 := 0) (ci := 11) rfl rfl) rfl hl.1 rfl (Nat.le_of_ble_eq_true rfl) dX11_years_59 (fun H locs hP hD hS => ?_)
      exact ret (z59.1, z59.2, a4, z49.2, z44.2.2.2.1, z44.2.1, (.ref a3), (.ref a4), a14, z44.2.2.2.2.1, z44.2.2.2.2.2.1, z44.2.2.2.2.2.2.1, z44.2.2.2.2.2.2.2.1, z44.2.2.2.2.2.2.2.2.1, z44.2.2.2.2.2.2.2.2.2.1, z44.2.2.2.2.2.2.2.2.2.2) hf nzi hP hS dX11_years_62
  · have hf := it_t c18 hf
    refine lv_aload_n hx hb dX11_years_21 rfl (lv_at hl 0 rfl) ?_
    refine lv_iconst (v := 5) hx hb dX11_years_22 rfl ?_
    obtain ⟨z23, hz23, hf⟩ := bind_s hf
    refine xV_iu hx hb hml hown htg L11_137 (c_X11_refused l E a0 hz23 _) ⟨⟨rfl, rfl⟩, Nat.le_of_ble_eq_true rfl, Nat.le_of_ble_eq_true rfl⟩ hK hG hA hP hD hS (is := [0]) (sel := [some 0, none, none, none, none, none, none, none, none, none, none, none, none, none, none]) (ws2 := [(a0, o11 z23.2 J0_15 J0_16 u0_0 a1 u0_2 a2 u0_4 u0_5 u0_6 u0_7 u0_8 u0_9 a3 u0_12 a4), (a1, o8 T1 J1_8 a5 a6), (a2, o10 T2 u2_0 u2_1 a13), (a3, o3 T3 u3_7 u3_8 a7 u3_10 u3_11 u3_12 u3_13 a14), (a4, o0 T4 a8 a9 a10 a11 a12), (a5, ab E 900 V5), (a6, al E 23 V6), (a7, al E 5 V7), (a8, ai E 60 V8), (a9, ai E 60 V9), (a10, ai E 60 V10), (a11, ai E 60 V11), (a12, ai E 60 V12), (a13, ai E 3 V13), (a14, o0 T14 u14_3 u14_4 u14_5 u14_6 u14_7)]) rfl rfl rfl rfl rfl (xrecv hK hP (q0 := 0) (ci := 11) rfl rfl) rfl hl.1 rfl (Nat.le_of_ble_eq_true rfl) dX11_years_23 (fun H locs hP hD hS => ?_)
    exact ret (z23.1, z23.2, a4, T1, J1_8, T2, u2_0, u2_1, a14, T4, V8, V9, V10, V11, V12, V13) hf nzi hP hS dX11_years_26
theorem dX11_mark_0 : decode cX11_mark 0 = .ok (.aload_n 0, 1) := by decide +kernel
theorem dX11_mark_1 : decode cX11_mark 1 = .ok (.getfield 385, 3) := by decide +kernel
theorem dX11_mark_4 : decode cX11_mark 4 = .ok (.aload_n 0, 1) := by decide +kernel
theorem dX11_mark_5 : decode cX11_mark 5 = .ok (.getfield 74, 3) := by decide +kernel
theorem dX11_mark_8 : decode cX11_mark 8 = .ok (.arraylength, 1) := by decide +kernel
theorem dX11_mark_9 : decode cX11_mark 9 = .ok (.if_icmp .lt 10, 3) := by decide +kernel
theorem dX11_mark_12 : decode cX11_mark 12 = .ok (.aload_n 0, 1) := by decide +kernel
theorem dX11_mark_13 : decode cX11_mark 13 = .ok (.bipush 7, 2) := by decide +kernel
theorem dX11_mark_15 : decode cX11_mark 15 = .ok (.invokevirtual 137, 3) := by decide +kernel
theorem dX11_mark_18 : decode cX11_mark 18 = .ok (.ireturn, 1) := by decide +kernel
theorem dX11_mark_19 : decode cX11_mark 19 = .ok (.aload_n 0, 1) := by decide +kernel
theorem dX11_mark_20 : decode cX11_mark 20 = .ok (.getfield 74, 3) := by decide +kernel
theorem dX11_mark_23 : decode cX11_mark 23 = .ok (.aload_n 0, 1) := by decide +kernel
theorem dX11_mark_24 : decode cX11_mark 24 = .ok (.getfield 385, 3) := by decide +kernel
theorem dX11_mark_27 : decode cX11_mark 27 = .ok (.aaload, 1) := by decide +kernel
theorem dX11_mark_28 : decode cX11_mark 28 = .ok (.aload_n 0, 1) := by decide +kernel
theorem dX11_mark_29 : decode cX11_mark 29 = .ok (.getfield 79, 3) := by decide +kernel
theorem dX11_mark_32 : decode cX11_mark 32 = .ok (.invokevirtual 388, 3) := by decide +kernel
theorem dX11_mark_35 : decode cX11_mark 35 = .ok (.aload_n 0, 1) := by decide +kernel
theorem dX11_mark_36 : decode cX11_mark 36 = .ok (.dup, 1) := by decide +kernel
theorem dX11_mark_37 : decode cX11_mark 37 = .ok (.getfield 385, 3) := by decide +kernel
theorem dX11_mark_40 : decode cX11_mark 40 = .ok (.iconst 1, 1) := by decide +kernel
theorem dX11_mark_41 : decode cX11_mark 41 = .ok (.iadd, 1) := by decide +kernel
theorem dX11_mark_42 : decode cX11_mark 42 = .ok (.putfield 385, 3) := by decide +kernel
theorem dX11_mark_45 : decode cX11_mark 45 = .ok (.aload_n 0, 1) := by decide +kernel
theorem dX11_mark_46 : decode cX11_mark 46 = .ok (.aload_n 0, 1) := by decide +kernel
theorem dX11_mark_47 : decode cX11_mark 47 = .ok (.getfield 385, 3) := by decide +kernel
theorem dX11_mark_50 : decode cX11_mark 50 = .ok (.invokevirtual 179, 3) := by decide +kernel
theorem dX11_mark_53 : decode cX11_mark 53 = .ok (.ireturn, 1) := by decide +kernel
set_option maxRecDepth 100000 in
theorem c_X11_mark (l : Launch) (E : xE) (a0 a1 a2 a3 a4 a5 a6 a7 a8 a9 a10 a11 a12 a13 a14 a15 a16 a17 a18 a19 a20 a21 a22 a23 a24 a25 a26 a27 a28 a29 a30 a31 a32 a33 a34 a35 a36 a37 a38 a39 a40 a41 a42 a43 a44 a45 a46 a47 a48 a49 a50 a51 a52 a53 a54 a55 a56 a57 : Nat) {T0 : Nat → Int32} {J0_15 : Int64} {J0_16 : Int64} {T2 : Nat → Int32} {T3 : Nat → Int32} {V4 : Nat → Int32} {V5 : Nat → Int32} {V6 : Nat → Int32} {V7 : Nat → Int32} {V8 : Nat → Int64} {V9 : Nat → Int64} {V10 : Nat → Int32} {V11 : Nat → Int32} {V12 : Nat → Int32} {V13 : Nat → Int32} {V14 : Nat → Int32} {V15 : Nat → Int32} {V16 : Nat → Int32} {V17 : Nat → Int32} {T18 : Nat → Int32} {T19 : Nat → Int32} {V20 : Nat → Int32} {V21 : Nat → Int32} {V22 : Nat → Int32} {V23 : Nat → Int32} {V24 : Nat → Int32} {V25 : Nat → Int32} {V26 : Nat → Int32} {V27 : Nat → Int32} {V28 : Nat → Int32} {V29 : Nat → Int32} {T30 : Nat → Int32} {V31 : Nat → Int32} {V32 : Nat → Int32} {V33 : Nat → Int64} {V34 : Nat → Int32} {V35 : Nat → Int32} {V36 : Nat → Int32} {V37 : Nat → Int32} {T38 : Nat → Int32} {V39 : Nat → Int32} {V40 : Nat → Int32} {V41 : Nat → Int32} {V42 : Nat → Int32} {V43 : Nat → Int32} {T44 : Nat → Int32} {V45 : Nat → Int32} {V46 : Nat → Int32} {V47 : Nat → Int64} {V48 : Nat → Int32} {V49 : Nat → Int32} {V50 : Nat → Int32} {V51 : Nat → Int32} {T52 : Nat → Int32} {V53 : Nat → Int32} {V54 : Nat → Int32} {V55 : Nat → Int32} {V56 : Nat → Int32} {V57 : Nat → Int32} {u0_0 u0_1 u0_2 u0_3 u0_4 u0_5 u0_6 u0_7 u0_8 u0_12 u0_13 : Nat} {z : Int32 × (Nat → Int32) × (Nat → Int32) × (Nat → Int32) × (Nat → Int32) × (Nat → Int64) × (Nat → Int32) × (Nat → Int32) × (Nat → Int32) × (Nat → Int32) × (Nat → Int32) × (Nat → Int32) × (Nat → Int32) × (Nat → Int32) × (Nat → Int32) × (Nat → Int32) × (Nat → Int32) × (Nat → Int32) × (Nat → Int32) × (Nat → Int64) × (Nat → Int32) × (Nat → Int32) × (Nat → Int32) × (Nat → Int32) × (Nat → Int32) × (Nat → Int32) × (Nat → Int32) × (Nat → Int32) × (Nat → Int32) × (Nat → Int32) × (Nat → Int32) × (Nat → Int32) × (Nat → Int32) × (Nat → Int64) × (Nat → Int32) × (Nat → Int32) × (Nat → Int32) × (Nat → Int32) × (Nat → Int32) × (Nat → Int32) × (Nat → Int32) × (Nat → Int32) × (Nat → Int32) × (Nat → Int32)} (hf : f_X11_mark T0 T2 T3 V4 V5 V6 V7 V8 V9 V10 V11 V12 V13 V14 V15 V16 V17 T18 T19 V20 V21 V22 V23 V24 V25 V26 V27 V28 V29 T30 V31 V32 V33 V34 V35 V36 V37 T38 V39 V40 V41 V42 V43 T44 V45 V46 V47 V48 V49 V50 V51 T52 V53 V54 V55 V56 V57 = some z) (sz : Nat) : Met l yX11_mark (Cond.code yX11_mark cX11_mark 1 (some .int) :: gw) ({ frames := 3, cells := 0, slots := 0, locals := 122 }) (xPc E [.ref a0] [(a0, o11 T0 J0_15 J0_16 u0_0 u0_1 u0_2 u0_3 u0_4 u0_5 u0_6 u0_7 u0_8 a1 a3 u0_12 u0_13), (a1, ad E 3 (en [a2, a30, a44])), (a2, o3 T2 a5 a7 a9 a11 a13 a15 a17 a18), (a3, o3 T3 a4 a6 a8 a10 a12 a14 a16 a19), (a4, ai E 36 V4), (a5, ai E 36 V5), (a6, ai E 5 V6), (a7, ai E 5 V7), (a8, al E 5 V8), (a9, al E 5 V9), (a10, ai E 12 V10), (a11, ai E 12 V11), (a12, ai E 12 V12), (a13, ai E 12 V13), (a14, ai E 12 V14), (a15, ai E 12 V15), (a16, ai E 12 V16), (a17, ai E 12 V17), (a18, o0 T18 a21 a23 a25 a27 a29), (a19, o0 T19 a20 a22 a24 a26 a28), (a20, ai E 60 V20), (a21, ai E 60 V21), (a22, ai E 60 V22), (a23, ai E 60 V23), (a24, ai E 60 V24), (a25, ai E 60 V25), (a26, ai E 60 V26), (a27, ai E 60 V27), (a28, ai E 60 V28), (a29, ai E 60 V29), (a30, o3 T30 a31 a32 a33 a34 a35 a36 a37 a38), (a31, ai E 36 V31), (a32, ai E 5 V32), (a33, al E 5 V33), (a34, ai E 12 V34), (a35, ai E 12 V35), (a36, ai E 12 V36), (a37, ai E 12 V37), (a38, o0 T38 a39 a40 a41 a42 a43), (a39, ai E 60 V39), (a40, ai E 60 V40), (a41, ai E 60 V41), (a42, ai E 60 V42), (a43, ai E 60 V43), (a44, o3 T44 a45 a46 a47 a48 a49 a50 a51 a52), (a45, ai E 36 V45), (a46, ai E 5 V46), (a47, al E 5 V47), (a48, ai E 12 V48), (a49, ai E 12 V49), (a50, ai E 12 V50), (a51, ai E 12 V51), (a52, o0 T52 a53 a54 a55 a56 a57), (a53, ai E 60 V53), (a54, ai E 60 V54), (a55, ai E 60 V55), (a56, ai E 60 V56), (a57, ai E 60 V57)] sz) (xQi E z.1 [(a0, o11 T0 J0_15 J0_16 u0_0 u0_1 u0_2 u0_3 u0_4 u0_5 u0_6 u0_7 u0_8 a1 a3 u0_12 u0_13), (a1, ad E 3 (en [a2, a30, a44])), (a2, o3 T2 a5 a7 a9 a11 a13 a15 a17 a18), (a3, o3 T3 a4 a6 a8 a10 a12 a14 a16 a19), (a4, ai E 36 V4), (a5, ai E 36 V5), (a6, ai E 5 V6), (a7, ai E 5 V7), (a8, al E 5 V8), (a9, al E 5 V9), (a10, ai E 12 V10), (a11, ai E 12 V11), (a12, ai E 12 V12), (a13, ai E 12 V13), (a14, ai E 12 V14), (a15, ai E 12 V15), (a16, ai E 12 V16), (a17, ai E 12 V17), (a18, o0 T18 a21 a23 a25 a27 a29), (a19, o0 T19 a20 a22 a24 a26 a28), (a20, ai E 60 V20), (a21, ai E 60 V21), (a22, ai E 60 V22), (a23, ai E 60 V23), (a24, ai E 60 V24), (a25, ai E 60 V25), (a26, ai E 60 V26), (a27, ai E 60 V27), (a28, ai E 60 V28), (a29, ai E 60 V29), (a30, o3 T30 a31 a32 a33 a34 a35 a36 a37 a38), (a31, ai E 36 V31), (a32, ai E 5 V32), (a33, al E 5 V33), (a34, ai E 12 V34), (a35, ai E 12 V35), (a36, ai E 12 V36), (a37, ai E 12 V37), (a38, o0 T38 a39 a40 a41 a42 a43), (a39, ai E 60 V39), (a40, ai E 60 V40), (a41, ai E 60 V41), (a42, ai E 60 V42), (a43, ai E 60 V43), (a44, o3 T44 a45 a46 a47 a48 a49 a50 a51 a52), (a45, ai E 36 V45), (a46, ai E 5 V46), (a47, al E 5 V47), (a48, ai E 12 V48), (a49, ai E 12 V49), (a50, ai E 12 V50), (a51, ai E 12 V51), (a52, o0 T52 a53 a54 a55 a56 a57), (a53, ai E 60 V53), (a54, ai E 60 V54), (a55, ai E 60 V55), (a56, ai E 60 V56), (a57, ai E 60 V57)] [(a0, o11 z.2.1 J0_15 J0_16 u0_0 u0_1 u0_2 u0_3 u0_4 u0_5 u0_6 u0_7 u0_8 a1 a3 u0_12 u0_13), (a1, ad E 3 (en [a2, a30, a44])), (a2, o3 z.2.2.1 a5 a7 a9 a11 a13 a15 a17 a18), (a3, o3 T3 a4 a6 a8 a10 a12 a14 a16 a19), (a4, ai E 36 V4), (a5, ai E 36 z.2.2.2.1), (a6, ai E 5 V6), (a7, ai E 5 z.2.2.2.2.1), (a8, al E 5 V8), (a9, al E 5 z.2.2.2.2.2.1), (a10, ai E 12 V10), (a11, ai E 12 z.2.2.2.2.2.2.1), (a12, ai E 12 V12), (a13, ai E 12 z.2.2.2.2.2.2.2.1), (a14, ai E 12 V14), (a15, ai E 12 z.2.2.2.2.2.2.2.2.1), (a16, ai E 12 V16), (a17, ai E 12 z.2.2.2.2.2.2.2.2.2.1), (a18, o0 z.2.2.2.2.2.2.2.2.2.2.1 a21 a23 a25 a27 a29), (a19, o0 T19 a20 a22 a24 a26 a28), (a20, ai E 60 V20), (a21, ai E 60 z.2.2.2.2.2.2.2.2.2.2.2.1), (a22, ai E 60 V22), (a23, ai E 60 z.2.2.2.2.2.2.2.2.2.2.2.2.1), (a24, ai E 60 V24), (a25, ai E 60 z.2.2.2.2.2.2.2.2.2.2.2.2.2.1), (a26, ai E 60 V26), (a27, ai E 60 z.2.2.2.2.2.2.2.2.2.2.2.2.2.2.1), (a28, ai E 60 V28), (a29, ai E 60 z.2.2.2.2.2.2.2.2.2.2.2.2.2.2.2.1), (a30, o3 z.2.2.2.2.2.2.2.2.2.2.2.2.2.2.2.2.1 a31 a32 a33 a34 a35 a36 a37 a38), (a31, ai E 36 z.2.2.2.2.2.2.2.2.2.2.2.2.2.2.2.2.2.1), (a32, ai E 5 z.2.2.2.2.2.2.2.2.2.2.2.2.2.2.2.2.2.2.1), (a33, al E 5 z.2.2.2.2.2.2.2.2.2.2.2.2.2.2.2.2.2.2.2.1), (a34, ai E 12 z.2.2.2.2.2.2.2.2.2.2.2.2.2.2.2.2.2.2.2.2.1), (a35, ai E 12 z.2.2.2.2.2.2.2.2.2.2.2.2.2.2.2.2.2.2.2.2.2.1), (a36, ai E 12 z.2.2.2.2.2.2.2.2.2.2.2.2.2.2.2.2.2.2.2.2.2.2.1), (a37, ai E 12 z.2.2.2.2.2.2.2.2.2.2.2.2.2.2.2.2.2.2.2.2.2.2.2.1), (a38, o0 z.2.2.2.2.2.2.2.2.2.2.2.2.2.2.2.2.2.2.2.2.2.2.2.2.1 a39 a40 a41 a42 a43), (a39, ai E 60 z.2.2.2.2.2.2.2.2.2.2.2.2.2.2.2.2.2.2.2.2.2.2.2.2.2.1), (a40, ai E 60 z.2.2.2.2.2.2.2.2.2.2.2.2.2.2.2.2.2.2.2.2.2.2.2.2.2.2.1), (a41, ai E 60 z.2.2.2.2.2.2.2.2.2.2.2.2.2.2.2.2.2.2.2.2.2.2.2.2.2.2.2.1), (a42, ai E 60 z.2.2.2.2.2.2.2.2.2.2.2.2.2.2.2.2.2.2.2.2.2.2.2.2.2.2.2.2.1), (a43, ai E 60 z.2.2.2.2.2.2.2.2.2.2.2.2.2.2.2.2.2.2.2.2.2.2.2.2.2.2.2.2.2.1), (a44, o3 z.2.2.2.2.2.2.2.2.2.2.2.2.2.2.2.2.2.2.2.2.2.2.2.2.2.2.2.2.2.2.1 a45 a46 a47 a48 a49 a50 a51 a52), (a45, ai E 36 z.2.2.2.2.2.2.2.2.2.2.2.2.2.2.2.2.2.2.2.2.2.2.2.2.2.2.2.2.2.2.2.1), (a46, ai E 5 z.2.2.2.2.2.2.2.2.2.2.2.2.2.2.2.2.2.2.2.2.2.2.2.2.2.2.2.2.2.2.2.2.1), (a47, al E 5 z.2.2.2.2.2.2.2.2.2.2.2.2.2.2.2.2.2.2.2.2.2.2.2.2.2.2.2.2.2.2.2.2.2.1), (a48, ai E 12 z.2.2.2.2.2.2.2.2.2.2.2.2.2.2.2.2.2.2.2.2.2.2.2.2.2.2.2.2.2.2.2.2.2.2.1), (a49, ai E 12 z.2.2.2.2.2.2.2.2.2.2.2.2.2.2.2.2.2.2.2.2.2.2.2.2.2.2.2.2.2.2.2.2.2.2.2.1), (a50, ai E 12 z.2.2.2.2.2.2.2.2.2.2.2.2.2.2.2.2.2.2.2.2.2.2.2.2.2.2.2.2.2.2.2.2.2.2.2.2.1), (a51, ai E 12 z.2.2.2.2.2.2.2.2.2.2.2.2.2.2.2.2.2.2.2.2.2.2.2.2.2.2.2.2.2.2.2.2.2.2.2.2.2.1), (a52, o0 z.2.2.2.2.2.2.2.2.2.2.2.2.2.2.2.2.2.2.2.2.2.2.2.2.2.2.2.2.2.2.2.2.2.2.2.2.2.2.1 a53 a54 a55 a56 a57), (a53, ai E 60 z.2.2.2.2.2.2.2.2.2.2.2.2.2.2.2.2.2.2.2.2.2.2.2.2.2.2.2.2.2.2.2.2.2.2.2.2.2.2.2.1), (a54, ai E 60 z.2.2.2.2.2.2.2.2.2.2.2.2.2.2.2.2.2.2.2.2.2.2.2.2.2.2.2.2.2.2.2.2.2.2.2.2.2.2.2.2.1), (a55, ai E 60 z.2.2.2.2.2.2.2.2.2.2.2.2.2.2.2.2.2.2.2.2.2.2.2.2.2.2.2.2.2.2.2.2.2.2.2.2.2.2.2.2.2.1), (a56, ai E 60 z.2.2.2.2.2.2.2.2.2.2.2.2.2.2.2.2.2.2.2.2.2.2.2.2.2.2.2.2.2.2.2.2.2.2.2.2.2.2.2.2.2.2.1), (a57, ai E 60 z.2.2.2.2.2.2.2.2.2.2.2.2.2.2.2.2.2.2.2.2.2.2.2.2.2.2.2.2.2.2.2.2.2.2.2.2.2.2.2.2.2.2.2)] sz) 0 0 (va_A [(a0, o11 T0 J0_15 J0_16 u0_0 u0_1 u0_2 u0_3 u0_4 u0_5 u0_6 u0_7 u0_8 a1 a3 u0_12 u0_13), (a1, ad E 3 (en [a2, a30, a44])), (a2, o3 T2 a5 a7 a9 a11 a13 a15 a17 a18), (a3, o3 T3 a4 a6 a8 a10 a12 a14 a16 a19), (a4, ai E 36 V4), (a5, ai E 36 V5), (a6, ai E 5 V6), (a7, ai E 5 V7), (a8, al E 5 V8), (a9, al E 5 V9), (a10, ai E 12 V10), (a11, ai E 12 V11), (a12, ai E 12 V12), (a13, ai E 12 V13), (a14, ai E 12 V14), (a15, ai E 12 V15), (a16, ai E 12 V16), (a17, ai E 12 V17), (a18, o0 T18 a21 a23 a25 a27 a29), (a19, o0 T19 a20 a22 a24 a26 a28), (a20, ai E 60 V20), (a21, ai E 60 V21), (a22, ai E 60 V22), (a23, ai E 60 V23), (a24, ai E 60 V24), (a25, ai E 60 V25), (a26, ai E 60 V26), (a27, ai E 60 V27), (a28, ai E 60 V28), (a29, ai E 60 V29), (a30, o3 T30 a31 a32 a33 a34 a35 a36 a37 a38), (a31, ai E 36 V31), (a32, ai E 5 V32), (a33, al E 5 V33), (a34, ai E 12 V34), (a35, ai E 12 V35), (a36, ai E 12 V36), (a37, ai E 12 V37), (a38, o0 T38 a39 a40 a41 a42 a43), (a39, ai E 60 V39), (a40, ai E 60 V40), (a41, ai E 60 V41), (a42, ai E 60 V42), (a43, ai E 60 V43), (a44, o3 T44 a45 a46 a47 a48 a49 a50 a51 a52), (a45, ai E 36 V45), (a46, ai E 5 V46), (a47, al E 5 V47), (a48, ai E 12 V48), (a49, ai E 12 V49), (a50, ai E 12 V50), (a51, ai E 12 V51), (a52, o0 T52 a53 a54 a55 a56 a57), (a53, ai E 60 V53), (a54, ai E 60 V54), (a55, ai E 60 V55), (a56, ai E 60 V56), (a57, ai E 60 V57)] sz) := by
  refine xM_i (by decide +kernel) (Nat.le_of_ble_eq_true rfl) ?_
  intro p e s m args below meth c A Q hx hb hml hown htg hK hG hA ret0 H locs ls hP hD hS hl
  have ret : ∀ (z' : Int32 × (Nat → Int32) × (Nat → Int32) × (Nat → Int32) × (Nat → Int32) × (Nat → Int64) × (Nat → Int32) × (Nat → Int32) × (Nat → Int32) × (Nat → Int32) × (Nat → Int32) × (Nat → Int32) × (Nat → Int32) × (Nat → Int32) × (Nat → Int32) × (Nat → Int32) × (Nat → Int32) × (Nat → Int32) × (Nat → Int32) × (Nat → Int64) × (Nat → Int32) × (Nat → Int32) × (Nat → Int32) × (Nat → Int32) × (Nat → Int32) × (Nat → Int32) × (Nat → Int32) × (Nat → Int32) × (Nat → Int32) × (Nat → Int32) × (Nat → Int32) × (Nat → Int32) × (Nat → Int32) × (Nat → Int64) × (Nat → Int32) × (Nat → Int32) × (Nat → Int32) × (Nat → Int32) × (Nat → Int32) × (Nat → Int32) × (Nat → Int32) × (Nat → Int32) × (Nat → Int32) × (Nat → Int32)) {H : Heap} {locs : List Loc} {pc : Nat} {ls : Array Slot}, some z' = some z → narrow .int (.int z'.1) = .int z'.1 → va_P E.1 vwCl [(a0, o11 z'.2.1 J0_15 J0_16 u0_0 u0_1 u0_2 u0_3 u0_4 u0_5 u0_6 u0_7 u0_8 a1 a3 u0_12 u0_13), (a1, ad E 3 (en [a2, a30, a44])), (a2, o3 z'.2.2.1 a5 a7 a9 a11 a13 a15 a17 a18), (a3, o3 T3 a4 a6 a8 a10 a12 a14 a16 a19), (a4, ai E 36 V4), (a5, ai E 36 z'.2.2.2.1), (a6, ai E 5 V6), (a7, ai E 5 z'.2.2.2.2.1), (a8, al E 5 V8), (a9, al E 5 z'.2.2.2.2.2.1), (a10, ai E 12 V10), (a11, ai E 12 z'.2.2.2.2.2.2.1), (a12, ai E 12 V12), (a13, ai E 12 z'.2.2.2.2.2.2.2.1), (a14, ai E 12 V14), (a15, ai E 12 z'.2.2.2.2.2.2.2.2.1), (a16, ai E 12 V16), (a17, ai E 12 z'.2.2.2.2.2.2.2.2.2.1), (a18, o0 z'.2.2.2.2.2.2.2.2.2.2.1 a21 a23 a25 a27 a29), (a19, o0 T19 a20 a22 a24 a26 a28), (a20, ai E 60 V20), (a21, ai E 60 z'.2.2.2.2.2.2.2.2.2.2.2.1), (a22, ai E 60 V22), (a23, ai E 60 z'.2.2.2.2.2.2.2.2.2.2.2.2.1), (a24, ai E 60 V24), (a25, ai E 60 z'.2.2.2.2.2.2.2.2.2.2.2.2.2.1), (a26, ai E 60 V26), (a27, ai E 60 z'.2.2.2.2.2.2.2.2.2.2.2.2.2.2.1), (a28, ai E 60 V28), (a29, ai E 60 z'.2.2.2.2.2.2.2.2.2.2.2.2.2.2.2.1), (a30, o3 z'.2.2.2.2.2.2.2.2.2.2.2.2.2.2.2.2.1 a31 a32 a33 a34 a35 a36 a37 a38), (a31, ai E 36 z'.2.2.2.2.2.2.2.2.2.2.2.2.2.2.2.2.2.1), (a32, ai E 5 z'.2.2.2.2.2.2.2.2.2.2.2.2.2.2.2.2.2.2.1), (a33, al E 5 z'.2.2.2.2.2.2.2.2.2.2.2.2.2.2.2.2.2.2.2.1), (a34, ai E 12 z'.2.2.2.2.2.2.2.2.2.2.2.2.2.2.2.2.2.2.2.2.1), (a35, ai E 12 z'.2.2.2.2.2.2.2.2.2.2.2.2.2.2.2.2.2.2.2.2.2.1), (a36, ai E 12 z'.2.2.2.2.2.2.2.2.2.2.2.2.2.2.2.2.2.2.2.2.2.2.1), (a37, ai E 12 z'.2.2.2.2.2.2.2.2.2.2.2.2.2.2.2.2.2.2.2.2.2.2.2.1), (a38, o0 z'.2.2.2.2.2.2.2.2.2.2.2.2.2.2.2.2.2.2.2.2.2.2.2.2.1 a39 a40 a41 a42 a43), (a39, ai E 60 z'.2.2.2.2.2.2.2.2.2.2.2.2.2.2.2.2.2.2.2.2.2.2.2.2.2.1), (a40, ai E 60 z'.2.2.2.2.2.2.2.2.2.2.2.2.2.2.2.2.2.2.2.2.2.2.2.2.2.2.1), (a41, ai E 60 z'.2.2.2.2.2.2.2.2.2.2.2.2.2.2.2.2.2.2.2.2.2.2.2.2.2.2.2.1), (a42, ai E 60 z'.2.2.2.2.2.2.2.2.2.2.2.2.2.2.2.2.2.2.2.2.2.2.2.2.2.2.2.2.1), (a43, ai E 60 z'.2.2.2.2.2.2.2.2.2.2.2.2.2.2.2.2.2.2.2.2.2.2.2.2.2.2.2.2.2.1), (a44, o3 z'.2.2.2.2.2.2.2.2.2.2.2.2.2.2.2.2.2.2.2.2.2.2.2.2.2.2.2.2.2.2.1 a45 a46 a47 a48 a49 a50 a51 a52), (a45, ai E 36 z'.2.2.2.2.2.2.2.2.2.2.2.2.2.2.2.2.2.2.2.2.2.2.2.2.2.2.2.2.2.2.2.1), (a46, ai E 5 z'.2.2.2.2.2.2.2.2.2.2.2.2.2.2.2.2.2.2.2.2.2.2.2.2.2.2.2.2.2.2.2.2.1), (a47, al E 5 z'.2.2.2.2.2.2.2.2.2.2.2.2.2.2.2.2.2.2.2.2.2.2.2.2.2.2.2.2.2.2.2.2.2.1), (a48, ai E 12 z'.2.2.2.2.2.2.2.2.2.2.2.2.2.2.2.2.2.2.2.2.2.2.2.2.2.2.2.2.2.2.2.2.2.2.1), (a49, ai E 12 z'.2.2.2.2.2.2.2.2.2.2.2.2.2.2.2.2.2.2.2.2.2.2.2.2.2.2.2.2.2.2.2.2.2.2.2.1), (a50, ai E 12 z'.2.2.2.2.2.2.2.2.2.2.2.2.2.2.2.2.2.2.2.2.2.2.2.2.2.2.2.2.2.2.2.2.2.2.2.2.1), (a51, ai E 12 z'.2.2.2.2.2.2.2.2.2.2.2.2.2.2.2.2.2.2.2.2.2.2.2.2.2.2.2.2.2.2.2.2.2.2.2.2.2.1), (a52, o0 z'.2.2.2.2.2.2.2.2.2.2.2.2.2.2.2.2.2.2.2.2.2.2.2.2.2.2.2.2.2.2.2.2.2.2.2.2.2.2.1 a53 a54 a55 a56 a57), (a53, ai E 60 z'.2.2.2.2.2.2.2.2.2.2.2.2.2.2.2.2.2.2.2.2.2.2.2.2.2.2.2.2.2.2.2.2.2.2.2.2.2.2.2.1), (a54, ai E 60 z'.2.2.2.2.2.2.2.2.2.2.2.2.2.2.2.2.2.2.2.2.2.2.2.2.2.2.2.2.2.2.2.2.2.2.2.2.2.2.2.2.1), (a55, ai E 60 z'.2.2.2.2.2.2.2.2.2.2.2.2.2.2.2.2.2.2.2.2.2.2.2.2.2.2.2.2.2.2.2.2.2.2.2.2.2.2.2.2.2.1), (a56, ai E 60 z'.2.2.2.2.2.2.2.2.2.2.2.2.2.2.2.2.2.2.2.2.2.2.2.2.2.2.2.2.2.2.2.2.2.2.2.2.2.2.2.2.2.2.1), (a57, ai E 60 z'.2.2.2.2.2.2.2.2.2.2.2.2.2.2.2.2.2.2.2.2.2.2.2.2.2.2.2.2.2.2.2.2.2.2.2.2.2.2.2.2.2.2.2)] H → va_S A s.heap H locs → decode cX11_mark pc = .ok (.ireturn, 1) → W p l e ({ frames := 3, cells := 0, slots := 0, locals := 122 } : Room) s m args below meth c H locs 0 0 Q (F0 m pc ls [.int z'.1]) := by
    intro z' H locs pc ls h
    cases h
    exact ret0
  replace hl : lv_has ls 1 [(0, .ref a0)] := hl
  unfold f_X11_mark at hf
  refine lv_aload_n hx hb dX11_mark_0 rfl (lv_at hl 0 rfl) ?_
  refine G11_385 hx hb htg hown hK hP 0 rfl dX11_mark_1 ?_
  refine lv_aload_n hx hb dX11_mark_4 rfl (lv_at hl 0 rfl) ?_
  refine G11_74 hx hb htg hown hK hP 0 rfl dX11_mark_5 ?_
  refine va_alen (v := 3) hx hb hK hP 1 3 rfl rfl rfl dX11_mark_8 ?_
  refine lv_icmp_lt (tgt := 19) hx hb dX11_mark_9 (by decide) (fun c9 => ?_) (fun c9 => ?_)
  · have hf := it_t c9 hf
    refine lv_aload_n hx hb dX11_mark_19 rfl (lv_at hl 0 rfl) ?_
    refine G11_74 hx hb htg hown hK hP 0 rfl dX11_mark_20 ?_
    refine lv_aload_n hx hb dX11_mark_23 rfl (lv_at hl 0 rfl) ?_
    refine G11_385 hx hb htg hown hK hP 0 rfl dX11_mark_24 ?_
    obtain ⟨g27, hf⟩ := ck_s hf
    by_cases c27_0 : T0 10 = 0
    · have hf := it_t c27_0 hf
      refine xdld (v := a2) hx hb hK hP 1 rfl g27 (congrArg Int32.toNatClampNeg c27_0) rfl dX11_mark_27 ?_
      refine lv_aload_n hx hb dX11_mark_28 rfl (lv_at hl 0 rfl) ?_
      refine G11_79 hx hb htg hown hK hP 0 rfl dX11_mark_29 ?_
      obtain ⟨z32, hz32, hf⟩ := bind_s hf
      refine xV_vu hx hb hml hown htg L11_388 (c_X3_copyFrom l E a2 a3 a4 a5 a6 a7 a8 a9 a10 a11 a12 a13 a14 a15 a16 a17 a18 a19 a20 a21 a22 a23 a24 a25 a26 a27 a28 a29 hz32 _) ⟨⟨rfl, rfl⟩, Nat.le_of_ble_eq_true rfl, Nat.le_of_ble_eq_true rfl⟩ hK hG hA hP hD hS (is := [2, 3, 4, 5, 6, 7, 8, 9, 10, 11, 12, 13, 14, 15, 16, 17, 18, 19, 20, 21, 22, 23, 24, 25, 26, 27, 28, 29]) (sel := [none, none, some 0, some 1, some 2, some 3, some 4, some 5, some 6, some 7, some 8, some 9, some 10, some 11, some 12, some 13, some 14, some 15, some 16, some 17, some 18, some 19, some 20, some 21, some 22, some 23, some 24, some 25, some 26, some 27, none, none, none, none, none, none, none, none, none, none, none, none, none, none, none, none, none, none, none, none, none, none, none, none, none, none, none, none]) (ws2 := [(a0, o11 T0 J0_15 J0_16 u0_0 u0_1 u0_2 u0_3 u0_4 u0_5 u0_6 u0_7 u0_8 a1 a3 u0_12 u0_13), (a1, ad E 3 (en [a2, a30, a44])), (a2, o3 z32.1 a5 a7 a9 a11 a13 a15 a17 a18), (a3, o3 T3 a4 a6 a8 a10 a12 a14 a16 a19), (a4, ai E 36 V4), (a5, ai E 36 z32.2.1), (a6, ai E 5 V6), (a7, ai E 5 z32.2.2.1), (a8, al E 5 V8), (a9, al E 5 z32.2.2.2.1), (a10, ai E 12 V10), (a11, ai E 12 z32.2.2.2.2.1), (a12, ai E 12 V12), (a13, ai E 12 z32.2.2.2.2.2.1), (a14, ai E 12 V14), (a15, ai E 12 z32.2.2.2.2.2.2.1), (a16, ai E 12 V16), (a17, ai E 12 z32.2.2.2.2.2.2.2.1), (a18, o0 z32.2.2.2.2.2.2.2.2.1 a21 a23 a25 a27 a29), (a19, o0 T19 a20 a22 a24 a26 a28), (a20, ai E 60 V20), (a21, ai E 60 z32.2.2.2.2.2.2.2.2.2.1), (a22, ai E 60 V22), (a23, ai E 60 z32.2.2.2.2.2.2.2.2.2.2.1), (a24, ai E 60 V24), (a25, ai E 60 z32.2.2.2.2.2.2.2.2.2.2.2.1), (a26, ai E 60 V26), (a27, ai E 60 z32.2.2.2.2.2.2.2.2.2.2.2.2.1), (a28, ai E 60 V28), (a29, ai E 60 z32.2.2.2.2.2.2.2.2.2.2.2.2.2), (a30, o3 T30 a31 a32 a33 a34 a35 a36 a37 a38), (a31, ai E 36 V31), (a32, ai E 5 V32), (a33, al E 5 V33), (a34, ai E 12 V34), (a35, ai E 12 V35), (a36, ai E 12 V36), (a37, ai E 12 V37), (a38, o0 T38 a39 a40 a41 a42 a43), (a39, ai E 60 V39), (a40, ai E 60 V40), (a41, ai E 60 V41), (a42, ai E 60 V42), (a43, ai E 60 V43), (a44, o3 T44 a45 a46 a47 a48 a49 a50 a51 a52), (a45, ai E 36 V45), (a46, ai E 5 V46), (a47, al E 5 V47), (a48, ai E 12 V48), (a49, ai E 12 V49), (a50, ai E 12 V50), (a51, ai E 12 V51), (a52, o0 T52 a53 a54 a55 a56 a57), (a53, ai E 60 V53), (a54, ai E 60 V54), (a55, ai E 60 V55), (a56, ai E 60 V56), (a57, ai E 60 V57)]) rfl rfl rfl rfl rfl (xrecv hK hP (q0 := 2) (ci := 3) rfl rfl) rfl hl.1 rfl (Nat.le_of_ble_eq_true rfl) dX11_mark_32 (fun H locs hP hD hS => ?_)
      refine lv_aload_n hx hb dX11_mark_35 rfl (lv_at hl 0 rfl) ?_
      refine lv_dup hx hb dX11_mark_36 rfl ?_
      refine G11_385 hx hb htg hown hK hP 0 rfl dX11_mark_37 ?_
      refine lv_iconst (v := 1) hx hb dX11_mark_40 rfl ?_
      refine lv_iadd hx hb dX11_mark_41 ?_
      refine P11_385 hx hb htg hown hK hP hD hS 0 rfl dX11_mark_42 (fun H locs hP hD hS => ?_)
      refine lv_aload_n hx hb dX11_mark_45 rfl (lv_at hl 0 rfl) ?_
      refine lv_aload_n hx hb dX11_mark_46 rfl (lv_at hl 0 rfl) ?_
      refine G11_385 hx hb htg hown hK hP 0 rfl dX11_mark_47 ?_
      obtain ⟨z50, hz50, hf⟩ := bind_s hf
      refine xV_iu hx hb hml hown htg L11_179 (c_X11_answer l E a0 hz50 _) ⟨⟨rfl, rfl⟩, Nat.le_of_ble_eq_true rfl, Nat.le_of_ble_eq_true rfl⟩ hK hG hA hP hD hS (is := [0]) (sel := [some 0, none, none, none, none, none, none, none, none, none, none, none, none, none, none, none, none, none, none, none, none, none, none, none, none, none, none, none, none, none, none, none, none, none, none, none, none, none, none, none, none, none, none, none, none, none, none, none, none, none, none, none, none, none, none, none, none, none]) (ws2 := [(a0, o11 z50.2 J0_15 J0_16 u0_0 u0_1 u0_2 u0_3 u0_4 u0_5 u0_6 u0_7 u0_8 a1 a3 u0_12 u0_13), (a1, ad E 3 (en [a2, a30, a44])), (a2, o3 z32.1 a5 a7 a9 a11 a13 a15 a17 a18), (a3, o3 T3 a4 a6 a8 a10 a12 a14 a16 a19), (a4, ai E 36 V4), (a5, ai E 36 z32.2.1), (a6, ai E 5 V6), (a7, ai E 5 z32.2.2.1), (a8, al E 5 V8), (a9, al E 5 z32.2.2.2.1), (a10, ai E 12 V10), (a11, ai E 12 z32.2.2.2.2.1), (a12, ai E 12 V12), (a13, ai E 12 z32.2.2.2.2.2.1), (a14, ai E 12 V14), (a15, ai E 12 z32.2.2.2.2.2.2.1), (a16, ai E 12 V16), (a17, ai E 12 z32.2.2.2.2.2.2.2.1), (a18, o0 z32.2.2.2.2.2.2.2.2.1 a21 a23 a25 a27 a29), (a19, o0 T19 a20 a22 a24 a26 a28), (a20, ai E 60 V20), (a21, ai E 60 z32.2.2.2.2.2.2.2.2.2.1), (a22, ai E 60 V22), (a23, ai E 60 z32.2.2.2.2.2.2.2.2.2.2.1), (a24, ai E 60 V24), (a25, ai E 60 z32.2.2.2.2.2.2.2.2.2.2.2.1), (a26, ai E 60 V26), (a27, ai E 60 z32.2.2.2.2.2.2.2.2.2.2.2.2.1), (a28, ai E 60 V28), (a29, ai E 60 z32.2.2.2.2.2.2.2.2.2.2.2.2.2), (a30, o3 T30 a31 a32 a33 a34 a35 a36 a37 a38), (a31, ai E 36 V31), (a32, ai E 5 V32), (a33, al E 5 V33), (a34, ai E 12 V34), (a35, ai E 12 V35), (a36, ai E 12 V36), (a37, ai E 12 V37), (a38, o0 T38 a39 a40 a41 a42 a43), (a39, ai E 60 V39), (a40, ai E 60 V40), (a41, ai E 60 V41), (a42, ai E 60 V42), (a43, ai E 60 V43), (a44, o3 T44 a45 a46 a47 a48 a49 a50 a51 a52), (a45, ai E 36 V45), (a46, ai E 5 V46), (a47, al E 5 V47), (a48, ai E 12 V48), (a49, ai E 12 V49), (a50, ai E 12 V50), (a51, ai E 12 V51), (a52, o0 T52 a53 a54 a55 a56 a57), (a53, ai E 60 V53), (a54, ai E 60 V54), (a55, ai E 60 V55), (a56, ai E 60 V56), (a57, ai E 60 V57)]) rfl rfl rfl rfl rfl (xrecv hK hP (q0 := 0) (ci := 11) rfl rfl) rfl hl.1 rfl (Nat.le_of_ble_eq_true rfl) dX11_mark_50 (fun H locs hP hD hS => ?_)
      exact ret (z50.1, z50.2, z32.1, z32.2.1, z32.2.2.1, z32.2.2.2.1, z32.2.2.2.2.1, z32.2.2.2.2.2.1, z32.2.2.2.2.2.2.1, z32.2.2.2.2.2.2.2.1, z32.2.2.2.2.2.2.2.2.1, z32.2.2.2.2.2.2.2.2.2.1, z32.2.2.2.2.2.2.2.2.2.2.1, z32.2.2.2.2.2.2.2.2.2.2.2.1, z32.2.2.2.2.2.2.2.2.2.2.2.2.1, z32.2.2.2.2.2.2.2.2.2.2.2.2.2, T30, V31, V32, V33, V34, V35, V36, V37, T38, V39, V40, V41, V42, V43, T44, V45, V46, V47, V48, V49, V50, V51, T52, V53, V54, V55, V56, V57) hf nzi hP hS dX11_mark_53
    have hf := it_f c27_0 hf
    by_cases c27_1 : T0 10 = 1
    · have hf := it_t c27_1 hf
      refine xdld (v := a30) hx hb hK hP 1 rfl g27 (congrArg Int32.toNatClampNeg c27_1) rfl dX11_mark_27 ?_
      refine lv_aload_n hx hb dX11_mark_28 rfl (lv_at hl 0 rfl) ?_
      refine G11_79 hx hb htg hown hK hP 0 rfl dX11_mark_29 ?_
      obtain ⟨z32, hz32, hf⟩ := bind_s hf
      refine xV_vu hx hb hml hown htg L11_388 (c_X3_copyFrom l E a30 a3 a4 a31 a6 a32 a8 a33 a10 a34 a12 a35 a14 a36 a16 a37 a38 a19 a20 a39 a22 a40 a24 a41 a26 a42 a28 a43 hz32 _) ⟨⟨rfl, rfl⟩, Nat.le_of_ble_eq_true rfl, Nat.le_of_ble_eq_true rfl⟩ hK hG hA hP hD hS (is := [30, 3, 4, 31, 6, 32, 8, 33, 10, 34, 12, 35, 14, 36, 16, 37, 38, 19, 20, 39, 22, 40, 24, 41, 26, 42, 28, 43]) (sel := [none, none, none, some 1, some 2, none, some 4, none, some 6, none, some 8, none, some 10, none, some 12, none, some 14, none, none, some 17, some 18, none, some 20, none, some 22, none, some 24, none, some 26, none, some 0, some 3, some 5, some 7, some 9, some 11, some 13, some 15, some 16, some 19, some 21, some 23, some 25, some 27, none, none, none, none, none, none, none, none, none, none, none, none, none, none]) (ws2 := [(a0, o11 T0 J0_15 J0_16 u0_0 u0_1 u0_2 u0_3 u0_4 u0_5 u0_6 u0_7 u0_8 a1 a3 u0_12 u0_13), (a1, ad E 3 (en [a2, a30, a44])), (a2, o3 T2 a5 a7 a9 a11 a13 a15 a17 a18), (a3, o3 T3 a4 a6 a8 a10 a12 a14 a16 a19), (a4, ai E 36 V4), (a5, ai E 36 V5), (a6, ai E 5 V6), (a7, ai E 5 V7), (a8, al E 5 V8), (a9, al E 5 V9), (a10, ai E 12 V10), (a11, ai E 12 V11), (a12, ai E 12 V12), (a13, ai E 12 V13), (a14, ai E 12 V14), (a15, ai E 12 V15), (a16, ai E 12 V16), (a17, ai E 12 V17), (a18, o0 T18 a21 a23 a25 a27 a29), (a19, o0 T19 a20 a22 a24 a26 a28), (a20, ai E 60 V20), (a21, ai E 60 V21), (a22, ai E 60 V22), (a23, ai E 60 V23), (a24, ai E 60 V24), (a25, ai E 60 V25), (a26, ai E 60 V26), (a27, ai E 60 V27), (a28, ai E 60 V28), (a29, ai E 60 V29), (a30, o3 z32.1 a31 a32 a33 a34 a35 a36 a37 a38), (a31, ai E 36 z32.2.1), (a32, ai E 5 z32.2.2.1), (a33, al E 5 z32.2.2.2.1), (a34, ai E 12 z32.2.2.2.2.1), (a35, ai E 12 z32.2.2.2.2.2.1), (a36, ai E 12 z32.2.2.2.2.2.2.1), (a37, ai E 12 z32.2.2.2.2.2.2.2.1), (a38, o0 z32.2.2.2.2.2.2.2.2.1 a39 a40 a41 a42 a43), (a39, ai E 60 z32.2.2.2.2.2.2.2.2.2.1), (a40, ai E 60 z32.2.2.2.2.2.2.2.2.2.2.1), (a41, ai E 60 z32.2.2.2.2.2.2.2.2.2.2.2.1), (a42, ai E 60 z32.2.2.2.2.2.2.2.2.2.2.2.2.1), (a43, ai E 60 z32.2.2.2.2.2.2.2.2.2.2.2.2.2), (a44, o3 T44 a45 a46 a47 a48 a49 a50 a51 a52), (a45, ai E 36 V45), (a46, ai E 5 V46), (a47, al E 5 V47), (a48, ai E 12 V48), (a49, ai E 12 V49), (a50, ai E 12 V50), (a51, ai E 12 V51), (a52, o0 T52 a53 a54 a55 a56 a57), (a53, ai E 60 V53), (a54, ai E 60 V54), (a55, ai E 60 V55), (a56, ai E 60 V56), (a57, ai E 60 V57)]) rfl rfl rfl rfl rfl (xrecv hK hP (q0 := 30) (ci := 3) rfl rfl) rfl hl.1 rfl (Nat.le_of_ble_eq_true rfl) dX11_mark_32 (fun H locs hP hD hS => ?_)
      refine lv_aload_n hx hb dX11_mark_35 rfl (lv_at hl 0 rfl) ?_
      refine lv_dup hx hb dX11_mark_36 rfl ?_
      refine G11_385 hx hb htg hown hK hP 0 rfl dX11_mark_37 ?_
      refine lv_iconst (v := 1) hx hb dX11_mark_40 rfl ?_
      refine lv_iadd hx hb dX11_mark_41 ?_
      refine P11_385 hx hb htg hown hK hP hD hS 0 rfl dX11_mark_42 (fun H locs hP hD hS => ?_)
      refine lv_aload_n hx hb dX11_mark_45 rfl (lv_at hl 0 rfl) ?_
      refine lv_aload_n hx hb dX11_mark_46 rfl (lv_at hl 0 rfl) ?_
      refine G11_385 hx hb htg hown hK hP 0 rfl dX11_mark_47 ?_
      obtain ⟨z50, hz50, hf⟩ := bind_s hf
      refine xV_iu hx hb hml hown htg L11_179 (c_X11_answer l E a0 hz50 _) ⟨⟨rfl, rfl⟩, Nat.le_of_ble_eq_true rfl, Nat.le_of_ble_eq_true rfl⟩ hK hG hA hP hD hS (is := [0]) (sel := [some 0, none, none, none, none, none, none, none, none, none, none, none, none, none, none, none, none, none, none, none, none, none, none, none, none, none, none, none, none, none, none, none, none, none, none, none, none, none, none, none, none, none, none, none, none, none, none, none, none, none, none, none, none, none, none, none, none, none]) (ws2 := [(a0, o11 z50.2 J0_15 J0_16 u0_0 u0_1 u0_2 u0_3 u0_4 u0_5 u0_6 u0_7 u0_8 a1 a3 u0_12 u0_13), (a1, ad E 3 (en [a2, a30, a44])), (a2, o3 T2 a5 a7 a9 a11 a13 a15 a17 a18), (a3, o3 T3 a4 a6 a8 a10 a12 a14 a16 a19), (a4, ai E 36 V4), (a5, ai E 36 V5), (a6, ai E 5 V6), (a7, ai E 5 V7), (a8, al E 5 V8), (a9, al E 5 V9), (a10, ai E 12 V10), (a11, ai E 12 V11), (a12, ai E 12 V12), (a13, ai E 12 V13), (a14, ai E 12 V14), (a15, ai E 12 V15), (a16, ai E 12 V16), (a17, ai E 12 V17), (a18, o0 T18 a21 a23 a25 a27 a29), (a19, o0 T19 a20 a22 a24 a26 a28), (a20, ai E 60 V20), (a21, ai E 60 V21), (a22, ai E 60 V22), (a23, ai E 60 V23), (a24, ai E 60 V24), (a25, ai E 60 V25), (a26, ai E 60 V26), (a27, ai E 60 V27), (a28, ai E 60 V28), (a29, ai E 60 V29), (a30, o3 z32.1 a31 a32 a33 a34 a35 a36 a37 a38), (a31, ai E 36 z32.2.1), (a32, ai E 5 z32.2.2.1), (a33, al E 5 z32.2.2.2.1), (a34, ai E 12 z32.2.2.2.2.1), (a35, ai E 12 z32.2.2.2.2.2.1), (a36, ai E 12 z32.2.2.2.2.2.2.1), (a37, ai E 12 z32.2.2.2.2.2.2.2.1), (a38, o0 z32.2.2.2.2.2.2.2.2.1 a39 a40 a41 a42 a43), (a39, ai E 60 z32.2.2.2.2.2.2.2.2.2.1), (a40, ai E 60 z32.2.2.2.2.2.2.2.2.2.2.1), (a41, ai E 60 z32.2.2.2.2.2.2.2.2.2.2.2.1), (a42, ai E 60 z32.2.2.2.2.2.2.2.2.2.2.2.2.1), (a43, ai E 60 z32.2.2.2.2.2.2.2.2.2.2.2.2.2), (a44, o3 T44 a45 a46 a47 a48 a49 a50 a51 a52), (a45, ai E 36 V45), (a46, ai E 5 V46), (a47, al E 5 V47), (a48, ai E 12 V48), (a49, ai E 12 V49), (a50, ai E 12 V50), (a51, ai E 12 V51), (a52, o0 T52 a53 a54 a55 a56 a57), (a53, ai E 60 V53), (a54, ai E 60 V54), (a55, ai E 60 V55), (a56, ai E 60 V56), (a57, ai E 60 V57)]) rfl rfl rfl rfl rfl (xrecv hK hP (q0 := 0) (ci := 11) rfl rfl) rfl hl.1 rfl (Nat.le_of_ble_eq_true rfl) dX11_mark_50 (fun H locs hP hD hS => ?_)
      exact ret (z50.1, z50.2, T2, V5, V7, V9, V11, V13, V15, V17, T18, V21, V23, V25, V27, V29, z32.1, z32.2.1, z32.2.2.1, z32.2.2.2.1, z32.2.2.2.2.1, z32.2.2.2.2.2.1, z32.2.2.2.2.2.2.1, z32.2.2.2.2.2.2.2.1, z32.2.2.2.2.2.2.2.2.1, z32.2.2.2.2.2.2.2.2.2.1, z32.2.2.2.2.2.2.2.2.2.2.1, z32.2.2.2.2.2.2.2.2.2.2.2.1, z32.2.2.2.2.2.2.2.2.2.2.2.2.1, z32.2.2.2.2.2.2.2.2.2.2.2.2.2, T44, V45, V46, V47, V48, V49, V50, V51, T52, V53, V54, V55, V56, V57) hf nzi hP hS dX11_mark_53
    have hf := it_f c27_1 hf
    have e27 := gd_last3 g27 c27_0 c27_1
    refine xdld (v := a44) hx hb hK hP 1 rfl g27 (congrArg Int32.toNatClampNeg e27) rfl dX11_mark_27 ?_
    refine lv_aload_n hx hb dX11_mark_28 rfl (lv_at hl 0 rfl) ?_
    refine G11_79 hx hb htg hown hK hP 0 rfl dX11_mark_29 ?_
    obtain ⟨z32, hz32, hf⟩ := bind_s hf
    refine xV_vu hx hb hml hown htg L11_388 (c_X3_copyFrom l E a44 a3 a4 a45 a6 a46 a8 a47 a10 a48 a12 a49 a14 a50 a16 a51 a52 a19 a20 a53 a22 a54 a24 a55 a26 a56 a28 a57 hz32 _) ⟨⟨rfl, rfl⟩, Nat.le_of_ble_eq_true rfl, Nat.le_of_ble_eq_true rfl⟩ hK hG hA hP hD hS (is := [44, 3, 4, 45, 6, 46, 8, 47, 10, 48, 12, 49, 14, 50, 16, 51, 52, 19, 20, 53, 22, 54, 24, 55, 26, 56, 28, 57]) (sel := [none, none, none, some 1, some 2, none, some 4, none, some 6, none, some 8, none, some 10, none, some 12, none, some 14, none, none, some 17, some 18, none, some 20, none, some 22, none, some 24, none, some 26, none, none, none, none, none, none, none, none, none, none, none, none, none, none, none, some 0, some 3, some 5, some 7, some 9, some 11, some 13, some 15, some 16, some 19, some 21, some 23, some 25, some 27]) (ws2 := [(a0, o11 T0 J0_15 J0_16 u0_0 u0_1 u0_2 u0_3 u0_4 u0_5 u0_6 u0_7 u0_8 a1 a3 u0_12 u0_13), (a1, ad E 3 (en [a2, a30, a44])), (a2, o3 T2 a5 a7 a9 a11 a13 a15 a17 a18), (a3, o3 T3 a4 a6 a8 a10 a12 a14 a16 a19), (a4, ai E 36 V4), (a5, ai E 36 V5), (a6, ai E 5 V6), (a7, ai E 5 V7), (a8, al E 5 V8), (a9, al E 5 V9), (a10, ai E 12 V10), (a11, ai E 12 V11), (a12, ai E 12 V12), (a13, ai E 12 V13), (a14, ai E 12 V14), (a15, ai E 12 V15), (a16, ai E 12 V16), (a17, ai E 12 V17), (a18, o0 T18 a21 a23 a25 a27 a29), (a19, o0 T19 a20 a22 a24 a26 a28), (a20, ai E 60 V20), (a21, ai E 60 V21), (a22, ai E 60 V22), (a23, ai E 60 V23), (a24, ai E 60 V24), (a25, ai E 60 V25), (a26, ai E 60 V26), (a27, ai E 60 V27), (a28, ai E 60 V28), (a29, ai E 60 V29), (a30, o3 T30 a31 a32 a33 a34 a35 a36 a37 a38), (a31, ai E 36 V31), (a32, ai E 5 V32), (a33, al E 5 V33), (a34, ai E 12 V34), (a35, ai E 12 V35), (a36, ai E 12 V36), (a37, ai E 12 V37), (a38, o0 T38 a39 a40 a41 a42 a43), (a39, ai E 60 V39), (a40, ai E 60 V40), (a41, ai E 60 V41), (a42, ai E 60 V42), (a43, ai E 60 V43), (a44, o3 z32.1 a45 a46 a47 a48 a49 a50 a51 a52), (a45, ai E 36 z32.2.1), (a46, ai E 5 z32.2.2.1), (a47, al E 5 z32.2.2.2.1), (a48, ai E 12 z32.2.2.2.2.1), (a49, ai E 12 z32.2.2.2.2.2.1), (a50, ai E 12 z32.2.2.2.2.2.2.1), (a51, ai E 12 z32.2.2.2.2.2.2.2.1), (a52, o0 z32.2.2.2.2.2.2.2.2.1 a53 a54 a55 a56 a57), (a53, ai E 60 z32.2.2.2.2.2.2.2.2.2.1), (a54, ai E 60 z32.2.2.2.2.2.2.2.2.2.2.1), (a55, ai E 60 z32.2.2.2.2.2.2.2.2.2.2.2.1), (a56, ai E 60 z32.2.2.2.2.2.2.2.2.2.2.2.2.1), (a57, ai E 60 z32.2.2.2.2.2.2.2.2.2.2.2.2.2)]) rfl rfl rfl rfl rfl (xrecv hK hP (q0 := 44) (ci := 3) rfl rfl) rfl hl.1 rfl (Nat.le_of_ble_eq_true rfl) dX11_mark_32 (fun H locs hP hD hS => ?_)
    refine lv_aload_n hx hb dX11_mark_35 rfl (lv_at hl 0 rfl) ?_
    refine lv_dup hx hb dX11_mark_36 rfl ?_
    refine G11_385 hx hb htg hown hK hP 0 rfl dX11_mark_37 ?_
    refine lv_iconst (v := 1) hx hb dX11_mark_40 rfl ?_
    refine lv_iadd hx hb dX11_mark_41 ?_
    refine P11_385 hx hb htg hown hK hP hD hS 0 rfl dX11_mark_42 (fun H locs hP hD hS => ?_)
    refine lv_aload_n hx hb dX11_mark_45 rfl (lv_at hl 0 rfl) ?_
    refine lv_aload_n hx hb dX11_mark_46 rfl (lv_at hl 0 rfl) ?_
    refine G11_385 hx hb htg hown hK hP 0 rfl dX11_mark_47 ?_
    obtain ⟨z50, hz50, hf⟩ := bind_s hf
    refine xV_iu hx hb hml hown htg L11_179 (c_X11_answer l E a0 hz50 _) ⟨⟨rfl, rfl⟩, Nat.le_of_ble_eq_true rfl, Nat.le_of_ble_eq_true rfl⟩ hK hG hA hP hD hS (is := [0]) (sel := [some 0, none, none, none, none, none, none, none, none, none, none, none, none, none, none, none, none, none, none, none, none, none, none, none, none, none, none, none, none, none, none, none, none, none, none, none, none, none, none, none, none, none, none, none, none, none, none, none, none, none, none, none, none, none, none, none, none, none]) (ws2 := [(a0, o11 z50.2 J0_15 J0_16 u0_0 u0_1 u0_2 u0_3 u0_4 u0_5 u0_6 u0_7 u0_8 a1 a3 u0_12 u0_13), (a1, ad E 3 (en [a2, a30, a44])), (a2, o3 T2 a5 a7 a9 a11 a13 a15 a17 a18), (a3, o3 T3 a4 a6 a8 a10 a12 a14 a16 a19), (a4, ai E 36 V4), (a5, ai E 36 V5), (a6, ai E 5 V6), (a7, ai E 5 V7), (a8, al E 5 V8), (a9, al E 5 V9), (a10, ai E 12 V10), (a11, ai E 12 V11), (a12, ai E 12 V12), (a13, ai E 12 V13), (a14, ai E 12 V14), (a15, ai E 12 V15), (a16, ai E 12 V16), (a17, ai E 12 V17), (a18, o0 T18 a21 a23 a25 a27 a29), (a19, o0 T19 a20 a22 a24 a26 a28), (a20, ai E 60 V20), (a21, ai E 60 V21), (a22, ai E 60 V22), (a23, ai E 60 V23), (a24, ai E 60 V24), (a25, ai E 60 V25), (a26, ai E 60 V26), (a27, ai E 60 V27), (a28, ai E 60 V28), (a29, ai E 60 V29), (a30, o3 T30 a31 a32 a33 a34 a35 a36 a37 a38), (a31, ai E 36 V31), (a32, ai E 5 V32), (a33, al E 5 V33), (a34, ai E 12 V34), (a35, ai E 12 V35), (a36, ai E 12 V36), (a37, ai E 12 V37), (a38, o0 T38 a39 a40 a41 a42 a43), (a39, ai E 60 V39), (a40, ai E 60 V40), (a41, ai E 60 V41), (a42, ai E 60 V42), (a43, ai E 60 V43), (a44, o3 z32.1 a45 a46 a47 a48 a49 a50 a51 a52), (a45, ai E 36 z32.2.1), (a46, ai E 5 z32.2.2.1), (a47, al E 5 z32.2.2.2.1), (a48, ai E 12 z32.2.2.2.2.1), (a49, ai E 12 z32.2.2.2.2.2.1), (a50, ai E 12 z32.2.2.2.2.2.2.1), (a51, ai E 12 z32.2.2.2.2.2.2.2.1), (a52, o0 z32.2.2.2.2.2.2.2.2.1 a53 a54 a55 a56 a57), (a53, ai E 60 z32.2.2.2.2.2.2.2.2.2.1), (a54, ai E 60 z32.2.2.2.2.2.2.2.2.2.2.1), (a55, ai E 60 z32.2.2.2.2.2.2.2.2.2.2.2.1), (a56, ai E 60 z32.2.2.2.2.2.2.2.2.2.2.2.2.1), (a57, ai E 60 z32.2.2.2.2.2.2.2.2.2.2.2.2.2)]) rfl rfl rfl rfl rfl (xrecv hK hP (q0 := 0) (ci := 11) rfl rfl) rfl hl.1 rfl (Nat.le_of_ble_eq_true rfl) dX11_mark_50 (fun H locs hP hD hS => ?_)
    exact ret (z50.1, z50.2, T2, V5, V7, V9, V11, V13, V15, V17, T18, V21, V23, V25, V27, V29, T30, V31, V32, V33, V34, V35, V36, V37, T38, V39, V40, V41, V42, V43, z32.1, z32.2.1, z32.2.2.1, z32.2.2.2.1, z32.2.2.2.2.1, z32.2.2.2.2.2.1, z32.2.2.2.2.2.2.1, z32.2.2.2.2.2.2.2.1, z32.2.2.2.2.2.2.2.2.1, z32.2.2.2.2.2.2.2.2.2.1, z32.2.2.2.2.2.2.2.2.2.2.1, z32.2.2.2.2.2.2.2.2.2.2.2.1, z32.2.2.2.2.2.2.2.2.2.2.2.2.1, z32.2.2.2.2.2.2.2.2.2.2.2.2.2) hf nzi hP hS dX11_mark_53
  · have hf := it_f c9 hf
    refine lv_aload_n hx hb dX11_mark_12 rfl (lv_at hl 0 rfl) ?_
    refine lv_bipush (v := 7) hx hb dX11_mark_13 rfl ?_
    obtain ⟨z15, hz15, hf⟩ := bind_s hf
    refine xV_iu hx hb hml hown htg L11_137 (c_X11_refused l E a0 hz15 _) ⟨⟨rfl, rfl⟩, Nat.le_of_ble_eq_true rfl, Nat.le_of_ble_eq_true rfl⟩ hK hG hA hP hD hS (is := [0]) (sel := [some 0, none, none, none, none, none, none, none, none, none, none, none, none, none, none, none, none, none, none, none, none, none, none, none, none, none, none, none, none, none, none, none, none, none, none, none, none, none, none, none, none, none, none, none, none, none, none, none, none, none, none, none, none, none, none, none, none, none]) (ws2 := [(a0, o11 z15.2 J0_15 J0_16 u0_0 u0_1 u0_2 u0_3 u0_4 u0_5 u0_6 u0_7 u0_8 a1 a3 u0_12 u0_13), (a1, ad E 3 (en [a2, a30, a44])), (a2, o3 T2 a5 a7 a9 a11 a13 a15 a17 a18), (a3, o3 T3 a4 a6 a8 a10 a12 a14 a16 a19), (a4, ai E 36 V4), (a5, ai E 36 V5), (a6, ai E 5 V6), (a7, ai E 5 V7), (a8, al E 5 V8), (a9, al E 5 V9), (a10, ai E 12 V10), (a11, ai E 12 V11), (a12, ai E 12 V12), (a13, ai E 12 V13), (a14, ai E 12 V14), (a15, ai E 12 V15), (a16, ai E 12 V16), (a17, ai E 12 V17), (a18, o0 T18 a21 a23 a25 a27 a29), (a19, o0 T19 a20 a22 a24 a26 a28), (a20, ai E 60 V20), (a21, ai E 60 V21), (a22, ai E 60 V22), (a23, ai E 60 V23), (a24, ai E 60 V24), (a25, ai E 60 V25), (a26, ai E 60 V26), (a27, ai E 60 V27), (a28, ai E 60 V28), (a29, ai E 60 V29), (a30, o3 T30 a31 a32 a33 a34 a35 a36 a37 a38), (a31, ai E 36 V31), (a32, ai E 5 V32), (a33, al E 5 V33), (a34, ai E 12 V34), (a35, ai E 12 V35), (a36, ai E 12 V36), (a37, ai E 12 V37), (a38, o0 T38 a39 a40 a41 a42 a43), (a39, ai E 60 V39), (a40, ai E 60 V40), (a41, ai E 60 V41), (a42, ai E 60 V42), (a43, ai E 60 V43), (a44, o3 T44 a45 a46 a47 a48 a49 a50 a51 a52), (a45, ai E 36 V45), (a46, ai E 5 V46), (a47, al E 5 V47), (a48, ai E 12 V48), (a49, ai E 12 V49), (a50, ai E 12 V50), (a51, ai E 12 V51), (a52, o0 T52 a53 a54 a55 a56 a57), (a53, ai E 60 V53), (a54, ai E 60 V54), (a55, ai E 60 V55), (a56, ai E 60 V56), (a57, ai E 60 V57)]) rfl rfl rfl rfl rfl (xrecv hK hP (q0 := 0) (ci := 11) rfl rfl) rfl hl.1 rfl (Nat.le_of_ble_eq_true rfl) dX11_mark_15 (fun H locs hP hD hS => ?_)
    exact ret (z15.1, z15.2, T2, V5, V7, V9, V11, V13, V15, V17, T18, V21, V23, V25, V27, V29, T30, V31, V32, V33, V34, V35, V36, V37, T38, V39, V40, V41, V42, V43, T44, V45, V46, V47, V48, V49, V50, V51, T52, V53, V54, V55, V56, V57) hf nzi hP hS dX11_mark_18
theorem dX11_back_0 : decode cX11_back 0 = .ok (.aload_n 0, 1) := by decide +kernel
theorem dX11_back_1 : decode cX11_back 1 = .ok (.getfield 385, 3) := by decide +kernel
theorem dX11_back_4 : decode cX11_back 4 = .ok (.ifCond .le 15, 3) := by decide +kernel
theorem dX11_back_7 : decode cX11_back 7 = .ok (.aload_n 0, 1) := by decide +kernel
theorem dX11_back_8 : decode cX11_back 8 = .ok (.getfield 385, 3) := by decide +kernel
theorem dX11_back_11 : decode cX11_back 11 = .ok (.aload_n 0, 1) := by decide +kernel
theorem dX11_back_12 : decode cX11_back 12 = .ok (.getfield 74, 3) := by decide +kernel
theorem dX11_back_15 : decode cX11_back 15 = .ok (.arraylength, 1) := by decide +kernel
theorem dX11_back_16 : decode cX11_back 16 = .ok (.if_icmp .le 10, 3) := by decide +kernel
theorem dX11_back_19 : decode cX11_back 19 = .ok (.aload_n 0, 1) := by decide +kernel
theorem dX11_back_20 : decode cX11_back 20 = .ok (.bipush 8, 2) := by decide +kernel
theorem dX11_back_22 : decode cX11_back 22 = .ok (.invokevirtual 137, 3) := by decide +kernel
theorem dX11_back_25 : decode cX11_back 25 = .ok (.ireturn, 1) := by decide +kernel
theorem dX11_back_26 : decode cX11_back 26 = .ok (.aload_n 0, 1) := by decide +kernel
theorem dX11_back_27 : decode cX11_back 27 = .ok (.dup, 1) := by decide +kernel
theorem dX11_back_28 : decode cX11_back 28 = .ok (.getfield 385, 3) := by decide +kernel
theorem dX11_back_31 : decode cX11_back 31 = .ok (.iconst 1, 1) := by decide +kernel
theorem dX11_back_32 : decode cX11_back 32 = .ok (.isub, 1) := by decide +kernel
theorem dX11_back_33 : decode cX11_back 33 = .ok (.putfield 385, 3) := by decide +kernel
theorem dX11_back_36 : decode cX11_back 36 = .ok (.aload_n 0, 1) := by decide +kernel
theorem dX11_back_37 : decode cX11_back 37 = .ok (.getfield 79, 3) := by decide +kernel
theorem dX11_back_40 : decode cX11_back 40 = .ok (.astore_n 1, 1) := by decide +kernel
theorem dX11_back_41 : decode cX11_back 41 = .ok (.aload_n 0, 1) := by decide +kernel
theorem dX11_back_42 : decode cX11_back 42 = .ok (.aload_n 0, 1) := by decide +kernel
theorem dX11_back_43 : decode cX11_back 43 = .ok (.getfield 74, 3) := by decide +kernel
theorem dX11_back_46 : decode cX11_back 46 = .ok (.aload_n 0, 1) := by decide +kernel
theorem dX11_back_47 : decode cX11_back 47 = .ok (.getfield 385, 3) := by decide +kernel
theorem dX11_back_50 : decode cX11_back 50 = .ok (.aaload, 1) := by decide +kernel
theorem dX11_back_51 : decode cX11_back 51 = .ok (.putfield 79, 3) := by decide +kernel
theorem dX11_back_54 : decode cX11_back 54 = .ok (.aload_n 0, 1) := by decide +kernel
theorem dX11_back_55 : decode cX11_back 55 = .ok (.getfield 74, 3) := by decide +kernel
theorem dX11_back_58 : decode cX11_back 58 = .ok (.aload_n 0, 1) := by decide +kernel
theorem dX11_back_59 : decode cX11_back 59 = .ok (.getfield 385, 3) := by decide +kernel
theorem dX11_back_62 : decode cX11_back 62 = .ok (.aload_n 1, 1) := by decide +kernel
theorem dX11_back_63 : decode cX11_back 63 = .ok (.aastore, 1) := by decide +kernel
theorem dX11_back_64 : decode cX11_back 64 = .ok (.aload_n 0, 1) := by decide +kernel
theorem dX11_back_65 : decode cX11_back 65 = .ok (.aload_n 0, 1) := by decide +kernel
theorem dX11_back_66 : decode cX11_back 66 = .ok (.getfield 385, 3) := by decide +kernel
theorem dX11_back_69 : decode cX11_back 69 = .ok (.invokevirtual 179, 3) := by decide +kernel
theorem dX11_back_72 : decode cX11_back 72 = .ok (.ireturn, 1) := by decide +kernel
set_option maxRecDepth 100000 in
theorem c_X11_back (l : Launch) (E : xE) (a0 a1 a2 a3 a4 a5 : Nat) {T0 : Nat → Int32} {J0_15 : Int64} {J0_16 : Int64} {T2 : Nat → Int32} {T3 : Nat → Int32} {T4 : Nat → Int32} {T5 : Nat → Int32} {u0_0 u0_1 u0_2 u0_3 u0_4 u0_5 u0_6 u0_7 u0_8 u0_12 u0_13 u2_7 u2_8 u2_9 u2_10 u2_11 u2_12 u2_13 u2_14 u3_7 u3_8 u3_9 u3_10 u3_11 u3_12 u3_13 u3_14 u4_7 u4_8 u4_9 u4_10 u4_11 u4_12 u4_13 u4_14 u5_7 u5_8 u5_9 u5_10 u5_11 u5_12 u5_13 u5_14 : Nat} {z : Int32 × (Nat → Int32) × Nat × Nat × Nat × Nat} (hf : f_X11_back T0 a2 a3 a4 a5 = some z) (sz : Nat) : Met l yX11_back (Cond.code yX11_back cX11_back 2 (some .int) :: gw) ({ frames := 1, cells := 0, slots := 0, locals := 21 }) (xPc E [.ref a0] [(a0, o11 T0 J0_15 J0_16 u0_0 u0_1 u0_2 u0_3 u0_4 u0_5 u0_6 u0_7 u0_8 a1 a2 u0_12 u0_13), (a1, ad E 3 (en [a3, a4, a5])), (a2, o3 T2 u2_7 u2_8 u2_9 u2_10 u2_11 u2_12 u2_13 u2_14), (a3, o3 T3 u3_7 u3_8 u3_9 u3_10 u3_11 u3_12 u3_13 u3_14), (a4, o3 T4 u4_7 u4_8 u4_9 u4_10 u4_11 u4_12 u4_13 u4_14), (a5, o3 T5 u5_7 u5_8 u5_9 u5_10 u5_11 u5_12 u5_13 u5_14)] sz) (xQi E z.1 [(a0, o11 T0 J0_15 J0_16 u0_0 u0_1 u0_2 u0_3 u0_4 u0_5 u0_6 u0_7 u0_8 a1 a2 u0_12 u0_13), (a1, ad E 3 (en [a3, a4, a5])), (a2, o3 T2 u2_7 u2_8 u2_9 u2_10 u2_11 u2_12 u2_13 u2_14), (a3, o3 T3 u3_7 u3_8 u3_9 u3_10 u3_11 u3_12 u3_13 u3_14), (a4, o3 T4 u4_7 u4_8 u4_9 u4_10 u4_11 u4_12 u4_13 u4_14), (a5, o3 T5 u5_7 u5_8 u5_9 u5_10 u5_11 u5_12 u5_13 u5_14)] [(a0, o11 z.2.1 J0_15 J0_16 u0_0 u0_1 u0_2 u0_3 u0_4 u0_5 u0_6 u0_7 u0_8 a1 z.2.2.1 u0_12 u0_13), (a1, ad E 3 (en [z.2.2.2.1, z.2.2.2.2.1, z.2.2.2.2.2])), (a2, o3 T2 u2_7 u2_8 u2_9 u2_10 u2_11 u2_12 u2_13 u2_14), (a3, o3 T3 u3_7 u3_8 u3_9 u3_10 u3_11 u3_12 u3_13 u3_14), (a4, o3 T4 u4_7 u4_8 u4_9 u4_10 u4_11 u4_12 u4_13 u4_14), (a5, o3 T5 u5_7 u5_8 u5_9 u5_10 u5_11 u5_12 u5_13 u5_14)] sz) 0 0 (va_A [(a0, o11 T0 J0_15 J0_16 u0_0 u0_1 u0_2 u0_3 u0_4 u0_5 u0_6 u0_7 u0_8 a1 a2 u0_12 u0_13), (a1, ad E 3 (en [a3, a4, a5])), (a2, o3 T2 u2_7 u2_8 u2_9 u2_10 u2_11 u2_12 u2_13 u2_14), (a3, o3 T3 u3_7 u3_8 u3_9 u3_10 u3_11 u3_12 u3_13 u3_14), (a4, o3 T4 u4_7 u4_8 u4_9 u4_10 u4_11 u4_12 u4_13 u4_14), (a5, o3 T5 u5_7 u5_8 u5_9 u5_10 u5_11 u5_12 u5_13 u5_14)] sz) := by
  refine xM_i (by decide +kernel) (Nat.le_of_ble_eq_true rfl) ?_
  intro p e s m args below meth c A Q hx hb hml hown htg hK hG hA ret0 H locs ls hP hD hS hl
  have ret : ∀ (z' : Int32 × (Nat → Int32) × Nat × Nat × Nat × Nat) {H : Heap} {locs : List Loc} {pc : Nat} {ls : Array Slot}, some z' = some z → narrow .int (.int z'.1) = .int z'.1 → va_P E.1 vwCl [(a0, o11 z'.2.1 J0_15 J0_16 u0_0 u0_1 u0_2 u0_3 u0_4 u0_5 u0_6 u0_7 u0_8 a1 z'.2.2.1 u0_12 u0_13), (a1, ad E 3 (en [z'.2.2.2.1, z'.2.2.2.2.1, z'.2.2.2.2.2])), (a2, o3 T2 u2_7 u2_8 u2_9 u2_10 u2_11 u2_12 u2_13 u2_14), (a3, o3 T3 u3_7 u3_8 u3_9 u3_10 u3_11 u3_12 u3_13 u3_14), (a4, o3 T4 u4_7 u4_8 u4_9 u4_10 u4_11 u4_12 u4_13 u4_14), (a5, o3 T5 u5_7 u5_8 u5_9 u5_10 u5_11 u5_12 u5_13 u5_14)] H → va_S A s.heap H locs → decode cX11_back pc = .ok (.ireturn, 1) → W p l e ({ frames := 1, cells := 0, slots := 0, locals := 21 } : Room) s m args below meth c H locs 0 0 Q (F0 m pc ls [.int z'.1]) := by
    intro z' H locs pc ls h
    cases h
    exact ret0
  replace hl : lv_has ls 2 [(0, .ref a0)] := hl
  have b19 : ∀ (T0 : Nat → Int32) (H : Heap) (locs : List Loc) (ls : Array Slot), f_X11_back_19 a2 a3 a4 a5 T0 = some z → va_P E.1 vwCl [(a0, o11 T0 J0_15 J0_16 u0_0 u0_1 u0_2 u0_3 u0_4 u0_5 u0_6 u0_7 u0_8 a1 a2 u0_12 u0_13), (a1, ad E 3 (en [a3, a4, a5])), (a2, o3 T2 u2_7 u2_8 u2_9 u2_10 u2_11 u2_12 u2_13 u2_14), (a3, o3 T3 u3_7 u3_8 u3_9 u3_10 u3_11 u3_12 u3_13 u3_14), (a4, o3 T4 u4_7 u4_8 u4_9 u4_10 u4_11 u4_12 u4_13 u4_14), (a5, o3 T5 u5_7 u5_8 u5_9 u5_10 u5_11 u5_12 u5_13 u5_14)] H → va_D A [(a0, o11 T0 J0_15 J0_16 u0_0 u0_1 u0_2 u0_3 u0_4 u0_5 u0_6 u0_7 u0_8 a1 a2 u0_12 u0_13), (a1, ad E 3 (en [a3, a4, a5])), (a2, o3 T2 u2_7 u2_8 u2_9 u2_10 u2_11 u2_12 u2_13 u2_14), (a3, o3 T3 u3_7 u3_8 u3_9 u3_10 u3_11 u3_12 u3_13 u3_14), (a4, o3 T4 u4_7 u4_8 u4_9 u4_10 u4_11 u4_12 u4_13 u4_14), (a5, o3 T5 u5_7 u5_8 u5_9 u5_10 u5_11 u5_12 u5_13 u5_14)] → va_S A s.heap H locs → lv_has ls 2 [(0, .ref a0)] → W p l e ({ frames := 1, cells := 0, slots := 0, locals := 21 } : Room) s m args below meth c H locs 0 0 Q (F0 m 19 ls []) := by
    intro T0 H locs ls hf hP hD hS hl
    unfold f_X11_back_19 at hf
    refine lv_aload_n hx hb dX11_back_19 rfl (lv_at hl 0 rfl) ?_
    refine lv_bipush (v := 8) hx hb dX11_back_20 rfl ?_
    obtain ⟨z22, hz22, hf⟩ := bind_s hf
    refine xV_iu hx hb hml hown htg L11_137 (c_X11_refused l E a0 hz22 _) ⟨⟨rfl, rfl⟩, Nat.le_of_ble_eq_true rfl, Nat.le_of_ble_eq_true rfl⟩ hK hG hA hP hD hS (is := [0]) (sel := [some 0, none, none, none, none, none]) (ws2 := [(a0, o11 z22.2 J0_15 J0_16 u0_0 u0_1 u0_2 u0_3 u0_4 u0_5 u0_6 u0_7 u0_8 a1 a2 u0_12 u0_13), (a1, ad E 3 (en [a3, a4, a5])), (a2, o3 T2 u2_7 u2_8 u2_9 u2_10 u2_11 u2_12 u2_13 u2_14), (a3, o3 T3 u3_7 u3_8 u3_9 u3_10 u3_11 u3_12 u3_13 u3_14), (a4, o3 T4 u4_7 u4_8 u4_9 u4_10 u4_11 u4_12 u4_13 u4_14), (a5, o3 T5 u5_7 u5_8 u5_9 u5_10 u5_11 u5_12 u5_13 u5_14)]) rfl rfl rfl rfl rfl (xrecv hK hP (q0 := 0) (ci := 11) rfl rfl) rfl hl.1 rfl (Nat.le_of_ble_eq_true rfl) dX11_back_22 (fun H locs hP hD hS => ?_)
    exact ret (z22.1, z22.2, a2, a3, a4, a5) hf nzi hP hS dX11_back_25
  unfold f_X11_back at hf
  refine lv_aload_n hx hb dX11_back_0 rfl (lv_at hl 0 rfl) ?_
  refine G11_385 hx hb htg hown hK hP 0 rfl dX11_back_1 ?_
  refine lv_if_le (tgt := 19) hx hb dX11_back_4 (by decide) (fun c4 => ?_) (fun c4 => ?_)
  · have hf := it_t c4 hf
    exact b19 T0 _ _ _ hf hP hD hS (lv_sub hl [0] rfl)
  · have hf := it_f c4 hf
    refine lv_aload_n hx hb dX11_back_7 rfl (lv_at hl 0 rfl) ?_
    refine G11_385 hx hb htg hown hK hP 0 rfl dX11_back_8 ?_
    refine lv_aload_n hx hb dX11_back_11 rfl (lv_at hl 0 rfl) ?_
    refine G11_74 hx hb htg hown hK hP 0 rfl dX11_back_12 ?_
    refine va_alen (v := 3) hx hb hK hP 1 3 rfl rfl rfl dX11_back_15 ?_
    refine lv_icmp_le (tgt := 26) hx hb dX11_back_16 (by decide) (fun c16 => ?_) (fun c16 => ?_)
    · have hf := it_t c16 hf
      refine lv_aload_n hx hb dX11_back_26 rfl (lv_at hl 0 rfl) ?_
      refine lv_dup hx hb dX11_back_27 rfl ?_
      refine G11_385 hx hb htg hown hK hP 0 rfl dX11_back_28 ?_
      refine lv_iconst (v := 1) hx hb dX11_back_31 rfl ?_
      refine lv_isub hx hb dX11_back_32 ?_
      refine P11_385 hx hb htg hown hK hP hD hS 0 rfl dX11_back_33 (fun H locs hP hD hS => ?_)
      refine lv_aload_n hx hb dX11_back_36 rfl (lv_at hl 0 rfl) ?_
      refine G11_79 hx hb htg hown hK hP 0 rfl dX11_back_37 ?_
      refine lv_astore_n (lv' := [(1, .ref a2), (0, .ref a0)]) hx hb dX11_back_40 rfl hl (by decide) rfl (fun ls hl => ?_)
      refine lv_aload_n hx hb dX11_back_41 rfl (lv_at hl 1 rfl) ?_
      refine lv_aload_n hx hb dX11_back_42 rfl (lv_at hl 1 rfl) ?_
      refine G11_74 hx hb htg hown hK hP 0 rfl dX11_back_43 ?_
      refine lv_aload_n hx hb dX11_back_46 rfl (lv_at hl 1 rfl) ?_
      refine G11_385 hx hb htg hown hK hP 0 rfl dX11_back_47 ?_
      obtain ⟨g50, hf⟩ := ck_s hf
      by_cases c50_0 : (upd T0 10 ((T0 10) - 1)) 10 = 0
      · have hf := it_t c50_0 hf
        refine xdld (v := a3) hx hb hK hP 1 rfl g50 (congrArg Int32.toNatClampNeg c50_0) rfl dX11_back_50 ?_
        refine P11_79 hx hb htg hown hK hP hD hS 0 rfl dX11_back_51 (fun H locs hP hD hS => ?_)
        refine lv_aload_n hx hb dX11_back_54 rfl (lv_at hl 1 rfl) ?_
        refine G11_74 hx hb htg hown hK hP 0 rfl dX11_back_55 ?_
        refine lv_aload_n hx hb dX11_back_58 rfl (lv_at hl 1 rfl) ?_
        refine G11_385 hx hb htg hown hK hP 0 rfl dX11_back_59 ?_
        refine lv_aload_n hx hb dX11_back_62 rfl (lv_at hl 0 rfl) ?_
        obtain ⟨g63, hf⟩ := ck_s hf
        refine xdst (k := 0) hx hb hK hP hD hS 1 2 rfl rfl g63 ((congrArg Int32.toNatClampNeg c50_0).trans (by decide)) (Nat.le_of_ble_eq_true rfl) dX11_back_63 (fun H locs hP hD hS => ?_)
        replace hP : va_P E.1 vwCl [(a0, o11 (upd T0 10 ((T0 10) - 1)) J0_15 J0_16 u0_0 u0_1 u0_2 u0_3 u0_4 u0_5 u0_6 u0_7 u0_8 a1 a3 u0_12 u0_13), (a1, ad E 3 (en [a2, a4, a5])), (a2, o3 T2 u2_7 u2_8 u2_9 u2_10 u2_11 u2_12 u2_13 u2_14), (a3, o3 T3 u3_7 u3_8 u3_9 u3_10 u3_11 u3_12 u3_13 u3_14), (a4, o3 T4 u4_7 u4_8 u4_9 u4_10 u4_11 u4_12 u4_13 u4_14), (a5, o3 T5 u5_7 u5_8 u5_9 u5_10 u5_11 u5_12 u5_13 u5_14)] H := hP
        replace hD : va_D A [(a0, o11 (upd T0 10 ((T0 10) - 1)) J0_15 J0_16 u0_0 u0_1 u0_2 u0_3 u0_4 u0_5 u0_6 u0_7 u0_8 a1 a3 u0_12 u0_13), (a1, ad E 3 (en [a2, a4, a5])), (a2, o3 T2 u2_7 u2_8 u2_9 u2_10 u2_11 u2_12 u2_13 u2_14), (a3, o3 T3 u3_7 u3_8 u3_9 u3_10 u3_11 u3_12 u3_13 u3_14), (a4, o3 T4 u4_7 u4_8 u4_9 u4_10 u4_11 u4_12 u4_13 u4_14), (a5, o3 T5 u5_7 u5_8 u5_9 u5_10 u5_11 u5_12 u5_13 u5_14)] := hD
        refine lv_aload_n hx hb dX11_back_64 rfl (lv_at hl 1 rfl) ?_
        refine lv_aload_n hx hb dX11_back_65 rfl (lv_at hl 1 rfl) ?_
        refine G11_385 hx hb htg hown hK hP 0 rfl dX11_back_66 ?_
        obtain ⟨z69, hz69, hf⟩ := bind_s hf
        refine xV_iu hx hb hml hown htg L11_179 (c_X11_answer l E a0 hz69 _) ⟨⟨rfl, rfl⟩, Nat.le_of_ble_eq_true rfl, Nat.le_of_ble_eq_true rfl⟩ hK hG hA hP hD hS (is := [0]) (sel := [some 0, none, none, none, none, none]) (ws2 := [(a0, o11 z69.2 J0_15 J0_16 u0_0 u0_1 u0_2 u0_3 u0_4 u0_5 u0_6 u0_7 u0_8 a1 a3 u0_12 u0_13), (a1, ad E 3 (en [a2, a4, a5])), (a2, o3 T2 u2_7 u2_8 u2_9 u2_10 u2_11 u2_12 u2_13 u2_14), (a3, o3 T3 u3_7 u3_8 u3_9 u3_10 u3_11 u3_12 u3_13 u3_14), (a4, o3 T4 u4_7 u4_8 u4_9 u4_10 u4_11 u4_12 u4_13 u4_14), (a5, o3 T5 u5_7 u5_8 u5_9 u5_10 u5_11 u5_12 u5_13 u5_14)]) rfl rfl rfl rfl rfl (xrecv hK hP (q0 := 0) (ci := 11) rfl rfl) rfl hl.1 rfl (Nat.le_of_ble_eq_true rfl) dX11_back_69 (fun H locs hP hD hS => ?_)
        exact ret (z69.1, z69.2, a3, a2, a4, a5) hf nzi hP hS dX11_back_72
      have hf := it_f c50_0 hf
      by_cases c50_1 : (upd T0 10 ((T0 10) - 1)) 10 = 1
      · have hf := it_t c50_1 hf
        refine xdld (v := a4) hx hb hK hP 1 rfl g50 (congrArg Int32.toNatClampNeg c50_1) rfl dX11_back_50 ?_
        refine P11_79 hx hb htg hown hK hP hD hS 0 rfl dX11_back_51 (fun H locs hP hD hS => ?_)
        refine lv_aload_n hx hb dX11_back_54 rfl (lv_at hl 1 rfl) ?_
        refine G11_74 hx hb htg hown hK hP 0 rfl dX11_back_55 ?_
        refine lv_aload_n hx hb dX11_back_58 rfl (lv_at hl 1 rfl) ?_
        refine G11_385 hx hb htg hown hK hP 0 rfl dX11_back_59 ?_
        refine lv_aload_n hx hb dX11_back_62 rfl (lv_at hl 0 rfl) ?_
        obtain ⟨g63, hf⟩ := ck_s hf
        refine xdst (k := 1) hx hb hK hP hD hS 1 2 rfl rfl g63 ((congrArg Int32.toNatClampNeg c50_1).trans (by decide)) (Nat.le_of_ble_eq_true rfl) dX11_back_63 (fun H locs hP hD hS => ?_)
        replace hP : va_P E.1 vwCl [(a0, o11 (upd T0 10 ((T0 10) - 1)) J0_15 J0_16 u0_0 u0_1 u0_2 u0_3 u0_4 u0_5 u0_6 u0_7 u0_8 a1 a4 u0_12 u0_13), (a1, ad E 3 (en [a3, a2, a5])), (a2, o3 T2 u2_7 u2_8 u2_9 u2_10 u2_11 u2_12 u2_13 u2_14), (a3, o3 T3 u3_7 u3_8 u3_9 u3_10 u3_11 u3_12 u3_13 u3_14), (a4, o3 T4 u4_7 u4_8 u4_9 u4_10 u4_11 u4_12 u4_13 u4_14), (a5, o3 T5 u5_7 u5_8 u5_9 u5_10 u5_11 u5_12 u5_13 u5_14)] H := hP
        replace hD : va_D A [(a0, o11 (upd T0 10 ((T0 10) - 1)) J0_15 J0_16 u0_0 u0_1 u0_2 u0_3 u0_4 u0_5 u0_6 u0_7 u0_8 a1 a4 u0_12 u0_13), (a1, ad E 3 (en [a3, a2, a5])), (a2, o3 T2 u2_7 u2_8 u2_9 u2_10 u2_11 u2_12 u2_13 u2_14), (a3, o3 T3 u3_7 u3_8 u3_9 u3_10 u3_11 u3_12 u3_13 u3_14), (a4, o3 T4 u4_7 u4_8 u4_9 u4_10 u4_11 u4_12 u4_13 u4_14), (a5, o3 T5 u5_7 u5_8 u5_9 u5_10 u5_11 u5_12 u5_13 u5_14)] := hD
        refine lv_aload_n hx hb dX11_back_64 rfl (lv_at hl 1 rfl) ?_
        refine lv_aload_n hx hb dX11_back_65 rfl (lv_at hl 1 rfl) ?_
        refine G11_385 hx hb htg hown hK hP 0 rfl dX11_back_66 ?_
        obtain ⟨z69, hz69, hf⟩ := bind_s hf
        refine xV_iu hx hb hml hown htg L11_179 (c_X11_answer l E a0 hz69 _) ⟨⟨rfl, rfl⟩, Nat.le_of_ble_eq_true rfl, Nat.le_of_ble_eq_true rfl⟩ hK hG hA hP hD hS (is := [0]) (sel := [some 0, none, none, none, none, none]) (ws2 := [(a0, o11 z69.2 J0_15 J0_16 u0_0 u0_1 u0_2 u0_3 u0_4 u0_5 u0_6 u0_7 u0_8 a1 a4 u0_12 u0_13), (a1, ad E 3 (en [a3, a2, a5])), (a2, o3 T2 u2_7 u2_8 u2_9 u2_10 u2_11 u2_12 u2_13 u2_14), (a3, o3 T3 u3_7 u3_8 u3_9 u3_10 u3_11 u3_12 u3_13 u3_14), (a4, o3 T4 u4_7 u4_8 u4_9 u4_10 u4_11 u4_12 u4_13 u4_14), (a5, o3 T5 u5_7 u5_8 u5_9 u5_10 u5_11 u5_12 u5_13 u5_14)]) rfl rfl rfl rfl rfl (xrecv hK hP (q0 := 0) (ci := 11) rfl rfl) rfl hl.1 rfl (Nat.le_of_ble_eq_true rfl) dX11_back_69 (fun H locs hP hD hS => ?_)
        exact ret (z69.1, z69.2, a4, a3, a2, a5) hf nzi hP hS dX11_back_72
      have hf := it_f c50_1 hf
      have e50 := gd_last3 g50 c50_0 c50_1
      refine xdld (v := a5) hx hb hK hP 1 rfl g50 (congrArg Int32.toNatClampNeg e50) rfl dX11_back_50 ?_
      refine P11_79 hx hb htg hown hK hP hD hS 0 rfl dX11_back_51 (fun H locs hP hD hS => ?_)
      refine lv_aload_n hx hb dX11_back_54 rfl (lv_at hl 1 rfl) ?_
      refine G11_74 hx hb htg hown hK hP 0 rfl dX11_back_55 ?_
      refine lv_aload_n hx hb dX11_back_58 rfl (lv_at hl 1 rfl) ?_
      refine G11_385 hx hb htg hown hK hP 0 rfl dX11_back_59 ?_
      refine lv_aload_n hx hb dX11_back_62 rfl (lv_at hl 0 rfl) ?_
      obtain ⟨g63, hf⟩ := ck_s hf
      refine xdst (k := 2) hx hb hK hP hD hS 1 2 rfl rfl g63 ((congrArg Int32.toNatClampNeg e50).trans (by decide)) (Nat.le_of_ble_eq_true rfl) dX11_back_63 (fun H locs hP hD hS => ?_)
      replace hP : va_P E.1 vwCl [(a0, o11 (upd T0 10 ((T0 10) - 1)) J0_15 J0_16 u0_0 u0_1 u0_2 u0_3 u0_4 u0_5 u0_6 u0_7 u0_8 a1 a5 u0_12 u0_13), (a1, ad E 3 (en [a3, a4, a2])), (a2, o3 T2 u2_7 u2_8 u2_9 u2_10 u2_11 u2_12 u2_13 u2_14), (a3, o3 T3 u3_7 u3_8 u3_9 u3_10 u3_11 u3_12 u3_13 u3_14), (a4, o3 T4 u4_7 u4_8 u4_9 u4_10 u4_11 u4_12 u4_13 u4_14), (a5, o3 T5 u5_7 u5_8 u5_9 u5_10 u5_11 u5_12 u5_13 u5_14)] H := hP
      replace hD : va_D A [(a0, o11 (upd T0 10 ((T0 10) - 1)) J0_15 J0_16 u0_0 u0_1 u0_2 u0_3 u0_4 u0_5 u0_6 u0_7 u0_8 a1 a5 u0_12 u0_13), (a1, ad E 3 (en [a3, a4, a2])), (a2, o3 T2 u2_7 u2_8 u2_9 u2_10 u2_11 u2_12 u2_13 u2_14), (a3, o3 T3 u3_7 u3_8 u3_9 u3_10 u3_11 u3_12 u3_13 u3_14), (a4, o3 T4 u4_7 u4_8 u4_9 u4_10 u4_11 u4_12 u4_13 u4_14), (a5, o3 T5 u5_7 u5_8 u5_9 u5_10 u5_11 u5_12 u5_13 u5_14)] := hD
      refine lv_aload_n hx hb dX11_back_64 rfl (lv_at hl 1 rfl) ?_
      refine lv_aload_n hx hb dX11_back_65 rfl (lv_at hl 1 rfl) ?_
      refine G11_385 hx hb htg hown hK hP 0 rfl dX11_back_66 ?_
      obtain ⟨z69, hz69, hf⟩ := bind_s hf
      refine xV_iu hx hb hml hown htg L11_179 (c_X11_answer l E a0 hz69 _) ⟨⟨rfl, rfl⟩, Nat.le_of_ble_eq_true rfl, Nat.le_of_ble_eq_true rfl⟩ hK hG hA hP hD hS (is := [0]) (sel := [some 0, none, none, none, none, none]) (ws2 := [(a0, o11 z69.2 J0_15 J0_16 u0_0 u0_1 u0_2 u0_3 u0_4 u0_5 u0_6 u0_7 u0_8 a1 a5 u0_12 u0_13), (a1, ad E 3 (en [a3, a4, a2])), (a2, o3 T2 u2_7 u2_8 u2_9 u2_10 u2_11 u2_12 u2_13 u2_14), (a3, o3 T3 u3_7 u3_8 u3_9 u3_10 u3_11 u3_12 u3_13 u3_14), (a4, o3 T4 u4_7 u4_8 u4_9 u4_10 u4_11 u4_12 u4_13 u4_14), (a5, o3 T5 u5_7 u5_8 u5_9 u5_10 u5_11 u5_12 u5_13 u5_14)]) rfl rfl rfl rfl rfl (xrecv hK hP (q0 := 0) (ci := 11) rfl rfl) rfl hl.1 rfl (Nat.le_of_ble_eq_true rfl) dX11_back_69 (fun H locs hP hD hS => ?_)
      exact ret (z69.1, z69.2, a5, a3, a4, a2) hf nzi hP hS dX11_back_72
    · have hf := it_f c16 hf
      exact b19 T0 _ _ _ hf hP hD hS (lv_sub hl [0] rfl)
