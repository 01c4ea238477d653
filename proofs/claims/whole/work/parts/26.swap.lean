theorem dX4_takeRow_0 : decode cX4_takeRow 0 = .ok (.aload_n 0, 1) := by decide +kernel
theorem dX4_takeRow_1 : decode cX4_takeRow 1 = .ok (.getfield 20, 3) := by decide +kernel
theorem dX4_takeRow_4 : decode cX4_takeRow 4 = .ok (.ifCond .ne 10, 3) := by decide +kernel
theorem dX4_takeRow_7 : decode cX4_takeRow 7 = .ok (.aload_n 2, 1) := by decide +kernel
theorem dX4_takeRow_8 : decode cX4_takeRow 8 = .ok (.getfield 63, 3) := by decide +kernel
theorem dX4_takeRow_11 : decode cX4_takeRow 11 = .ok (.ifCond .le 9, 3) := by decide +kernel
theorem dX4_takeRow_14 : decode cX4_takeRow 14 = .ok (.aload_n 1, 1) := by decide +kernel
theorem dX4_takeRow_15 : decode cX4_takeRow 15 = .ok (.iconst 5, 1) := by decide +kernel
theorem dX4_takeRow_16 : decode cX4_takeRow 16 = .ok (.invokevirtual 60, 3) := by decide +kernel
theorem dX4_takeRow_19 : decode cX4_takeRow 19 = .ok (.ireturn, 1) := by decide +kernel
theorem dX4_takeRow_20 : decode cX4_takeRow 20 = .ok (.aload_n 2, 1) := by decide +kernel
theorem dX4_takeRow_21 : decode cX4_takeRow 21 = .ok (.getfield 67, 3) := by decide +kernel
theorem dX4_takeRow_24 : decode cX4_takeRow 24 = .ok (.bipush 6, 2) := by decide +kernel
theorem dX4_takeRow_26 : decode cX4_takeRow 26 = .ok (.if_icmp .lt 10, 3) := by decide +kernel
theorem dX4_takeRow_29 : decode cX4_takeRow 29 = .ok (.aload_n 1, 1) := by decide +kernel
theorem dX4_takeRow_30 : decode cX4_takeRow 30 = .ok (.bipush 6, 2) := by decide +kernel
theorem dX4_takeRow_32 : decode cX4_takeRow 32 = .ok (.invokevirtual 60, 3) := by decide +kernel
theorem dX4_takeRow_35 : decode cX4_takeRow 35 = .ok (.ireturn, 1) := by decide +kernel
theorem dX4_takeRow_36 : decode cX4_takeRow 36 = .ok (.aload_n 1, 1) := by decide +kernel
theorem dX4_takeRow_37 : decode cX4_takeRow 37 = .ok (.invokevirtual 70, 3) := by decide +kernel
theorem dX4_takeRow_40 : decode cX4_takeRow 40 = .ok (.aload_n 1, 1) := by decide +kernel
theorem dX4_takeRow_41 : decode cX4_takeRow 41 = .ok (.invokevirtual 73, 3) := by decide +kernel
theorem dX4_takeRow_44 : decode cX4_takeRow 44 = .ok (.ifCond .ne 9, 3) := by decide +kernel
theorem dX4_takeRow_47 : decode cX4_takeRow 47 = .ok (.aload_n 1, 1) := by decide +kernel
theorem dX4_takeRow_48 : decode cX4_takeRow 48 = .ok (.iconst 2, 1) := by decide +kernel
theorem dX4_takeRow_49 : decode cX4_takeRow 49 = .ok (.invokevirtual 60, 3) := by decide +kernel
theorem dX4_takeRow_52 : decode cX4_takeRow 52 = .ok (.ireturn, 1) := by decide +kernel
theorem dX4_takeRow_53 : decode cX4_takeRow 53 = .ok (.aload_n 1, 1) := by decide +kernel
theorem dX4_takeRow_54 : decode cX4_takeRow 54 = .ok (.invokevirtual 76, 3) := by decide +kernel
theorem dX4_takeRow_57 : decode cX4_takeRow 57 = .ok (.istore_n 3, 1) := by decide +kernel
theorem dX4_takeRow_58 : decode cX4_takeRow 58 = .ok (.iload_n 3, 1) := by decide +kernel
theorem dX4_takeRow_59 : decode cX4_takeRow 59 = .ok (.bipush 6, 2) := by decide +kernel
theorem dX4_takeRow_61 : decode cX4_takeRow 61 = .ok (.if_icmp .gt 18, 3) := by decide +kernel
theorem dX4_takeRow_64 : decode cX4_takeRow 64 = .ok (.aload_n 2, 1) := by decide +kernel
theorem dX4_takeRow_65 : decode cX4_takeRow 65 = .ok (.getfield 67, 3) := by decide +kernel
theorem dX4_takeRow_68 : decode cX4_takeRow 68 = .ok (.ifCond .le 17, 3) := by decide +kernel
theorem dX4_takeRow_71 : decode cX4_takeRow 71 = .ok (.iload_n 3, 1) := by decide +kernel
theorem dX4_takeRow_72 : decode cX4_takeRow 72 = .ok (.aload_n 2, 1) := by decide +kernel
theorem dX4_takeRow_73 : decode cX4_takeRow 73 = .ok (.getfield 79, 3) := by decide +kernel
theorem dX4_takeRow_76 : decode cX4_takeRow 76 = .ok (.if_icmp .eq 9, 3) := by decide +kernel
theorem dX4_takeRow_79 : decode cX4_takeRow 79 = .ok (.aload_n 1, 1) := by decide +kernel
theorem dX4_takeRow_80 : decode cX4_takeRow 80 = .ok (.iconst 4, 1) := by decide +kernel
theorem dX4_takeRow_81 : decode cX4_takeRow 81 = .ok (.invokevirtual 60, 3) := by decide +kernel
theorem dX4_takeRow_84 : decode cX4_takeRow 84 = .ok (.ireturn, 1) := by decide +kernel
theorem dX4_takeRow_85 : decode cX4_takeRow 85 = .ok (.iconst 0, 1) := by decide +kernel
theorem dX4_takeRow_86 : decode cX4_takeRow 86 = .ok (.istore 4, 2) := by decide +kernel
theorem dX4_takeRow_88 : decode cX4_takeRow 88 = .ok (.iload 4, 2) := by decide +kernel
theorem dX4_takeRow_90 : decode cX4_takeRow 90 = .ok (.iload_n 3, 1) := by decide +kernel
theorem dX4_takeRow_91 : decode cX4_takeRow 91 = .ok (.if_icmp .ge 53, 3) := by decide +kernel
theorem dX4_takeRow_94 : decode cX4_takeRow 94 = .ok (.ldc 82, 2) := by decide +kernel
theorem dX4_takeRow_96 : decode cX4_takeRow 96 = .ok (.aload_n 1, 1) := by decide +kernel
theorem dX4_takeRow_97 : decode cX4_takeRow 97 = .ok (.iload 4, 2) := by decide +kernel
theorem dX4_takeRow_99 : decode cX4_takeRow 99 = .ok (.invokevirtual 84, 3) := by decide +kernel
theorem dX4_takeRow_102 : decode cX4_takeRow 102 = .ok (.i2c, 1) := by decide +kernel
theorem dX4_takeRow_103 : decode cX4_takeRow 103 = .ok (.invokevirtual 88, 3) := by decide +kernel
theorem dX4_takeRow_106 : decode cX4_takeRow 106 = .ok (.istore 5, 2) := by decide +kernel
theorem dX4_takeRow_108 : decode cX4_takeRow 108 = .ok (.iload 5, 2) := by decide +kernel
theorem dX4_takeRow_110 : decode cX4_takeRow 110 = .ok (.invokestatic 93, 3) := by decide +kernel
theorem dX4_takeRow_113 : decode cX4_takeRow 113 = .ok (.ifCond .ne 9, 3) := by decide +kernel
theorem dX4_takeRow_116 : decode cX4_takeRow 116 = .ok (.aload_n 1, 1) := by decide +kernel
theorem dX4_takeRow_117 : decode cX4_takeRow 117 = .ok (.iconst 4, 1) := by decide +kernel
theorem dX4_takeRow_118 : decode cX4_takeRow 118 = .ok (.invokevirtual 60, 3) := by decide +kernel
theorem dX4_takeRow_121 : decode cX4_takeRow 121 = .ok (.ireturn, 1) := by decide +kernel
theorem dX4_takeRow_122 : decode cX4_takeRow 122 = .ok (.aload_n 2, 1) := by decide +kernel
theorem dX4_takeRow_123 : decode cX4_takeRow 123 = .ok (.getfield 96, 3) := by decide +kernel
theorem dX4_takeRow_126 : decode cX4_takeRow 126 = .ok (.aload_n 2, 1) := by decide +kernel
theorem dX4_takeRow_127 : decode cX4_takeRow 127 = .ok (.getfield 67, 3) := by decide +kernel
theorem dX4_takeRow_130 : decode cX4_takeRow 130 = .ok (.iload_n 3, 1) := by decide +kernel
theorem dX4_takeRow_131 : decode cX4_takeRow 131 = .ok (.imul, 1) := by decide +kernel
theorem dX4_takeRow_132 : decode cX4_takeRow 132 = .ok (.iload 4, 2) := by decide +kernel
theorem dX4_takeRow_134 : decode cX4_takeRow 134 = .ok (.iadd, 1) := by decide +kernel
theorem dX4_takeRow_135 : decode cX4_takeRow 135 = .ok (.iload 5, 2) := by decide +kernel
theorem dX4_takeRow_137 : decode cX4_takeRow 137 = .ok (.iastore, 1) := by decide +kernel
theorem dX4_takeRow_138 : decode cX4_takeRow 138 = .ok (.iinc 4 1, 3) := by decide +kernel
theorem dX4_takeRow_141 : decode cX4_takeRow 141 = .ok (.goto (-53), 3) := by decide +kernel
theorem dX4_takeRow_144 : decode cX4_takeRow 144 = .ok (.aload_n 2, 1) := by decide +kernel
theorem dX4_takeRow_145 : decode cX4_takeRow 145 = .ok (.iload_n 3, 1) := by decide +kernel
theorem dX4_takeRow_146 : decode cX4_takeRow 146 = .ok (.putfield 79, 3) := by decide +kernel
theorem dX4_takeRow_149 : decode cX4_takeRow 149 = .ok (.aload_n 2, 1) := by decide +kernel
theorem dX4_takeRow_150 : decode cX4_takeRow 150 = .ok (.dup, 1) := by decide +kernel
theorem dX4_takeRow_151 : decode cX4_takeRow 151 = .ok (.getfield 67, 3) := by decide +kernel
theorem dX4_takeRow_154 : decode cX4_takeRow 154 = .ok (.iconst 1, 1) := by decide +kernel
theorem dX4_takeRow_155 : decode cX4_takeRow 155 = .ok (.iadd, 1) := by decide +kernel
theorem dX4_takeRow_156 : decode cX4_takeRow 156 = .ok (.putfield 67, 3) := by decide +kernel
theorem dX4_takeRow_159 : decode cX4_takeRow 159 = .ok (.aload_n 1, 1) := by decide +kernel
theorem dX4_takeRow_160 : decode cX4_takeRow 160 = .ok (.invokevirtual 70, 3) := by decide +kernel
theorem dX4_takeRow_163 : decode cX4_takeRow 163 = .ok (.iconst 1, 1) := by decide +kernel
theorem dX4_takeRow_164 : decode cX4_takeRow 164 = .ok (.ireturn, 1) := by decide +kernel
set_option maxRecDepth 100000 in
theorem c_X4_takeRow (l : Launch) (E : xE) (a0 a1 a2 a3 a4 a5 : Nat) {T0 : Nat → Int32} {T1 : Nat → Int32} {J1_8 : Int64} {T2 : Nat → Int32} {V3 : Nat → Int32} {V4 : Nat → Int64} {V5 : Nat → Int32} {u2_8 u2_9 u2_10 u2_11 u2_12 u2_13 u2_14 : Nat} {z : Int32 × (Nat → Int32) × Int64 × (Nat → Int32) × (Nat → Int32)} (hf : f_X4_takeRow T0 T1 J1_8 T2 V3 V4 V5 = some z) (sz : Nat) : Met l yX4_takeRow (Cond.code yX4_takeRow cX4_takeRow 6 (some .boolean) :: gw) ({ frames := 4, cells := 0, slots := 0, locals := 106 }) (xPc E [.ref a0, .ref a1, .ref a2] [(a0, o4 T0), (a1, o8 T1 J1_8 a3 a4), (a2, o3 T2 a5 u2_8 u2_9 u2_10 u2_11 u2_12 u2_13 u2_14), (a3, ab E 900 V3), (a4, al E 23 V4), (a5, ai E 36 V5)] sz) (xQi E z.1 [(a0, o4 T0), (a1, o8 T1 J1_8 a3 a4), (a2, o3 T2 a5 u2_8 u2_9 u2_10 u2_11 u2_12 u2_13 u2_14), (a3, ab E 900 V3), (a4, al E 23 V4), (a5, ai E 36 V5)] [(a0, o4 T0), (a1, o8 z.2.1 z.2.2.1 a3 a4), (a2, o3 z.2.2.2.1 a5 u2_8 u2_9 u2_10 u2_11 u2_12 u2_13 u2_14), (a3, ab E 900 V3), (a4, al E 23 V4), (a5, ai E 36 z.2.2.2.2)] sz) 0 0 (va_A [(a0, o4 T0), (a1, o8 T1 J1_8 a3 a4), (a2, o3 T2 a5 u2_8 u2_9 u2_10 u2_11 u2_12 u2_13 u2_14), (a3, ab E 900 V3), (a4, al E 23 V4), (a5, ai E 36 V5)] sz) := by
  refine xM_i (by decide +kernel) (Nat.le_of_ble_eq_true rfl) ?_
  intro p e s m args below meth c A Q hx hb hml hown htg hK hG hA ret0 H locs ls hP hD hS hl
  have ret : ∀ (z' : Int32 × (Nat → Int32) × Int64 × (Nat → Int32) × (Nat → Int32)) {H : Heap} {locs : List Loc} {pc : Nat} {ls : Array Slot}, some z' = some z → narrow .boolean (.int z'.1) = .int z'.1 → va_P E.1 vwCl [(a0, o4 T0), (a1, o8 z'.2.1 z'.2.2.1 a3 a4), (a2, o3 z'.2.2.2.1 a5 u2_8 u2_9 u2_10 u2_11 u2_12 u2_13 u2_14), (a3, ab E 900 V3), (a4, al E 23 V4), (a5, ai E 36 z'.2.2.2.2)] H → va_S A s.heap H locs → decode cX4_takeRow pc = .ok (.ireturn, 1) → W p l e ({ frames := 4, cells := 0, slots := 0, locals := 106 } : Room) s m args below meth c H locs 0 0 Q (F0 m pc ls [.int z'.1]) := by
    intro z' H locs pc ls h
    cases h
    exact ret0
  replace hl : lv_has ls 6 [(0, .ref a0), (1, .ref a1), (2, .ref a2)] := hl
  have b14 : ∀ (T1 : Nat → Int32) (J1_8 : Int64) (T2 : Nat → Int32) (V5 : Nat → Int32) (H : Heap) (locs : List Loc) (ls : Array Slot), f_X4_takeRow_14 T0 V3 V4 T1 J1_8 T2 V5 = some z → va_P E.1 vwCl [(a0, o4 T0), (a1, o8 T1 J1_8 a3 a4), (a2, o3 T2 a5 u2_8 u2_9 u2_10 u2_11 u2_12 u2_13 u2_14), (a3, ab E 900 V3), (a4, al E 23 V4), (a5, ai E 36 V5)] H → va_D A [(a0, o4 T0), (a1, o8 T1 J1_8 a3 a4), (a2, o3 T2 a5 u2_8 u2_9 u2_10 u2_11 u2_12 u2_13 u2_14), (a3, ab E 900 V3), (a4, al E 23 V4), (a5, ai E 36 V5)] → va_S A s.heap H locs → lv_has ls 6 [(1, .ref a1)] → W p l e ({ frames := 4, cells := 0, slots := 0, locals := 106 } : Room) s m args below meth c H locs 0 0 Q (F0 m 14 ls []) := by
    intro T1 J1_8 T2 V5 H locs ls hf hP hD hS hl
    unfold f_X4_takeRow_14 at hf
    refine lv_aload_n hx hb dX4_takeRow_14 rfl (lv_at hl 0 rfl) ?_
    refine lv_iconst (v := 5) hx hb dX4_takeRow_15 rfl ?_
    obtain ⟨z16, hz16, hf⟩ := bind_s hf
    refine xV_iu hx hb hml hown htg L4_60 (c_X8_blame l E a1 hz16 _) ⟨⟨rfl, rfl⟩, Nat.le_of_ble_eq_true rfl, Nat.le_of_ble_eq_true rfl⟩ hK hG hA hP hD hS (is := [1]) (sel := [none, some 0, none, none, none, none]) (ws2 := [(a0, o4 T0), (a1, o8 z16.2 J1_8 a3 a4), (a2, o3 T2 a5 u2_8 u2_9 u2_10 u2_11 u2_12 u2_13 u2_14), (a3, ab E 900 V3), (a4, al E 23 V4), (a5, ai E 36 V5)]) rfl rfl rfl rfl rfl (xrecv hK hP (q0 := 1) (ci := 8) rfl rfl) rfl hl.1 rfl (Nat.le_of_ble_eq_true rfl) dX4_takeRow_16 (fun H locs hP hD hS => ?_)
    obtain ⟨g19, hf⟩ := ck_s hf
    exact ret (z16.1, z16.2, J1_8, T2, V5) hf (bz_n g19).1 hP hS dX4_takeRow_19
  have b79 : ∀ (T1 : Nat → Int32) (J1_8 : Int64) (T2 : Nat → Int32) (V5 : Nat → Int32) (H : Heap) (locs : List Loc) (ls : Array Slot), f_X4_takeRow_79 T0 V3 V4 T1 J1_8 T2 V5 = some z → va_P E.1 vwCl [(a0, o4 T0), (a1, o8 T1 J1_8 a3 a4), (a2, o3 T2 a5 u2_8 u2_9 u2_10 u2_11 u2_12 u2_13 u2_14), (a3, ab E 900 V3), (a4, al E 23 V4), (a5, ai E 36 V5)] H → va_D A [(a0, o4 T0), (a1, o8 T1 J1_8 a3 a4), (a2, o3 T2 a5 u2_8 u2_9 u2_10 u2_11 u2_12 u2_13 u2_14), (a3, ab E 900 V3), (a4, al E 23 V4), (a5, ai E 36 V5)] → va_S A s.heap H locs → lv_has ls 6 [(1, .ref a1)] → W p l e ({ frames := 4, cells := 0, slots := 0, locals := 106 } : Room) s m args below meth c H locs 0 0 Q (F0 m 79 ls []) := by
    intro T1 J1_8 T2 V5 H locs ls hf hP hD hS hl
    unfold f_X4_takeRow_79 at hf
    refine lv_aload_n hx hb dX4_takeRow_79 rfl (lv_at hl 0 rfl) ?_
    refine lv_iconst (v := 4) hx hb dX4_takeRow_80 rfl ?_
    obtain ⟨z81, hz81, hf⟩ := bind_s hf
    refine xV_iu hx hb hml hown htg L4_60 (c_X8_blame l E a1 hz81 _) ⟨⟨rfl, rfl⟩, Nat.le_of_ble_eq_true rfl, Nat.le_of_ble_eq_true rfl⟩ hK hG hA hP hD hS (is := [1]) (sel := [none, some 0, none, none, none, none]) (ws2 := [(a0, o4 T0), (a1, o8 z81.2 J1_8 a3 a4), (a2, o3 T2 a5 u2_8 u2_9 u2_10 u2_11 u2_12 u2_13 u2_14), (a3, ab E 900 V3), (a4, al E 23 V4), (a5, ai E 36 V5)]) rfl rfl rfl rfl rfl (xrecv hK hP (q0 := 1) (ci := 8) rfl rfl) rfl hl.1 rfl (Nat.le_of_ble_eq_true rfl) dX4_takeRow_81 (fun H locs hP hD hS => ?_)
    obtain ⟨g84, hf⟩ := ck_s hf
    exact ret (z81.1, z81.2, J1_8, T2, V5) hf (bz_n g84).1 hP hS dX4_takeRow_84
  have b88 : ∀ (n : Nat) (x3 : Int32) (x4 : Int32) (T1 : Nat → Int32) (J1_8 : Int64) (T2 : Nat → Int32) (V5 : Nat → Int32) (H : Heap) (locs : List Loc) (ls : Array Slot), f_X4_takeRow_88 T0 V3 V4 n x3 x4 T1 J1_8 T2 V5 = some z → va_P E.1 vwCl [(a0, o4 T0), (a1, o8 T1 J1_8 a3 a4), (a2, o3 T2 a5 u2_8 u2_9 u2_10 u2_11 u2_12 u2_13 u2_14), (a3, ab E 900 V3), (a4, al E 23 V4), (a5, ai E 36 V5)] H → va_D A [(a0, o4 T0), (a1, o8 T1 J1_8 a3 a4), (a2, o3 T2 a5 u2_8 u2_9 u2_10 u2_11 u2_12 u2_13 u2_14), (a3, ab E 900 V3), (a4, al E 23 V4), (a5, ai E 36 V5)] → va_S A s.heap H locs → lv_has ls 6 [(1, .ref a1), (2, .ref a2), (3, .int x3), (4, .int x4)] → W p l e ({ frames := 4, cells := 0, slots := 0, locals := 106 } : Room) s m args below meth c H locs 0 0 Q (F0 m 88 ls []) := by
    intro n
    induction n with
    | zero => intro x3 x4 T1 J1_8 T2 V5 H locs ls hf; exact (nn_s hf).elim
    | succ n ih88 =>
      obtain ⟨k88, ek88⟩ : ∃ k, k = f_X4_takeRow_88 T0 V3 V4 n := ⟨_, rfl⟩
      rw [← ek88] at ih88
      intro x3 x4 T1 J1_8 T2 V5 H locs ls hf hP hD hS hl
      replace hf : g_X4_takeRow_88 T0 V3 V4 k88 x3 x4 T1 J1_8 T2 V5 = some z := by rw [ek88]; exact hf
      unfold g_X4_takeRow_88 at hf
      refine lv_iload hx hb dX4_takeRow_88 (lv_at hl 3 rfl) ?_
      refine lv_iload_n hx hb dX4_takeRow_90 rfl (lv_at hl 2 rfl) ?_
      refine lv_icmp_ge (tgt := 144) hx hb dX4_takeRow_91 (by decide) (fun c91 => ?_) (fun c91 => ?_)
      · have hf := it_t c91 hf
        refine lv_aload_n hx hb dX4_takeRow_144 rfl (lv_at hl 1 rfl) ?_
        refine lv_iload_n hx hb dX4_takeRow_145 rfl (lv_at hl 2 rfl) ?_
        refine P4_79 hx hb htg hown hK hP hD hS 2 rfl dX4_takeRow_146 (fun H locs hP hD hS => ?_)
        refine lv_aload_n hx hb dX4_takeRow_149 rfl (lv_at hl 1 rfl) ?_
        refine lv_dup hx hb dX4_takeRow_150 rfl ?_
        refine G4_67 hx hb htg hown hK hP 2 rfl dX4_takeRow_151 ?_
        refine lv_iconst (v := 1) hx hb dX4_takeRow_154 rfl ?_
        refine lv_iadd hx hb dX4_takeRow_155 ?_
        refine P4_67 hx hb htg hown hK hP hD hS 2 rfl dX4_takeRow_156 (fun H locs hP hD hS => ?_)
        refine lv_aload_n hx hb dX4_takeRow_159 rfl (lv_at hl 0 rfl) ?_
        obtain ⟨z160, hz160, hf⟩ := bind_s hf
        refine xV_vu hx hb hml hown htg L4_70 (c_X8_advance l E a1 a3 a4 hz160 _) ⟨⟨rfl, rfl⟩, Nat.le_of_ble_eq_true rfl, Nat.le_of_ble_eq_true rfl⟩ hK hG hA hP hD hS (is := [1, 3, 4]) (sel := [none, some 0, none, some 1, some 2, none]) (ws2 := [(a0, o4 T0), (a1, o8 z160.1 z160.2 a3 a4), (a2, o3 (upd (upd T2 1 x3) 0 (((upd T2 1 x3) 0) + 1)) a5 u2_8 u2_9 u2_10 u2_11 u2_12 u2_13 u2_14), (a3, ab E 900 V3), (a4, al E 23 V4), (a5, ai E 36 V5)]) rfl rfl rfl rfl rfl (xrecv hK hP (q0 := 1) (ci := 8) rfl rfl) rfl hl.1 rfl (Nat.le_of_ble_eq_true rfl) dX4_takeRow_160 (fun H locs hP hD hS => ?_)
        refine lv_iconst (v := 1) hx hb dX4_takeRow_163 rfl ?_
        exact ret (1, z160.1, z160.2, upd (upd T2 1 x3) 0 (((upd T2 1 x3) 0) + 1), V5) hf nz1 hP hS dX4_takeRow_164
      · have hf := it_f c91 hf
        refine va_ldcS hx hb hown hG.2.2.1 dX4_takeRow_94 ?_
        refine lv_aload_n hx hb dX4_takeRow_96 rfl (lv_at hl 0 rfl) ?_
        refine lv_iload hx hb dX4_takeRow_97 (lv_at hl 3 rfl) ?_
        obtain ⟨z99, hz99, hf⟩ := bind_s hf
        refine xV_ir hx hb hml hown htg L4_84 (c_X8_letter l E a1 a3 hz99 _) ⟨⟨rfl, rfl⟩, Nat.le_of_ble_eq_true rfl, Nat.le_of_ble_eq_true rfl⟩ hK hG hA hP hD hS (is := [1, 3]) rfl rfl (xrecv hK hP (q0 := 1) (ci := 8) rfl rfl) rfl hl.1 rfl (Nat.le_of_ble_eq_true rfl) dX4_takeRow_99 (fun H locs hP hD hS => ?_)
        refine lv_i2c hx hb dX4_takeRow_102 rfl ?_
        obtain ⟨z103, hz103, hf⟩ := bind_s hf
        refine xV_ir hx hb hml hown htg L4_88 (c_J0_indexOf_0f7a4_s1 l E hz103 _) ⟨⟨rfl, rfl⟩, Nat.le_of_ble_eq_true rfl, Nat.le_of_ble_eq_true rfl⟩ hK hG hA hP hD hS (is := []) rfl rfl (vk_recv hG.1.1 (i := 1) (by decide) hS) rfl hl.1 rfl (Nat.le_of_ble_eq_true rfl) dX4_takeRow_103 (fun H locs hP hD hS => ?_)
        refine lv_istore (lv' := [(5, .int z103), (1, .ref a1), (2, .ref a2), (3, .int x3), (4, .int x4)]) hx hb dX4_takeRow_106 hl (by decide) rfl (fun ls hl => ?_)
        refine lv_iload hx hb dX4_takeRow_108 (lv_at hl 0 rfl) ?_
        obtain ⟨z110, hz110, hf⟩ := bind_s hf
        refine xN_ir hx hb hml hown htg L4_93 14 rfl (c_X11_isKind l E hz110 _) ⟨⟨rfl, rfl⟩, Nat.le_of_ble_eq_true rfl, Nat.le_of_ble_eq_true rfl⟩ hK hG hA hP hD hS (is := []) rfl rfl rfl hl.1 rfl (Nat.le_of_ble_eq_true rfl) dX4_takeRow_110 (fun H locs hP hD hS => ?_)
        refine lv_if_ne (tgt := 122) hx hb dX4_takeRow_113 (by decide) (fun c113 => ?_) (fun c113 => ?_)
        · have hf := it_f c113 hf
          refine lv_aload_n hx hb dX4_takeRow_122 rfl (lv_at hl 2 rfl) ?_
          refine G4_96 hx hb htg hown hK hP 2 rfl dX4_takeRow_123 ?_
          refine lv_aload_n hx hb dX4_takeRow_126 rfl (lv_at hl 2 rfl) ?_
          refine G4_67 hx hb htg hown hK hP 2 rfl dX4_takeRow_127 ?_
          refine lv_iload_n hx hb dX4_takeRow_130 rfl (lv_at hl 3 rfl) ?_
          refine lv_imul hx hb dX4_takeRow_131 ?_
          refine lv_iload hx hb dX4_takeRow_132 (lv_at hl 4 rfl) ?_
          refine lv_iadd hx hb dX4_takeRow_134 ?_
          refine lv_iload hx hb dX4_takeRow_135 (lv_at hl 0 rfl) ?_
          obtain ⟨g137, hf⟩ := ck_s hf
          refine xiast hx hb hK hP hD hS 5 rfl g137 dX4_takeRow_137 (fun H locs hP hD hS => ?_)
          refine lv_iinc (v := x4 + 1) (lv' := [(4, .int (x4 + 1)), (5, .int z103), (1, .ref a1), (2, .ref a2), (3, .int x3)]) hx hb dX4_takeRow_138 hl (k := 4) rfl rfl (by decide) rfl (fun ls hl => ?_)
          refine lv_goto (tgt := 88) hx hb dX4_takeRow_141 (by decide) ?_
          exact ih88 x3 (x4 + 1) T1 J1_8 T2 (upd V5 (Int32.toNatClampNeg (((T2 0) * x3) + x4)) z103) _ _ _ hf hP hD hS (lv_sub hl [2, 3, 4, 0] rfl)
        · have hf := it_t c113 hf
          refine lv_aload_n hx hb dX4_takeRow_116 rfl (lv_at hl 1 rfl) ?_
          refine lv_iconst (v := 4) hx hb dX4_takeRow_117 rfl ?_
          obtain ⟨z118, hz118, hf⟩ := bind_s hf
          refine xV_iu hx hb hml hown htg L4_60 (c_X8_blame l E a1 hz118 _) ⟨⟨rfl, rfl⟩, Nat.le_of_ble_eq_true rfl, Nat.le_of_ble_eq_true rfl⟩ hK hG hA hP hD hS (is := [1]) (sel := [none, some 0, none, none, none, none]) (ws2 := [(a0, o4 T0), (a1, o8 z118.2 J1_8 a3 a4), (a2, o3 T2 a5 u2_8 u2_9 u2_10 u2_11 u2_12 u2_13 u2_14), (a3, ab E 900 V3), (a4, al E 23 V4), (a5, ai E 36 V5)]) rfl rfl rfl rfl rfl (xrecv hK hP (q0 := 1) (ci := 8) rfl rfl) rfl hl.1 rfl (Nat.le_of_ble_eq_true rfl) dX4_takeRow_118 (fun H locs hP hD hS => ?_)
          obtain ⟨g121, hf⟩ := ck_s hf
          exact ret (z118.1, z118.2, J1_8, T2, V5) hf (bz_n g121).1 hP hS dX4_takeRow_121
  have b85 : ∀ (x3 : Int32) (T1 : Nat → Int32) (J1_8 : Int64) (T2 : Nat → Int32) (V5 : Nat → Int32) (H : Heap) (locs : List Loc) (ls : Array Slot), f_X4_takeRow_85 T0 V3 V4 x3 T1 J1_8 T2 V5 = some z → va_P E.1 vwCl [(a0, o4 T0), (a1, o8 T1 J1_8 a3 a4), (a2, o3 T2 a5 u2_8 u2_9 u2_10 u2_11 u2_12 u2_13 u2_14), (a3, ab E 900 V3), (a4, al E 23 V4), (a5, ai E 36 V5)] H → va_D A [(a0, o4 T0), (a1, o8 T1 J1_8 a3 a4), (a2, o3 T2 a5 u2_8 u2_9 u2_10 u2_11 u2_12 u2_13 u2_14), (a3, ab E 900 V3), (a4, al E 23 V4), (a5, ai E 36 V5)] → va_S A s.heap H locs → lv_has ls 6 [(1, .ref a1), (2, .ref a2), (3, .int x3)] → W p l e ({ frames := 4, cells := 0, slots := 0, locals := 106 } : Room) s m args below meth c H locs 0 0 Q (F0 m 85 ls []) := by
    intro x3 T1 J1_8 T2 V5 H locs ls hf hP hD hS hl
    unfold f_X4_takeRow_85 at hf
    refine lv_iconst (v := 0) hx hb dX4_takeRow_85 rfl ?_
    refine lv_istore (lv' := [(4, .int 0), (1, .ref a1), (2, .ref a2), (3, .int x3)]) hx hb dX4_takeRow_86 hl (by decide) rfl (fun ls hl => ?_)
    exact b88 xF x3 0 T1 J1_8 T2 V5 _ _ _ hf hP hD hS (lv_sub hl [1, 2, 3, 0] rfl)
  unfold f_X4_takeRow at hf
  refine lv_aload_n hx hb dX4_takeRow_0 rfl (lv_at hl 0 rfl) ?_
  refine G4_20 hx hb htg hown hK hP 0 rfl dX4_takeRow_1 ?_
  refine lv_if_ne (tgt := 14) hx hb dX4_takeRow_4 (by decide) (fun c4 => ?_) (fun c4 => ?_)
  · have hf := it_f c4 hf
    exact b14 T1 J1_8 T2 V5 _ _ _ hf hP hD hS (lv_sub hl [1] rfl)
  · have hf := it_t c4 hf
    refine lv_aload_n hx hb dX4_takeRow_7 rfl (lv_at hl 2 rfl) ?_
    refine G4_63 hx hb htg hown hK hP 2 rfl dX4_takeRow_8 ?_
    refine lv_if_le (tgt := 20) hx hb dX4_takeRow_11 (by decide) (fun c11 => ?_) (fun c11 => ?_)
    · have hf := it_t c11 hf
      refine lv_aload_n hx hb dX4_takeRow_20 rfl (lv_at hl 2 rfl) ?_
      refine G4_67 hx hb htg hown hK hP 2 rfl dX4_takeRow_21 ?_
      refine lv_bipush (v := 6) hx hb dX4_takeRow_24 rfl ?_
      refine lv_icmp_lt (tgt := 36) hx hb dX4_takeRow_26 (by decide) (fun c26 => ?_) (fun c26 => ?_)
      · have hf := it_t c26 hf
        refine lv_aload_n hx hb dX4_takeRow_36 rfl (lv_at hl 1 rfl) ?_
        obtain ⟨z37, hz37, hf⟩ := bind_s hf
        refine xV_vu hx hb hml hown htg L4_70 (c_X8_advance l E a1 a3 a4 hz37 _) ⟨⟨rfl, rfl⟩, Nat.le_of_ble_eq_true rfl, Nat.le_of_ble_eq_true rfl⟩ hK hG hA hP hD hS (is := [1, 3, 4]) (sel := [none, some 0, none, some 1, some 2, none]) (ws2 := [(a0, o4 T0), (a1, o8 z37.1 z37.2 a3 a4), (a2, o3 T2 a5 u2_8 u2_9 u2_10 u2_11 u2_12 u2_13 u2_14), (a3, ab E 900 V3), (a4, al E 23 V4), (a5, ai E 36 V5)]) rfl rfl rfl rfl rfl (xrecv hK hP (q0 := 1) (ci := 8) rfl rfl) rfl hl.1 rfl (Nat.le_of_ble_eq_true rfl) dX4_takeRow_37 (fun H locs hP hD hS => ?_)
        refine lv_aload_n hx hb dX4_takeRow_40 rfl (lv_at hl 1 rfl) ?_
        obtain ⟨z41, hz41, hf⟩ := bind_s hf
        refine xV_ir hx hb hml hown htg L4_73 (c_X8_isAnyWord l E a1 hz41 _) ⟨⟨rfl, rfl⟩, Nat.le_of_ble_eq_true rfl, Nat.le_of_ble_eq_true rfl⟩ hK hG hA hP hD hS (is := [1]) rfl rfl (xrecv hK hP (q0 := 1) (ci := 8) rfl rfl) rfl hl.1 rfl (Nat.le_of_ble_eq_true rfl) dX4_takeRow_41 (fun H locs hP hD hS => ?_)
        refine lv_if_ne (tgt := 53) hx hb dX4_takeRow_44 (by decide) (fun c44 => ?_) (fun c44 => ?_)
        · have hf := it_f c44 hf
          refine lv_aload_n hx hb dX4_takeRow_53 rfl (lv_at hl 1 rfl) ?_
          obtain ⟨z54, hz54, hf⟩ := bind_s hf
          refine xV_ir hx hb hml hown htg L4_76 (c_X8_letters l E a1 hz54 _) ⟨⟨rfl, rfl⟩, Nat.le_of_ble_eq_true rfl, Nat.le_of_ble_eq_true rfl⟩ hK hG hA hP hD hS (is := [1]) rfl rfl (xrecv hK hP (q0 := 1) (ci := 8) rfl rfl) rfl hl.1 rfl (Nat.le_of_ble_eq_true rfl) dX4_takeRow_54 (fun H locs hP hD hS => ?_)
          refine lv_istore_n (lv' := [(3, .int z54), (0, .ref a0), (1, .ref a1), (2, .ref a2)]) hx hb dX4_takeRow_57 rfl hl (by decide) rfl (fun ls hl => ?_)
          refine lv_iload_n hx hb dX4_takeRow_58 rfl (lv_at hl 0 rfl) ?_
          refine lv_bipush (v := 6) hx hb dX4_takeRow_59 rfl ?_
          refine lv_icmp_gt (tgt := 79) hx hb dX4_takeRow_61 (by decide) (fun c61 => ?_) (fun c61 => ?_)
          · have hf := it_t c61 hf
            exact b79 z37.1 z37.2 T2 V5 _ _ _ hf hP hD hS (lv_sub hl [2] rfl)
          · have hf := it_f c61 hf
            refine lv_aload_n hx hb dX4_takeRow_64 rfl (lv_at hl 3 rfl) ?_
            refine G4_67 hx hb htg hown hK hP 2 rfl dX4_takeRow_65 ?_
            refine lv_if_le (tgt := 85) hx hb dX4_takeRow_68 (by decide) (fun c68 => ?_) (fun c68 => ?_)
            · have hf := it_t c68 hf
              exact b85 z54 z37.1 z37.2 T2 V5 _ _ _ hf hP hD hS (lv_sub hl [2, 3, 0] rfl)
            · have hf := it_f c68 hf
              refine lv_iload_n hx hb dX4_takeRow_71 rfl (lv_at hl 0 rfl) ?_
              refine lv_aload_n hx hb dX4_takeRow_72 rfl (lv_at hl 3 rfl) ?_
              refine G4_79 hx hb htg hown hK hP 2 rfl dX4_takeRow_73 ?_
              refine lv_icmp_eq (tgt := 85) hx hb dX4_takeRow_76 (by decide) (fun c76 => ?_) (fun c76 => ?_)
              · have hf := it_t c76 hf
                exact b85 z54 z37.1 z37.2 T2 V5 _ _ _ hf hP hD hS (lv_sub hl [2, 3, 0] rfl)
              · have hf := it_f c76 hf
                exact b79 z37.1 z37.2 T2 V5 _ _ _ hf hP hD hS (lv_sub hl [2] rfl)
        · have hf := it_t c44 hf
          refine lv_aload_n hx hb dX4_takeRow_47 rfl (lv_at hl 1 rfl) ?_
          refine lv_iconst (v := 2) hx hb dX4_takeRow_48 rfl ?_
          obtain ⟨z49, hz49, hf⟩ := bind_s hf
          refine xV_iu hx hb hml hown htg L4_60 (c_X8_blame l E a1 hz49 _) ⟨⟨rfl, rfl⟩, Nat.le_of_ble_eq_true rfl, Nat.le_of_ble_eq_true rfl⟩ hK hG hA hP hD hS (is := [1]) (sel := [none, some 0, none, none, none, none]) (ws2 := [(a0, o4 T0), (a1, o8 z49.2 z37.2 a3 a4), (a2, o3 T2 a5 u2_8 u2_9 u2_10 u2_11 u2_12 u2_13 u2_14), (a3, ab E 900 V3), (a4, al E 23 V4), (a5, ai E 36 V5)]) rfl rfl rfl rfl rfl (xrecv hK hP (q0 := 1) (ci := 8) rfl rfl) rfl hl.1 rfl (Nat.le_of_ble_eq_true rfl) dX4_takeRow_49 (fun H locs hP hD hS => ?_)
          obtain ⟨g52, hf⟩ := ck_s hf
          exact ret (z49.1, z49.2, z37.2, T2, V5) hf (bz_n g52).1 hP hS dX4_takeRow_52
      · have hf := it_f c26 hf
        refine lv_aload_n hx hb dX4_takeRow_29 rfl (lv_at hl 1 rfl) ?_
        refine lv_bipush (v := 6) hx hb dX4_takeRow_30 rfl ?_
        obtain ⟨z32, hz32, hf⟩ := bind_s hf
        refine xV_iu hx hb hml hown htg L4_60 (c_X8_blame l E a1 hz32 _) ⟨⟨rfl, rfl⟩, Nat.le_of_ble_eq_true rfl, Nat.le_of_ble_eq_true rfl⟩ hK hG hA hP hD hS (is := [1]) (sel := [none, some 0, none, none, none, none]) (ws2 := [(a0, o4 T0), (a1, o8 z32.2 J1_8 a3 a4), (a2, o3 T2 a5 u2_8 u2_9 u2_10 u2_11 u2_12 u2_13 u2_14), (a3, ab E 900 V3), (a4, al E 23 V4), (a5, ai E 36 V5)]) rfl rfl rfl rfl rfl (xrecv hK hP (q0 := 1) (ci := 8) rfl rfl) rfl hl.1 rfl (Nat.le_of_ble_eq_true rfl) dX4_takeRow_32 (fun H locs hP hD hS => ?_)
        obtain ⟨g35, hf⟩ := ck_s hf
        exact ret (z32.1, z32.2, J1_8, T2, V5) hf (bz_n g35).1 hP hS dX4_takeRow_35
    · have hf := it_f c11 hf
      exact b14 T1 J1_8 T2 V5 _ _ _ hf hP hD hS (lv_sub hl [1] rfl)
theorem dX4_takePart_0 : decode cX4_takePart 0 = .ok (.aload_n 1, 1) := by decide +kernel
theorem dX4_takePart_1 : decode cX4_takePart 1 = .ok (.invokevirtual 37, 3) := by decide +kernel
theorem dX4_takePart_4 : decode cX4_takePart 4 = .ok (.tableswitch 164 0 6 #[44, 68, 92, 116, 164, 164, 140], 44) := by decide +kernel
theorem dX4_takePart_48 : decode cX4_takePart 48 = .ok (.aload_n 0, 1) := by decide +kernel
theorem dX4_takePart_49 : decode cX4_takePart 49 = .ok (.aload_n 1, 1) := by decide +kernel
theorem dX4_takePart_50 : decode cX4_takePart 50 = .ok (.aload_n 2, 1) := by decide +kernel
theorem dX4_takePart_51 : decode cX4_takePart 51 = .ok (.invokevirtual 41, 3) := by decide +kernel
theorem dX4_takePart_54 : decode cX4_takePart 54 = .ok (.ifCond .eq 16, 3) := by decide +kernel
theorem dX4_takePart_57 : decode cX4_takePart 57 = .ok (.aload_n 1, 1) := by decide +kernel
theorem dX4_takePart_58 : decode cX4_takePart 58 = .ok (.bipush 59, 2) := by decide +kernel
theorem dX4_takePart_60 : decode cX4_takePart 60 = .ok (.invokevirtual 44, 3) := by decide +kernel
theorem dX4_takePart_63 : decode cX4_takePart 63 = .ok (.ifCond .eq 7, 3) := by decide +kernel
theorem dX4_takePart_66 : decode cX4_takePart 66 = .ok (.iconst 1, 1) := by decide +kernel
theorem dX4_takePart_67 : decode cX4_takePart 67 = .ok (.goto 4, 3) := by decide +kernel
theorem dX4_takePart_70 : decode cX4_takePart 70 = .ok (.iconst 0, 1) := by decide +kernel
theorem dX4_takePart_71 : decode cX4_takePart 71 = .ok (.ireturn, 1) := by decide +kernel
theorem dX4_takePart_72 : decode cX4_takePart 72 = .ok (.aload_n 0, 1) := by decide +kernel
theorem dX4_takePart_73 : decode cX4_takePart 73 = .ok (.aload_n 1, 1) := by decide +kernel
theorem dX4_takePart_74 : decode cX4_takePart 74 = .ok (.aload_n 2, 1) := by decide +kernel
theorem dX4_takePart_75 : decode cX4_takePart 75 = .ok (.invokevirtual 48, 3) := by decide +kernel
theorem dX4_takePart_78 : decode cX4_takePart 78 = .ok (.ifCond .eq 16, 3) := by decide +kernel
theorem dX4_takePart_81 : decode cX4_takePart 81 = .ok (.aload_n 1, 1) := by decide +kernel
theorem dX4_takePart_82 : decode cX4_takePart 82 = .ok (.bipush 59, 2) := by decide +kernel
theorem dX4_takePart_84 : decode cX4_takePart 84 = .ok (.invokevirtual 44, 3) := by decide +kernel
theorem dX4_takePart_87 : decode cX4_takePart 87 = .ok (.ifCond .eq 7, 3) := by decide +kernel
theorem dX4_takePart_90 : decode cX4_takePart 90 = .ok (.iconst 1, 1) := by decide +kernel
theorem dX4_takePart_91 : decode cX4_takePart 91 = .ok (.goto 4, 3) := by decide +kernel
theorem dX4_takePart_94 : decode cX4_takePart 94 = .ok (.iconst 0, 1) := by decide +kernel
theorem dX4_takePart_95 : decode cX4_takePart 95 = .ok (.ireturn, 1) := by decide +kernel
theorem dX4_takePart_96 : decode cX4_takePart 96 = .ok (.aload_n 0, 1) := by decide +kernel
theorem dX4_takePart_97 : decode cX4_takePart 97 = .ok (.aload_n 1, 1) := by decide +kernel
theorem dX4_takePart_98 : decode cX4_takePart 98 = .ok (.aload_n 2, 1) := by decide +kernel
theorem dX4_takePart_99 : decode cX4_takePart 99 = .ok (.invokevirtual 51, 3) := by decide +kernel
theorem dX4_takePart_102 : decode cX4_takePart 102 = .ok (.ifCond .eq 16, 3) := by decide +kernel
theorem dX4_takePart_105 : decode cX4_takePart 105 = .ok (.aload_n 1, 1) := by decide +kernel
theorem dX4_takePart_106 : decode cX4_takePart 106 = .ok (.bipush 59, 2) := by decide +kernel
theorem dX4_takePart_108 : decode cX4_takePart 108 = .ok (.invokevirtual 44, 3) := by decide +kernel
theorem dX4_takePart_111 : decode cX4_takePart 111 = .ok (.ifCond .eq 7, 3) := by decide +kernel
theorem dX4_takePart_114 : decode cX4_takePart 114 = .ok (.iconst 1, 1) := by decide +kernel
theorem dX4_takePart_115 : decode cX4_takePart 115 = .ok (.goto 4, 3) := by decide +kernel
theorem dX4_takePart_118 : decode cX4_takePart 118 = .ok (.iconst 0, 1) := by decide +kernel
theorem dX4_takePart_119 : decode cX4_takePart 119 = .ok (.ireturn, 1) := by decide +kernel
theorem dX4_takePart_120 : decode cX4_takePart 120 = .ok (.aload_n 0, 1) := by decide +kernel
theorem dX4_takePart_121 : decode cX4_takePart 121 = .ok (.aload_n 1, 1) := by decide +kernel
theorem dX4_takePart_122 : decode cX4_takePart 122 = .ok (.aload_n 2, 1) := by decide +kernel
theorem dX4_takePart_123 : decode cX4_takePart 123 = .ok (.invokevirtual 54, 3) := by decide +kernel
theorem dX4_takePart_126 : decode cX4_takePart 126 = .ok (.ifCond .eq 16, 3) := by decide +kernel
theorem dX4_takePart_129 : decode cX4_takePart 129 = .ok (.aload_n 1, 1) := by decide +kernel
theorem dX4_takePart_130 : decode cX4_takePart 130 = .ok (.bipush 59, 2) := by decide +kernel
theorem dX4_takePart_132 : decode cX4_takePart 132 = .ok (.invokevirtual 44, 3) := by decide +kernel
theorem dX4_takePart_135 : decode cX4_takePart 135 = .ok (.ifCond .eq 7, 3) := by decide +kernel
theorem dX4_takePart_138 : decode cX4_takePart 138 = .ok (.iconst 1, 1) := by decide +kernel
theorem dX4_takePart_139 : decode cX4_takePart 139 = .ok (.goto 4, 3) := by decide +kernel
theorem dX4_takePart_142 : decode cX4_takePart 142 = .ok (.iconst 0, 1) := by decide +kernel
theorem dX4_takePart_143 : decode cX4_takePart 143 = .ok (.ireturn, 1) := by decide +kernel
theorem dX4_takePart_144 : decode cX4_takePart 144 = .ok (.aload_n 0, 1) := by decide +kernel
theorem dX4_takePart_145 : decode cX4_takePart 145 = .ok (.aload_n 1, 1) := by decide +kernel
theorem dX4_takePart_146 : decode cX4_takePart 146 = .ok (.aload_n 2, 1) := by decide +kernel
theorem dX4_takePart_147 : decode cX4_takePart 147 = .ok (.invokevirtual 57, 3) := by decide +kernel
theorem dX4_takePart_150 : decode cX4_takePart 150 = .ok (.ifCond .eq 16, 3) := by decide +kernel
theorem dX4_takePart_153 : decode cX4_takePart 153 = .ok (.aload_n 1, 1) := by decide +kernel
theorem dX4_takePart_154 : decode cX4_takePart 154 = .ok (.bipush 59, 2) := by decide +kernel
theorem dX4_takePart_156 : decode cX4_takePart 156 = .ok (.invokevirtual 44, 3) := by decide +kernel
theorem dX4_takePart_159 : decode cX4_takePart 159 = .ok (.ifCond .eq 7, 3) := by decide +kernel
theorem dX4_takePart_162 : decode cX4_takePart 162 = .ok (.iconst 1, 1) := by decide +kernel
theorem dX4_takePart_163 : decode cX4_takePart 163 = .ok (.goto 4, 3) := by decide +kernel
theorem dX4_takePart_166 : decode cX4_takePart 166 = .ok (.iconst 0, 1) := by decide +kernel
theorem dX4_takePart_167 : decode cX4_takePart 167 = .ok (.ireturn, 1) := by decide +kernel
theorem dX4_takePart_168 : decode cX4_takePart 168 = .ok (.aload_n 1, 1) := by decide +kernel
theorem dX4_takePart_169 : decode cX4_takePart 169 = .ok (.iconst 2, 1) := by decide +kernel
theorem dX4_takePart_170 : decode cX4_takePart 170 = .ok (.invokevirtual 60, 3) := by decide +kernel
theorem dX4_takePart_173 : decode cX4_takePart 173 = .ok (.ireturn, 1) := by decide +kernel
set_option maxRecDepth 100000 in
theorem c_X4_takePart (l : Launch) (E : xE) (a0 a1 a2 a3 a4 a5 a6 a7 a8 a9 a10 a11 : Nat) {T0 : Nat → Int32} {T1 : Nat → Int32} {J1_8 : Int64} {T2 : Nat → Int32} {V3 : Nat → Int32} {V4 : Nat → Int64} {V5 : Nat → Int32} {V6 : Nat → Int64} {V7 : Nat → Int32} {V8 : Nat → Int32} {V9 : Nat → Int32} {V10 : Nat → Int32} {V11 : Nat → Int32} {u2_14 : Nat} {z : Int32 × (Nat → Int32) × (Nat → Int32) × Int64 × (Nat → Int32) × (Nat → Int32) × (Nat → Int64) × (Nat → Int32) × (Nat → Int32) × (Nat → Int32) × (Nat → Int32) × (Nat → Int32)} (hf : f_X4_takePart T0 T1 J1_8 T2 V3 V4 V5 V6 V7 V8 V9 V10 V11 = some z) (sz : Nat) : Met l yX4_takePart (Cond.code yX4_takePart cX4_takePart 3 (some .boolean) :: gw) ({ frames := 5, cells := 0, slots := 0, locals := 131 }) (xPc E [.ref a0, .ref a1, .ref a2] [(a0, o4 T0), (a1, o8 T1 J1_8 a3 a4), (a2, o3 T2 a5 a7 a6 a9 a8 a10 a11 u2_14), (a3, ab E 900 V3), (a4, al E 23 V4), (a5, ai E 36 V5), (a6, al E 5 V6), (a7, ai E 5 V7), (a8, ai E 12 V8), (a9, ai E 12 V9), (a10, ai E 12 V10), (a11, ai E 12 V11)] sz) (xQi E z.1 [(a0, o4 T0), (a1, o8 T1 J1_8 a3 a4), (a2, o3 T2 a5 a7 a6 a9 a8 a10 a11 u2_14), (a3, ab E 900 V3), (a4, al E 23 V4), (a5, ai E 36 V5), (a6, al E 5 V6), (a7, ai E 5 V7), (a8, ai E 12 V8), (a9, ai E 12 V9), (a10, ai E 12 V10), (a11, ai E 12 V11)] [(a0, o4 z.2.1), (a1, o8 z.2.2.1 z.2.2.2.1 a3 a4), (a2, o3 z.2.2.2.2.1 a5 a7 a6 a9 a8 a10 a11 u2_14), (a3, ab E 900 V3), (a4, al E 23 V4), (a5, ai E 36 z.2.2.2.2.2.1), (a6, al E 5 z.2.2.2.2.2.2.1), (a7, ai E 5 z.2.2.2.2.2.2.2.1), (a8, ai E 12 z.2.2.2.2.2.2.2.2.1), (a9, ai E 12 z.2.2.2.2.2.2.2.2.2.1), (a10, ai E 12 z.2.2.2.2.2.2.2.2.2.2.1), (a11, ai E 12 z.2.2.2.2.2.2.2.2.2.2.2)] sz) 0 0 (va_A [(a0, o4 T0), (a1, o8 T1 J1_8 a3 a4), (a2, o3 T2 a5 a7 a6 a9 a8 a10 a11 u2_14), (a3, ab E 900 V3), (a4, al E 23 V4), (a5, ai E 36 V5), (a6, al E 5 V6), (a7, ai E 5 V7), (a8, ai E 12 V8), (a9, ai E 12 V9), (a10, ai E 12 V10), (a11, ai E 12 V11)] sz) := by
  refine xM_i (by decide +kernel) (Nat.le_of_ble_eq_true rfl) ?_
  intro p e s m args below meth c A Q hx hb hml hown htg hK hG hA ret0 H locs ls hP hD hS hl
  have ret : ∀ (z' : Int32 × (Nat → Int32) × (Nat → Int32) × Int64 × (Nat → Int32) × (Nat → Int32) × (Nat → Int64) × (Nat → Int32) × (Nat → Int32) × (Nat → Int32) × (Nat → Int32) × (Nat → Int32)) {H : Heap} {locs : List Loc} {pc : Nat} {ls : Array Slot}, some z' = some z → narrow .boolean (.int z'.1) = .int z'.1 → va_P E.1 vwCl [(a0, o4 z'.2.1), (a1, o8 z'.2.2.1 z'.2.2.2.1 a3 a4), (a2, o3 z'.2.2.2.2.1 a5 a7 a6 a9 a8 a10 a11 u2_14), (a3, ab E 900 V3), (a4, al E 23 V4), (a5, ai E 36 z'.2.2.2.2.2.1), (a6, al E 5 z'.2.2.2.2.2.2.1), (a7, ai E 5 z'.2.2.2.2.2.2.2.1), (a8, ai E 12 z'.2.2.2.2.2.2.2.2.1), (a9, ai E 12 z'.2.2.2.2.2.2.2.2.2.1), (a10, ai E 12 z'.2.2.2.2.2.2.2.2.2.2.1), (a11, ai E 12 z'.2.2.2.2.2.2.2.2.2.2.2)] H → va_S A s.heap H locs → decode cX4_takePart pc = .ok (.ireturn, 1) → W p l e ({ frames := 5, cells := 0, slots := 0, locals := 131 } : Room) s m args below meth c H locs 0 0 Q (F0 m pc ls [.int z'.1]) := by
    intro z' H locs pc ls h
    cases h
    exact ret0
  replace hl : lv_has ls 3 [(0, .ref a0), (1, .ref a1), (2, .ref a2)] := hl
  have b168 : ∀ (T0 : Nat → Int32) (T1 : Nat → Int32) (J1_8 : Int64) (T2 : Nat → Int32) (V5 : Nat → Int32) (V6 : Nat → Int64) (V7 : Nat → Int32) (V8 : Nat → Int32) (V9 : Nat → Int32) (V10 : Nat → Int32) (V11 : Nat → Int32) (H : Heap) (locs : List Loc) (ls : Array Slot), f_X4_takePart_168 V3 V4 T0 T1 J1_8 T2 V5 V6 V7 V8 V9 V10 V11 = some z → va_P E.1 vwCl [(a0, o4 T0), (a1, o8 T1 J1_8 a3 a4), (a2, o3 T2 a5 a7 a6 a9 a8 a10 a11 u2_14), (a3, ab E 900 V3), (a4, al E 23 V4), (a5, ai E 36 V5), (a6, al E 5 V6), (a7, ai E 5 V7), (a8, ai E 12 V8), (a9, ai E 12 V9), (a10, ai E 12 V10), (a11, ai E 12 V11)] H → va_D A [(a0, o4 T0), (a1, o8 T1 J1_8 a3 a4), (a2, o3 T2 a5 a7 a6 a9 a8 a10 a11 u2_14), (a3, ab E 900 V3), (a4, al E 23 V4), (a5, ai E 36 V5), (a6, al E 5 V6), (a7, ai E 5 V7), (a8, ai E 12 V8), (a9, ai E 12 V9), (a10, ai E 12 V10), (a11, ai E 12 V11)] → va_S A s.heap H locs → lv_has ls 3 [(1, .ref a1)] → W p l e ({ frames := 5, cells := 0, slots := 0, locals := 131 } : Room) s m args below meth c H locs 0 0 Q (F0 m 168 ls []) := by
    intro T0 T1 J1_8 T2 V5 V6 V7 V8 V9 V10 V11 H locs ls hf hP hD hS hl
    unfold f_X4_takePart_168 at hf
    refine lv_aload_n hx hb dX4_takePart_168 rfl (lv_at hl 0 rfl) ?_
    refine lv_iconst (v := 2) hx hb dX4_takePart_169 rfl ?_
    obtain ⟨z170, hz170, hf⟩ := bind_s hf
    refine xV_iu hx hb hml hown htg L4_60 (c_X8_blame l E a1 hz170 _) ⟨⟨rfl, rfl⟩, Nat.le_of_ble_eq_true rfl, Nat.le_of_ble_eq_true rfl⟩ hK hG hA hP hD hS (is := [1]) (sel := [none, some 0, none, none, none, none, none, none, none, none, none, none]) (ws2 := [(a0, o4 T0), (a1, o8 z170.2 J1_8 a3 a4), (a2, o3 T2 a5 a7 a6 a9 a8 a10 a11 u2_14), (a3, ab E 900 V3), (a4, al E 23 V4), (a5, ai E 36 V5), (a6, al E 5 V6), (a7, ai E 5 V7), (a8, ai E 12 V8), (a9, ai E 12 V9), (a10, ai E 12 V10), (a11, ai E 12 V11)]) rfl rfl rfl rfl rfl (xrecv hK hP (q0 := 1) (ci := 8) rfl rfl) rfl hl.1 rfl (Nat.le_of_ble_eq_true rfl) dX4_takePart_170 (fun H locs hP hD hS => ?_)
    obtain ⟨g173, hf⟩ := ck_s hf
    exact ret (z170.1, T0, z170.2, J1_8, T2, V5, V6, V7, V8, V9, V10, V11) hf (bz_n g173).1 hP hS dX4_takePart_173
  unfold f_X4_takePart at hf
  refine lv_aload_n hx hb dX4_takePart_0 rfl (lv_at hl 1 rfl) ?_
  obtain ⟨z1, hz1, hf⟩ := bind_s hf
  refine xV_ir hx hb hml hown htg L4_37 (c_X8_word l E a1 hz1 _) ⟨⟨rfl, rfl⟩, Nat.le_of_ble_eq_true rfl, Nat.le_of_ble_eq_true rfl⟩ hK hG hA hP hD hS (is := [1]) rfl rfl (xrecv hK hP (q0 := 1) (ci := 8) rfl rfl) rfl hl.1 rfl (Nat.le_of_ble_eq_true rfl) dX4_takePart_1 (fun H locs hP hD hS => ?_)
  by_cases c4_0 : z1 = 0
  · have hf := it_t c4_0 hf
    refine xtabI (off := 44) (tgt := 48) hx hb c4_0 dX4_takePart_4 rfl (by decide) ?_
    refine lv_aload_n hx hb dX4_takePart_48 rfl (lv_at hl 0 rfl) ?_
    refine lv_aload_n hx hb dX4_takePart_49 rfl (lv_at hl 1 rfl) ?_
    refine lv_aload_n hx hb dX4_takePart_50 rfl (lv_at hl 2 rfl) ?_
    obtain ⟨z51, hz51, hf⟩ := bind_s hf
    refine xV_iu hx hb hml hown htg L4_41 (c_X4_takeRow l E a0 a1 a2 a3 a4 a5 hz51 _) ⟨⟨rfl, rfl⟩, Nat.le_of_ble_eq_true rfl, Nat.le_of_ble_eq_true rfl⟩ hK hG hA hP hD hS (is := [0, 1, 2, 3, 4, 5]) (sel := [some 0, some 1, some 2, some 3, some 4, some 5, none, none, none, none, none, none]) (ws2 := [(a0, o4 T0), (a1, o8 z51.2.1 z51.2.2.1 a3 a4), (a2, o3 z51.2.2.2.1 a5 a7 a6 a9 a8 a10 a11 u2_14), (a3, ab E 900 V3), (a4, al E 23 V4), (a5, ai E 36 z51.2.2.2.2), (a6, al E 5 V6), (a7, ai E 5 V7), (a8, ai E 12 V8), (a9, ai E 12 V9), (a10, ai E 12 V10), (a11, ai E 12 V11)]) rfl rfl rfl rfl rfl (xrecv hK hP (q0 := 0) (ci := 4) rfl rfl) rfl hl.1 rfl (Nat.le_of_ble_eq_true rfl) dX4_takePart_51 (fun H locs hP hD hS => ?_)
    refine lv_if_eq (tgt := 70) hx hb dX4_takePart_54 (by decide) (fun c54 => ?_) (fun c54 => ?_)
    · have hf := it_t c54 hf
      refine lv_iconst (v := 0) hx hb dX4_takePart_70 rfl ?_
      exact ret (0, T0, z51.2.1, z51.2.2.1, z51.2.2.2.1, z51.2.2.2.2, V6, V7, V8, V9, V10, V11) hf nz0 hP hS dX4_takePart_71
    · have hf := it_f c54 hf
      refine lv_aload_n hx hb dX4_takePart_57 rfl (lv_at hl 1 rfl) ?_
      refine lv_bipush (v := 59) hx hb dX4_takePart_58 rfl ?_
      obtain ⟨z60, hz60, hf⟩ := bind_s hf
      refine xV_iu hx hb hml hown htg L4_44 (c_X8_passSign l E a1 a3 a4 hz60 _) ⟨⟨rfl, rfl⟩, Nat.le_of_ble_eq_true rfl, Nat.le_of_ble_eq_true rfl⟩ hK hG hA hP hD hS (is := [1, 3, 4]) (sel := [none, some 0, none, some 1, some 2, none, none, none, none, none, none, none]) (ws2 := [(a0, o4 T0), (a1, o8 z60.2.1 z60.2.2 a3 a4), (a2, o3 z51.2.2.2.1 a5 a7 a6 a9 a8 a10 a11 u2_14), (a3, ab E 900 V3), (a4, al E 23 V4), (a5, ai E 36 z51.2.2.2.2), (a6, al E 5 V6), (a7, ai E 5 V7), (a8, ai E 12 V8), (a9, ai E 12 V9), (a10, ai E 12 V10), (a11, ai E 12 V11)]) rfl rfl rfl rfl rfl (xrecv hK hP (q0 := 1) (ci := 8) rfl rfl) rfl hl.1 rfl (Nat.le_of_ble_eq_true rfl) dX4_takePart_60 (fun H locs hP hD hS => ?_)
      refine lv_if_eq (tgt := 70) hx hb dX4_takePart_63 (by decide) (fun c63 => ?_) (fun c63 => ?_)
      · have hf := it_t c63 hf
        refine lv_iconst (v := 0) hx hb dX4_takePart_70 rfl ?_
        exact ret (0, T0, z60.2.1, z60.2.2, z51.2.2.2.1, z51.2.2.2.2, V6, V7, V8, V9, V10, V11) hf nz0 hP hS dX4_takePart_71
      · have hf := it_f c63 hf
        refine lv_iconst (v := 1) hx hb dX4_takePart_66 rfl ?_
        refine lv_goto (tgt := 71) hx hb dX4_takePart_67 (by decide) ?_
        exact ret (1, T0, z60.2.1, z60.2.2, z51.2.2.2.1, z51.2.2.2.2, V6, V7, V8, V9, V10, V11) hf nz1 hP hS dX4_takePart_71
  have hf := it_f c4_0 hf
  by_cases c4_1 : z1 = 1
  · have hf := it_t c4_1 hf
    refine xtabI (off := 68) (tgt := 72) hx hb c4_1 dX4_takePart_4 rfl (by decide) ?_
    refine lv_aload_n hx hb dX4_takePart_72 rfl (lv_at hl 0 rfl) ?_
    refine lv_aload_n hx hb dX4_takePart_73 rfl (lv_at hl 1 rfl) ?_
    refine lv_aload_n hx hb dX4_takePart_74 rfl (lv_at hl 2 rfl) ?_
    obtain ⟨z75, hz75, hf⟩ := bind_s hf
    refine xV_iu hx hb hml hown htg L4_48 (c_X4_takeOdds l E a0 a1 a3 a4 a2 hz75 _) ⟨⟨rfl, rfl⟩, Nat.le_of_ble_eq_true rfl, Nat.le_of_ble_eq_true rfl⟩ hK hG hA hP hD hS (is := [0, 1, 3, 4, 2]) (sel := [some 0, some 1, some 4, some 2, some 3, none, none, none, none, none, none, none]) (ws2 := [(a0, o4 z75.2.1), (a1, o8 z75.2.2.1 z75.2.2.2.1 a3 a4), (a2, o3 z75.2.2.2.2 a5 a7 a6 a9 a8 a10 a11 u2_14), (a3, ab E 900 V3), (a4, al E 23 V4), (a5, ai E 36 V5), (a6, al E 5 V6), (a7, ai E 5 V7), (a8, ai E 12 V8), (a9, ai E 12 V9), (a10, ai E 12 V10), (a11, ai E 12 V11)]) rfl rfl rfl rfl rfl (xrecv hK hP (q0 := 0) (ci := 4) rfl rfl) rfl hl.1 rfl (Nat.le_of_ble_eq_true rfl) dX4_takePart_75 (fun H locs hP hD hS => ?_)
    refine lv_if_eq (tgt := 94) hx hb dX4_takePart_78 (by decide) (fun c78 => ?_) (fun c78 => ?_)
    · have hf := it_t c78 hf
      refine lv_iconst (v := 0) hx hb dX4_takePart_94 rfl ?_
      exact ret (0, z75.2.1, z75.2.2.1, z75.2.2.2.1, z75.2.2.2.2, V5, V6, V7, V8, V9, V10, V11) hf nz0 hP hS dX4_takePart_95
    · have hf := it_f c78 hf
      refine lv_aload_n hx hb dX4_takePart_81 rfl (lv_at hl 1 rfl) ?_
      refine lv_bipush (v := 59) hx hb dX4_takePart_82 rfl ?_
      obtain ⟨z84, hz84, hf⟩ := bind_s hf
      refine xV_iu hx hb hml hown htg L4_44 (c_X8_passSign l E a1 a3 a4 hz84 _) ⟨⟨rfl, rfl⟩, Nat.le_of_ble_eq_true rfl, Nat.le_of_ble_eq_true rfl⟩ hK hG hA hP hD hS (is := [1, 3, 4]) (sel := [none, some 0, none, some 1, some 2, none, none, none, none, none, none, none]) (ws2 := [(a0, o4 z75.2.1), (a1, o8 z84.2.1 z84.2.2 a3 a4), (a2, o3 z75.2.2.2.2 a5 a7 a6 a9 a8 a10 a11 u2_14), (a3, ab E 900 V3), (a4, al E 23 V4), (a5, ai E 36 V5), (a6, al E 5 V6), (a7, ai E 5 V7), (a8, ai E 12 V8), (a9, ai E 12 V9), (a10, ai E 12 V10), (a11, ai E 12 V11)]) rfl rfl rfl rfl rfl (xrecv hK hP (q0 := 1) (ci := 8) rfl rfl) rfl hl.1 rfl (Nat.le_of_ble_eq_true rfl) dX4_takePart_84 (fun H locs hP hD hS => ?_)
      refine lv_if_eq (tgt := 94) hx hb dX4_takePart_87 (by decide) (fun c87 => ?_) (fun c87 => ?_)
      · have hf := it_t c87 hf
        refine lv_iconst (v := 0) hx hb dX4_takePart_94 rfl ?_
        exact ret (0, z75.2.1, z84.2.1, z84.2.2, z75.2.2.2.2, V5, V6, V7, V8, V9, V10, V11) hf nz0 hP hS dX4_takePart_95
      · have hf := it_f c87 hf
        refine lv_iconst (v := 1) hx hb dX4_takePart_90 rfl ?_
        refine lv_goto (tgt := 95) hx hb dX4_takePart_91 (by decide) ?_
        exact ret (1, z75.2.1, z84.2.1, z84.2.2, z75.2.2.2.2, V5, V6, V7, V8, V9, V10, V11) hf nz1 hP hS dX4_takePart_95
  have hf := it_f c4_1 hf
  by_cases c4_2 : z1 = 2
  · have hf := it_t c4_2 hf
    refine xtabI (off := 92) (tgt := 96) hx hb c4_2 dX4_takePart_4 rfl (by decide) ?_
    refine lv_aload_n hx hb dX4_takePart_96 rfl (lv_at hl 0 rfl) ?_
    refine lv_aload_n hx hb dX4_takePart_97 rfl (lv_at hl 1 rfl) ?_
    refine lv_aload_n hx hb dX4_takePart_98 rfl (lv_at hl 2 rfl) ?_
    obtain ⟨z99, hz99, hf⟩ := bind_s hf
    refine xV_iu hx hb hml hown htg L4_51 (c_X4_takeHarbour l E a0 a1 a3 a4 a2 hz99 _) ⟨⟨rfl, rfl⟩, Nat.le_of_ble_eq_true rfl, Nat.le_of_ble_eq_true rfl⟩ hK hG hA hP hD hS (is := [0, 1, 3, 4, 2]) (sel := [some 0, some 1, some 4, some 2, some 3, none, none, none, none, none, none, none]) (ws2 := [(a0, o4 z99.2.1), (a1, o8 z99.2.2.1 z99.2.2.2.1 a3 a4), (a2, o3 z99.2.2.2.2 a5 a7 a6 a9 a8 a10 a11 u2_14), (a3, ab E 900 V3), (a4, al E 23 V4), (a5, ai E 36 V5), (a6, al E 5 V6), (a7, ai E 5 V7), (a8, ai E 12 V8), (a9, ai E 12 V9), (a10, ai E 12 V10), (a11, ai E 12 V11)]) rfl rfl rfl rfl rfl (xrecv hK hP (q0 := 0) (ci := 4) rfl rfl) rfl hl.1 rfl (Nat.le_of_ble_eq_true rfl) dX4_takePart_99 (fun H locs hP hD hS => ?_)
    refine lv_if_eq (tgt := 118) hx hb dX4_takePart_102 (by decide) (fun c102 => ?_) (fun c102 => ?_)
    · have hf := it_t c102 hf
      refine lv_iconst (v := 0) hx hb dX4_takePart_118 rfl ?_
      exact ret (0, z99.2.1, z99.2.2.1, z99.2.2.2.1, z99.2.2.2.2, V5, V6, V7, V8, V9, V10, V11) hf nz0 hP hS dX4_takePart_119
    · have hf := it_f c102 hf
      refine lv_aload_n hx hb dX4_takePart_105 rfl (lv_at hl 1 rfl) ?_
      refine lv_bipush (v := 59) hx hb dX4_takePart_106 rfl ?_
      obtain ⟨z108, hz108, hf⟩ := bind_s hf
      refine xV_iu hx hb hml hown htg L4_44 (c_X8_passSign l E a1 a3 a4 hz108 _) ⟨⟨rfl, rfl⟩, Nat.le_of_ble_eq_true rfl, Nat.le_of_ble_eq_true rfl⟩ hK hG hA hP hD hS (is := [1, 3, 4]) (sel := [none, some 0, none, some 1, some 2, none, none, none, none, none, none, none]) (ws2 := [(a0, o4 z99.2.1), (a1, o8 z108.2.1 z108.2.2 a3 a4), (a2, o3 z99.2.2.2.2 a5 a7 a6 a9 a8 a10 a11 u2_14), (a3, ab E 900 V3), (a4, al E 23 V4), (a5, ai E 36 V5), (a6, al E 5 V6), (a7, ai E 5 V7), (a8, ai E 12 V8), (a9, ai E 12 V9), (a10, ai E 12 V10), (a11, ai E 12 V11)]) rfl rfl rfl rfl rfl (xrecv hK hP (q0 := 1) (ci := 8) rfl rfl) rfl hl.1 rfl (Nat.le_of_ble_eq_true rfl) dX4_takePart_108 (fun H locs hP hD hS => ?_)
      refine lv_if_eq (tgt := 118) hx hb dX4_takePart_111 (by decide) (fun c111 => ?_) (fun c111 => ?_)
      · have hf := it_t c111 hf
        refine lv_iconst (v := 0) hx hb dX4_takePart_118 rfl ?_
        exact ret (0, z99.2.1, z108.2.1, z108.2.2, z99.2.2.2.2, V5, V6, V7, V8, V9, V10, V11) hf nz0 hP hS dX4_takePart_119
      · have hf := it_f c111 hf
        refine lv_iconst (v := 1) hx hb dX4_takePart_114 rfl ?_
        refine lv_goto (tgt := 119) hx hb dX4_takePart_115 (by decide) ?_
        exact ret (1, z99.2.1, z108.2.1, z108.2.2, z99.2.2.2.2, V5, V6, V7, V8, V9, V10, V11) hf nz1 hP hS dX4_takePart_119
  have hf := it_f c4_2 hf
  by_cases c4_3 : z1 = 3
  · have hf := it_t c4_3 hf
    refine xtabI (off := 116) (tgt := 120) hx hb c4_3 dX4_takePart_4 rfl (by decide) ?_
    refine lv_aload_n hx hb dX4_takePart_120 rfl (lv_at hl 0 rfl) ?_
    refine lv_aload_n hx hb dX4_takePart_121 rfl (lv_at hl 1 rfl) ?_
    refine lv_aload_n hx hb dX4_takePart_122 rfl (lv_at hl 2 rfl) ?_
    obtain ⟨z123, hz123, hf⟩ := bind_s hf
    refine xV_iu hx hb hml hown htg L4_54 (c_X4_takeTraveller l E a0 a1 a2 a3 a4 a6 a7 hz123 _) ⟨⟨rfl, rfl⟩, Nat.le_of_ble_eq_true rfl, Nat.le_of_ble_eq_true rfl⟩ hK hG hA hP hD hS (is := [0, 1, 2, 3, 4, 6, 7]) (sel := [some 0, some 1, some 2, some 3, some 4, none, some 5, some 6, none, none, none, none]) (ws2 := [(a0, o4 T0), (a1, o8 z123.2.1 z123.2.2.1 a3 a4), (a2, o3 z123.2.2.2.1 a5 a7 a6 a9 a8 a10 a11 u2_14), (a3, ab E 900 V3), (a4, al E 23 V4), (a5, ai E 36 V5), (a6, al E 5 z123.2.2.2.2.1), (a7, ai E 5 z123.2.2.2.2.2), (a8, ai E 12 V8), (a9, ai E 12 V9), (a10, ai E 12 V10), (a11, ai E 12 V11)]) rfl rfl rfl rfl rfl (xrecv hK hP (q0 := 0) (ci := 4) rfl rfl) rfl hl.1 rfl (Nat.le_of_ble_eq_true rfl) dX4_takePart_123 (fun H locs hP hD hS => ?_)
    refine lv_if_eq (tgt := 142) hx hb dX4_takePart_126 (by decide) (fun c126 => ?_) (fun c126 => ?_)
    · have hf := it_t c126 hf
      refine lv_iconst (v := 0) hx hb dX4_takePart_142 rfl ?_
      exact ret (0, T0, z123.2.1, z123.2.2.1, z123.2.2.2.1, V5, z123.2.2.2.2.1, z123.2.2.2.2.2, V8, V9, V10, V11) hf nz0 hP hS dX4_takePart_143
    · have hf := it_f c126 hf
      refine lv_aload_n hx hb dX4_takePart_129 rfl (lv_at hl 1 rfl) ?_
      refine lv_bipush (v := 59) hx hb dX4_takePart_130 rfl ?_
      obtain ⟨z132, hz132, hf⟩ := bind_s hf
      refine xV_iu hx hb hml hown htg L4_44 (c_X8_passSign l E a1 a3 a4 hz132 _) ⟨⟨rfl, rfl⟩, Nat.le_of_ble_eq_true rfl, Nat.le_of_ble_eq_true rfl⟩ hK hG hA hP hD hS (is := [1, 3, 4]) (sel := [none, some 0, none, some 1, some 2, none, none, none, none, none, none, none]) (ws2 := [(a0, o4 T0), (a1, o8 z132.2.1 z132.2.2 a3 a4), (a2, o3 z123.2.2.2.1 a5 a7 a6 a9 a8 a10 a11 u2_14), (a3, ab E 900 V3), (a4, al E 23 V4), (a5, ai E 36 V5), (a6, al E 5 z123.2.2.2.2.1), (a7, ai E 5 z123.2.2.2.2.2), (a8, ai E 12 V8), (a9, ai E 12 V9), (a10, ai E 12 V10), (a11, ai E 12 V11)]) rfl rfl rfl rfl rfl (xrecv hK hP (q0 := 1) (ci := 8) rfl rfl) rfl hl.1 rfl (Nat.le_of_ble_eq_true rfl) dX4_takePart_132 (fun H locs hP hD hS => ?_)
      refine lv_if_eq (tgt := 142) hx hb dX4_takePart_135 (by decide) (fun c135 => ?_) (fun c135 => ?_)
      · have hf := it_t c135 hf
        refine lv_iconst (v := 0) hx hb dX4_takePart_142 rfl ?_
        exact ret (0, T0, z132.2.1, z132.2.2, z123.2.2.2.1, V5, z123.2.2.2.2.1, z123.2.2.2.2.2, V8, V9, V10, V11) hf nz0 hP hS dX4_takePart_143
      · have hf := it_f c135 hf
        refine lv_iconst (v := 1) hx hb dX4_takePart_138 rfl ?_
        refine lv_goto (tgt := 143) hx hb dX4_takePart_139 (by decide) ?_
        exact ret (1, T0, z132.2.1, z132.2.2, z123.2.2.2.1, V5, z123.2.2.2.2.1, z123.2.2.2.2.2, V8, V9, V10, V11) hf nz1 hP hS dX4_takePart_143
  have hf := it_f c4_3 hf
  by_cases c4_6 : z1 = 6
  · have hf := it_t c4_6 hf
    refine xtabI (off := 140) (tgt := 144) hx hb c4_6 dX4_takePart_4 rfl (by decide) ?_
    refine lv_aload_n hx hb dX4_takePart_144 rfl (lv_at hl 0 rfl) ?_
    refine lv_aload_n hx hb dX4_takePart_145 rfl (lv_at hl 1 rfl) ?_
    refine lv_aload_n hx hb dX4_takePart_146 rfl (lv_at hl 2 rfl) ?_
    obtain ⟨z147, hz147, hf⟩ := bind_s hf
    refine xV_iu hx hb hml hown htg L4_57 (c_X4_takeTold l E a0 a1 a2 a3 a4 a6 a8 a9 a10 a11 hz147 _) ⟨⟨rfl, rfl⟩, Nat.le_of_ble_eq_true rfl, Nat.le_of_ble_eq_true rfl⟩ hK hG hA hP hD hS (is := [0, 1, 2, 3, 4, 6, 8, 9, 10, 11]) (sel := [some 0, some 1, some 2, some 3, some 4, none, some 5, none, some 6, some 7, some 8, some 9]) (ws2 := [(a0, o4 T0), (a1, o8 z147.2.1 z147.2.2.1 a3 a4), (a2, o3 z147.2.2.2.1 a5 a7 a6 a9 a8 a10 a11 u2_14), (a3, ab E 900 V3), (a4, al E 23 V4), (a5, ai E 36 V5), (a6, al E 5 V6), (a7, ai E 5 V7), (a8, ai E 12 z147.2.2.2.2.1), (a9, ai E 12 z147.2.2.2.2.2.1), (a10, ai E 12 z147.2.2.2.2.2.2.1), (a11, ai E 12 z147.2.2.2.2.2.2.2)]) rfl rfl rfl rfl rfl (xrecv hK hP (q0 := 0) (ci := 4) rfl rfl) rfl hl.1 rfl (Nat.le_of_ble_eq_true rfl) dX4_takePart_147 (fun H locs hP hD hS => ?_)
    refine lv_if_eq (tgt := 166) hx hb dX4_takePart_150 (by decide) (fun c150 => ?_) (fun c150 => ?_)
    · have hf := it_t c150 hf
      refine lv_iconst (v := 0) hx hb dX4_takePart_166 rfl ?_
      exact ret (0, T0, z147.2.1, z147.2.2.1, z147.2.2.2.1, V5, V6, V7, z147.2.2.2.2.1, z147.2.2.2.2.2.1, z147.2.2.2.2.2.2.1, z147.2.2.2.2.2.2.2) hf nz0 hP hS dX4_takePart_167
    · have hf := it_f c150 hf
      refine lv_aload_n hx hb dX4_takePart_153 rfl (lv_at hl 1 rfl) ?_
      refine lv_bipush (v := 59) hx hb dX4_takePart_154 rfl ?_
      obtain ⟨z156, hz156, hf⟩ := bind_s hf
      refine xV_iu hx hb hml hown htg L4_44 (c_X8_passSign l E a1 a3 a4 hz156 _) ⟨⟨rfl, rfl⟩, Nat.le_of_ble_eq_true rfl, Nat.le_of_ble_eq_true rfl⟩ hK hG hA hP hD hS (is := [1, 3, 4]) (sel := [none, some 0, none, some 1, some 2, none, none, none, none, none, none, none]) (ws2 := [(a0, o4 T0), (a1, o8 z156.2.1 z156.2.2 a3 a4), (a2, o3 z147.2.2.2.1 a5 a7 a6 a9 a8 a10 a11 u2_14), (a3, ab E 900 V3), (a4, al E 23 V4), (a5, ai E 36 V5), (a6, al E 5 V6), (a7, ai E 5 V7), (a8, ai E 12 z147.2.2.2.2.1), (a9, ai E 12 z147.2.2.2.2.2.1), (a10, ai E 12 z147.2.2.2.2.2.2.1), (a11, ai E 12 z147.2.2.2.2.2.2.2)]) rfl rfl rfl rfl rfl (xrecv hK hP (q0 := 1) (ci := 8) rfl rfl) rfl hl.1 rfl (Nat.le_of_ble_eq_true rfl) dX4_takePart_156 (fun H locs hP hD hS => ?_)
      refine lv_if_eq (tgt := 166) hx hb dX4_takePart_159 (by decide) (fun c159 => ?_) (fun c159 => ?_)
      · have hf := it_t c159 hf
        refine lv_iconst (v := 0) hx hb dX4_takePart_166 rfl ?_
        exact ret (0, T0, z156.2.1, z156.2.2, z147.2.2.2.1, V5, V6, V7, z147.2.2.2.2.1, z147.2.2.2.2.2.1, z147.2.2.2.2.2.2.1, z147.2.2.2.2.2.2.2) hf nz0 hP hS dX4_takePart_167
      · have hf := it_f c159 hf
        refine lv_iconst (v := 1) hx hb dX4_takePart_162 rfl ?_
        refine lv_goto (tgt := 167) hx hb dX4_takePart_163 (by decide) ?_
        exact ret (1, T0, z156.2.1, z156.2.2, z147.2.2.2.1, V5, V6, V7, z147.2.2.2.2.1, z147.2.2.2.2.2.1, z147.2.2.2.2.2.2.1, z147.2.2.2.2.2.2.2) hf nz1 hP hS dX4_takePart_167
  have hf := it_f c4_6 hf
  refine xtabD (tgt := 168) (cs := [0, 1, 2, 3, 6]) hx hb (by simp only [List.forall_mem_cons]; exact ⟨c4_0, c4_1, c4_2, c4_3, c4_6, fun _ h => absurd h List.not_mem_nil⟩) rfl dX4_takePart_4 (by decide) ?_
  exact b168 T0 T1 J1_8 T2 V5 V6 V7 V8 V9 V10 V11 _ _ _ hf hP hD hS (lv_sub hl [1] rfl)
theorem dX4_take_0 : decode cX4_take 0 = .ok (.aload_n 3, 1) := by decide +kernel
theorem dX4_take_1 : decode cX4_take 1 = .ok (.invokevirtual 9, 3) := by decide +kernel
theorem dX4_take_4 : decode cX4_take 4 = .ok (.aload_n 0, 1) := by decide +kernel
theorem dX4_take_5 : decode cX4_take 5 = .ok (.iconst 0, 1) := by decide +kernel
theorem dX4_take_6 : decode cX4_take 6 = .ok (.putfield 14, 3) := by decide +kernel
theorem dX4_take_9 : decode cX4_take 9 = .ok (.aload_n 0, 1) := by decide +kernel
theorem dX4_take_10 : decode cX4_take 10 = .ok (.iconst 0, 1) := by decide +kernel
theorem dX4_take_11 : decode cX4_take 11 = .ok (.putfield 20, 3) := by decide +kernel
theorem dX4_take_14 : decode cX4_take 14 = .ok (.aload_n 1, 1) := by decide +kernel
theorem dX4_take_15 : decode cX4_take 15 = .ok (.iload_n 2, 1) := by decide +kernel
theorem dX4_take_16 : decode cX4_take 16 = .ok (.invokevirtual 23, 3) := by decide +kernel
theorem dX4_take_19 : decode cX4_take 19 = .ok (.iconst 0, 1) := by decide +kernel
theorem dX4_take_20 : decode cX4_take 20 = .ok (.istore 4, 2) := by decide +kernel
theorem dX4_take_22 : decode cX4_take 22 = .ok (.iload 4, 2) := by decide +kernel
theorem dX4_take_24 : decode cX4_take 24 = .ok (.iload_n 2, 1) := by decide +kernel
theorem dX4_take_25 : decode cX4_take 25 = .ok (.if_icmp .ge 27, 3) := by decide +kernel
theorem dX4_take_28 : decode cX4_take 28 = .ok (.aload_n 1, 1) := by decide +kernel
theorem dX4_take_29 : decode cX4_take 29 = .ok (.invokevirtual 29, 3) := by decide +kernel
theorem dX4_take_32 : decode cX4_take 32 = .ok (.ifCond .ne 20, 3) := by decide +kernel
theorem dX4_take_35 : decode cX4_take 35 = .ok (.aload_n 0, 1) := by decide +kernel
theorem dX4_take_36 : decode cX4_take 36 = .ok (.aload_n 1, 1) := by decide +kernel
theorem dX4_take_37 : decode cX4_take 37 = .ok (.aload_n 3, 1) := by decide +kernel
theorem dX4_take_38 : decode cX4_take 38 = .ok (.invokevirtual 33, 3) := by decide +kernel
theorem dX4_take_41 : decode cX4_take 41 = .ok (.ifCond .ne 5, 3) := by decide +kernel
theorem dX4_take_44 : decode cX4_take 44 = .ok (.iconst 0, 1) := by decide +kernel
theorem dX4_take_45 : decode cX4_take 45 = .ok (.ireturn, 1) := by decide +kernel
theorem dX4_take_46 : decode cX4_take 46 = .ok (.iinc 4 1, 3) := by decide +kernel
theorem dX4_take_49 : decode cX4_take 49 = .ok (.goto (-27), 3) := by decide +kernel
theorem dX4_take_52 : decode cX4_take 52 = .ok (.iconst 1, 1) := by decide +kernel
theorem dX4_take_53 : decode cX4_take 53 = .ok (.ireturn, 1) := by decide +kernel
set_option maxRecDepth 100000 in
theorem c_X4_take (l : Launch) (E : xE) (a0 a1 a2 a3 a4 a5 a6 a7 a8 a9 a10 a11 a12 : Nat) {T0 : Nat → Int32} {T1 : Nat → Int32} {J1_8 : Int64} {T2 : Nat → Int32} {T3 : Nat → Int32} {V4 : Nat → Int32} {V5 : Nat → Int64} {V6 : Nat → Int32} {V7 : Nat → Int64} {V8 : Nat → Int32} {V9 : Nat → Int32} {V10 : Nat → Int32} {V11 : Nat → Int32} {V12 : Nat → Int32} {u3_3 u3_4 u3_5 u3_6 u3_7 : Nat} {x2 : Int32} {z : Int32 × (Nat → Int32) × (Nat → Int32) × Int64 × (Nat → Int32) × (Nat → Int32) × (Nat → Int32) × (Nat → Int64) × (Nat → Int32) × (Nat → Int32) × (Nat → Int32) × (Nat → Int32) × (Nat → Int32)} (hf : f_X4_take T0 T1 J1_8 T2 T3 V4 V5 V6 V7 V8 V9 V10 V11 V12 x2 = some z) (sz : Nat) : Met l yX4_take (Cond.code yX4_take cX4_take 5 (some .boolean) :: gw) ({ frames := 6, cells := 0, slots := 0, locals := 153 }) (xPc E [.ref a0, .ref a1, .int x2, .ref a2] [(a0, o4 T0), (a1, o8 T1 J1_8 a4 a5), (a2, o3 T2 a6 a8 a7 a10 a9 a11 a12 a3), (a3, o0 T3 u3_3 u3_4 u3_5 u3_6 u3_7), (a4, ab E 900 V4), (a5, al E 23 V5), (a6, ai E 36 V6), (a7, al E 5 V7), (a8, ai E 5 V8), (a9, ai E 12 V9), (a10, ai E 12 V10), (a11, ai E 12 V11), (a12, ai E 12 V12)] sz) (xQi E z.1 [(a0, o4 T0), (a1, o8 T1 J1_8 a4 a5), (a2, o3 T2 a6 a8 a7 a10 a9 a11 a12 a3), (a3, o0 T3 u3_3 u3_4 u3_5 u3_6 u3_7), (a4, ab E 900 V4), (a5, al E 23 V5), (a6, ai E 36 V6), (a7, al E 5 V7), (a8, ai E 5 V8), (a9, ai E 12 V9), (a10, ai E 12 V10), (a11, ai E 12 V11), (a12, ai E 12 V12)] [(a0, o4 z.2.1), (a1, o8 z.2.2.1 z.2.2.2.1 a4 a5), (a2, o3 z.2.2.2.2.1 a6 a8 a7 a10 a9 a11 a12 a3), (a3, o0 z.2.2.2.2.2.1 u3_3 u3_4 u3_5 u3_6 u3_7), (a4, ab E 900 V4), (a5, al E 23 V5), (a6, ai E 36 z.2.2.2.2.2.2.1), (a7, al E 5 z.2.2.2.2.2.2.2.1), (a8, ai E 5 z.2.2.2.2.2.2.2.2.1), (a9, ai E 12 z.2.2.2.2.2.2.2.2.2.1), (a10, ai E 12 z.2.2.2.2.2.2.2.2.2.2.1), (a11, ai E 12 z.2.2.2.2.2.2.2.2.2.2.2.1), (a12, ai E 12 z.2.2.2.2.2.2.2.2.2.2.2.2)] sz) 0 0 (va_A [(a0, o4 T0), (a1, o8 T1 J1_8 a4 a5), (a2, o3 T2 a6 a8 a7 a10 a9 a11 a12 a3), (a3, o0 T3 u3_3 u3_4 u3_5 u3_6 u3_7), (a4, ab E 900 V4), (a5, al E 23 V5), (a6, ai E 36 V6), (a7, al E 5 V7), (a8, ai E 5 V8), (a9, ai E 12 V9), (a10, ai E 12 V10), (a11, ai E 12 V11), (a12, ai E 12 V12)] sz) := by
  refine xM_i (by decide +kernel) (Nat.le_of_ble_eq_true rfl) ?_
  intro p e s m args below meth c A Q hx hb hml hown htg hK hG hA ret0 H locs ls hP hD hS hl
  have ret : ∀ (z' : Int32 × (Nat → Int32) × (Nat → Int32) × Int64 × (Nat → Int32) × (Nat → Int32) × (Nat → Int32) × (Nat → Int64) × (Nat → Int32) × (Nat → Int32) × (Nat → Int32) × (Nat → Int32) × (Nat → Int32)) {H : Heap} {locs : List Loc} {pc : Nat} {ls : Array Slot}, some z' = some z → narrow .boolean (.int z'.1) = .int z'.1 → va_P E.1 vwCl [(a0, o4 z'.2.1), (a1, o8 z'.2.2.1 z'.2.2.2.1 a4 a5), (a2, o3 z'.2.2.2.2.1 a6 a8 a7 a10 a9 a11 a12 a3), (a3, o0 z'.2.2.2.2.2.1 u3_3 u3_4 u3_5 u3_6 u3_7), (a4, ab E 900 V4), (a5, al E 23 V5), (a6, ai E 36 z'.2.2.2.2.2.2.1), (a7, al E 5 z'.2.2.2.2.2.2.2.1), (a8, ai E 5 z'.2.2.2.2.2.2.2.2.1), (a9, ai E 12 z'.2.2.2.2.2.2.2.2.2.1), (a10, ai E 12 z'.2.2.2.2.2.2.2.2.2.2.1), (a11, ai E 12 z'.2.2.2.2.2.2.2.2.2.2.2.1), (a12, ai E 12 z'.2.2.2.2.2.2.2.2.2.2.2.2)] H → va_S A s.heap H locs → decode cX4_take pc = .ok (.ireturn, 1) → W p l e ({ frames := 6, cells := 0, slots := 0, locals := 153 } : Room) s m args below meth c H locs 0 0 Q (F0 m pc ls [.int z'.1]) := by
    intro z' H locs pc ls h
    cases h
    exact ret0
  replace hl : lv_has ls 5 [(0, .ref a0), (1, .ref a1), (2, .int x2), (3, .ref a2)] := hl
  have b22 : ∀ (n : Nat) (x4 : Int32) (T0 : Nat → Int32) (T1 : Nat → Int32) (J1_8 : Int64) (T2 : Nat → Int32) (T3 : Nat → Int32) (V6 : Nat → Int32) (V7 : Nat → Int64) (V8 : Nat → Int32) (V9 : Nat → Int32) (V10 : Nat → Int32) (V11 : Nat → Int32) (V12 : Nat → Int32) (H : Heap) (locs : List Loc) (ls : Array Slot), f_X4_take_22 V4 V5 x2 n x4 T0 T1 J1_8 T2 T3 V6 V7 V8 V9 V10 V11 V12 = some z → va_P E.1 vwCl [(a0, o4 T0), (a1, o8 T1 J1_8 a4 a5), (a2, o3 T2 a6 a8 a7 a10 a9 a11 a12 a3), (a3, o0 T3 u3_3 u3_4 u3_5 u3_6 u3_7), (a4, ab E 900 V4), (a5, al E 23 V5), (a6, ai E 36 V6), (a7, al E 5 V7), (a8, ai E 5 V8), (a9, ai E 12 V9), (a10, ai E 12 V10), (a11, ai E 12 V11), (a12, ai E 12 V12)] H → va_D A [(a0, o4 T0), (a1, o8 T1 J1_8 a4 a5), (a2, o3 T2 a6 a8 a7 a10 a9 a11 a12 a3), (a3, o0 T3 u3_3 u3_4 u3_5 u3_6 u3_7), (a4, ab E 900 V4), (a5, al E 23 V5), (a6, ai E 36 V6), (a7, al E 5 V7), (a8, ai E 5 V8), (a9, ai E 12 V9), (a10, ai E 12 V10), (a11, ai E 12 V11), (a12, ai E 12 V12)] → va_S A s.heap H locs → lv_has ls 5 [(0, .ref a0), (1, .ref a1), (2, .int x2), (3, .ref a2), (4, .int x4)] → W p l e ({ frames := 6, cells := 0, slots := 0, locals := 153 } : Room) s m args below meth c H locs 0 0 Q (F0 m 22 ls []) := by
    intro n
    induction n with
    | zero => intro x4 T0 T1 J1_8 T2 T3 V6 V7 V8 V9 V10 V11 V12 H locs ls hf; exact (nn_s hf).elim
    | succ n ih22 =>
      obtain ⟨k22, ek22⟩ : ∃ k, k = f_X4_take_22 V4 V5 x2 n := ⟨_, rfl⟩
      rw [← ek22] at ih22
      intro x4 T0 T1 J1_8 T2 T3 V6 V7 V8 V9 V10 V11 V12 H locs ls hf hP hD hS hl
      replace hf : g_X4_take_22 V4 V5 x2 k22 x4 T0 T1 J1_8 T2 T3 V6 V7 V8 V9 V10 V11 V12 = some z := by rw [ek22]; exact hf
      unfold g_X4_take_22 at hf
      refine lv_iload hx hb dX4_take_22 (lv_at hl 4 rfl) ?_
      refine lv_iload_n hx hb dX4_take_24 rfl (lv_at hl 2 rfl) ?_
      refine lv_icmp_ge (tgt := 52) hx hb dX4_take_25 (by decide) (fun c25 => ?_) (fun c25 => ?_)
      · have hf := it_t c25 hf
        refine lv_iconst (v := 1) hx hb dX4_take_52 rfl ?_
        exact ret (1, T0, T1, J1_8, T2, T3, V6, V7, V8, V9, V10, V11, V12) hf nz1 hP hS dX4_take_53
      · have hf := it_f c25 hf
        refine lv_aload_n hx hb dX4_take_28 rfl (lv_at hl 1 rfl) ?_
        obtain ⟨z29, hz29, hf⟩ := bind_s hf
        refine xV_ir hx hb hml hown htg L4_29 (c_X8_atEnd l E a1 hz29 _) ⟨⟨rfl, rfl⟩, Nat.le_of_ble_eq_true rfl, Nat.le_of_ble_eq_true rfl⟩ hK hG hA hP hD hS (is := [1]) rfl rfl (xrecv hK hP (q0 := 1) (ci := 8) rfl rfl) rfl hl.1 rfl (Nat.le_of_ble_eq_true rfl) dX4_take_29 (fun H locs hP hD hS => ?_)
        refine lv_if_ne (tgt := 52) hx hb dX4_take_32 (by decide) (fun c32 => ?_) (fun c32 => ?_)
        · have hf := it_f c32 hf
          refine lv_iconst (v := 1) hx hb dX4_take_52 rfl ?_
          exact ret (1, T0, T1, J1_8, T2, T3, V6, V7, V8, V9, V10, V11, V12) hf nz1 hP hS dX4_take_53
        · have hf := it_t c32 hf
          refine lv_aload_n hx hb dX4_take_35 rfl (lv_at hl 0 rfl) ?_
          refine lv_aload_n hx hb dX4_take_36 rfl (lv_at hl 1 rfl) ?_
          refine lv_aload_n hx hb dX4_take_37 rfl (lv_at hl 3 rfl) ?_
          obtain ⟨z38, hz38, hf⟩ := bind_s hf
          refine xV_iu hx hb hml hown htg L4_33 (c_X4_takePart l E a0 a1 a2 a4 a5 a6 a7 a8 a9 a10 a11 a12 hz38 _) ⟨⟨rfl, rfl⟩, Nat.le_of_ble_eq_true rfl, Nat.le_of_ble_eq_true rfl⟩ hK hG hA hP hD hS (is := [0, 1, 2, 4, 5, 6, 7, 8, 9, 10, 11, 12]) (sel := [some 0, some 1, some 2, none, some 3, some 4, some 5, some 6, some 7, some 8, some 9, some 10, some 11]) (ws2 := [(a0, o4 z38.2.1), (a1, o8 z38.2.2.1 z38.2.2.2.1 a4 a5), (a2, o3 z38.2.2.2.2.1 a6 a8 a7 a10 a9 a11 a12 a3), (a3, o0 T3 u3_3 u3_4 u3_5 u3_6 u3_7), (a4, ab E 900 V4), (a5, al E 23 V5), (a6, ai E 36 z38.2.2.2.2.2.1), (a7, al E 5 z38.2.2.2.2.2.2.1), (a8, ai E 5 z38.2.2.2.2.2.2.2.1), (a9, ai E 12 z38.2.2.2.2.2.2.2.2.1), (a10, ai E 12 z38.2.2.2.2.2.2.2.2.2.1), (a11, ai E 12 z38.2.2.2.2.2.2.2.2.2.2.1), (a12, ai E 12 z38.2.2.2.2.2.2.2.2.2.2.2)]) rfl rfl rfl rfl rfl (xrecv hK hP (q0 := 0) (ci := 4) rfl rfl) rfl hl.1 rfl (Nat.le_of_ble_eq_true rfl) dX4_take_38 (fun H locs hP hD hS => ?_)
          refine lv_if_ne (tgt := 46) hx hb dX4_take_41 (by decide) (fun c41 => ?_) (fun c41 => ?_)
          · have hf := it_f c41 hf
            refine lv_iinc (v := x4 + 1) (lv' := [(4, .int (x4 + 1)), (0, .ref a0), (1, .ref a1), (2, .int x2), (3, .ref a2)]) hx hb dX4_take_46 hl (k := 4) rfl rfl (by decide) rfl (fun ls hl => ?_)
            refine lv_goto (tgt := 22) hx hb dX4_take_49 (by decide) ?_
            exact ih22 (x4 + 1) z38.2.1 z38.2.2.1 z38.2.2.2.1 z38.2.2.2.2.1 T3 z38.2.2.2.2.2.1 z38.2.2.2.2.2.2.1 z38.2.2.2.2.2.2.2.1 z38.2.2.2.2.2.2.2.2.1 z38.2.2.2.2.2.2.2.2.2.1 z38.2.2.2.2.2.2.2.2.2.2.1 z38.2.2.2.2.2.2.2.2.2.2.2 _ _ _ hf hP hD hS (lv_sub hl [1, 2, 3, 4, 0] rfl)
          · have hf := it_t c41 hf
            refine lv_iconst (v := 0) hx hb dX4_take_44 rfl ?_
            exact ret (0, z38.2.1, z38.2.2.1, z38.2.2.2.1, z38.2.2.2.2.1, T3, z38.2.2.2.2.2.1, z38.2.2.2.2.2.2.1, z38.2.2.2.2.2.2.2.1, z38.2.2.2.2.2.2.2.2.1, z38.2.2.2.2.2.2.2.2.2.1, z38.2.2.2.2.2.2.2.2.2.2.1, z38.2.2.2.2.2.2.2.2.2.2.2) hf nz0 hP hS dX4_take_45
  unfold f_X4_take at hf
  refine lv_aload_n hx hb dX4_take_0 rfl (lv_at hl 3 rfl) ?_
  obtain ⟨z1, hz1, hf⟩ := bind_s hf
  refine xV_vu hx hb hml hown htg L4_9 (c_X3_clear l E a2 a3 hz1 _) ⟨⟨rfl, rfl⟩, Nat.le_of_ble_eq_true rfl, Nat.le_of_ble_eq_true rfl⟩ hK hG hA hP hD hS (is := [2, 3]) (sel := [none, none, some 0, some 1, none, none, none, none, none, none, none, none, none]) (ws2 := [(a0, o4 T0), (a1, o8 T1 J1_8 a4 a5), (a2, o3 z1.1 a6 a8 a7 a10 a9 a11 a12 a3), (a3, o0 z1.2 u3_3 u3_4 u3_5 u3_6 u3_7), (a4, ab E 900 V4), (a5, al E 23 V5), (a6, ai E 36 V6), (a7, al E 5 V7), (a8, ai E 5 V8), (a9, ai E 12 V9), (a10, ai E 12 V10), (a11, ai E 12 V11), (a12, ai E 12 V12)]) rfl rfl rfl rfl rfl (xrecv hK hP (q0 := 2) (ci := 3) rfl rfl) rfl hl.1 rfl (Nat.le_of_ble_eq_true rfl) dX4_take_1 (fun H locs hP hD hS => ?_)
  refine lv_aload_n hx hb dX4_take_4 rfl (lv_at hl 0 rfl) ?_
  refine lv_iconst (v := 0) hx hb dX4_take_5 rfl ?_
  refine P4_14 hx hb htg hown hK hP hD hS 0 rfl rfl dX4_take_6 (fun H locs hP hD hS => ?_)
  refine lv_aload_n hx hb dX4_take_9 rfl (lv_at hl 0 rfl) ?_
  refine lv_iconst (v := 0) hx hb dX4_take_10 rfl ?_
  refine P4_20 hx hb htg hown hK hP hD hS 0 rfl rfl dX4_take_11 (fun H locs hP hD hS => ?_)
  refine lv_aload_n hx hb dX4_take_14 rfl (lv_at hl 1 rfl) ?_
  refine lv_iload_n hx hb dX4_take_15 rfl (lv_at hl 2 rfl) ?_
  obtain ⟨z16, hz16, hf⟩ := bind_s hf
  refine xV_vu hx hb hml hown htg L4_23 (c_X8_begin l E a1 a4 a5 hz16 _) ⟨⟨rfl, rfl⟩, Nat.le_of_ble_eq_true rfl, Nat.le_of_ble_eq_true rfl⟩ hK hG hA hP hD hS (is := [1, 4, 5]) (sel := [none, some 0, none, none, some 1, some 2, none, none, none, none, none, none, none]) (ws2 := [(a0, o4 (upd (upd T0 1 0) 2 0)), (a1, o8 z16.1 z16.2 a4 a5), (a2, o3 z1.1 a6 a8 a7 a10 a9 a11 a12 a3), (a3, o0 z1.2 u3_3 u3_4 u3_5 u3_6 u3_7), (a4, ab E 900 V4), (a5, al E 23 V5), (a6, ai E 36 V6), (a7, al E 5 V7), (a8, ai E 5 V8), (a9, ai E 12 V9), (a10, ai E 12 V10), (a11, ai E 12 V11), (a12, ai E 12 V12)]) rfl rfl rfl rfl rfl (xrecv hK hP (q0 := 1) (ci := 8) rfl rfl) rfl hl.1 rfl (Nat.le_of_ble_eq_true rfl) dX4_take_16 (fun H locs hP hD hS => ?_)
  refine lv_iconst (v := 0) hx hb dX4_take_19 rfl ?_
  refine lv_istore (lv' := [(4, .int 0), (0, .ref a0), (1, .ref a1), (2, .int x2), (3, .ref a2)]) hx hb dX4_take_20 hl (by decide) rfl (fun ls hl => ?_)
  exact b22 xF 0 (upd (upd T0 1 0) 2 0) z16.1 z16.2 z1.1 z1.2 V6 V7 V8 V9 V10 V11 V12 _ _ _ hf hP hD hS (lv_sub hl [1, 2, 3, 4, 0] rfl)
theorem dX11_duchy_0 : decode cX11_duchy 0 = .ok (.iload_n 1, 1) := by decide +kernel
theorem dX11_duchy_1 : decode cX11_duchy 1 = .ok (.iconst 0, 1) := by decide +kernel
theorem dX11_duchy_2 : decode cX11_duchy 2 = .ok (.aload_n 0, 1) := by decide +kernel
theorem dX11_duchy_3 : decode cX11_duchy 3 = .ok (.getfield 19, 3) := by decide +kernel
theorem dX11_duchy_6 : decode cX11_duchy 6 = .ok (.invokevirtual 165, 3) := by decide +kernel
theorem dX11_duchy_9 : decode cX11_duchy 9 = .ok (.invokestatic 114, 3) := by decide +kernel
theorem dX11_duchy_12 : decode cX11_duchy 12 = .ok (.ifCond .ne 9, 3) := by decide +kernel
theorem dX11_duchy_15 : decode cX11_duchy 15 = .ok (.aload_n 0, 1) := by decide +kernel
theorem dX11_duchy_16 : decode cX11_duchy 16 = .ok (.iconst 5, 1) := by decide +kernel
theorem dX11_duchy_17 : decode cX11_duchy 17 = .ok (.invokevirtual 137, 3) := by decide +kernel
theorem dX11_duchy_20 : decode cX11_duchy 20 = .ok (.ireturn, 1) := by decide +kernel
theorem dX11_duchy_21 : decode cX11_duchy 21 = .ok (.aload_n 0, 1) := by decide +kernel
theorem dX11_duchy_22 : decode cX11_duchy 22 = .ok (.getfield 26, 3) := by decide +kernel
theorem dX11_duchy_25 : decode cX11_duchy 25 = .ok (.aload_n 0, 1) := by decide +kernel
theorem dX11_duchy_26 : decode cX11_duchy 26 = .ok (.getfield 19, 3) := by decide +kernel
theorem dX11_duchy_29 : decode cX11_duchy 29 = .ok (.iload_n 1, 1) := by decide +kernel
theorem dX11_duchy_30 : decode cX11_duchy 30 = .ok (.aload_n 0, 1) := by decide +kernel
theorem dX11_duchy_31 : decode cX11_duchy 31 = .ok (.getfield 83, 3) := by decide +kernel
theorem dX11_duchy_34 : decode cX11_duchy 34 = .ok (.invokevirtual 169, 3) := by decide +kernel
theorem dX11_duchy_37 : decode cX11_duchy 37 = .ok (.istore_n 2, 1) := by decide +kernel
theorem dX11_duchy_38 : decode cX11_duchy 38 = .ok (.aload_n 0, 1) := by decide +kernel
theorem dX11_duchy_39 : decode cX11_duchy 39 = .ok (.invokevirtual 173, 3) := by decide +kernel
theorem dX11_duchy_42 : decode cX11_duchy 42 = .ok (.iload_n 2, 1) := by decide +kernel
theorem dX11_duchy_43 : decode cX11_duchy 43 = .ok (.ifCond .ne 10, 3) := by decide +kernel
theorem dX11_duchy_46 : decode cX11_duchy 46 = .ok (.aload_n 0, 1) := by decide +kernel
theorem dX11_duchy_47 : decode cX11_duchy 47 = .ok (.bipush 10, 2) := by decide +kernel
theorem dX11_duchy_49 : decode cX11_duchy 49 = .ok (.invokevirtual 137, 3) := by decide +kernel
theorem dX11_duchy_52 : decode cX11_duchy 52 = .ok (.ireturn, 1) := by decide +kernel
theorem dX11_duchy_53 : decode cX11_duchy 53 = .ok (.aload_n 0, 1) := by decide +kernel
theorem dX11_duchy_54 : decode cX11_duchy 54 = .ok (.getfield 79, 3) := by decide +kernel
theorem dX11_duchy_57 : decode cX11_duchy 57 = .ok (.astore_n 3, 1) := by decide +kernel
theorem dX11_duchy_58 : decode cX11_duchy 58 = .ok (.aload_n 0, 1) := by decide +kernel
theorem dX11_duchy_59 : decode cX11_duchy 59 = .ok (.aload_n 0, 1) := by decide +kernel
theorem dX11_duchy_60 : decode cX11_duchy 60 = .ok (.getfield 83, 3) := by decide +kernel
theorem dX11_duchy_63 : decode cX11_duchy 63 = .ok (.putfield 79, 3) := by decide +kernel
theorem dX11_duchy_66 : decode cX11_duchy 66 = .ok (.aload_n 0, 1) := by decide +kernel
theorem dX11_duchy_67 : decode cX11_duchy 67 = .ok (.aload_n 3, 1) := by decide +kernel
theorem dX11_duchy_68 : decode cX11_duchy 68 = .ok (.putfield 83, 3) := by decide +kernel
theorem dX11_duchy_71 : decode cX11_duchy 71 = .ok (.aload_n 0, 1) := by decide +kernel
theorem dX11_duchy_72 : decode cX11_duchy 72 = .ok (.aload_n 0, 1) := by decide +kernel
theorem dX11_duchy_73 : decode cX11_duchy 73 = .ok (.getfield 79, 3) := by decide +kernel
theorem dX11_duchy_76 : decode cX11_duchy 76 = .ok (.invokevirtual 176, 3) := by decide +kernel
theorem dX11_duchy_79 : decode cX11_duchy 79 = .ok (.invokevirtual 179, 3) := by decide +kernel
theorem dX11_duchy_82 : decode cX11_duchy 82 = .ok (.ireturn, 1) := by decide +kernel
set_option maxRecDepth 100000 in
theorem c_X11_duchy (l : Launch) (E : xE) (a0 a1 a2 a3 a4 a5 a6 a7 a8 a9 a10 a11 a12 a13 a14 : Nat) {T0 : Nat → Int32} {J0_15 : Int64} {J0_16 : Int64} {T1 : Nat → Int32} {J1_8 : Int64} {T2 : Nat → Int32} {T3 : Nat → Int32} {T4 : Nat → Int32} {V5 : Nat → Int32} {V6 : Nat → Int64} {V7 : Nat → Int32} {V8 : Nat → Int64} {V9 : Nat → Int32} {V10 : Nat → Int32} {V11 : Nat → Int32} {V12 : Nat → Int32} {V13 : Nat → Int32} {T14 : Nat → Int32} {u0_0 u0_3 u0_4 u0_5 u0_6 u0_7 u0_8 u0_9 u0_13 u4_3 u4_4 u4_5 u4_6 u4_7 u14_7 u14_8 u14_9 u14_10 u14_11 u14_12 u14_13 u14_14 : Nat} {x1 : Int32} {z : Int32 × (Nat → Int32) × Nat × Nat × (Nat → Int32) × Int64 × (Nat → Int32) × (Nat → Int32) × (Nat → Int32) × (Nat → Int32) × (Nat → Int64) × (Nat → Int32) × (Nat → Int32) × (Nat → Int32) × (Nat → Int32) × (Nat → Int32)} (hf : f_X11_duchy T0 a14 a3 T1 J1_8 T2 T3 T4 V5 V6 V7 V8 V9 V10 V11 V12 V13 x1 = some z) (sz : Nat) : Met l yX11_duchy (Cond.code yX11_duchy cX11_duchy 4 (some .int) :: gw) ({ frames := 7, cells := 0, slots := 0, locals := 177 }) (xPc E [.ref a0, .int x1] [(a0, o11 T0 J0_15 J0_16 u0_0 a1 a2 u0_3 u0_4 u0_5 u0_6 u0_7 u0_8 u0_9 a14 a3 u0_13), (a1, o8 T1 J1_8 a5 a6), (a2, o4 T2), (a3, o3 T3 a7 a9 a8 a11 a10 a12 a13 a4), (a4, o0 T4 u4_3 u4_4 u4_5 u4_6 u4_7), (a5, ab E 900 V5), (a6, al E 23 V6), (a7, ai E 36 V7), (a8, al E 5 V8), (a9, ai E 5 V9), (a10, ai E 12 V10), (a11, ai E 12 V11), (a12, ai E 12 V12), (a13, ai E 12 V13), (a14, o3 T14 u14_7 u14_8 u14_9 u14_10 u14_11 u14_12 u14_13 u14_14)] sz) (xQi E z.1 [(a0, o11 T0 J0_15 J0_16 u0_0 a1 a2 u0_3 u0_4 u0_5 u0_6 u0_7 u0_8 u0_9 a14 a3 u0_13), (a1, o8 T1 J1_8 a5 a6), (a2, o4 T2), (a3, o3 T3 a7 a9 a8 a11 a10 a12 a13 a4), (a4, o0 T4 u4_3 u4_4 u4_5 u4_6 u4_7), (a5, ab E 900 V5), (a6, al E 23 V6), (a7, ai E 36 V7), (a8, al E 5 V8), (a9, ai E 5 V9), (a10, ai E 12 V10), (a11, ai E 12 V11), (a12, ai E 12 V12), (a13, ai E 12 V13), (a14, o3 T14 u14_7 u14_8 u14_9 u14_10 u14_11 u14_12 u14_13 u14_14)] [(a0, o11 z.2.1 J0_15 J0_16 u0_0 a1 a2 u0_3 u0_4 u0_5 u0_6 u0_7 u0_8 u0_9 z.2.2.1 z.2.2.2.1 u0_13), (a1, o8 z.2.2.2.2.1 z.2.2.2.2.2.1 a5 a6), (a2, o4 z.2.2.2.2.2.2.1), (a3, o3 z.2.2.2.2.2.2.2.1 a7 a9 a8 a11 a10 a12 a13 a4), (a4, o0 z.2.2.2.2.2.2.2.2.1 u4_3 u4_4 u4_5 u4_6 u4_7), (a5, ab E 900 V5), (a6, al E 23 V6), (a7, ai E 36 z.2.2.2.2.2.2.2.2.2.1), (a8, al E 5 z.2.2.2.2.2.2.2.2.2.2.1), (a9, ai E 5 z.2.2.2.2.2.2.2.2.2.2.2.1), (a10, ai E 12 z.2.2.2.2.2.2.2.2.2.2.2.2.1), (a11, ai E 12 z.2.2.2.2.2.2.2.2.2.2.2.2.2.1), (a12, ai E 12 z.2.2.2.2.2.2.2.2.2.2.2.2.2.2.1), (a13, ai E 12 z.2.2.2.2.2.2.2.2.2.2.2.2.2.2.2), (a14, o3 T14 u14_7 u14_8 u14_9 u14_10 u14_11 u14_12 u14_13 u14_14)] sz) 0 0 (va_A [(a0, o11 T0 J0_15 J0_16 u0_0 a1 a2 u0_3 u0_4 u0_5 u0_6 u0_7 u0_8 u0_9 a14 a3 u0_13), (a1, o8 T1 J1_8 a5 a6), (a2, o4 T2), (a3, o3 T3 a7 a9 a8 a11 a10 a12 a13 a4), (a4, o0 T4 u4_3 u4_4 u4_5 u4_6 u4_7), (a5, ab E 900 V5), (a6, al E 23 V6), (a7, ai E 36 V7), (a8, al E 5 V8), (a9, ai E 5 V9), (a10, ai E 12 V10), (a11, ai E 12 V11), (a12, ai E 12 V12), (a13, ai E 12 V13), (a14, o3 T14 u14_7 u14_8 u14_9 u14_10 u14_11 u14_12 u14_13 u14_14)] sz) := by
  refine xM_i (by decide +kernel) (Nat.le_of_ble_eq_true rfl) ?_
  intro p e s m args below meth c A Q hx hb hml hown htg hK hG hA ret0 H locs ls hP hD hS hl
  have ret : ∀ (z' : Int32 × (Nat → Int32) × Nat × Nat × (Nat → Int32) × Int64 × (Nat → Int32) × (Nat → Int32) × (Nat → Int32) × (Nat → Int32) × (Nat → Int64) × (Nat → Int32) × (Nat → Int32) × (Nat → Int32) × (Nat → Int32) × (Nat → Int32)) {H : Heap} {locs : List Loc} {pc : Nat} {ls : Array Slot}, some z' = some z → narrow .int (.int z'.1) = .int z'.1 → va_P E.1 vwCl [(a0, o11 z'.2.1 J0_15 J0_16 u0_0 a1 a2 u0_3 u0_4 u0_5 u0_6 u0_7 u0_8 u0_9 z'.2.2.1 z'.2.2.2.1 u0_13), (a1, o8 z'.2.2.2.2.1 z'.2.2.2.2.2.1 a5 a6), (a2, o4 z'.2.2.2.2.2.2.1), (a3, o3 z'.2.2.2.2.2.2.2.1 a7 a9 a8 a11 a10 a12 a13 a4), (a4, o0 z'.2.2.2.2.2.2.2.2.1 u4_3 u4_4 u4_5 u4_6 u4_7), (a5, ab E 900 V5), (a6, al E 23 V6), (a7, ai E 36 z'.2.2.2.2.2.2.2.2.2.1), (a8, al E 5 z'.2.2.2.2.2.2.2.2.2.2.1), (a9, ai E 5 z'.2.2.2.2.2.2.2.2.2.2.2.1), (a10, ai E 12 z'.2.2.2.2.2.2.2.2.2.2.2.2.1), (a11, ai E 12 z'.2.2.2.2.2.2.2.2.2.2.2.2.2.1), (a12, ai E 12 z'.2.2.2.2.2.2.2.2.2.2.2.2.2.2.1), (a13, ai E 12 z'.2.2.2.2.2.2.2.2.2.2.2.2.2.2.2), (a14, o3 T14 u14_7 u14_8 u14_9 u14_10 u14_11 u14_12 u14_13 u14_14)] H → va_S A s.heap H locs → decode cX11_duchy pc = .ok (.ireturn, 1) → W p l e ({ frames := 7, cells := 0, slots := 0, locals := 177 } : Room) s m args below meth c H locs 0 0 Q (F0 m pc ls [.int z'.1]) := by
    intro z' H locs pc ls h
    cases h
    exact ret0
  replace hl : lv_has ls 4 [(0, .ref a0), (1, .int x1)] := hl
  unfold f_X11_duchy at hf
  refine lv_iload_n hx hb dX11_duchy_0 rfl (lv_at hl 1 rfl) ?_
  refine lv_iconst (v := 0) hx hb dX11_duchy_1 rfl ?_
  refine lv_aload_n hx hb dX11_duchy_2 rfl (lv_at hl 0 rfl) ?_
  refine G11_19 hx hb htg hown hK hP 0 rfl dX11_duchy_3 ?_
  obtain ⟨z6, hz6, hf⟩ := bind_s hf
  refine xV_ir hx hb hml hown htg L11_165 (c_X8_length l E a1 hz6 _) ⟨⟨rfl, rfl⟩, Nat.le_of_ble_eq_true rfl, Nat.le_of_ble_eq_true rfl⟩ hK hG hA hP hD hS (is := [1]) rfl rfl (xrecv hK hP (q0 := 1) (ci := 8) rfl rfl) rfl hl.1 rfl (Nat.le_of_ble_eq_true rfl) dX11_duchy_6 (fun H locs hP hD hS => ?_)
  obtain ⟨z9, hz9, hf⟩ := bind_s hf
  refine xS_ir hx hb hml hown htg L11_114 (c_X11_within l E hz9 _) ⟨⟨rfl, rfl⟩, Nat.le_of_ble_eq_true rfl, Nat.le_of_ble_eq_true rfl⟩ hK hG hA hP hD hS (is := []) rfl rfl rfl hl.1 rfl (Nat.le_of_ble_eq_true rfl) dX11_duchy_9 (fun H locs hP hD hS => ?_)
  refine lv_if_ne (tgt := 21) hx hb dX11_duchy_12 (by decide) (fun c12 => ?_) (fun c12 => ?_)
  · have hf := it_f c12 hf
    refine lv_aload_n hx hb dX11_duchy_21 rfl (lv_at hl 0 rfl) ?_
    refine G11_26 hx hb htg hown hK hP 0 rfl dX11_duchy_22 ?_
    refine lv_aload_n hx hb dX11_duchy_25 rfl (lv_at hl 0 rfl) ?_
    refine G11_19 hx hb htg hown hK hP 0 rfl dX11_duchy_26 ?_
    refine lv_iload_n hx hb dX11_duchy_29 rfl (lv_at hl 1 rfl) ?_
    refine lv_aload_n hx hb dX11_duchy_30 rfl (lv_at hl 0 rfl) ?_
    refine G11_83 hx hb htg hown hK hP 0 rfl dX11_duchy_31 ?_
    obtain ⟨z34, hz34, hf⟩ := bind_s hf
    refine xV_iu hx hb hml hown htg L11_169 (c_X4_take l E a2 a1 a3 a4 a5 a6 a7 a8 a9 a10 a11 a12 a13 hz34 _) ⟨⟨rfl, rfl⟩, Nat.le_of_ble_eq_true rfl, Nat.le_of_ble_eq_true rfl⟩ hK hG hA hP hD hS (is := [2, 1, 3, 4, 5, 6, 7, 8, 9, 10, 11, 12, 13]) (sel := [none, some 1, some 0, some 2, some 3, some 4, some 5, some 6, some 7, some 8, some 9, some 10, some 11, some 12, none]) (ws2 := [(a0, o11 T0 J0_15 J0_16 u0_0 a1 a2 u0_3 u0_4 u0_5 u0_6 u0_7 u0_8 u0_9 a14 a3 u0_13), (a1, o8 z34.2.2.1 z34.2.2.2.1 a5 a6), (a2, o4 z34.2.1), (a3, o3 z34.2.2.2.2.1 a7 a9 a8 a11 a10 a12 a13 a4), (a4, o0 z34.2.2.2.2.2.1 u4_3 u4_4 u4_5 u4_6 u4_7), (a5, ab E 900 V5), (a6, al E 23 V6), (a7, ai E 36 z34.2.2.2.2.2.2.1), (a8, al E 5 z34.2.2.2.2.2.2.2.1), (a9, ai E 5 z34.2.2.2.2.2.2.2.2.1), (a10, ai E 12 z34.2.2.2.2.2.2.2.2.2.1), (a11, ai E 12 z34.2.2.2.2.2.2.2.2.2.2.1), (a12, ai E 12 z34.2.2.2.2.2.2.2.2.2.2.2.1), (a13, ai E 12 z34.2.2.2.2.2.2.2.2.2.2.2.2), (a14, o3 T14 u14_7 u14_8 u14_9 u14_10 u14_11 u14_12 u14_13 u14_14)]) rfl rfl rfl rfl rfl (xrecv hK hP (q0 := 2) (ci := 4) rfl rfl) rfl hl.1 rfl (Nat.le_of_ble_eq_true rfl) dX11_duchy_34 (fun H locs hP hD hS => ?_)
    refine lv_istore_n (lv' := [(2, .int z34.1), (0, .ref a0), (1, .int x1)]) hx hb dX11_duchy_37 rfl hl (by decide) rfl (fun ls hl => ?_)
    refine lv_aload_n hx hb dX11_duchy_38 rfl (lv_at hl 1 rfl) ?_
    obtain ⟨z39, hz39, hf⟩ := bind_s hf
    refine xV_vu hx hb hml hown htg L11_173 (c_X11_endReading l E a0 a1 hz39 _) ⟨⟨rfl, rfl⟩, Nat.le_of_ble_eq_true rfl, Nat.le_of_ble_eq_true rfl⟩ hK hG hA hP hD hS (is := [0, 1]) (sel := [some 0, some 1, none, none, none, none, none, none, none, none, none, none, none, none, none]) (ws2 := [(a0, o11 z39.1 J0_15 J0_16 u0_0 a1 a2 u0_3 u0_4 u0_5 u0_6 u0_7 u0_8 u0_9 a14 a3 u0_13), (a1, o8 z39.2 z34.2.2.2.1 a5 a6), (a2, o4 z34.2.1), (a3, o3 z34.2.2.2.2.1 a7 a9 a8 a11 a10 a12 a13 a4), (a4, o0 z34.2.2.2.2.2.1 u4_3 u4_4 u4_5 u4_6 u4_7), (a5, ab E 900 V5), (a6, al E 23 V6), (a7, ai E 36 z34.2.2.2.2.2.2.1), (a8, al E 5 z34.2.2.2.2.2.2.2.1), (a9, ai E 5 z34.2.2.2.2.2.2.2.2.1), (a10, ai E 12 z34.2.2.2.2.2.2.2.2.2.1), (a11, ai E 12 z34.2.2.2.2.2.2.2.2.2.2.1), (a12, ai E 12 z34.2.2.2.2.2.2.2.2.2.2.2.1), (a13, ai E 12 z34.2.2.2.2.2.2.2.2.2.2.2.2), (a14, o3 T14 u14_7 u14_8 u14_9 u14_10 u14_11 u14_12 u14_13 u14_14)]) rfl rfl rfl rfl rfl (xrecv hK hP (q0 := 0) (ci := 11) rfl rfl) rfl hl.1 rfl (Nat.le_of_ble_eq_true rfl) dX11_duchy_39 (fun H locs hP hD hS => ?_)
    refine lv_iload_n hx hb dX11_duchy_42 rfl (lv_at hl 0 rfl) ?_
    refine lv_if_ne (tgt := 53) hx hb dX11_duchy_43 (by decide) (fun c43 => ?_) (fun c43 => ?_)
    · have hf := it_f c43 hf
      refine lv_aload_n hx hb dX11_duchy_53 rfl (lv_at hl 1 rfl) ?_
      refine G11_79 hx hb htg hown hK hP 0 rfl dX11_duchy_54 ?_
      refine lv_astore_n (lv' := [(3, .ref a14), (2, .int z34.1), (0, .ref a0), (1, .int x1)]) hx hb dX11_duchy_57 rfl hl (by decide) rfl (fun ls hl => ?_)
      refine lv_aload_n hx hb dX11_duchy_58 rfl (lv_at hl 2 rfl) ?_
      refine lv_aload_n hx hb dX11_duchy_59 rfl (lv_at hl 2 rfl) ?_
      refine G11_83 hx hb htg hown hK hP 0 rfl dX11_duchy_60 ?_
      refine P11_79 hx hb htg hown hK hP hD hS 0 rfl dX11_duchy_63 (fun H locs hP hD hS => ?_)
      refine lv_aload_n hx hb dX11_duchy_66 rfl (lv_at hl 2 rfl) ?_
      refine lv_aload_n hx hb dX11_duchy_67 rfl (lv_at hl 0 rfl) ?_
      refine P11_83 hx hb htg hown hK hP hD hS 0 rfl dX11_duchy_68 (fun H locs hP hD hS => ?_)
      refine lv_aload_n hx hb dX11_duchy_71 rfl (lv_at hl 2 rfl) ?_
      refine lv_aload_n hx hb dX11_duchy_72 rfl (lv_at hl 2 rfl) ?_
      refine G11_79 hx hb htg hown hK hP 0 rfl dX11_duchy_73 ?_
      obtain ⟨z76, hz76, hf⟩ := bind_s hf
      refine xV_ir hx hb hml hown htg L11_176 (c_X3_cellCount l E a3 hz76 _) ⟨⟨rfl, rfl⟩, Nat.le_of_ble_eq_true rfl, Nat.le_of_ble_eq_true rfl⟩ hK hG hA hP hD hS (is := [3]) rfl rfl (xrecv hK hP (q0 := 3) (ci := 3) rfl rfl) rfl hl.1 rfl (Nat.le_of_ble_eq_true rfl) dX11_duchy_76 (fun H locs hP hD hS => ?_)
      obtain ⟨z79, hz79, hf⟩ := bind_s hf
      refine xV_iu hx hb hml hown htg L11_179 (c_X11_answer l E a0 hz79 _) ⟨⟨rfl, rfl⟩, Nat.le_of_ble_eq_true rfl, Nat.le_of_ble_eq_true rfl⟩ hK hG hA hP hD hS (is := [0]) (sel := [some 0, none, none, none, none, none, none, none, none, none, none, none, none, none, none]) (ws2 := [(a0, o11 z79.2 J0_15 J0_16 u0_0 a1 a2 u0_3 u0_4 u0_5 u0_6 u0_7 u0_8 u0_9 a3 a14 u0_13), (a1, o8 z39.2 z34.2.2.2.1 a5 a6), (a2, o4 z34.2.1), (a3, o3 z34.2.2.2.2.1 a7 a9 a8 a11 a10 a12 a13 a4), (a4, o0 z34.2.2.2.2.2.1 u4_3 u4_4 u4_5 u4_6 u4_7), (a5, ab E 900 V5), (a6, al E 23 V6), (a7, ai E 36 z34.2.2.2.2.2.2.1), (a8, al E 5 z34.2.2.2.2.2.2.2.1), (a9, ai E 5 z34.2.2.2.2.2.2.2.2.1), (a10, ai E 12 z34.2.2.2.2.2.2.2.2.2.1), (a11, ai E 12 z34.2.2.2.2.2.2.2.2.2.2.1), (a12, ai E 12 z34.2.2.2.2.2.2.2.2.2.2.2.1), (a13, ai E 12 z34.2.2.2.2.2.2.2.2.2.2.2.2), (a14, o3 T14 u14_7 u14_8 u14_9 u14_10 u14_11 u14_12 u14_13 u14_14)]) rfl rfl rfl rfl rfl (xrecv hK hP (q0 := 0) (ci := 11) rfl rfl) rfl hl.1 rfl (Nat.le_of_ble_eq_true rfl) dX11_duchy_79 (fun H locs hP hD hS => ?_)
      exact ret (z79.1, z79.2, a3, a14, z39.2, z34.2.2.2.1, z34.2.1, z34.2.2.2.2.1, z34.2.2.2.2.2.1, z34.2.2.2.2.2.2.1, z34.2.2.2.2.2.2.2.1, z34.2.2.2.2.2.2.2.2.1, z34.2.2.2.2.2.2.2.2.2.1, z34.2.2.2.2.2.2.2.2.2.2.1, z34.2.2.2.2.2.2.2.2.2.2.2.1, z34.2.2.2.2.2.2.2.2.2.2.2.2) hf nzi hP hS dX11_duchy_82
    · have hf := it_t c43 hf
      refine lv_aload_n hx hb dX11_duchy_46 rfl (lv_at hl 1 rfl) ?_
      refine lv_bipush (v := 10) hx hb dX11_duchy_47 rfl ?_
      obtain ⟨z49, hz49, hf⟩ := bind_s hf
      refine xV_iu hx hb hml hown htg L11_137 (c_X11_refused l E a0 hz49 _) ⟨⟨rfl, rfl⟩, Nat.le_of_ble_eq_true rfl, Nat.le_of_ble_eq_true rfl⟩ hK hG hA hP hD hS (is := [0]) (sel := [some 0, none, none, none, none, none, none, none, none, none, none, none, none, none, none]) (ws2 := [(a0, o11 z49.2 J0_15 J0_16 u0_0 a1 a2 u0_3 u0_4 u0_5 u0_6 u0_7 u0_8 u0_9 a14 a3 u0_13), (a1, o8 z39.2 z34.2.2.2.1 a5 a6), (a2, o4 z34.2.1), (a3, o3 z34.2.2.2.2.1 a7 a9 a8 a11 a10 a12 a13 a4), (a4, o0 z34.2.2.2.2.2.1 u4_3 u4_4 u4_5 u4_6 u4_7), (a5, ab E 900 V5), (a6, al E 23 V6), (a7, ai E 36 z34.2.2.2.2.2.2.1), (a8, al E 5 z34.2.2.2.2.2.2.2.1), (a9, ai E 5 z34.2.2.2.2.2.2.2.2.1), (a10, ai E 12 z34.2.2.2.2.2.2.2.2.2.1), (a11, ai E 12 z34.2.2.2.2.2.2.2.2.2.2.1), (a12, ai E 12 z34.2.2.2.2.2.2.2.2.2.2.2.1), (a13, ai E 12 z34.2.2.2.2.2.2.2.2.2.2.2.2), (a14, o3 T14 u14_7 u14_8 u14_9 u14_10 u14_11 u14_12 u14_13 u14_14)]) rfl rfl rfl rfl rfl (xrecv hK hP (q0 := 0) (ci := 11) rfl rfl) rfl hl.1 rfl (Nat.le_of_ble_eq_true rfl) dX11_duchy_49 (fun H locs hP hD hS => ?_)
      exact ret (z49.1, z49.2, a14, a3, z39.2, z34.2.2.2.1, z34.2.1, z34.2.2.2.2.1, z34.2.2.2.2.2.1, z34.2.2.2.2.2.2.1, z34.2.2.2.2.2.2.2.1, z34.2.2.2.2.2.2.2.2.1, z34.2.2.2.2.2.2.2.2.2.1, z34.2.2.2.2.2.2.2.2.2.2.1, z34.2.2.2.2.2.2.2.2.2.2.2.1, z34.2.2.2.2.2.2.2.2.2.2.2.2) hf nzi hP hS dX11_duchy_52
  · have hf := it_t c12 hf
    refine lv_aload_n hx hb dX11_duchy_15 rfl (lv_at hl 0 rfl) ?_
    refine lv_iconst (v := 5) hx hb dX11_duchy_16 rfl ?_
    obtain ⟨z17, hz17, hf⟩ := bind_s hf
    refine xV_iu hx hb hml hown htg L11_137 (c_X11_refused l E a0 hz17 _) ⟨⟨rfl, rfl⟩, Nat.le_of_ble_eq_true rfl, Nat.le_of_ble_eq_true rfl⟩ hK hG hA hP hD hS (is := [0]) (sel := [some 0, none, none, none, none, none, none, none, none, none, none, none, none, none, none]) (ws2 := [(a0, o11 z17.2 J0_15 J0_16 u0_0 a1 a2 u0_3 u0_4 u0_5 u0_6 u0_7 u0_8 u0_9 a14 a3 u0_13), (a1, o8 T1 J1_8 a5 a6), (a2, o4 T2), (a3, o3 T3 a7 a9 a8 a11 a10 a12 a13 a4), (a4, o0 T4 u4_3 u4_4 u4_5 u4_6 u4_7), (a5, ab E 900 V5), (a6, al E 23 V6), (a7, ai E 36 V7), (a8, al E 5 V8), (a9, ai E 5 V9), (a10, ai E 12 V10), (a11, ai E 12 V11), (a12, ai E 12 V12), (a13, ai E 12 V13), (a14, o3 T14 u14_7 u14_8 u14_9 u14_10 u14_11 u14_12 u14_13 u14_14)]) rfl rfl rfl rfl rfl (xrecv hK hP (q0 := 0) (ci := 11) rfl rfl) rfl hl.1 rfl (Nat.le_of_ble_eq_true rfl) dX11_duchy_17 (fun H locs hP hD hS => ?_)
    exact ret (z17.1, z17.2, a14, a3, T1, J1_8, T2, T3, T4, V7, V8, V9, V10, V11, V12, V13) hf nzi hP hS dX11_duchy_20
theorem dX11_years_0 : decode cX11_years 0 = .ok (.iload_n 1, 1) := by decide +kernel
theorem dX11_years_1 : decode cX11_years 1 = .ok (.iconst 0, 1) := by decide +kernel
theorem dX11_years_2 : decode cX11_years 2 = .ok (.aload_n 0, 1) := by decide +kernel
theorem dX11_years_3 : decode cX11_years 3 = .ok (.getfield 19, 3) := by decide +kernel
theorem dX11_years_6 : decode cX11_years 6 = .ok (.invokevirtual 165, 3) := by decide +kernel
theorem dX11_years_9 : decode cX11_years 9 = .ok (.sipush 300, 3) := by decide +kernel
theorem dX11_years_12 : decode cX11_years 12 = .ok (.invokestatic 182, 3) := by decide +kernel
theorem dX11_years_15 : decode cX11_years 15 = .ok (.invokestatic 114, 3) := by decide +kernel
theorem dX11_years_18 : decode cX11_years 18 = .ok (.ifCond .ne 9, 3) := by decide +kernel
theorem dX11_years_21 : decode cX11_years 21 = .ok (.aload_n 0, 1) := by decide +kernel
theorem dX11_years_22 : decode cX11_years 22 = .ok (.iconst 5, 1) := by decide +kernel
theorem dX11_years_23 : decode cX11_years 23 = .ok (.invokevirtual 137, 3) := by decide +kernel
theorem dX11_years_26 : decode cX11_years 26 = .ok (.ireturn, 1) := by decide +kernel
theorem dX11_years_27 : decode cX11_years 27 = .ok (.aload_n 0, 1) := by decide +kernel
theorem dX11_years_28 : decode cX11_years 28 = .ok (.getfield 33, 3) := by decide +kernel
theorem dX11_years_31 : decode cX11_years 31 = .ok (.aload_n 0, 1) := by decide +kernel
theorem dX11_years_32 : decode cX11_years 32 = .ok (.getfield 19, 3) := by decide +kernel
theorem dX11_years_35 : decode cX11_years 35 = .ok (.iload_n 1, 1) := by decide +kernel
theorem dX11_years_36 : decode cX11_years 36 = .ok (.aload_n 0, 1) := by decide +kernel
theorem dX11_years_37 : decode cX11_years 37 = .ok (.getfield 79, 3) := by decide +kernel
theorem dX11_years_40 : decode cX11_years 40 = .ok (.aload_n 0, 1) := by decide +kernel
theorem dX11_years_41 : decode cX11_years 41 = .ok (.getfield 89, 3) := by decide +kernel
theorem dX11_years_44 : decode cX11_years 44 = .ok (.invokevirtual 187, 3) := by decide +kernel
theorem dX11_years_47 : decode cX11_years 47 = .ok (.istore_n 2, 1) := by decide +kernel
theorem dX11_years_48 : decode cX11_years 48 = .ok (.aload_n 0, 1) := by decide +kernel
theorem dX11_years_49 : decode cX11_years 49 = .ok (.invokevirtual 173, 3) := by decide +kernel
theorem dX11_years_52 : decode cX11_years 52 = .ok (.iload_n 2, 1) := by decide +kernel
theorem dX11_years_53 : decode cX11_years 53 = .ok (.ifCond .ne 10, 3) := by decide +kernel
theorem dX11_years_56 : decode cX11_years 56 = .ok (.aload_n 0, 1) := by decide +kernel
theorem dX11_years_57 : decode cX11_years 57 = .ok (.bipush 10, 2) := by decide +kernel
theorem dX11_years_59 : decode cX11_years 59 = .ok (.invokevirtual 137, 3) := by decide +kernel
theorem dX11_years_62 : decode cX11_years 62 = .ok (.ireturn, 1) := by decide +kernel
theorem dX11_years_63 : decode cX11_years 63 = .ok (.aload_n 0, 1) := by decide +kernel
theorem dX11_years_64 : decode cX11_years 64 = .ok (.getfield 79, 3) := by decide +kernel
theorem dX11_years_67 : decode cX11_years 67 = .ok (.getfield 190, 3) := by decide +kernel
theorem dX11_years_70 : decode cX11_years 70 = .ok (.astore_n 3, 1) := by decide +kernel
theorem dX11_years_71 : decode cX11_years 71 = .ok (.aload_n 0, 1) := by decide +kernel
theorem dX11_years_72 : decode cX11_years 72 = .ok (.getfield 79, 3) := by decide +kernel
theorem dX11_years_75 : decode cX11_years 75 = .ok (.aload_n 0, 1) := by decide +kernel
theorem dX11_years_76 : decode cX11_years 76 = .ok (.getfield 89, 3) := by decide +kernel
theorem dX11_years_79 : decode cX11_years 79 = .ok (.putfield 190, 3) := by decide +kernel
theorem dX11_years_82 : decode cX11_years 82 = .ok (.aload_n 0, 1) := by decide +kernel
theorem dX11_years_83 : decode cX11_years 83 = .ok (.aload_n 3, 1) := by decide +kernel
theorem dX11_years_84 : decode cX11_years 84 = .ok (.putfield 89, 3) := by decide +kernel
theorem dX11_years_87 : decode cX11_years 87 = .ok (.aload_n 0, 1) := by decide +kernel
theorem dX11_years_88 : decode cX11_years 88 = .ok (.aload_n 0, 1) := by decide +kernel
theorem dX11_years_89 : decode cX11_years 89 = .ok (.getfield 79, 3) := by decide +kernel
theorem dX11_years_92 : decode cX11_years 92 = .ok (.getfield 190, 3) := by decide +kernel
theorem dX11_years_95 : decode cX11_years 95 = .ok (.getfield 193, 3) := by decide +kernel
theorem dX11_years_98 : decode cX11_years 98 = .ok (.invokevirtual 179, 3) := by decide +kernel
theorem dX11_years_101 : decode cX11_years 101 = .ok (.ireturn, 1) := by decide +kernel
set_option maxRecDepth 100000 in
theorem c_X11_years (l : Launch) (E : xE) (a0 a1 a2 a3 a4 a5 a6 a7 a8 a9 a10 a11 a12 a13 a14 : Nat) {T0 : Nat → Int32} {J0_15 : Int64} {J0_16 : Int64} {T1 : Nat → Int32} {J1_8 : Int64} {T2 : Nat → Int32} {T3 : Nat → Int32} {T4 : Nat → Int32} {V5 : Nat → Int32} {V6 : Nat → Int64} {V7 : Nat → Int64} {V8 : Nat → Int32} {V9 : Nat → Int32} {V10 : Nat → Int32} {V11 : Nat → Int32} {V12 : Nat → Int32} {V13 : Nat → Int32} {T14 : Nat → Int32} {u0_0 u0_2 u0_4 u0_5 u0_6 u0_7 u0_8 u0_9 u0_12 u3_7 u3_8 u3_10 u3_11 u3_12 u3_13 u14_3 u14_4 u14_5 u14_6 u14_7 : Nat} {x1 : Int32} {z : Int32 × (Nat → Int32) × Nat × (Nat → Int32) × Int64 × (Nat → Int32) × Nat × (Nat → Int32) × (Nat → Int32) × (Nat → Int32) × (Nat → Int32) × (Nat → Int32) × (Nat → Int32) × (Nat → Int32)} (hf : f_X11_years T0 a4 T1 J1_8 T2 T3 a14 T4 V5 V6 V7 V8 V9 V10 V11 V12 V13 x1 = some z) (sz : Nat) : Met l yX11_years (Cond.code yX11_years cX11_years 4 (some .int) :: gw) ({ frames := 6, cells := 0, slots := 0, locals := 142 }) (xPc E [.ref a0, .int x1] [(a0, o11 T0 J0_15 J0_16 u0_0 a1 u0_2 a2 u0_4 u0_5 u0_6 u0_7 u0_8 u0_9 a3 u0_12 a4), (a1, o8 T1 J1_8 a5 a6), (a2, o10 T2 a13), (a3, o3 T3 u3_7 u3_8 a7 u3_10 u3_11 u3_12 u3_13 a14), (a4, o0 T4 a8 a9 a10 a11 a12), (a5, ab E 900 V5), (a6, al E 23 V6), (a7, al E 5 V7), (a8, ai E 60 V8), (a9, ai E 60 V9), (a10, ai E 60 V10), (a11, ai E 60 V11), (a12, ai E 60 V12), (a13, ai E 3 V13), (a14, o0 T14 u14_3 u14_4 u14_5 u14_6 u14_7)] sz) (xQi E z.1 [(a0, o11 T0 J0_15 J0_16 u0_0 a1 u0_2 a2 u0_4 u0_5 u0_6 u0_7 u0_8 u0_9 a3 u0_12 a4), (a1, o8 T1 J1_8 a5 a6), (a2, o10 T2 a13), (a3, o3 T3 u3_7 u3_8 a7 u3_10 u3_11 u3_12 u3_13 a14), (a4, o0 T4 a8 a9 a10 a11 a12), (a5, ab E 900 V5), (a6, al E 23 V6), (a7, al E 5 V7), (a8, ai E 60 V8), (a9, ai E 60 V9), (a10, ai E 60 V10), (a11, ai E 60 V11), (a12, ai E 60 V12), (a13, ai E 3 V13), (a14, o0 T14 u14_3 u14_4 u14_5 u14_6 u14_7)] [(a0, o11 z.2.1 J0_15 J0_16 u0_0 a1 u0_2 a2 u0_4 u0_5 u0_6 u0_7 u0_8 u0_9 a3 u0_12 z.2.2.1), (a1, o8 z.2.2.2.1 z.2.2.2.2.1 a5 a6), (a2, o10 z.2.2.2.2.2.1 a13), (a3, o3 T3 u3_7 u3_8 a7 u3_10 u3_11 u3_12 u3_13 z.2.2.2.2.2.2.1), (a4, o0 z.2.2.2.2.2.2.2.1 a8 a9 a10 a11 a12), (a5, ab E 900 V5), (a6, al E 23 V6), (a7, al E 5 V7), (a8, ai E 60 z.2.2.2.2.2.2.2.2.1), (a9, ai E 60 z.2.2.2.2.2.2.2.2.2.1), (a10, ai E 60 z.2.2.2.2.2.2.2.2.2.2.1), (a11, ai E 60 z.2.2.2.2.2.2.2.2.2.2.2.1), (a12, ai E 60 z.2.2.2.2.2.2.2.2.2.2.2.2.1), (a13, ai E 3 z.2.2.2.2.2.2.2.2.2.2.2.2.2), (a14, o0 T14 u14_3 u14_4 u14_5 u14_6 u14_7)] sz) 0 0 (va_A [(a0, o11 T0 J0_15 J0_16 u0_0 a1 u0_2 a2 u0_4 u0_5 u0_6 u0_7 u0_8 u0_9 a3 u0_12 a4), (a1, o8 T1 J1_8 a5 a6), (a2, o10 T2 a13), (a3, o3 T3 u3_7 u3_8 a7 u3_10 u3_11 u3_12 u3_13 a14), (a4, o0 T4 a8 a9 a10 a11 a12), (a5, ab E 900 V5), (a6, al E 23 V6), (a7, al E 5 V7), (a8, ai E 60 V8), (a9, ai E 60 V9), (a10, ai E 60 V10), (a11, ai E 60 V11), (a12, ai E 60 V12), (a13, ai E 3 V13), (a14, o0 T14 u14_3 u14_4 u14_5 u14_6 u14_7)] sz) := by
  refine xM_i (by decide +kernel) (Nat.le_of_ble_eq_true rfl) ?_
  intro p e s m args below meth c A Q hx hb hml hown htg hK hG hA ret0 H locs ls hP hD hS hl
  have ret : ∀ (z' : Int32 × (Nat → Int32) × Nat × (Nat → Int32) × Int64 × (Nat → Int32) × Nat × (Nat → Int32) × (Nat → Int32) × (Nat → Int32) × (Nat → Int32) × (Nat → Int32) × (Nat → Int32) × (Nat → Int32)) {H : Heap} {locs : List Loc} {pc : Nat} {ls : Array Slot}, some z' = some z → narrow .int (.int z'.1) = .int z'.1 → va_P E.1 vwCl [(a0, o11 z'.2.1 J0_15 J0_16 u0_0 a1 u0_2 a2 u0_4 u0_5 u0_6 u0_7 u0_8 u0_9 a3 u0_12 z'.2.2.1), (a1, o8 z'.2.2.2.1 z'.2.2.2.2.1 a5 a6), (a2, o10 z'.2.2.2.2.2.1 a13), (a3, o3 T3 u3_7 u3_8 a7 u3_10 u3_11 u3_12 u3_13 z'.2.2.2.2.2.2.1), (a4, o0 z'.2.2.2.2.2.2.2.1 a8 a9 a10 a11 a12), (a5, ab E 900 V5), (a6, al E 23 V6), (a7, al E 5 V7), (a8, ai E 60 z'.2.2.2.2.2.2.2.2.1), (a9, ai E 60 z'.2.2.2.2.2.2.2.2.2.1), (a10, ai E 60 z'.2.2.2.2.2.2.2.2.2.2.1), (a11, ai E 60 z'.2.2.2.2.2.2.2.2.2.2.2.1), (a12, ai E 60 z'.2.2.2.2.2.2.2.2.2.2.2.2.1), (a13, ai E 3 z'.2.2.2.2.2.2.2.2.2.2.2.2.2), (a14, o0 T14 u14_3 u14_4 u14_5 u14_6 u14_7)] H → va_S A s.heap H locs → decode cX11_years pc = .ok (.ireturn, 1) → W p l e ({ frames := 6, cells := 0, slots := 0, locals := 142 } : Room) s m args below meth c H locs 0 0 Q (F0 m pc ls [.int z'.1]) := by
    intro z' H locs pc ls h
    cases h
    exact ret0
  replace hl : lv_has ls 4 [(0, .ref a0), (1, .int x1)] := hl
  unfold f_X11_years at hf
  refine lv_iload_n hx hb dX11_years_0 rfl (lv_at hl 1 rfl) ?_
  refine lv_iconst (v := 0) hx hb dX11_years_1 rfl ?_
  refine lv_aload_n hx hb dX11_years_2 rfl (lv_at hl 0 rfl) ?_
  refine G11_19 hx hb htg hown hK hP 0 rfl dX11_years_3 ?_
  obtain ⟨z6, hz6, hf⟩ := bind_s hf
  refine xV_ir hx hb hml hown htg L11_165 (c_X8_length l E a1 hz6 _) ⟨⟨rfl, rfl⟩, Nat.le_of_ble_eq_true rfl, Nat.le_of_ble_eq_true rfl⟩ hK hG hA hP hD hS (is := [1]) rfl rfl (xrecv hK hP (q0 := 1) (ci := 8) rfl rfl) rfl hl.1 rfl (Nat.le_of_ble_eq_true rfl) dX11_years_6 (fun H locs hP hD hS => ?_)
  refine lv_sipush (v := 300) hx hb dX11_years_9 rfl ?_
  refine xmin hx hb hml hl.1 hown htg ml11_182 (Nat.le_of_ble_eq_true rfl) (Nat.le_of_ble_eq_true rfl) dX11_years_12 ?_
  refine lv_topi (fun w12 ew12 => ?_)
  have hf := letv_s ew12 hf
  obtain ⟨z15, hz15, hf⟩ := bind_s hf
  refine xS_ir hx hb hml hown htg L11_114 (c_X11_within l E hz15 _) ⟨⟨rfl, rfl⟩, Nat.le_of_ble_eq_true rfl, Nat.le_of_ble_eq_true rfl⟩ hK hG hA hP hD hS (is := []) rfl rfl rfl hl.1 rfl (Nat.le_of_ble_eq_true rfl) dX11_years_15 (fun H locs hP hD hS => ?_)
  refine lv_if_ne (tgt := 27) hx hb dX11_years_18 (by decide) (fun c18 => ?_) (fun c18 => ?_)
  · have hf := it_f c18 hf
    refine lv_aload_n hx hb dX11_years_27 rfl (lv_at hl 0 rfl) ?_
    refine G11_33 hx hb htg hown hK hP 0 rfl dX11_years_28 ?_
    refine lv_aload_n hx hb dX11_years_31 rfl (lv_at hl 0 rfl) ?_
    refine G11_19 hx hb htg hown hK hP 0 rfl dX11_years_32 ?_
    refine lv_iload_n hx hb dX11_years_35 rfl (lv_at hl 1 rfl) ?_
    refine lv_aload_n hx hb dX11_years_36 rfl (lv_at hl 0 rfl) ?_
    refine G11_79 hx hb htg hown hK hP 0 rfl dX11_years_37 ?_
    refine lv_aload_n hx hb dX11_years_40 rfl (lv_at hl 0 rfl) ?_
    refine G11_89 hx hb htg hown hK hP 0 rfl dX11_years_41 ?_
    obtain ⟨z44, hz44, hf⟩ := bind_s hf
    refine xV_iu hx hb hml hown htg L11_187 (c_X10_take l E a2 a1 a3 a4 a5 a6 a7 a8 a9 a10 a11 a12 a13 hz44 _) ⟨⟨rfl, rfl⟩, Nat.le_of_ble_eq_true rfl, Nat.le_of_ble_eq_true rfl⟩ hK hG hA hP hD hS (is := [2, 1, 3, 4, 5, 6, 7, 8, 9, 10, 11, 12, 13]) (sel := [none, some 1, some 0, some 2, some 3, some 4, some 5, some 6, some 7, some 8, some 9, some 10, some 11, some 12, none]) (ws2 := [(a0, o11 T0 J0_15 J0_16 u0_0 a1 u0_2 a2 u0_4 u0_5 u0_6 u0_7 u0_8 u0_9 a3 u0_12 a4), (a1, o8 z44.2.2.1 z44.2.2.2.1 a5 a6), (a2, o10 z44.2.1 a13), (a3, o3 T3 u3_7 u3_8 a7 u3_10 u3_11 u3_12 u3_13 a14), (a4, o0 z44.2.2.2.2.1 a8 a9 a10 a11 a12), (a5, ab E 900 V5), (a6, al E 23 V6), (a7, al E 5 V7), (a8, ai E 60 z44.2.2.2.2.2.1), (a9, ai E 60 z44.2.2.2.2.2.2.1), (a10, ai E 60 z44.2.2.2.2.2.2.2.1), (a11, ai E 60 z44.2.2.2.2.2.2.2.2.1), (a12, ai E 60 z44.2.2.2.2.2.2.2.2.2.1), (a13, ai E 3 z44.2.2.2.2.2.2.2.2.2.2), (a14, o0 T14 u14_3 u14_4 u14_5 u14_6 u14_7)]) rfl rfl rfl rfl rfl (xrecv hK hP (q0 := 2) (ci := 10) rfl rfl) rfl hl.1 rfl (Nat.le_of_ble_eq_true rfl) dX11_years_44 (fun H locs hP hD hS => ?_)
    refine lv_istore_n (lv' := [(2, .int z44.1), (0, .ref a0), (1, .int x1)]) hx hb dX11_years_47 rfl hl (by decide) rfl (fun ls hl => ?_)
    refine lv_aload_n hx hb dX11_years_48 rfl (lv_at hl 1 rfl) ?_
    obtain ⟨z49, hz49, hf⟩ := bind_s hf
    refine xV_vu hx hb hml hown htg L11_173 (c_X11_endReading l E a0 a1 hz49 _) ⟨⟨rfl, rfl⟩, Nat.le_of_ble_eq_true rfl, Nat.le_of_ble_eq_true rfl⟩ hK hG hA hP hD hS (is := [0, 1]) (sel := [some 0, some 1, none, none, none, none, none, none, none, none, none, none, none, none, none]) (ws2 := [(a0, o11 z49.1 J0_15 J0_16 u0_0 a1 u0_2 a2 u0_4 u0_5 u0_6 u0_7 u0_8 u0_9 a3 u0_12 a4), (a1, o8 z49.2 z44.2.2.2.1 a5 a6), (a2, o10 z44.2.1 a13), (a3, o3 T3 u3_7 u3_8 a7 u3_10 u3_11 u3_12 u3_13 a14), (a4, o0 z44.2.2.2.2.1 a8 a9 a10 a11 a12), (a5, ab E 900 V5), (a6, al E 23 V6), (a7, al E 5 V7), (a8, ai E 60 z44.2.2.2.2.2.1), (a9, ai E 60 z44.2.2.2.2.2.2.1), (a10, ai E 60 z44.2.2.2.2.2.2.2.1), (a11, ai E 60 z44.2.2.2.2.2.2.2.2.1), (a12, ai E 60 z44.2.2.2.2.2.2.2.2.2.1), (a13, ai E 3 z44.2.2.2.2.2.2.2.2.2.2), (a14, o0 T14 u14_3 u14_4 u14_5 u14_6 u14_7)]) rfl rfl rfl rfl rfl (xrecv hK hP (q0 := 0) (ci := 11) rfl rfl) rfl hl.1 rfl (Nat.le_of_ble_eq_true rfl) dX11_years_49 (fun H locs hP hD hS => ?_)
    refine lv_iload_n hx hb dX11_years_52 rfl (lv_at hl 0 rfl) ?_
    refine lv_if_ne (tgt := 63) hx hb dX11_years_53 (by decide) (fun c53 => ?_) (fun c53 => ?_)
    · have hf := it_f c53 hf
      refine lv_aload_n hx hb dX11_years_63 rfl (lv_at hl 1 rfl) ?_
      refine G11_79 hx hb htg hown hK hP 0 rfl dX11_years_64 ?_
      refine G11_190 hx hb htg hown hK hP 3 rfl dX11_years_67 ?_
      refine lv_astore_n (lv' := [(3, .ref a14), (2, .int z44.1), (0, .ref a0), (1, .int x1)]) hx hb dX11_years_70 rfl hl (by decide) rfl (fun ls hl => ?_)
      refine lv_aload_n hx hb dX11_years_71 rfl (lv_at hl 2 rfl) ?_
      refine G11_79 hx hb htg hown hK hP 0 rfl dX11_years_72 ?_
      refine lv_aload_n hx hb dX11_years_75 rfl (lv_at hl 2 rfl) ?_
      refine G11_89 hx hb htg hown hK hP 0 rfl dX11_years_76 ?_
      refine P11_190 hx hb htg hown hK hP hD hS 3 rfl dX11_years_79 (fun H locs hP hD hS => ?_)
      refine lv_aload_n hx hb dX11_years_82 rfl (lv_at hl 2 rfl) ?_
      refine lv_aload_n hx hb dX11_years_83 rfl (lv_at hl 0 rfl) ?_
      refine P11_89 hx hb htg hown hK hP hD hS 0 rfl dX11_years_84 (fun H locs hP hD hS => ?_)
      refine lv_aload_n hx hb dX11_years_87 rfl (lv_at hl 2 rfl) ?_
      refine lv_aload_n hx hb dX11_years_88 rfl (lv_at hl 2 rfl) ?_
      refine G11_79 hx hb htg hown hK hP 0 rfl dX11_years_89 ?_
      refine G11_190 hx hb htg hown hK hP 3 rfl dX11_years_92 ?_
      refine G11_193 hx hb htg hown hK hP 4 rfl dX11_years_95 ?_
      obtain ⟨z98, hz98, hf⟩ := bind_s hf
      refine xV_iu hx hb hml hown htg L11_179 (c_X11_answer l E a0 hz98 _) ⟨⟨rfl, rfl⟩, Nat.le_of_ble_eq_true rfl, Nat.le_of_ble_eq_true rfl⟩ hK hG hA hP hD hS (is := [0]) (sel := [some 0, none, none, none, none, none, none, none, none, none, none, none, none, none, none]) (ws2 := [(a0, o11 z98.2 J0_15 J0_16 u0_0 a1 u0_2 a2 u0_4 u0_5 u0_6 u0_7 u0_8 u0_9 a3 u0_12 a14), (a1, o8 z49.2 z44.2.2.2.1 a5 a6), (a2, o10 z44.2.1 a13), (a3, o3 T3 u3_7 u3_8 a7 u3_10 u3_11 u3_12 u3_13 a4), (a4, o0 z44.2.2.2.2.1 a8 a9 a10 a11 a12), (a5, ab E 900 V5), (a6, al E 23 V6), (a7, al E 5 V7), (a8, ai E 60 z44.2.2.2.2.2.1), (a9, ai E 60 z44.2.2.2.2.2.2.1), (a10, ai E 60 z44.2.2.2.2.2.2.2.1), (a11, ai E 60 z44.2.2.2.2.2.2.2.2.1), (a12, ai E 60 z44.2.2.2.2.2.2.2.2.2.1), (a13, ai E 3 z44.2.2.2.2.2.2.2.2.2.2), (a14, o0 T14 u14_3 u14_4 u14_5 u14_6 u14_7)]) rfl rfl rfl rfl rfl (xrecv hK hP (q0 := 0) (ci := 11) rfl rfl) rfl hl.1 rfl (Nat.le_of_ble_eq_true rfl) dX11_years_98 (fun H locs hP hD hS => ?_)
      exact ret (z98.1, z98.2, a14, z49.2, z44.2.2.2.1, z44.2.1, a4, z44.2.2.2.2.1, z44.2.2.2.2.2.1, z44.2.2.2.2.2.2.1, z44.2.2.2.2.2.2.2.1, z44.2.2.2.2.2.2.2.2.1, z44.2.2.2.2.2.2.2.2.2.1, z44.2.2.2.2.2.2.2.2.2.2) hf nzi hP hS dX11_years_101
    · have hf := it_t c53 hf
      refine lv_aload_n hx hb dX11_years_56 rfl (lv_at hl 1 rfl) ?_
      refine lv_bipush (v := 10) hx hb dX11_years_57 rfl ?_
      obtain ⟨z59, hz59, hf⟩ := bind_s hf
      refine xV_iu hx hb hml hown htg L11_137 (c_X11_refused l E a0 hz59 _) ⟨⟨rfl, rfl⟩, Nat.le_of_ble_eq_true rfl, Nat.le_of_ble_eq_true rfl⟩ hK hG hA hP hD hS (is := [0]) (sel := [some 0, none, none, none, none, none, none, none, none, none, none, none, none, none, none]) (ws2 := [(a0, o11 z59.2 J0_15 J0_16 u0_0 a1 u0_2 a2 u0_4 u0_5 u0_6 u0_7 u0_8 u0_9 a3 u0_12 a4), (a1, o8 z49.2 z44.2.2.2.1 a5 a6), (a2, o10 z44.2.1 a13), (a3, o3 T3 u3_7 u3_8 a7 u3_10 u3_11 u3_12 u3_13 a14), (a4, o0 z44.2.2.2.2.1 a8 a9 a10 a11 a12), (a5, ab E 900 V5), (a6, al E 23 V6), (a7, al E 5 V7), (a8, ai E 60 z44.2.2.2.2.2.1), (a9, ai E 60 z44.2.2.2.2.2.2.1), (a10, ai E 60 z44.2.2.2.2.2.2.2.1), (a11, ai E 60 z44.2.2.2.2.2.2.2.2.1), (a12, ai E 60 z44.2.2.2.2.2.2.2.2.2.1), (a13, ai E 3 z44.2.2.2.2.2.2.2.2.2.2), (a14, o0 T14 u14_3 u14_4 u14_5 u14_6 u14_7)]) rfl rfl rfl rfl rfl (xrecv hK hP (q0 := 0) (ci := 11) rfl rfl) rfl hl.1 rfl (Nat.le_of_ble_eq_true rfl) dX11_years_59 (fun H locs hP hD hS => ?_)
      exact ret (z59.1, z59.2, a4, z49.2, z44.2.2.2.1, z44.2.1, a14, z44.2.2.2.2.1, z44.2.2.2.2.2.1, z44.2.2.2.2.2.2.1, z44.2.2.2.2.2.2.2.1, z44.2.2.2.2.2.2.2.2.1, z44.2.2.2.2.2.2.2.2.2.1, z44.2.2.2.2.2.2.2.2.2.2) hf nzi hP hS dX11_years_62
  · have hf := it_t c18 hf
    refine lv_aload_n hx hb dX11_years_21 rfl (lv_at hl 0 rfl) ?_
    refine lv_iconst (v := 5) hx hb dX11_years_22 rfl ?_
    obtain ⟨z23, hz23, hf⟩ := bind_s hf
    refine xV_iu hx hb hml hown htg L11_137 (c_X11_refused l E a0 hz23 _) ⟨⟨rfl, rfl⟩, Nat.le_of_ble_eq_true rfl, Nat.le_of_ble_eq_true rfl⟩ hK hG hA hP hD hS (is := [0]) (sel := [some 0, none, none, none, none, none, none, none, none, none, none, none, none, none, none]) (ws2 := [(a0, o11 z23.2 J0_15 J0_16 u0_0 a1 u0_2 a2 u0_4 u0_5 u0_6 u0_7 u0_8 u0_9 a3 u0_12 a4), (a1, o8 T1 J1_8 a5 a6), (a2, o10 T2 a13), (a3, o3 T3 u3_7 u3_8 a7 u3_10 u3_11 u3_12 u3_13 a14), (a4, o0 T4 a8 a9 a10 a11 a12), (a5, ab E 900 V5), (a6, al E 23 V6), (a7, al E 5 V7), (a8, ai E 60 V8), (a9, ai E 60 V9), (a10, ai E 60 V10), (a11, ai E 60 V11), (a12, ai E 60 V12), (a13, ai E 3 V13), (a14, o0 T14 u14_3 u14_4 u14_5 u14_6 u14_7)]) rfl rfl rfl rfl rfl (xrecv hK hP (q0 := 0) (ci := 11) rfl rfl) rfl hl.1 rfl (Nat.le_of_ble_eq_true rfl) dX11_years_23 (fun H locs hP hD hS => ?_)
    exact ret (z23.1, z23.2, a4, T1, J1_8, T2, a14, T4, V8, V9, V10, V11, V12, V13) hf nzi hP hS dX11_years_26
theorem dX11_mark_0 : decode cX11_mark 0 = .ok (.aload_n 0, 1) := by decide +kernel
theorem dX11_mark_1 : decode cX11_mark 1 = .ok (.getfield 385, 3) := by decide +kernel
theorem dX11_mark_4 : decode cX11_mark 4 = .ok (.aload_n 0, 1) := by decide +kernel
theorem dX11_mark_5 : decode cX11_mark 5 = .ok (.getfield 74, 3) := by decide +kernel
theorem dX11_mark_8 : decode cX11_mark 8 = .ok (.arraylength, 1) := by decide +kernel
theorem dX11_mark_9 : decode cX11_mark 9 = .ok (.if_icmp .lt 10, 3) := by decide +kernel
theorem dX11_mark_12 : decode cX11_mark 12 = .ok (.aload_n 0, 1) := by decide +kernel
theorem dX11_mark_13 : decode cX11_mark 13 = .ok (.bipush 7, 2) := by decide +kernel
theorem dX11_mark_15 : decode cX11_mark 15 = .ok (.invokevirtual 137, 3) := by decide +kernel
theorem dX11_mark_18 : decode cX11_mark 18 = .ok (.ireturn, 1) := by decide +kernel
theorem dX11_mark_19 : decode cX11_mark 19 = .ok (.aload_n 0, 1) := by decide +kernel
theorem dX11_mark_20 : decode cX11_mark 20 = .ok (.getfield 74, 3) := by decide +kernel
theorem dX11_mark_23 : decode cX11_mark 23 = .ok (.aload_n 0, 1) := by decide +kernel
theorem dX11_mark_24 : decode cX11_mark 24 = .ok (.getfield 385, 3) := by decide +kernel
theorem dX11_mark_27 : decode cX11_mark 27 = .ok (.aaload, 1) := by decide +kernel
theorem dX11_mark_28 : decode cX11_mark 28 = .ok (.aload_n 0, 1) := by decide +kernel
theorem dX11_mark_29 : decode cX11_mark 29 = .ok (.getfield 79, 3) := by decide +kernel
theorem dX11_mark_32 : decode cX11_mark 32 = .ok (.invokevirtual 388, 3) := by decide +kernel
theorem dX11_mark_35 : decode cX11_mark 35 = .ok (.aload_n 0, 1) := by decide +kernel
theorem dX11_mark_36 : decode cX11_mark 36 = .ok (.dup, 1) := by decide +kernel
theorem dX11_mark_37 : decode cX11_mark 37 = .ok (.getfield 385, 3) := by decide +kernel
theorem dX11_mark_40 : decode cX11_mark 40 = .ok (.iconst 1, 1) := by decide +kernel
theorem dX11_mark_41 : decode cX11_mark 41 = .ok (.iadd, 1) := by decide +kernel
theorem dX11_mark_42 : decode cX11_mark 42 = .ok (.putfield 385, 3) := by decide +kernel
theorem dX11_mark_45 : decode cX11_mark 45 = .ok (.aload_n 0, 1) := by decide +kernel
theorem dX11_mark_46 : decode cX11_mark 46 = .ok (.aload_n 0, 1) := by decide +kernel
theorem dX11_mark_47 : decode cX11_mark 47 = .ok (.getfield 385, 3) := by decide +kernel
theorem dX11_mark_50 : decode cX11_mark 50 = .ok (.invokevirtual 179, 3) := by decide +kernel
theorem dX11_mark_53 : decode cX11_mark 53 = .ok (.ireturn, 1) := by decide +kernel
set_option maxRecDepth 100000 in
theorem c_X11_mark (l : Launch) (E : xE) (a0 a1 a2 a3 a4 a5 a6 a7 a8 a9 a10 a11 a12 a13 a14 a15 a16 a17 a18 a19 a20 a21 a22 a23 a24 a25 a26 a27 a28 a29 a30 a31 a32 a33 a34 a35 a36 a37 a38 a39 a40 a41 a42 a43 a44 a45 a46 a47 a48 a49 a50 a51 a52 a53 a54 a55 a56 a57 : Nat) {T0 : Nat → Int32} {J0_15 : Int64} {J0_16 : Int64} {T2 : Nat → Int32} {T3 : Nat → Int32} {V4 : Nat → Int32} {V5 : Nat → Int32} {V6 : Nat → Int32} {V7 : Nat → Int32} {V8 : Nat → Int64} {V9 : Nat → Int64} {V10 : Nat → Int32} {V11 : Nat → Int32} {V12 : Nat → Int32} {V13 : Nat → Int32} {V14 : Nat → Int32} {V15 : Nat → Int32} {V16 : Nat → Int32} {V17 : Nat → Int32} {T18 : Nat → Int32} {T19 : Nat → Int32} {V20 : Nat → Int32} {V21 : Nat → Int32} {V22 : Nat → Int32} {V23 : Nat → Int32} {V24 : Nat → Int32} {V25 : Nat → Int32} {V26 : Nat → Int32} {V27 : Nat → Int32} {V28 : Nat → Int32} {V29 : Nat → Int32} {T30 : Nat → Int32} {V31 : Nat → Int32} {V32 : Nat → Int32} {V33 : Nat → Int64} {V34 : Nat → Int32} {V35 : Nat → Int32} {V36 : Nat → Int32} {V37 : Nat → Int32} {T38 : Nat → Int32} {V39 : Nat → Int32} {V40 : Nat → Int32} {V41 : Nat → Int32} {V42 : Nat → Int32} {V43 : Nat → Int32} {T44 : Nat → Int32} {V45 : Nat → Int32} {V46 : Nat → Int32} {V47 : Nat → Int64} {V48 : Nat → Int32} {V49 : Nat → Int32} {V50 : Nat → Int32} {V51 : Nat → Int32} {T52 : Nat → Int32} {V53 : Nat → Int32} {V54 : Nat → Int32} {V55 : Nat → Int32} {V56 : Nat → Int32} {V57 : Nat → Int32} {u0_0 u0_1 u0_2 u0_3 u0_4 u0_5 u0_6 u0_7 u0_8 u0_12 u0_13 : Nat} {z : Int32 × (Nat → Int32) × (Nat → Int32) × (Nat → Int32) × (Nat → Int32) × (Nat → Int64) × (Nat → Int32) × (Nat → Int32) × (Nat → Int32) × (Nat → Int32) × (Nat → Int32) × (Nat → Int32) × (Nat → Int32) × (Nat → Int32) × (Nat → Int32) × (Nat → Int32) × (Nat → Int32) × (Nat → Int32) × (Nat → Int32) × (Nat → Int64) × (Nat → Int32) × (Nat → Int32) × (Nat → Int32) × (Nat → Int32) × (Nat → Int32) × (Nat → Int32) × (Nat → Int32) × (Nat → Int32) × (Nat → Int32) × (Nat → Int32) × (Nat → Int32) × (Nat → Int32) × (Nat → Int32) × (Nat → Int64) × (Nat → Int32) × (Nat → Int32) × (Nat → Int32) × (Nat → Int32) × (Nat → Int32) × (Nat → Int32) × (Nat → Int32) × (Nat → Int32) × (Nat → Int32) × (Nat → Int32)} (hf : f_X11_mark T0 T2 T3 V4 V5 V6 V7 V8 V9 V10 V11 V12 V13 V14 V15 V16 V17 T18 T19 V20 V21 V22 V23 V24 V25 V26 V27 V28 V29 T30 V31 V32 V33 V34 V35 V36 V37 T38 V39 V40 V41 V42 V43 T44 V45 V46 V47 V48 V49 V50 V51 T52 V53 V54 V55 V56 V57 = some z) (sz : Nat) : Met l yX11_mark (Cond.code yX11_mark cX11_mark 1 (some .int) :: gw) ({ frames := 3, cells := 0, slots := 0, locals := 122 }) (xPc E [.ref a0] [(a0, o11 T0 J0_15 J0_16 u0_0 u0_1 u0_2 u0_3 u0_4 u0_5 u0_6 u0_7 u0_8 a1 a3 u0_12 u0_13), (a1, ad E 3 (en [a2, a30, a44])), (a2, o3 T2 a5 a7 a9 a11 a13 a15 a17 a18), (a3, o3 T3 a4 a6 a8 a10 a12 a14 a16 a19), (a4, ai E 36 V4), (a5, ai E 36 V5), (a6, ai E 5 V6), (a7, ai E 5 V7), (a8, al E 5 V8), (a9, al E 5 V9), (a10, ai E 12 V10), (a11, ai E 12 V11), (a12, ai E 12 V12), (a13, ai E 12 V13), (a14, ai E 12 V14), (a15, ai E 12 V15), (a16, ai E 12 V16), (a17, ai E 12 V17), (a18, o0 T18 a21 a23 a25 a27 a29), (a19, o0 T19 a20 a22 a24 a26 a28), (a20, ai E 60 V20), (a21, ai E 60 V21), (a22, ai E 60 V22), (a23, ai E 60 V23), (a24, ai E 60 V24), (a25, ai E 60 V25), (a26, ai E 60 V26), (a27, ai E 60 V27), (a28, ai E 60 V28), (a29, ai E 60 V29), (a30, o3 T30 a31 a32 a33 a34 a35 a36 a37 a38), (a31, ai E 36 V31), (a32, ai E 5 V32), (a33, al E 5 V33), (a34, ai E 12 V34), (a35, ai E 12 V35), (a36, ai E 12 V36), (a37, ai E 12 V37), (a38, o0 T38 a39 a40 a41 a42 a43), (a39, ai E 60 V39), (a40, ai E 60 V40), (a41, ai E 60 V41), (a42, ai E 60 V42), (a43, ai E 60 V43), (a44, o3 T44 a45 a46 a47 a48 a49 a50 a51 a52), (a45, ai E 36 V45), (a46, ai E 5 V46), (a47, al E 5 V47), (a48, ai E 12 V48), (a49, ai E 12 V49), (a50, ai E 12 V50), (a51, ai E 12 V51), (a52, o0 T52 a53 a54 a55 a56 a57), (a53, ai E 60 V53), (a54, ai E 60 V54), (a55, ai E 60 V55), (a56, ai E 60 V56), (a57, ai E 60 V57)] sz) (xQi E z.1 [(a0, o11 T0 J0_15 J0_16 u0_0 u0_1 u0_2 u0_3 u0_4 u0_5 u0_6 u0_7 u0_8 a1 a3 u0_12 u0_13), (a1, ad E 3 (en [a2, a30, a44])), (a2, o3 T2 a5 a7 a9 a11 a13 a15 a17 a18), (a3, o3 T3 a4 a6 a8 a10 a12 a14 a16 a19), (a4, ai E 36 V4), (a5, ai E 36 V5), (a6, ai E 5 V6), (a7, ai E 5 V7), (a8, al E 5 V8), (a9, al E 5 V9), (a10, ai E 12 V10), (a11, ai E 12 V11), (a12, ai E 12 V12), (a13, ai E 12 V13), (a14, ai E 12 V14), (a15, ai E 12 V15), (a16, ai E 12 V16), (a17, ai E 12 V17), (a18, o0 T18 a21 a23 a25 a27 a29), (a19, o0 T19 a20 a22 a24 a26 a28), (a20, ai E 60 V20), (a21, ai E 60 V21), (a22, ai E 60 V22), (a23, ai E 60 V23), (a24, ai E 60 V24), (a25, ai E 60 V25), (a26, ai E 60 V26), (a27, ai E 60 V27), (a28, ai E 60 V28), (a29, ai E 60 V29), (a30, o3 T30 a31 a32 a33 a34 a35 a36 a37 a38), (a31, ai E 36 V31), (a32, ai E 5 V32), (a33, al E 5 V33), (a34, ai E 12 V34), (a35, ai E 12 V35), (a36, ai E 12 V36), (a37, ai E 12 V37), (a38, o0 T38 a39 a40 a41 a42 a43), (a39, ai E 60 V39), (a40, ai E 60 V40), (a41, ai E 60 V41), (a42, ai E 60 V42), (a43, ai E 60 V43), (a44, o3 T44 a45 a46 a47 a48 a49 a50 a51 a52), (a45, ai E 36 V45), (a46, ai E 5 V46), (a47, al E 5 V47), (a48, ai E 12 V48), (a49, ai E 12 V49), (a50, ai E 12 V50), (a51, ai E 12 V51), (a52, o0 T52 a53 a54 a55 a56 a57), (a53, ai E 60 V53), (a54, ai E 60 V54), (a55, ai E 60 V55), (a56, ai E 60 V56), (a57, ai E 60 V57)] [(a0, o11 z.2.1 J0_15 J0_16 u0_0 u0_1 u0_2 u0_3 u0_4 u0_5 u0_6 u0_7 u0_8 a1 a3 u0_12 u0_13), (a1, ad E 3 (en [a2, a30, a44])), (a2, o3 z.2.2.1 a5 a7 a9 a11 a13 a15 a17 a18), (a3, o3 T3 a4 a6 a8 a10 a12 a14 a16 a19), (a4, ai E 36 V4), (a5, ai E 36 z.2.2.2.1), (a6, ai E 5 V6), (a7, ai E 5 z.2.2.2.2.1), (a8, al E 5 V8), (a9, al E 5 z.2.2.2.2.2.1), (a10, ai E 12 V10), (a11, ai E 12 z.2.2.2.2.2.2.1), (a12, ai E 12 V12), (a13, ai E 12 z.2.2.2.2.2.2.2.1), (a14, ai E 12 V14), (a15, ai E 12 z.2.2.2.2.2.2.2.2.1), (a16, ai E 12 V16), (a17, ai E 12 z.2.2.2.2.2.2.2.2.2.1), (a18, o0 z.2.2.2.2.2.2.2.2.2.2.1 a21 a23 a25 a27 a29), (a19, o0 T19 a20 a22 a24 a26 a28), (a20, ai E 60 V20), (a21, ai E 60 z.2.2.2.2.2.2.2.2.2.2.2.1), (a22, ai E 60 V22), (a23, ai E 60 z.2.2.2.2.2.2.2.2.2.2.2.2.1), (a24, ai E 60 V24), (a25, ai E 60 z.2.2.2.2.2.2.2.2.2.2.2.2.2.1), (a26, ai E 60 V26), (a27, ai E 60 z.2.2.2.2.2.2.2.2.2.2.2.2.2.2.1), (a28, ai E 60 V28), (a29, ai E 60 z.2.2.2.2.2.2.2.2.2.2.2.2.2.2.2.1), (a30, o3 z.2.2.2.2.2.2.2.2.2.2.2.2.2.2.2.2.1 a31 a32 a33 a34 a35 a36 a37 a38), (a31, ai E 36 z.2.2.2.2.2.2.2.2.2.2.2.2.2.2.2.2.2.1), (a32, ai E 5 z.2.2.2.2.2.2.2.2.2.2.2.2.2.2.2.2.2.2.1), (a33, al E 5 z.2.2.2.2.2.2.2.2.2.2.2.2.2.2.2.2.2.2.2.1), (a34, ai E 12 z.2.2.2.2.2.2.2.2.2.2.2.2.2.2.2.2.2.2.2.2.1), (a35, ai E 12 z.2.2.2.2.2.2.2.2.2.2.2.2.2.2.2.2.2.2.2.2.2.1), (a36, ai E 12 z.2.2.2.2.2.2.2.2.2.2.2.2.2.2.2.2.2.2.2.2.2.2.1), (a37, ai E 12 z.2.2.2.2.2.2.2.2.2.2.2.2.2.2.2.2.2.2.2.2.2.2.2.1), (a38, o0 z.2.2.2.2.2.2.2.2.2.2.2.2.2.2.2.2.2.2.2.2.2.2.2.2.1 a39 a40 a41 a42 a43), (a39, ai E 60 z.2.2.2.2.2.2.2.2.2.2.2.2.2.2.2.2.2.2.2.2.2.2.2.2.2.1), (a40, ai E 60 z.2.2.2.2.2.2.2.2.2.2.2.2.2.2.2.2.2.2.2.2.2.2.2.2.2.2.1), (a41, ai E 60 z.2.2.2.2.2.2.2.2.2.2.2.2.2.2.2.2.2.2.2.2.2.2.2.2.2.2.2.1), (a42, ai E 60 z.2.2.2.2.2.2.2.2.2.2.2.2.2.2.2.2.2.2.2.2.2.2.2.2.2.2.2.2.1), (a43, ai E 60 z.2.2.2.2.2.2.2.2.2.2.2.2.2.2.2.2.2.2.2.2.2.2.2.2.2.2.2.2.2.1), (a44, o3 z.2.2.2.2.2.2.2.2.2.2.2.2.2.2.2.2.2.2.2.2.2.2.2.2.2.2.2.2.2.2.1 a45 a46 a47 a48 a49 a50 a51 a52), (a45, ai E 36 z.2.2.2.2.2.2.2.2.2.2.2.2.2.2.2.2.2.2.2.2.2.2.2.2.2.2.2.2.2.2.2.1), (a46, ai E 5 z.2.2.2.2.2.2.2.2.2.2.2.2.2.2.2.2.2.2.2.2.2.2.2.2.2.2.2.2.2.2.2.2.1), (a47, al E 5 z.2.2.2.2.2.2.2.2.2.2.2.2.2.2.2.2.2.2.2.2.2.2.2.2.2.2.2.2.2.2.2.2.2.1), (a48, ai E 12 z.2.2.2.2.2.2.2.2.2.2.2.2.2.2.2.2.2.2.2.2.2.2.2.2.2.2.2.2.2.2.2.2.2.2.1), (a49, ai E 12 z.2.2.2.2.2.2.2.2.2.2.2.2.2.2.2.2.2.2.2.2.2.2.2.2.2.2.2.2.2.2.2.2.2.2.2.1), (a50, ai E 12 z.2.2.2.2.2.2.2.2.2.2.2.2.2.2.2.2.2.2.2.2.2.2.2.2.2.2.2.2.2.2.2.2.2.2.2.2.1), (a51, ai E 12 z.2.2.2.2.2.2.2.2.2.2.2.2.2.2.2.2.2.2.2.2.2.2.2.2.2.2.2.2.2.2.2.2.2.2.2.2.2.1), (a52, o0 z.2.2.2.2.2.2.2.2.2.2.2.2.2.2.2.2.2.2.2.2.2.2.2.2.2.2.2.2.2.2.2.2.2.2.2.2.2.2.1 a53 a54 a55 a56 a57), (a53, ai E 60 z.2.2.2.2.2.2.2.2.2.2.2.2.2.2.2.2.2.2.2.2.2.2.2.2.2.2.2.2.2.2.2.2.2.2.2.2.2.2.2.1), (a54, ai E 60 z.2.2.2.2.2.2.2.2.2.2.2.2.2.2.2.2.2.2.2.2.2.2.2.2.2.2.2.2.2.2.2.2.2.2.2.2.2.2.2.2.1), (a55, ai E 60 z.2.2.2.2.2.2.2.2.2.2.2.2.2.2.2.2.2.2.2.2.2.2.2.2.2.2.2.2.2.2.2.2.2.2.2.2.2.2.2.2.2.1), (a56, ai E 60 z.2.2.2.2.2.2.2.2.2.2.2.2.2.2.2.2.2.2.2.2.2.2.2.2.2.2.2.2.2.2.2.2.2.2.2.2.2.2.2.2.2.2.1), (a57, ai E 60 z.2.2.2.2.2.2.2.2.2.2.2.2.2.2.2.2.2.2.2.2.2.2.2.2.2.2.2.2.2.2.2.2.2.2.2.2.2.2.2.2.2.2.2)] sz) 0 0 (va_A [(a0, o11 T0 J0_15 J0_16 u0_0 u0_1 u0_2 u0_3 u0_4 u0_5 u0_6 u0_7 u0_8 a1 a3 u0_12 u0_13), (a1, ad E 3 (en [a2, a30, a44])), (a2, o3 T2 a5 a7 a9 a11 a13 a15 a17 a18), (a3, o3 T3 a4 a6 a8 a10 a12 a14 a16 a19), (a4, ai E 36 V4), (a5, ai E 36 V5), (a6, ai E 5 V6), (a7, ai E 5 V7), (a8, al E 5 V8), (a9, al E 5 V9), (a10, ai E 12 V10), (a11, ai E 12 V11), (a12, ai E 12 V12), (a13, ai E 12 V13), (a14, ai E 12 V14), (a15, ai E 12 V15), (a16, ai E 12 V16), (a17, ai E 12 V17), (a18, o0 T18 a21 a23 a25 a27 a29), (a19, o0 T19 a20 a22 a24 a26 a28), (a20, ai E 60 V20), (a21, ai E 60 V21), (a22, ai E 60 V22), (a23, ai E 60 V23), (a24, ai E 60 V24), (a25, ai E 60 V25), (a26, ai E 60 V26), (a27, ai E 60 V27), (a28, ai E 60 V28), (a29, ai E 60 V29), (a30, o3 T30 a31 a32 a33 a34 a35 a36 a37 a38), (a31, ai E 36 V31), (a32, ai E 5 V32), (a33, al E 5 V33), (a34, ai E 12 V34), (a35, ai E 12 V35), (a36, ai E 12 V36), (a37, ai E 12 V37), (a38, o0 T38 a39 a40 a41 a42 a43), (a39, ai E 60 V39), (a40, ai E 60 V40), (a41, ai E 60 V41), (a42, ai E 60 V42), (a43, ai E 60 V43), (a44, o3 T44 a45 a46 a47 a48 a49 a50 a51 a52), (a45, ai E 36 V45), (a46, ai E 5 V46), (a47, al E 5 V47), (a48, ai E 12 V48), (a49, ai E 12 V49), (a50, ai E 12 V50), (a51, ai E 12 V51), (a52, o0 T52 a53 a54 a55 a56 a57), (a53, ai E 60 V53), (a54, ai E 60 V54), (a55, ai E 60 V55), (a56, ai E 60 V56), (a57, ai E 60 V57)] sz) := by
  refine xM_i (by decide +kernel) (Nat.le_of_ble_eq_true rfl) ?_
  intro p e s m args below meth c A Q hx hb hml hown htg hK hG hA ret0 H locs ls hP hD hS hl
  have ret : ∀ (z' : Int32 × (Nat → Int32) × (Nat → Int32) × (Nat → Int32) × (Nat → Int32) × (Nat → Int64) × (Nat → Int32) × (Nat → Int32) × (Nat → Int32) × (Nat → Int32) × (Nat → Int32) × (Nat → Int32) × (Nat → Int32) × (Nat → Int32) × (Nat → Int32) × (Nat → Int32) × (Nat → Int32) × (Nat → Int32) × (Nat → Int32) × (Nat → Int64) × (Nat → Int32) × (Nat → Int32) × (Nat → Int32) × (Nat → Int32) × (Nat → Int32) × (Nat → Int32) × (Nat → Int32) × (Nat → Int32) × (Nat → Int32) × (Nat → Int32) × (Nat → Int32) × (Nat → Int32) × (Nat → Int32) × (Nat → Int64) × (Nat → Int32) × (Nat → Int32) × (Nat → Int32) × (Nat → Int32) × (Nat → Int32) × (Nat → Int32) × (Nat → Int32) × (Nat → Int32) × (Nat → Int32) × (Nat → Int32)) {H : Heap} {locs : List Loc} {pc : Nat} {ls : Array Slot}, some z' = some z → narrow .int (.int z'.1) = .int z'.1 → va_P E.1 vwCl [(a0, o11 z'.2.1 J0_15 J0_16 u0_0 u0_1 u0_2 u0_3 u0_4 u0_5 u0_6 u0_7 u0_8 a1 a3 u0_12 u0_13), (a1, ad E 3 (en [a2, a30, a44])), (a2, o3 z'.2.2.1 a5 a7 a9 a11 a13 a15 a17 a18), (a3, o3 T3 a4 a6 a8 a10 a12 a14 a16 a19), (a4, ai E 36 V4), (a5, ai E 36 z'.2.2.2.1), (a6, ai E 5 V6), (a7, ai E 5 z'.2.2.2.2.1), (a8, al E 5 V8), (a9, al E 5 z'.2.2.2.2.2.1), (a10, ai E 12 V10), (a11, ai E 12 z'.2.2.2.2.2.2.1), (a12, ai E 12 V12), (a13, ai E 12 z'.2.2.2.2.2.2.2.1), (a14, ai E 12 V14), (a15, ai E 12 z'.2.2.2.2.2.2.2.2.1), (a16, ai E 12 V16), (a17, ai E 12 z'.2.2.2.2.2.2.2.2.2.1), (a18, o0 z'.2.2.2.2.2.2.2.2.2.2.1 a21 a23 a25 a27 a29), (a19, o0 T19 a20 a22 a24 a26 a28), (a20, ai E 60 V20), (a21, ai E 60 z'.2.2.2.2.2.2.2.2.2.2.2.1), (a22, ai E 60 V22), (a23, ai E 60 z'.2.2.2.2.2.2.2.2.2.2.2.2.1), (a24, ai E 60 V24), (a25, ai E 60 z'.2.2.2.2.2.2.2.2.2.2.2.2.2.1), (a26, ai E 60 V26), (a27, ai E 60 z'.2.2.2.2.2.2.2.2.2.2.2.2.2.2.1), (a28, ai E 60 V28), (a29, ai E 60 z'.2.2.2.2.2.2.2.2.2.2.2.2.2.2.2.1), (a30, o3 z'.2.2.2.2.2.2.2.2.2.2.2.2.2.2.2.2.1 a31 a32 a33 a34 a35 a36 a37 a38), (a31, ai E 36 z'.2.2.2.2.2.2.2.2.2.2.2.2.2.2.2.2.2.1), (a32, ai E 5 z'.2.2.2.2.2.2.2.2.2.2.2.2.2.2.2.2.2.2.1), (a33, al E 5 z'.2.2.2.2.2.2.2.2.2.2.2.2.2.2.2.2.2.2.2.1), (a34, ai E 12 z'.2.2.2.2.2.2.2.2.2.2.2.2.2.2.2.2.2.2.2.2.1), (a35, ai E 12 z'.2.2.2.2.2.2.2.2.2.2.2.2.2.2.2.2.2.2.2.2.2.1), (a36, ai E 12 z'.2.2.2.2.2.2.2.2.2.2.2.2.2.2.2.2.2.2.2.2.2.2.1), (a37, ai E 12 z'.2.2.2.2.2.2.2.2.2.2.2.2.2.2.2.2.2.2.2.2.2.2.2.1), (a38, o0 z'.2.2.2.2.2.2.2.2.2.2.2.2.2.2.2.2.2.2.2.2.2.2.2.2.1 a39 a40 a41 a42 a43), (a39, ai E 60 z'.2.2.2.2.2.2.2.2.2.2.2.2.2.2.2.2.2.2.2.2.2.2.2.2.2.1), (a40, ai E 60 z'.2.2.2.2.2.2.2.2.2.2.2.2.2.2.2.2.2.2.2.2.2.2.2.2.2.2.1), (a41, ai E 60 z'.2.2.2.2.2.2.2.2.2.2.2.2.2.2.2.2.2.2.2.2.2.2.2.2.2.2.2.1), (a42, ai E 60 z'.2.2.2.2.2.2.2.2.2.2.2.2.2.2.2.2.2.2.2.2.2.2.2.2.2.2.2.2.1), (a43, ai E 60 z'.2.2.2.2.2.2.2.2.2.2.2.2.2.2.2.2.2.2.2.2.2.2.2.2.2.2.2.2.2.1), (a44, o3 z'.2.2.2.2.2.2.2.2.2.2.2.2.2.2.2.2.2.2.2.2.2.2.2.2.2.2.2.2.2.2.1 a45 a46 a47 a48 a49 a50 a51 a52), (a45, ai E 36 z'.2.2.2.2.2.2.2.2.2.2.2.2.2.2.2.2.2.2.2.2.2.2.2.2.2.2.2.2.2.2.2.1), (a46, ai E 5 z'.2.2.2.2.2.2.2.2.2.2.2.2.2.2.2.2.2.2.2.2.2.2.2.2.2.2.2.2.2.2.2.2.1), (a47, al E 5 z'.2.2.2.2.2.2.2.2.2.2.2.2.2.2.2.2.2.2.2.2.2.2.2.2.2.2.2.2.2.2.2.2.2.1), (a48, ai E 12 z'.2.2.2.2.2.2.2.2.2.2.2.2.2.2.2.2.2.2.2.2.2.2.2.2.2.2.2.2.2.2.2.2.2.2.1), (a49, ai E 12 z'.2.2.2.2.2.2.2.2.2.2.2.2.2.2.2.2.2.2.2.2.2.2.2.2.2.2.2.2.2.2.2.2.2.2.2.1), (a50, ai E 12 z'.2.2.2.2.2.2.2.2.2.2.2.2.2.2.2.2.2.2.2.2.2.2.2.2.2.2.2.2.2.2.2.2.2.2.2.2.1), (a51, ai E 12 z'.2.2.2.2.2.2.2.2.2.2.2.2.2.2.2.2.2.2.2.2.2.2.2.2.2.2.2.2.2.2.2.2.2.2.2.2.2.1), (a52, o0 z'.2.2.2.2.2.2.2.2.2.2.2.2.2.2.2.2.2.2.2.2.2.2.2.2.2.2.2.2.2.2.2.2.2.2.2.2.2.2.1 a53 a54 a55 a56 a57), (a53, ai E 60 z'.2.2.2.2.2.2.2.2.2.2.2.2.2.2.2.2.2.2.2.2.2.2.2.2.2.2.2.2.2.2.2.2.2.2.2.2.2.2.2.1), (a54, ai E 60 z'.2.2.2.2.2.2.2.2.2.2.2.2.2.2.2.2.2.2.2.2.2.2.2.2.2.2.2.2.2.2.2.2.2.2.2.2.2.2.2.2.1), (a55, ai E 60 z'.2.2.2.2.2.2.2.2.2.2.2.2.2.2.2.2.2.2.2.2.2.2.2.2.2.2.2.2.2.2.2.2.2.2.2.2.2.2.2.2.2.1), (a56, ai E 60 z'.2.2.2.2.2.2.2.2.2.2.2.2.2.2.2.2.2.2.2.2.2.2.2.2.2.2.2.2.2.2.2.2.2.2.2.2.2.2.2.2.2.2.1), (a57, ai E 60 z'.2.2.2.2.2.2.2.2.2.2.2.2.2.2.2.2.2.2.2.2.2.2.2.2.2.2.2.2.2.2.2.2.2.2.2.2.2.2.2.2.2.2.2)] H → va_S A s.heap H locs → decode cX11_mark pc = .ok (.ireturn, 1) → W p l e ({ frames := 3, cells := 0, slots := 0, locals := 122 } : Room) s m args below meth c H locs 0 0 Q (F0 m pc ls [.int z'.1]) := by
    intro z' H locs pc ls h
    cases h
    exact ret0
  replace hl : lv_has ls 1 [(0, .ref a0)] := hl
  unfold f_X11_mark at hf
  refine lv_aload_n hx hb dX11_mark_0 rfl (lv_at hl 0 rfl) ?_
  refine G11_385 hx hb htg hown hK hP 0 rfl dX11_mark_1 ?_
  refine lv_aload_n hx hb dX11_mark_4 rfl (lv_at hl 0 rfl) ?_
  refine G11_74 hx hb htg hown hK hP 0 rfl dX11_mark_5 ?_
  refine va_alen (v := 3) hx hb hK hP 1 3 rfl rfl rfl dX11_mark_8 ?_
  refine lv_icmp_lt (tgt := 19) hx hb dX11_mark_9 (by decide) (fun c9 => ?_) (fun c9 => ?_)
  · have hf := it_t c9 hf
    refine lv_aload_n hx hb dX11_mark_19 rfl (lv_at hl 0 rfl) ?_
    refine G11_74 hx hb htg hown hK hP 0 rfl dX11_mark_20 ?_
    refine lv_aload_n hx hb dX11_mark_23 rfl (lv_at hl 0 rfl) ?_
    refine G11_385 hx hb htg hown hK hP 0 rfl dX11_mark_24 ?_
    obtain ⟨g27, hf⟩ := ck_s hf
    by_cases c27_0 : T0 10 = 0
    · have hf := it_t c27_0 hf
      refine xdld (v := a2) hx hb hK hP 1 rfl g27 (congrArg Int32.toNatClampNeg c27_0) rfl dX11_mark_27 ?_
      refine lv_aload_n hx hb dX11_mark_28 rfl (lv_at hl 0 rfl) ?_
      refine G11_79 hx hb htg hown hK hP 0 rfl dX11_mark_29 ?_
      obtain ⟨z32, hz32, hf⟩ := bind_s hf
      refine xV_vu hx hb hml hown htg L11_388 (c_X3_copyFrom l E a2 a3 a4 a5 a6 a7 a8 a9 a10 a11 a12 a13 a14 a15 a16 a17 a18 a19 a20 a21 a22 a23 a24 a25 a26 a27 a28 a29 hz32 _) ⟨⟨rfl, rfl⟩, Nat.le_of_ble_eq_true rfl, Nat.le_of_ble_eq_true rfl⟩ hK hG hA hP hD hS (is := [2, 3, 4, 5, 6, 7, 8, 9, 10, 11, 12, 13, 14, 15, 16, 17, 18, 19, 20, 21, 22, 23, 24, 25, 26, 27, 28, 29]) (sel := [none, none, some 0, some 1, some 2, some 3, some 4, some 5, some 6, some 7, some 8, some 9, some 10, some 11, some 12, some 13, some 14, some 15, some 16, some 17, some 18, some 19, some 20, some 21, some 22, some 23, some 24, some 25, some 26, some 27, none, none, none, none, none, none, none, none, none, none, none, none, none, none, none, none, none, none, none, none, none, none, none, none, none, none, none, none]) (ws2 := [(a0, o11 T0 J0_15 J0_16 u0_0 u0_1 u0_2 u0_3 u0_4 u0_5 u0_6 u0_7 u0_8 a1 a3 u0_12 u0_13), (a1, ad E 3 (en [a2, a30, a44])), (a2, o3 z32.1 a5 a7 a9 a11 a13 a15 a17 a18), (a3, o3 T3 a4 a6 a8 a10 a12 a14 a16 a19), (a4, ai E 36 V4), (a5, ai E 36 z32.2.1), (a6, ai E 5 V6), (a7, ai E 5 z32.2.2.1), (a8, al E 5 V8), (a9, al E 5 z32.2.2.2.1), (a10, ai E 12 V10), (a11, ai E 12 z32.2.2.2.2.1), (a12, ai E 12 V12), (a13, ai E 12 z32.2.2.2.2.2.1), (a14, ai E 12 V14), (a15, ai E 12 z32.2.2.2.2.2.2.1), (a16, ai E 12 V16), (a17, ai E 12 z32.2.2.2.2.2.2.2.1), (a18, o0 z32.2.2.2.2.2.2.2.2.1 a21 a23 a25 a27 a29), (a19, o0 T19 a20 a22 a24 a26 a28), (a20, ai E 60 V20), (a21, ai E 60 z32.2.2.2.2.2.2.2.2.2.1), (a22, ai E 60 V22), (a23, ai E 60 z32.2.2.2.2.2.2.2.2.2.2.1), (a24, ai E 60 V24), (a25, ai E 60 z32.2.2.2.2.2.2.2.2.2.2.2.1), (a26, ai E 60 V26), (a27, ai E 60 z32.2.2.2.2.2.2.2.2.2.2.2.2.1), (a28, ai E 60 V28), (a29, ai E 60 z32.2.2.2.2.2.2.2.2.2.2.2.2.2), (a30, o3 T30 a31 a32 a33 a34 a35 a36 a37 a38), (a31, ai E 36 V31), (a32, ai E 5 V32), (a33, al E 5 V33), (a34, ai E 12 V34), (a35, ai E 12 V35), (a36, ai E 12 V36), (a37, ai E 12 V37), (a38, o0 T38 a39 a40 a41 a42 a43), (a39, ai E 60 V39), (a40, ai E 60 V40), (a41, ai E 60 V41), (a42, ai E 60 V42), (a43, ai E 60 V43), (a44, o3 T44 a45 a46 a47 a48 a49 a50 a51 a52), (a45, ai E 36 V45), (a46, ai E 5 V46), (a47, al E 5 V47), (a48, ai E 12 V48), (a49, ai E 12 V49), (a50, ai E 12 V50), (a51, ai E 12 V51), (a52, o0 T52 a53 a54 a55 a56 a57), (a53, ai E 60 V53), (a54, ai E 60 V54), (a55, ai E 60 V55), (a56, ai E 60 V56), (a57, ai E 60 V57)]) rfl rfl rfl rfl rfl (xrecv hK hP (q0 := 2) (ci := 3) rfl rfl) rfl hl.1 rfl (Nat.le_of_ble_eq_true rfl) dX11_mark_32 (fun H locs hP hD hS => ?_)
      refine lv_aload_n hx hb dX11_mark_35 rfl (lv_at hl 0 rfl) ?_
      refine lv_dup hx hb dX11_mark_36 rfl ?_
      refine G11_385 hx hb htg hown hK hP 0 rfl dX11_mark_37 ?_
      refine lv_iconst (v := 1) hx hb dX11_mark_40 rfl ?_
      refine lv_iadd hx hb dX11_mark_41 ?_
      refine P11_385 hx hb htg hown hK hP hD hS 0 rfl dX11_mark_42 (fun H locs hP hD hS => ?_)
      refine lv_aload_n hx hb dX11_mark_45 rfl (lv_at hl 0 rfl) ?_
      refine lv_aload_n hx hb dX11_mark_46 rfl (lv_at hl 0 rfl) ?_
      refine G11_385 hx hb htg hown hK hP 0 rfl dX11_mark_47 ?_
      obtain ⟨z50, hz50, hf⟩ := bind_s hf
      refine xV_iu hx hb hml hown htg L11_179 (c_X11_answer l E a0 hz50 _) ⟨⟨rfl, rfl⟩, Nat.le_of_ble_eq_true rfl, Nat.le_of_ble_eq_true rfl⟩ hK hG hA hP hD hS (is := [0]) (sel := [some 0, none, none, none, none, none, none, none, none, none, none, none, none, none, none, none, none, none, none, none, none, none, none, none, none, none, none, none, none, none, none, none, none, none, none, none, none, none, none, none, none, none, none, none, none, none, none, none, none, none, none, none, none, none, none, none, none, none]) (ws2 := [(a0, o11 z50.2 J0_15 J0_16 u0_0 u0_1 u0_2 u0_3 u0_4 u0_5 u0_6 u0_7 u0_8 a1 a3 u0_12 u0_13), (a1, ad E 3 (en [a2, a30, a44])), (a2, o3 z32.1 a5 a7 a9 a11 a13 a15 a17 a18), (a3, o3 T3 a4 a6 a8 a10 a12 a14 a16 a19), (a4, ai E 36 V4), (a5, ai E 36 z32.2.1), (a6, ai E 5 V6), (a7, ai E 5 z32.2.2.1), (a8, al E 5 V8), (a9, al E 5 z32.2.2.2.1), (a10, ai E 12 V10), (a11, ai E 12 z32.2.2.2.2.1), (a12, ai E 12 V12), (a13, ai E 12 z32.2.2.2.2.2.1), (a14, ai E 12 V14), (a15, ai E 12 z32.2.2.2.2.2.2.1), (a16, ai E 12 V16), (a17, ai E 12 z32.2.2.2.2.2.2.2.1), (a18, o0 z32.2.2.2.2.2.2.2.2.1 a21 a23 a25 a27 a29), (a19, o0 T19 a20 a22 a24 a26 a28), (a20, ai E 60 V20), (a21, ai E 60 z32.2.2.2.2.2.2.2.2.2.1), (a22, ai E 60 V22), (a23, ai E 60 z32.2.2.2.2.2.2.2.2.2.2.1), (a24, ai E 60 V24), (a25, ai E 60 z32.2.2.2.2.2.2.2.2.2.2.2.1), (a26, ai E 60 V26), (a27, ai E 60 z32.2.2.2.2.2.2.2.2.2.2.2.2.1), (a28, ai E 60 V28), (a29, ai E 60 z32.2.2.2.2.2.2.2.2.2.2.2.2.2), (a30, o3 T30 a31 a32 a33 a34 a35 a36 a37 a38), (a31, ai E 36 V31), (a32, ai E 5 V32), (a33, al E 5 V33), (a34, ai E 12 V34), (a35, ai E 12 V35), (a36, ai E 12 V36), (a37, ai E 12 V37), (a38, o0 T38 a39 a40 a41 a42 a43), (a39, ai E 60 V39), (a40, ai E 60 V40), (a41, ai E 60 V41), (a42, ai E 60 V42), (a43, ai E 60 V43), (a44, o3 T44 a45 a46 a47 a48 a49 a50 a51 a52), (a45, ai E 36 V45), (a46, ai E 5 V46), (a47, al E 5 V47), (a48, ai E 12 V48), (a49, ai E 12 V49), (a50, ai E 12 V50), (a51, ai E 12 V51), (a52, o0 T52 a53 a54 a55 a56 a57), (a53, ai E 60 V53), (a54, ai E 60 V54), (a55, ai E 60 V55), (a56, ai E 60 V56), (a57, ai E 60 V57)]) rfl rfl rfl rfl rfl (xrecv hK hP (q0 := 0) (ci := 11) rfl rfl) rfl hl.1 rfl (Nat.le_of_ble_eq_true rfl) dX11_mark_50 (fun H locs hP hD hS => ?_)
      exact ret (z50.1, z50.2, z32.1, z32.2.1, z32.2.2.1, z32.2.2.2.1, z32.2.2.2.2.1, z32.2.2.2.2.2.1, z32.2.2.2.2.2.2.1, z32.2.2.2.2.2.2.2.1, z32.2.2.2.2.2.2.2.2.1, z32.2.2.2.2.2.2.2.2.2.1, z32.2.2.2.2.2.2.2.2.2.2.1, z32.2.2.2.2.2.2.2.2.2.2.2.1, z32.2.2.2.2.2.2.2.2.2.2.2.2.1, z32.2.2.2.2.2.2.2.2.2.2.2.2.2, T30, V31, V32, V33, V34, V35, V36, V37, T38, V39, V40, V41, V42, V43, T44, V45, V46, V47, V48, V49, V50, V51, T52, V53, V54, V55, V56, V57) hf nzi hP hS dX11_mark_53
    have hf := it_f c27_0 hf
    by_cases c27_1 : T0 10 = 1
    · have hf := it_t c27_1 hf
      refine xdld (v := a30) hx hb hK hP 1 rfl g27 (congrArg Int32.toNatClampNeg c27_1) rfl dX11_mark_27 ?_
      refine lv_aload_n hx hb dX11_mark_28 rfl (lv_at hl 0 rfl) ?_
      refine G11_79 hx hb htg hown hK hP 0 rfl dX11_mark_29 ?_
      obtain ⟨z32, hz32, hf⟩ := bind_s hf
      refine xV_vu hx hb hml hown htg L11_388 (c_X3_copyFrom l E a30 a3 a4 a31 a6 a32 a8 a33 a10 a34 a12 a35 a14 a36 a16 a37 a38 a19 a20 a39 a22 a40 a24 a41 a26 a42 a28 a43 hz32 _) ⟨⟨rfl, rfl⟩, Nat.le_of_ble_eq_true rfl, Nat.le_of_ble_eq_true rfl⟩ hK hG hA hP hD hS (is := [30, 3, 4, 31, 6, 32, 8, 33, 10, 34, 12, 35, 14, 36, 16, 37, 38, 19, 20, 39, 22, 40, 24, 41, 26, 42, 28, 43]) (sel := [none, none, none, some 1, some 2, none, some 4, none, some 6, none, some 8, none, some 10, none, some 12, none, some 14, none, none, some 17, some 18, none, some 20, none, some 22, none, some 24, none, some 26, none, some 0, some 3, some 5, some 7, some 9, some 11, some 13, some 15, some 16, some 19, some 21, some 23, some 25, some 27, none, none, none, none, none, none, none, none, none, none, none, none, none, none]) (ws2 := [(a0, o11 T0 J0_15 J0_16 u0_0 u0_1 u0_2 u0_3 u0_4 u0_5 u0_6 u0_7 u0_8 a1 a3 u0_12 u0_13), (a1, ad E 3 (en [a2, a30, a44])), (a2, o3 T2 a5 a7 a9 a11 a13 a15 a17 a18), (a3, o3 T3 a4 a6 a8 a10 a12 a14 a16 a19), (a4, ai E 36 V4), (a5, ai E 36 V5), (a6, ai E 5 V6), (a7, ai E 5 V7), (a8, al E 5 V8), (a9, al E 5 V9), (a10, ai E 12 V10), (a11, ai E 12 V11), (a12, ai E 12 V12), (a13, ai E 12 V13), (a14, ai E 12 V14), (a15, ai E 12 V15), (a16, ai E 12 V16), (a17, ai E 12 V17), (a18, o0 T18 a21 a23 a25 a27 a29), (a19, o0 T19 a20 a22 a24 a26 a28), (a20, ai E 60 V20), (a21, ai E 60 V21), (a22, ai E 60 V22), (a23, ai E 60 V23), (a24, ai E 60 V24), (a25, ai E 60 V25), (a26, ai E 60 V26), (a27, ai E 60 V27), (a28, ai E 60 V28), (a29, ai E 60 V29), (a30, o3 z32.1 a31 a32 a33 a34 a35 a36 a37 a38), (a31, ai E 36 z32.2.1), (a32, ai E 5 z32.2.2.1), (a33, al E 5 z32.2.2.2.1), (a34, ai E 12 z32.2.2.2.2.1), (a35, ai E 12 z32.2.2.2.2.2.1), (a36, ai E 12 z32.2.2.2.2.2.2.1), (a37, ai E 12 z32.2.2.2.2.2.2.2.1), (a38, o0 z32.2.2.2.2.2.2.2.2.1 a39 a40 a41 a42 a43), (a39, ai E 60 z32.2.2.2.2.2.2.2.2.2.1), (a40, ai E 60 z32.2.2.2.2.2.2.2.2.2.2.1), (a41, ai E 60 z32.2.2.2.2.2.2.2.2.2.2.2.1), (a42, ai E 60 z32.2.2.2.2.2.2.2.2.2.2.2.2.1), (a43, ai E 60 z32.2.2.2.2.2.2.2.2.2.2.2.2.2), (a44, o3 T44 a45 a46 a47 a48 a49 a50 a51 a52), (a45, ai E 36 V45), (a46, ai E 5 V46), (a47, al E 5 V47), (a48, ai E 12 V48), (a49, ai E 12 V49), (a50, ai E 12 V50), (a51, ai E 12 V51), (a52, o0 T52 a53 a54 a55 a56 a57), (a53, ai E 60 V53), (a54, ai E 60 V54), (a55, ai E 60 V55), (a56, ai E 60 V56), (a57, ai E 60 V57)]) rfl rfl rfl rfl rfl (xrecv hK hP (q0 := 30) (ci := 3) rfl rfl) rfl hl.1 rfl (Nat.le_of_ble_eq_true rfl) dX11_mark_32 (fun H locs hP hD hS => ?_)
      refine lv_aload_n hx hb dX11_mark_35 rfl (lv_at hl 0 rfl) ?_
      refine lv_dup hx hb dX11_mark_36 rfl ?_
      refine G11_385 hx hb htg hown hK hP 0 rfl dX11_mark_37 ?_
      refine lv_iconst (v := 1) hx hb dX11_mark_40 rfl ?_
      refine lv_iadd hx hb dX11_mark_41 ?_
      refine P11_385 hx hb htg hown hK hP hD hS 0 rfl dX11_mark_42 (fun H locs hP hD hS => ?_)
      refine lv_aload_n hx hb dX11_mark_45 rfl (lv_at hl 0 rfl) ?_
      refine lv_aload_n hx hb dX11_mark_46 rfl (lv_at hl 0 rfl) ?_
      refine G11_385 hx hb htg hown hK hP 0 rfl dX11_mark_47 ?_
      obtain ⟨z50, hz50, hf⟩ := bind_s hf
      refine xV_iu hx hb hml hown htg L11_179 (c_X11_answer l E a0 hz50 _) ⟨⟨rfl, rfl⟩, Nat.le_of_ble_eq_true rfl, Nat.le_of_ble_eq_true rfl⟩ hK hG hA hP hD hS (is := [0]) (sel := [some 0, none, none, none, none, none, none, none, none, none, none, none, none, none, none, none, none, none, none, none, none, none, none, none, none, none, none, none, none, none, none, none, none, none, none, none, none, none, none, none, none, none, none, none, none, none, none, none, none, none, none, none, none, none, none, none, none, none]) (ws2 := [(a0, o11 z50.2 J0_15 J0_16 u0_0 u0_1 u0_2 u0_3 u0_4 u0_5 u0_6 u0_7 u0_8 a1 a3 u0_12 u0_13), (a1, ad E 3 (en [a2, a30, a44])), (a2, o3 T2 a5 a7 a9 a11 a13 a15 a17 a18), (a3, o3 T3 a4 a6 a8 a10 a12 a14 a16 a19), (a4, ai E 36 V4), (a5, ai E 36 V5), (a6, ai E 5 V6), (a7, ai E 5 V7), (a8, al E 5 V8), (a9, al E 5 V9), (a10, ai E 12 V10), (a11, ai E 12 V11), (a12, ai E 12 V12), (a13, ai E 12 V13), (a14, ai E 12 V14), (a15, ai E 12 V15), (a16, ai E 12 V16), (a17, ai E 12 V17), (a18, o0 T18 a21 a23 a25 a27 a29), (a19, o0 T19 a20 a22 a24 a26 a28), (a20, ai E 60 V20), (a21, ai E 60 V21), (a22, ai E 60 V22), (a23, ai E 60 V23), (a24, ai E 60 V24), (a25, ai E 60 V25), (a26, ai E 60 V26), (a27, ai E 60 V27), (a28, ai E 60 V28), (a29, ai E 60 V29), (a30, o3 z32.1 a31 a32 a33 a34 a35 a36 a37 a38), (a31, ai E 36 z32.2.1), (a32, ai E 5 z32.2.2.1), (a33, al E 5 z32.2.2.2.1), (a34, ai E 12 z32.2.2.2.2.1), (a35, ai E 12 z32.2.2.2.2.2.1), (a36, ai E 12 z32.2.2.2.2.2.2.1), (a37, ai E 12 z32.2.2.2.2.2.2.2.1), (a38, o0 z32.2.2.2.2.2.2.2.2.1 a39 a40 a41 a42 a43), (a39, ai E 60 z32.2.2.2.2.2.2.2.2.2.1), (a40, ai E 60 z32.2.2.2.2.2.2.2.2.2.2.1), (a41, ai E 60 z32.2.2.2.2.2.2.2.2.2.2.2.1), (a42, ai E 60 z32.2.2.2.2.2.2.2.2.2.2.2.2.1), (a43, ai E 60 z32.2.2.2.2.2.2.2.2.2.2.2.2.2), (a44, o3 T44 a45 a46 a47 a48 a49 a50 a51 a52), (a45, ai E 36 V45), (a46, ai E 5 V46), (a47, al E 5 V47), (a48, ai E 12 V48), (a49, ai E 12 V49), (a50, ai E 12 V50), (a51, ai E 12 V51), (a52, o0 T52 a53 a54 a55 a56 a57), (a53, ai E 60 V53), (a54, ai E 60 V54), (a55, ai E 60 V55), (a56, ai E 60 V56), (a57, ai E 60 V57)]) rfl rfl rfl rfl rfl (xrecv hK hP (q0 := 0) (ci := 11) rfl rfl) rfl hl.1 rfl (Nat.le_of_ble_eq_true rfl) dX11_mark_50 (fun H locs hP hD hS => ?_)
      exact ret (z50.1, z50.2, T2, V5, V7, V9, V11, V13, V15, V17, T18, V21, V23, V25, V27, V29, z32.1, z32.2.1, z32.2.2.1, z32.2.2.2.1, z32.2.2.2.2.1, z32.2.2.2.2.2.1, z32.2.2.2.2.2.2.1, z32.2.2.2.2.2.2.2.1, z32.2.2.2.2.2.2.2.2.1, z32.2.2.2.2.2.2.2.2.2.1, z32.2.2.2.2.2.2.2.2.2.2.1, z32.2.2.2.2.2.2.2.2.2.2.2.1, z32.2.2.2.2.2.2.2.2.2.2.2.2.1, z32.2.2.2.2.2.2.2.2.2.2.2.2.2, T44, V45, V46, V47, V48, V49, V50, V51, T52, V53, V54, V55, V56, V57) hf nzi hP hS dX11_mark_53
    have hf := it_f c27_1 hf
    have e27 := gd_last3 g27 c27_0 c27_1
    refine xdld (v := a44) hx hb hK hP 1 rfl g27 (congrArg Int32.toNatClampNeg e27) rfl dX11_mark_27 ?_
    refine lv_aload_n hx hb dX11_mark_28 rfl (lv_at hl 0 rfl) ?_
    refine G11_79 hx hb htg hown hK hP 0 rfl dX11_mark_29 ?_
    obtain ⟨z32, hz32, hf⟩ := bind_s hf
    refine xV_vu hx hb hml hown htg L11_388 (c_X3_copyFrom l E a44 a3 a4 a45 a6 a46 a8 a47 a10 a48 a12 a49 a14 a50 a16 a51 a52 a19 a20 a53 a22 a54 a24 a55 a26 a56 a28 a57 hz32 _) ⟨⟨rfl, rfl⟩, Nat.le_of_ble_eq_true rfl, Nat.le_of_ble_eq_true rfl⟩ hK hG hA hP hD hS (is := [44, 3, 4, 45, 6, 46, 8, 47, 10, 48, 12, 49, 14, 50, 16, 51, 52, 19, 20, 53, 22, 54, 24, 55, 26, 56, 28, 57]) (sel := [none, none, none, some 1, some 2, none, some 4, none, some 6, none, some 8, none, some 10, none, some 12, none, some 14, none, none, some 17, some 18, none, some 20, none, some 22, none, some 24, none, some 26, none, none, none, none, none, none, none, none, none, none, none, none, none, none, none, some 0, some 3, some 5, some 7, some 9, some 11, some 13, some 15, some 16, some 19, some 21, some 23, some 25, some 27]) (ws2 := [(a0, o11 T0 J0_15 J0_16 u0_0 u0_1 u0_2 u0_3 u0_4 u0_5 u0_6 u0_7 u0_8 a1 a3 u0_12 u0_13), (a1, ad E 3 (en [a2, a30, a44])), (a2, o3 T2 a5 a7 a9 a11 a13 a15 a17 a18), (a3, o3 T3 a4 a6 a8 a10 a12 a14 a16 a19), (a4, ai E 36 V4), (a5, ai E 36 V5), (a6, ai E 5 V6), (a7, ai E 5 V7), (a8, al E 5 V8), (a9, al E 5 V9), (a10, ai E 12 V10), (a11, ai E 12 V11), (a12, ai E 12 V12), (a13, ai E 12 V13), (a14, ai E 12 V14), (a15, ai E 12 V15), (a16, ai E 12 V16), (a17, ai E 12 V17), (a18, o0 T18 a21 a23 a25 a27 a29), (a19, o0 T19 a20 a22 a24 a26 a28), (a20, ai E 60 V20), (a21, ai E 60 V21), (a22, ai E 60 V22), (a23, ai E 60 V23), (a24, ai E 60 V24), (a25, ai E 60 V25), (a26, ai E 60 V26), (a27, ai E 60 V27), (a28, ai E 60 V28), (a29, ai E 60 V29), (a30, o3 T30 a31 a32 a33 a34 a35 a36 a37 a38), (a31, ai E 36 V31), (a32, ai E 5 V32), (a33, al E 5 V33), (a34, ai E 12 V34), (a35, ai E 12 V35), (a36, ai E 12 V36), (a37, ai E 12 V37), (a38, o0 T38 a39 a40 a41 a42 a43), (a39, ai E 60 V39), (a40, ai E 60 V40), (a41, ai E 60 V41), (a42, ai E 60 V42), (a43, ai E 60 V43), (a44, o3 z32.1 a45 a46 a47 a48 a49 a50 a51 a52), (a45, ai E 36 z32.2.1), (a46, ai E 5 z32.2.2.1), (a47, al E 5 z32.2.2.2.1), (a48, ai E 12 z32.2.2.2.2.1), (a49, ai E 12 z32.2.2.2.2.2.1), (a50, ai E 12 z32.2.2.2.2.2.2.1), (a51, ai E 12 z32.2.2.2.2.2.2.2.1), (a52, o0 z32.2.2.2.2.2.2.2.2.1 a53 a54 a55 a56 a57), (a53, ai E 60 z32.2.2.2.2.2.2.2.2.2.1), (a54, ai E 60 z32.2.2.2.2.2.2.2.2.2.2.1), (a55, ai E 60 z32.2.2.2.2.2.2.2.2.2.2.2.1), (a56, ai E 60 z32.2.2.2.2.2.2.2.2.2.2.2.2.1), (a57, ai E 60 z32.2.2.2.2.2.2.2.2.2.2.2.2.2)]) rfl rfl rfl rfl rfl (xrecv hK hP (q0 := 44) (ci := 3) rfl rfl) rfl hl.1 rfl (Nat.le_of_ble_eq_true rfl) dX11_mark_32 (fun H locs hP hD hS => ?_)
    refine lv_aload_n hx hb dX11_mark_35 rfl (lv_at hl 0 rfl) ?_
    refine lv_dup hx hb dX11_mark_36 rfl ?_
    refine G11_385 hx hb htg hown hK hP 0 rfl dX11_mark_37 ?_
    refine lv_iconst (v := 1) hx hb dX11_mark_40 rfl ?_
    refine lv_iadd hx hb dX11_mark_41 ?_
    refine P11_385 hx hb htg hown hK hP hD hS 0 rfl dX11_mark_42 (fun H locs hP hD hS => ?_)
    refine lv_aload_n hx hb dX11_mark_45 rfl (lv_at hl 0 rfl) ?_
    refine lv_aload_n hx hb dX11_mark_46 rfl (lv_at hl 0 rfl) ?_
    refine G11_385 hx hb htg hown hK hP 0 rfl dX11_mark_47 ?_
    obtain ⟨z50, hz50, hf⟩ := bind_s hf
    refine xV_iu hx hb hml hown htg L11_179 (c_X11_answer l E a0 hz50 _) ⟨⟨rfl, rfl⟩, Nat.le_of_ble_eq_true rfl, Nat.le_of_ble_eq_true rfl⟩ hK hG hA hP hD hS (is := [0]) (sel := [some 0, none, none, none, none, none, none, none, none, none, none, none, none, none, none, none, none, none, none, none, none, none, none, none, none, none, none, none, none, none, none, none, none, none, none, none, none, none, none, none, none, none, none, none, none, none, none, none, none, none, none, none, none, none, none, none, none, none]) (ws2 := [(a0, o11 z50.2 J0_15 J0_16 u0_0 u0_1 u0_2 u0_3 u0_4 u0_5 u0_6 u0_7 u0_8 a1 a3 u0_12 u0_13), (a1, ad E 3 (en [a2, a30, a44])), (a2, o3 T2 a5 a7 a9 a11 a13 a15 a17 a18), (a3, o3 T3 a4 a6 a8 a10 a12 a14 a16 a19), (a4, ai E 36 V4), (a5, ai E 36 V5), (a6, ai E 5 V6), (a7, ai E 5 V7), (a8, al E 5 V8), (a9, al E 5 V9), (a10, ai E 12 V10), (a11, ai E 12 V11), (a12, ai E 12 V12), (a13, ai E 12 V13), (a14, ai E 12 V14), (a15, ai E 12 V15), (a16, ai E 12 V16), (a17, ai E 12 V17), (a18, o0 T18 a21 a23 a25 a27 a29), (a19, o0 T19 a20 a22 a24 a26 a28), (a20, ai E 60 V20), (a21, ai E 60 V21), (a22, ai E 60 V22), (a23, ai E 60 V23), (a24, ai E 60 V24), (a25, ai E 60 V25), (a26, ai E 60 V26), (a27, ai E 60 V27), (a28, ai E 60 V28), (a29, ai E 60 V29), (a30, o3 T30 a31 a32 a33 a34 a35 a36 a37 a38), (a31, ai E 36 V31), (a32, ai E 5 V32), (a33, al E 5 V33), (a34, ai E 12 V34), (a35, ai E 12 V35), (a36, ai E 12 V36), (a37, ai E 12 V37), (a38, o0 T38 a39 a40 a41 a42 a43), (a39, ai E 60 V39), (a40, ai E 60 V40), (a41, ai E 60 V41), (a42, ai E 60 V42), (a43, ai E 60 V43), (a44, o3 z32.1 a45 a46 a47 a48 a49 a50 a51 a52), (a45, ai E 36 z32.2.1), (a46, ai E 5 z32.2.2.1), (a47, al E 5 z32.2.2.2.1), (a48, ai E 12 z32.2.2.2.2.1), (a49, ai E 12 z32.2.2.2.2.2.1), (a50, ai E 12 z32.2.2.2.2.2.2.1), (a51, ai E 12 z32.2.2.2.2.2.2.2.1), (a52, o0 z32.2.2.2.2.2.2.2.2.1 a53 a54 a55 a56 a57), (a53, ai E 60 z32.2.2.2.2.2.2.2.2.2.1), (a54, ai E 60 z32.2.2.2.2.2.2.2.2.2.2.1), (a55, ai E 60 z32.2.2.2.2.2.2.2.2.2.2.2.1), (a56, ai E 60 z32.2.2.2.2.2.2.2.2.2.2.2.2.1), (a57, ai E 60 z32.2.2.2.2.2.2.2.2.2.2.2.2.2)]) rfl rfl rfl rfl rfl (xrecv hK hP (q0 := 0) (ci := 11) rfl rfl) rfl hl.1 rfl (Nat.le_of_ble_eq_true rfl) dX11_mark_50 (fun H locs hP hD hS => ?_)
    exact ret (z50.1, z50.2, T2, V5, V7, V9, V11, V13, V15, V17, T18, V21, V23, V25, V27, V29, T30, V31, V32, V33, V34, V35, V36, V37, T38, V39, V40, V41, V42, V43, z32.1, z32.2.1, z32.2.2.1, z32.2.2.2.1, z32.2.2.2.2.1, z32.2.2.2.2.2.1, z32.2.2.2.2.2.2.1, z32.2.2.2.2.2.2.2.1, z32.2.2.2.2.2.2.2.2.1, z32.2.2.2.2.2.2.2.2.2.1, z32.2.2.2.2.2.2.2.2.2.2.1, z32.2.2.2.2.2.2.2.2.2.2.2.1, z32.2.2.2.2.2.2.2.2.2.2.2.2.1, z32.2.2.2.2.2.2.2.2.2.2.2.2.2) hf nzi hP hS dX11_mark_53
  · have hf := it_f c9 hf
    refine lv_aload_n hx hb dX11_mark_12 rfl (lv_at hl 0 rfl) ?_
    refine lv_bipush (v := 7) hx hb dX11_mark_13 rfl ?_
    obtain ⟨z15, hz15, hf⟩ := bind_s hf
    refine xV_iu hx hb hml hown htg L11_137 (c_X11_refused l E a0 hz15 _) ⟨⟨rfl, rfl⟩, Nat.le_of_ble_eq_true rfl, Nat.le_of_ble_eq_true rfl⟩ hK hG hA hP hD hS (is := [0]) (sel := [some 0, none, none, none, none, none, none, none, none, none, none, none, none, none, none, none, none, none, none, none, none, none, none, none, none, none, none, none, none, none, none, none, none, none, none, none, none, none, none, none, none, none, none, none, none, none, none, none, none, none, none, none, none, none, none, none, none, none]) (ws2 := [(a0, o11 z15.2 J0_15 J0_16 u0_0 u0_1 u0_2 u0_3 u0_4 u0_5 u0_6 u0_7 u0_8 a1 a3 u0_12 u0_13), (a1, ad E 3 (en [a2, a30, a44])), (a2, o3 T2 a5 a7 a9 a11 a13 a15 a17 a18), (a3, o3 T3 a4 a6 a8 a10 a12 a14 a16 a19), (a4, ai E 36 V4), (a5, ai E 36 V5), (a6, ai E 5 V6), (a7, ai E 5 V7), (a8, al E 5 V8), (a9, al E 5 V9), (a10, ai E 12 V10), (a11, ai E 12 V11), (a12, ai E 12 V12), (a13, ai E 12 V13), (a14, ai E 12 V14), (a15, ai E 12 V15), (a16, ai E 12 V16), (a17, ai E 12 V17), (a18, o0 T18 a21 a23 a25 a27 a29), (a19, o0 T19 a20 a22 a24 a26 a28), (a20, ai E 60 V20), (a21, ai E 60 V21), (a22, ai E 60 V22), (a23, ai E 60 V23), (a24, ai E 60 V24), (a25, ai E 60 V25), (a26, ai E 60 V26), (a27, ai E 60 V27), (a28, ai E 60 V28), (a29, ai E 60 V29), (a30, o3 T30 a31 a32 a33 a34 a35 a36 a37 a38), (a31, ai E 36 V31), (a32, ai E 5 V32), (a33, al E 5 V33), (a34, ai E 12 V34), (a35, ai E 12 V35), (a36, ai E 12 V36), (a37, ai E 12 V37), (a38, o0 T38 a39 a40 a41 a42 a43), (a39, ai E 60 V39), (a40, ai E 60 V40), (a41, ai E 60 V41), (a42, ai E 60 V42), (a43, ai E 60 V43), (a44, o3 T44 a45 a46 a47 a48 a49 a50 a51 a52), (a45, ai E 36 V45), (a46, ai E 5 V46), (a47, al E 5 V47), (a48, ai E 12 V48), (a49, ai E 12 V49), (a50, ai E 12 V50), (a51, ai E 12 V51), (a52, o0 T52 a53 a54 a55 a56 a57), (a53, ai E 60 V53), (a54, ai E 60 V54), (a55, ai E 60 V55), (a56, ai E 60 V56), (a57, ai E 60 V57)]) rfl rfl rfl rfl rfl (xrecv hK hP (q0 := 0) (ci := 11) rfl rfl) rfl hl.1 rfl (Nat.le_of_ble_eq_true rfl) dX11_mark_15 (fun H locs hP hD hS => ?_)
    exact ret (z15.1, z15.2, T2, V5, V7, V9, V11, V13, V15, V17, T18, V21, V23, V25, V27, V29, T30, V31, V32, V33, V34, V35, V36, V37, T38, V39, V40, V41, V42, V43, T44, V45, V46, V47, V48, V49, V50, V51, T52, V53, V54, V55, V56, V57) hf nzi hP hS dX11_mark_18
theorem dX11_back_0 : decode cX11_back 0 = .ok (.aload_n 0, 1) := by decide +kernel
theorem dX11_back_1 : decode cX11_back 1 = .ok (.getfield 385, 3) := by decide +kernel
theorem dX11_back_4 : decode cX11_back 4 = .ok (.ifCond .le 15, 3) := by decide +kernel
theorem dX11_back_7 : decode cX11_back 7 = .ok (.aload_n 0, 1) := by decide +kernel
theorem dX11_back_8 : decode cX11_back 8 = .ok (.getfield 385, 3) := by decide +kernel
theorem dX11_back_11 : decode cX11_back 11 = .ok (.aload_n 0, 1) := by decide +kernel
theorem dX11_back_12 : decode cX11_back 12 = .ok (.getfield 74, 3) := by decide +kernel
theorem dX11_back_15 : decode cX11_back 15 = .ok (.arraylength, 1) := by decide +kernel
theorem dX11_back_16 : decode cX11_back 16 = .ok (.if_icmp .le 10, 3) := by decide +kernel
theorem dX11_back_19 : decode cX11_back 19 = .ok (.aload_n 0, 1) := by decide +kernel
theorem dX11_back_20 : decode cX11_back 20 = .ok (.bipush 8, 2) := by decide +kernel
theorem dX11_back_22 : decode cX11_back 22 = .ok (.invokevirtual 137, 3) := by decide +kernel
theorem dX11_back_25 : decode cX11_back 25 = .ok (.ireturn, 1) := by decide +kernel
theorem dX11_back_26 : decode cX11_back 26 = .ok (.aload_n 0, 1) := by decide +kernel
theorem dX11_back_27 : decode cX11_back 27 = .ok (.dup, 1) := by decide +kernel
theorem dX11_back_28 : decode cX11_back 28 = .ok (.getfield 385, 3) := by decide +kernel
theorem dX11_back_31 : decode cX11_back 31 = .ok (.iconst 1, 1) := by decide +kernel
theorem dX11_back_32 : decode cX11_back 32 = .ok (.isub, 1) := by decide +kernel
theorem dX11_back_33 : decode cX11_back 33 = .ok (.putfield 385, 3) := by decide +kernel
theorem dX11_back_36 : decode cX11_back 36 = .ok (.aload_n 0, 1) := by decide +kernel
theorem dX11_back_37 : decode cX11_back 37 = .ok (.getfield 79, 3) := by decide +kernel
theorem dX11_back_40 : decode cX11_back 40 = .ok (.astore_n 1, 1) := by decide +kernel
theorem dX11_back_41 : decode cX11_back 41 = .ok (.aload_n 0, 1) := by decide +kernel
theorem dX11_back_42 : decode cX11_back 42 = .ok (.aload_n 0, 1) := by decide +kernel
theorem dX11_back_43 : decode cX11_back 43 = .ok (.getfield 74, 3) := by decide +kernel
theorem dX11_back_46 : decode cX11_back 46 = .ok (.aload_n 0, 1) := by decide +kernel
theorem dX11_back_47 : decode cX11_back 47 = .ok (.getfield 385, 3) := by decide +kernel
theorem dX11_back_50 : decode cX11_back 50 = .ok (.aaload, 1) := by decide +kernel
theorem dX11_back_51 : decode cX11_back 51 = .ok (.putfield 79, 3) := by decide +kernel
theorem dX11_back_54 : decode cX11_back 54 = .ok (.aload_n 0, 1) := by decide +kernel
theorem dX11_back_55 : decode cX11_back 55 = .ok (.getfield 74, 3) := by decide +kernel
theorem dX11_back_58 : decode cX11_back 58 = .ok (.aload_n 0, 1) := by decide +kernel
theorem dX11_back_59 : decode cX11_back 59 = .ok (.getfield 385, 3) := by decide +kernel
theorem dX11_back_62 : decode cX11_back 62 = .ok (.aload_n 1, 1) := by decide +kernel
theorem dX11_back_63 : decode cX11_back 63 = .ok (.aastore, 1) := by decide +kernel
theorem dX11_back_64 : decode cX11_back 64 = .ok (.aload_n 0, 1) := by decide +kernel
theorem dX11_back_65 : decode cX11_back 65 = .ok (.aload_n 0, 1) := by decide +kernel
theorem dX11_back_66 : decode cX11_back 66 = .ok (.getfield 385, 3) := by decide +kernel
theorem dX11_back_69 : decode cX11_back 69 = .ok (.invokevirtual 179, 3) := by decide +kernel
theorem dX11_back_72 : decode cX11_back 72 = .ok (.ireturn, 1) := by decide +kernel
set_option maxRecDepth 100000 in
theorem c_X11_back (l : Launch) (E : xE) (a0 a1 a2 a3 a4 a5 : Nat) {T0 : Nat → Int32} {J0_15 : Int64} {J0_16 : Int64} {T2 : Nat → Int32} {T3 : Nat → Int32} {T4 : Nat → Int32} {T5 : Nat → Int32} {u0_0 u0_1 u0_2 u0_3 u0_4 u0_5 u0_6 u0_7 u0_8 u0_12 u0_13 u2_7 u2_8 u2_9 u2_10 u2_11 u2_12 u2_13 u2_14 u3_7 u3_8 u3_9 u3_10 u3_11 u3_12 u3_13 u3_14 u4_7 u4_8 u4_9 u4_10 u4_11 u4_12 u4_13 u4_14 u5_7 u5_8 u5_9 u5_10 u5_11 u5_12 u5_13 u5_14 : Nat} {z : Int32 × (Nat → Int32) × Nat × Nat × Nat × Nat} (hf : f_X11_back T0 a2 a3 a4 a5 = some z) (sz : Nat) : Met l yX11_back (Cond.code yX11_back cX11_back 2 (some .int) :: gw) ({ frames := 1, cells := 0, slots := 0, locals := 21 }) (xPc E [.ref a0] [(a0, o11 T0 J0_15 J0_16 u0_0 u0_1 u0_2 u0_3 u0_4 u0_5 u0_6 u0_7 u0_8 a1 a2 u0_12 u0_13), (a1, ad E 3 (en [a3, a4, a5])), (a2, o3 T2 u2_7 u2_8 u2_9 u2_10 u2_11 u2_12 u2_13 u2_14), (a3, o3 T3 u3_7 u3_8 u3_9 u3_10 u3_11 u3_12 u3_13 u3_14), (a4, o3 T4 u4_7 u4_8 u4_9 u4_10 u4_11 u4_12 u4_13 u4_14), (a5, o3 T5 u5_7 u5_8 u5_9 u5_10 u5_11 u5_12 u5_13 u5_14)] sz) (xQi E z.1 [(a0, o11 T0 J0_15 J0_16 u0_0 u0_1 u0_2 u0_3 u0_4 u0_5 u0_6 u0_7 u0_8 a1 a2 u0_12 u0_13), (a1, ad E 3 (en [a3, a4, a5])), (a2, o3 T2 u2_7 u2_8 u2_9 u2_10 u2_11 u2_12 u2_13 u2_14), (a3, o3 T3 u3_7 u3_8 u3_9 u3_10 u3_11 u3_12 u3_13 u3_14), (a4, o3 T4 u4_7 u4_8 u4_9 u4_10 u4_11 u4_12 u4_13 u4_14), (a5, o3 T5 u5_7 u5_8 u5_9 u5_10 u5_11 u5_12 u5_13 u5_14)] [(a0, o11 z.2.1 J0_15 J0_16 u0_0 u0_1 u0_2 u0_3 u0_4 u0_5 u0_6 u0_7 u0_8 a1 z.2.2.1 u0_12 u0_13), (a1, ad E 3 (en [z.2.2.2.1, z.2.2.2.2.1, z.2.2.2.2.2])), (a2, o3 T2 u2_7 u2_8 u2_9 u2_10 u2_11 u2_12 u2_13 u2_14), (a3, o3 T3 u3_7 u3_8 u3_9 u3_10 u3_11 u3_12 u3_13 u3_14), (a4, o3 T4 u4_7 u4_8 u4_9 u4_10 u4_11 u4_12 u4_13 u4_14), (a5, o3 T5 u5_7 u5_8 u5_9 u5_10 u5_11 u5_12 u5_13 u5_14)] sz) 0 0 (va_A [(a0, o11 T0 J0_15 J0_16 u0_0 u0_1 u0_2 u0_3 u0_4 u0_5 u0_6 u0_7 u0_8 a1 a2 u0_12 u0_13), (a1, ad E 3 (en [a3, a4, a5])), (a2, o3 T2 u2_7 u2_8 u2_9 u2_10 u2_11 u2_12 u2_13 u2_14), (a3, o3 T3 u3_7 u3_8 u3_9 u3_10 u3_11 u3_12 u3_13 u3_14), (a4, o3 T4 u4_7 u4_8 u4_9 u4_10 u4_11 u4_12 u4_13 u4_14), (a5, o3 T5 u5_7 u5_8 u5_9 u5_10 u5_11 u5_12 u5_13 u5_14)] sz) := by
  refine xM_i (by decide +kernel) (Nat.le_of_ble_eq_true rfl) ?_
  intro p e s m args below meth c A Q hx hb hml hown htg hK hG hA ret0 H locs ls hP hD hS hl
  have ret : ∀ (z' : Int32 × (Nat → Int32) × Nat × Nat × Nat × Nat) {H : Heap} {locs : List Loc} {pc : Nat} {ls : Array Slot}, some z' = some z → narrow .int (.int z'.1) = .int z'.1 → va_P E.1 vwCl [(a0, o11 z'.2.1 J0_15 J0_16 u0_0 u0_1 u0_2 u0_3 u0_4 u0_5 u0_6 u0_7 u0_8 a1 z'.2.2.1 u0_12 u0_13), (a1, ad E 3 (en [z'.2.2.2.1, z'.2.2.2.2.1, z'.2.2.2.2.2])), (a2, o3 T2 u2_7 u2_8 u2_9 u2_10 u2_11 u2_12 u2_13 u2_14), (a3, o3 T3 u3_7 u3_8 u3_9 u3_10 u3_11 u3_12 u3_13 u3_14), (a4, o3 T4 u4_7 u4_8 u4_9 u4_10 u4_11 u4_12 u4_13 u4_14), (a5, o3 T5 u5_7 u5_8 u5_9 u5_10 u5_11 u5_12 u5_13 u5_14)] H → va_S A s.heap H locs → decode cX11_back pc = .ok (.ireturn, 1) → W p l e ({ frames := 1, cells := 0, slots := 0, locals := 21 } : Room) s m args below meth c H locs 0 0 Q (F0 m pc ls [.int z'.1]) := by
    intro z' H locs pc ls h
    cases h
    exact ret0
  replace hl : lv_has ls 2 [(0, .ref a0)] := hl
  have b19 : ∀ (T0 : Nat → Int32) (H : Heap) (locs : List Loc) (ls : Array Slot), f_X11_back_19 a2 a3 a4 a5 T0 = some z → va_P E.1 vwCl [(a0, o11 T0 J0_15 J0_16 u0_0 u0_1 u0_2 u0_3 u0_4 u0_5 u0_6 u0_7 u0_8 a1 a2 u0_12 u0_13), (a1, ad E 3 (en [a3, a4, a5])), (a2, o3 T2 u2_7 u2_8 u2_9 u2_10 u2_11 u2_12 u2_13 u2_14), (a3, o3 T3 u3_7 u3_8 u3_9 u3_10 u3_11 u3_12 u3_13 u3_14), (a4, o3 T4 u4_7 u4_8 u4_9 u4_10 u4_11 u4_12 u4_13 u4_14), (a5, o3 T5 u5_7 u5_8 u5_9 u5_10 u5_11 u5_12 u5_13 u5_14)] H → va_D A [(a0, o11 T0 J0_15 J0_16 u0_0 u0_1 u0_2 u0_3 u0_4 u0_5 u0_6 u0_7 u0_8 a1 a2 u0_12 u0_13), (a1, ad E 3 (en [a3, a4, a5])), (a2, o3 T2 u2_7 u2_8 u2_9 u2_10 u2_11 u2_12 u2_13 u2_14), (a3, o3 T3 u3_7 u3_8 u3_9 u3_10 u3_11 u3_12 u3_13 u3_14), (a4, o3 T4 u4_7 u4_8 u4_9 u4_10 u4_11 u4_12 u4_13 u4_14), (a5, o3 T5 u5_7 u5_8 u5_9 u5_10 u5_11 u5_12 u5_13 u5_14)] → va_S A s.heap H locs → lv_has ls 2 [(0, .ref a0)] → W p l e ({ frames := 1, cells := 0, slots := 0, locals := 21 } : Room) s m args below meth c H locs 0 0 Q (F0 m 19 ls []) := by
    intro T0 H locs ls hf hP hD hS hl
    unfold f_X11_back_19 at hf
    refine lv_aload_n hx hb dX11_back_19 rfl (lv_at hl 0 rfl) ?_
    refine lv_bipush (v := 8) hx hb dX11_back_20 rfl ?_
    obtain ⟨z22, hz22, hf⟩ := bind_s hf
    refine xV_iu hx hb hml hown htg L11_137 (c_X11_refused l E a0 hz22 _) ⟨⟨rfl, rfl⟩, Nat.le_of_ble_eq_true rfl, Nat.le_of_ble_eq_true rfl⟩ hK hG hA hP hD hS (is := [0]) (sel := [some 0, none, none, none, none, none]) (ws2 := [(a0, o11 z22.2 J0_15 J0_16 u0_0 u0_1 u0_2 u0_3 u0_4 u0_5 u0_6 u0_7 u0_8 a1 a2 u0_12 u0_13), (a1, ad E 3 (en [a3, a4, a5])), (a2, o3 T2 u2_7 u2_8 u2_9 u2_10 u2_11 u2_12 u2_13 u2_14), (a3, o3 T3 u3_7 u3_8 u3_9 u3_10 u3_11 u3_12 u3_13 u3_14), (a4, o3 T4 u4_7 u4_8 u4_9 u4_10 u4_11 u4_12 u4_13 u4_14), (a5, o3 T5 u5_7 u5_8 u5_9 u5_10 u5_11 u5_12 u5_13 u5_14)]) rfl rfl rfl rfl rfl (xrecv hK hP (q0 := 0) (ci := 11) rfl rfl) rfl hl.1 rfl (Nat.le_of_ble_eq_true rfl) dX11_back_22 (fun H locs hP hD hS => ?_)
    exact ret (z22.1, z22.2, a2, a3, a4, a5) hf nzi hP hS dX11_back_25
  unfold f_X11_back at hf
  refine lv_aload_n hx hb dX11_back_0 rfl (lv_at hl 0 rfl) ?_
  refine G11_385 hx hb htg hown hK hP 0 rfl dX11_back_1 ?_
  refine lv_if_le (tgt := 19) hx hb dX11_back_4 (by decide) (fun c4 => ?_) (fun c4 => ?_)
  · have hf := it_t c4 hf
    exact b19 T0 _ _ _ hf hP hD hS (lv_sub hl [0] rfl)
  · have hf := it_f c4 hf
    refine lv_aload_n hx hb dX11_back_7 rfl (lv_at hl 0 rfl) ?_
    refine G11_385 hx hb htg hown hK hP 0 rfl dX11_back_8 ?_
    refine lv_aload_n hx hb dX11_back_11 rfl (lv_at hl 0 rfl) ?_
    refine G11_74 hx hb htg hown hK hP 0 rfl dX11_back_12 ?_
    refine va_alen (v := 3) hx hb hK hP 1 3 rfl rfl rfl dX11_back_15 ?_
    refine lv_icmp_le (tgt := 26) hx hb dX11_back_16 (by decide) (fun c16 => ?_) (fun c16 => ?_)
    · have hf := it_t c16 hf
      refine lv_aload_n hx hb dX11_back_26 rfl (lv_at hl 0 rfl) ?_
      refine lv_dup hx hb dX11_back_27 rfl ?_
      refine G11_385 hx hb htg hown hK hP 0 rfl dX11_back_28 ?_
      refine lv_iconst (v := 1) hx hb dX11_back_31 rfl ?_
      refine lv_isub hx hb dX11_back_32 ?_
      refine P11_385 hx hb htg hown hK hP hD hS 0 rfl dX11_back_33 (fun H locs hP hD hS => ?_)
      refine lv_aload_n hx hb dX11_back_36 rfl (lv_at hl 0 rfl) ?_
      refine G11_79 hx hb htg hown hK hP 0 rfl dX11_back_37 ?_
      refine lv_astore_n (lv' := [(1, .ref a2), (0, .ref a0)]) hx hb dX11_back_40 rfl hl (by decide) rfl (fun ls hl => ?_)
      refine lv_aload_n hx hb dX11_back_41 rfl (lv_at hl 1 rfl) ?_
      refine lv_aload_n hx hb dX11_back_42 rfl (lv_at hl 1 rfl) ?_
      refine G11_74 hx hb htg hown hK hP 0 rfl dX11_back_43 ?_
      refine lv_aload_n hx hb dX11_back_46 rfl (lv_at hl 1 rfl) ?_
      refine G11_385 hx hb htg hown hK hP 0 rfl dX11_back_47 ?_
      obtain ⟨g50, hf⟩ := ck_s hf
      by_cases c50_0 : (upd T0 10 ((T0 10) - 1)) 10 = 0
      · have hf := it_t c50_0 hf
        refine xdld (v := a3) hx hb hK hP 1 rfl g50 (congrArg Int32.toNatClampNeg c50_0) rfl dX11_back_50 ?_
        refine P11_79 hx hb htg hown hK hP hD hS 0 rfl dX11_back_51 (fun H locs hP hD hS => ?_)
        refine lv_aload_n hx hb dX11_back_54 rfl (lv_at hl 1 rfl) ?_
        refine G11_74 hx hb htg hown hK hP 0 rfl dX11_back_55 ?_
        refine lv_aload_n hx hb dX11_back_58 rfl (lv_at hl 1 rfl) ?_
        refine G11_385 hx hb htg hown hK hP 0 rfl dX11_back_59 ?_
        refine lv_aload_n hx hb dX11_back_62 rfl (lv_at hl 0 rfl) ?_
        obtain ⟨g63, hf⟩ := ck_s hf
        refine xdst (k := 0) hx hb hK hP hD hS 1 2 rfl rfl g63 ((congrArg Int32.toNatClampNeg c50_0).trans (by decide)) (Nat.le_of_ble_eq_true rfl) dX11_back_63 (fun H locs hP hD hS => ?_)
        replace hP : va_P E.1 vwCl [(a0, o11 (upd T0 10 ((T0 10) - 1)) J0_15 J0_16 u0_0 u0_1 u0_2 u0_3 u0_4 u0_5 u0_6 u0_7 u0_8 a1 a3 u0_12 u0_13), (a1, ad E 3 (en [a2, a4, a5])), (a2, o3 T2 u2_7 u2_8 u2_9 u2_10 u2_11 u2_12 u2_13 u2_14), (a3, o3 T3 u3_7 u3_8 u3_9 u3_10 u3_11 u3_12 u3_13 u3_14), (a4, o3 T4 u4_7 u4_8 u4_9 u4_10 u4_11 u4_12 u4_13 u4_14), (a5, o3 T5 u5_7 u5_8 u5_9 u5_10 u5_11 u5_12 u5_13 u5_14)] H := hP
        replace hD : va_D A [(a0, o11 (upd T0 10 ((T0 10) - 1)) J0_15 J0_16 u0_0 u0_1 u0_2 u0_3 u0_4 u0_5 u0_6 u0_7 u0_8 a1 a3 u0_12 u0_13), (a1, ad E 3 (en [a2, a4, a5])), (a2, o3 T2 u2_7 u2_8 u2_9 u2_10 u2_11 u2_12 u2_13 u2_14), (a3, o3 T3 u3_7 u3_8 u3_9 u3_10 u3_11 u3_12 u3_13 u3_14), (a4, o3 T4 u4_7 u4_8 u4_9 u4_10 u4_11 u4_12 u4_13 u4_14), (a5, o3 T5 u5_7 u5_8 u5_9 u5_10 u5_11 u5_12 u5_13 u5_14)] := hD
        refine lv_aload_n hx hb dX11_back_64 rfl (lv_at hl 1 rfl) ?_
        refine lv_aload_n hx hb dX11_back_65 rfl (lv_at hl 1 rfl) ?_
        refine G11_385 hx hb htg hown hK hP 0 rfl dX11_back_66 ?_
        obtain ⟨z69, hz69, hf⟩ := bind_s hf
        refine xV_iu hx hb hml hown htg L11_179 (c_X11_answer l E a0 hz69 _) ⟨⟨rfl, rfl⟩, Nat.le_of_ble_eq_true rfl, Nat.le_of_ble_eq_true rfl⟩ hK hG hA hP hD hS (is := [0]) (sel := [some 0, none, none, none, none, none]) (ws2 := [(a0, o11 z69.2 J0_15 J0_16 u0_0 u0_1 u0_2 u0_3 u0_4 u0_5 u0_6 u0_7 u0_8 a1 a3 u0_12 u0_13), (a1, ad E 3 (en [a2, a4, a5])), (a2, o3 T2 u2_7 u2_8 u2_9 u2_10 u2_11 u2_12 u2_13 u2_14), (a3, o3 T3 u3_7 u3_8 u3_9 u3_10 u3_11 u3_12 u3_13 u3_14), (a4, o3 T4 u4_7 u4_8 u4_9 u4_10 u4_11 u4_12 u4_13 u4_14), (a5, o3 T5 u5_7 u5_8 u5_9 u5_10 u5_11 u5_12 u5_13 u5_14)]) rfl rfl rfl rfl rfl (xrecv hK hP (q0 := 0) (ci := 11) rfl rfl) rfl hl.1 rfl (Nat.le_of_ble_eq_true rfl) dX11_back_69 (fun H locs hP hD hS => ?_)
        exact ret (z69.1, z69.2, a3, a2, a4, a5) hf nzi hP hS dX11_back_72
      have hf := it_f c50_0 hf
      by_cases c50_1 : (upd T0 10 ((T0 10) - 1)) 10 = 1
      · have hf := it_t c50_1 hf
        refine xdld (v := a4) hx hb hK hP 1 rfl g50 (congrArg Int32.toNatClampNeg c50_1) rfl dX11_back_50 ?_
        refine P11_79 hx hb htg hown hK hP hD hS 0 rfl dX11_back_51 (fun H locs hP hD hS => ?_)
        refine lv_aload_n hx hb dX11_back_54 rfl (lv_at hl 1 rfl) ?_
        refine G11_74 hx hb htg hown hK hP 0 rfl dX11_back_55 ?_
        refine lv_aload_n hx hb dX11_back_58 rfl (lv_at hl 1 rfl) ?_
        refine G11_385 hx hb htg hown hK hP 0 rfl dX11_back_59 ?_
        refine lv_aload_n hx hb dX11_back_62 rfl (lv_at hl 0 rfl) ?_
        obtain ⟨g63, hf⟩ := ck_s hf
        refine xdst (k := 1) hx hb hK hP hD hS 1 2 rfl rfl g63 ((congrArg Int32.toNatClampNeg c50_1).trans (by decide)) (Nat.le_of_ble_eq_true rfl) dX11_back_63 (fun H locs hP hD hS => ?_)
        replace hP : va_P E.1 vwCl [(a0, o11 (upd T0 10 ((T0 10) - 1)) J0_15 J0_16 u0_0 u0_1 u0_2 u0_3 u0_4 u0_5 u0_6 u0_7 u0_8 a1 a4 u0_12 u0_13), (a1, ad E 3 (en [a3, a2, a5])), (a2, o3 T2 u2_7 u2_8 u2_9 u2_10 u2_11 u2_12 u2_13 u2_14), (a3, o3 T3 u3_7 u3_8 u3_9 u3_10 u3_11 u3_12 u3_13 u3_14), (a4, o3 T4 u4_7 u4_8 u4_9 u4_10 u4_11 u4_12 u4_13 u4_14), (a5, o3 T5 u5_7 u5_8 u5_9 u5_10 u5_11 u5_12 u5_13 u5_14)] H := hP
        replace hD : va_D A [(a0, o11 (upd T0 10 ((T0 10) - 1)) J0_15 J0_16 u0_0 u0_1 u0_2 u0_3 u0_4 u0_5 u0_6 u0_7 u0_8 a1 a4 u0_12 u0_13), (a1, ad E 3 (en [a3, a2, a5])), (a2, o3 T2 u2_7 u2_8 u2_9 u2_10 u2_11 u2_12 u2_13 u2_14), (a3, o3 T3 u3_7 u3_8 u3_9 u3_10 u3_11 u3_12 u3_13 u3_14), (a4, o3 T4 u4_7 u4_8 u4_9 u4_10 u4_11 u4_12 u4_13 u4_14), (a5, o3 T5 u5_7 u5_8 u5_9 u5_10 u5_11 u5_12 u5_13 u5_14)] := hD
        refine lv_aload_n hx hb dX11_back_64 rfl (lv_at hl 1 rfl) ?_
        refine lv_aload_n hx hb dX11_back_65 rfl (lv_at hl 1 rfl) ?_
        refine G11_385 hx hb htg hown hK hP 0 rfl dX11_back_66 ?_
        obtain ⟨z69, hz69, hf⟩ := bind_s hf
        refine xV_iu hx hb hml hown htg L11_179 (c_X11_answer l E a0 hz69 _) ⟨⟨rfl, rfl⟩, Nat.le_of_ble_eq_true rfl, Nat.le_of_ble_eq_true rfl⟩ hK hG hA hP hD hS (is := [0]) (sel := [some 0, none, none, none, none, none]) (ws2 := [(a0, o11 z69.2 J0_15 J0_16 u0_0 u0_1 u0_2 u0_3 u0_4 u0_5 u0_6 u0_7 u0_8 a1 a4 u0_12 u0_13), (a1, ad E 3 (en [a3, a2, a5])), (a2, o3 T2 u2_7 u2_8 u2_9 u2_10 u2_11 u2_12 u2_13 u2_14), (a3, o3 T3 u3_7 u3_8 u3_9 u3_10 u3_11 u3_12 u3_13 u3_14), (a4, o3 T4 u4_7 u4_8 u4_9 u4_10 u4_11 u4_12 u4_13 u4_14), (a5, o3 T5 u5_7 u5_8 u5_9 u5_10 u5_11 u5_12 u5_13 u5_14)]) rfl rfl rfl rfl rfl (xrecv hK hP (q0 := 0) (ci := 11) rfl rfl) rfl hl.1 rfl (Nat.le_of_ble_eq_true rfl) dX11_back_69 (fun H locs hP hD hS => ?_)
        exact ret (z69.1, z69.2, a4, a3, a2, a5) hf nzi hP hS dX11_back_72
      have hf := it_f c50_1 hf
      have e50 := gd_last3 g50 c50_0 c50_1
      refine xdld (v := a5) hx hb hK hP 1 rfl g50 (congrArg Int32.toNatClampNeg e50) rfl dX11_back_50 ?_
      refine P11_79 hx hb htg hown hK hP hD hS 0 rfl dX11_back_51 (fun H locs hP hD hS => ?_)
      refine lv_aload_n hx hb dX11_back_54 rfl (lv_at hl 1 rfl) ?_
      refine G11_74 hx hb htg hown hK hP 0 rfl dX11_back_55 ?_
      refine lv_aload_n hx hb dX11_back_58 rfl (lv_at hl 1 rfl) ?_
      refine G11_385 hx hb htg hown hK hP 0 rfl dX11_back_59 ?_
      refine lv_aload_n hx hb dX11_back_62 rfl (lv_at hl 0 rfl) ?_
      obtain ⟨g63, hf⟩ := ck_s hf
      refine xdst (k := 2) hx hb hK hP hD hS 1 2 rfl rfl g63 ((congrArg Int32.toNatClampNeg e50).trans (by decide)) (Nat.le_of_ble_eq_true rfl) dX11_back_63 (fun H locs hP hD hS => ?_)
      replace hP : va_P E.1 vwCl [(a0, o11 (upd T0 10 ((T0 10) - 1)) J0_15 J0_16 u0_0 u0_1 u0_2 u0_3 u0_4 u0_5 u0_6 u0_7 u0_8 a1 a5 u0_12 u0_13), (a1, ad E 3 (en [a3, a4, a2])), (a2, o3 T2 u2_7 u2_8 u2_9 u2_10 u2_11 u2_12 u2_13 u2_14), (a3, o3 T3 u3_7 u3_8 u3_9 u3_10 u3_11 u3_12 u3_13 u3_14), (a4, o3 T4 u4_7 u4_8 u4_9 u4_10 u4_11 u4_12 u4_13 u4_14), (a5, o3 T5 u5_7 u5_8 u5_9 u5_10 u5_11 u5_12 u5_13 u5_14)] H := hP
      replace hD : va_D A [(a0, o11 (upd T0 10 ((T0 10) - 1)) J0_15 J0_16 u0_0 u0_1 u0_2 u0_3 u0_4 u0_5 u0_6 u0_7 u0_8 a1 a5 u0_12 u0_13), (a1, ad E 3 (en [a3, a4, a2])), (a2, o3 T2 u2_7 u2_8 u2_9 u2_10 u2_11 u2_12 u2_13 u2_14), (a3, o3 T3 u3_7 u3_8 u3_9 u3_10 u3_11 u3_12 u3_13 u3_14), (a4, o3 T4 u4_7 u4_8 u4_9 u4_10 u4_11 u4_12 u4_13 u4_14), (a5, o3 T5 u5_7 u5_8 u5_9 u5_10 u5_11 u5_12 u5_13 u5_14)] := hD
      refine lv_aload_n hx hb dX11_back_64 rfl (lv_at hl 1 rfl) ?_
      refine lv_aload_n hx hb dX11_back_65 rfl (lv_at hl 1 rfl) ?_
      refine G11_385 hx hb htg hown hK hP 0 rfl dX11_back_66 ?_
      obtain ⟨z69, hz69, hf⟩ := bind_s hf
      refine xV_iu hx hb hml hown htg L11_179 (c_X11_answer l E a0 hz69 _) ⟨⟨rfl, rfl⟩, Nat.le_of_ble_eq_true rfl, Nat.le_of_ble_eq_true rfl⟩ hK hG hA hP hD hS (is := [0]) (sel := [some 0, none, none, none, none, none]) (ws2 := [(a0, o11 z69.2 J0_15 J0_16 u0_0 u0_1 u0_2 u0_3 u0_4 u0_5 u0_6 u0_7 u0_8 a1 a5 u0_12 u0_13), (a1, ad E 3 (en [a3, a4, a2])), (a2, o3 T2 u2_7 u2_8 u2_9 u2_10 u2_11 u2_12 u2_13 u2_14), (a3, o3 T3 u3_7 u3_8 u3_9 u3_10 u3_11 u3_12 u3_13 u3_14), (a4, o3 T4 u4_7 u4_8 u4_9 u4_10 u4_11 u4_12 u4_13 u4_14), (a5, o3 T5 u5_7 u5_8 u5_9 u5_10 u5_11 u5_12 u5_13 u5_14)]) rfl rfl rfl rfl rfl (xrecv hK hP (q0 := 0) (ci := 11) rfl rfl) rfl hl.1 rfl (Nat.le_of_ble_eq_true rfl) dX11_back_69 (fun H locs hP hD hS => ?_)
      exact ret (z69.1, z69.2, a5, a3, a4, a2) hf nzi hP hS dX11_back_72
    · have hf := it_f c16 hf
      exact b19 T0 _ _ _ hf hP hD hS (lv_sub hl [0] rfl)
