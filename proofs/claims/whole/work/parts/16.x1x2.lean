theorem dX1_weigh_0 : decode cX1_weigh 0 = .ok (.aload_n 0, 1) := by decide +kernel
theorem dX1_weigh_1 : decode cX1_weigh 1 = .ok (.getfield 9, 3) := by decide +kernel
theorem dX1_weigh_4 : decode cX1_weigh 4 = .ok (.lconst 1, 1) := by decide +kernel
theorem dX1_weigh_5 : decode cX1_weigh 5 = .ok (.invokestatic 18, 3) := by decide +kernel
theorem dX1_weigh_8 : decode cX1_weigh 8 = .ok (.iconst 0, 1) := by decide +kernel
theorem dX1_weigh_9 : decode cX1_weigh 9 = .ok (.istore_n 3, 1) := by decide +kernel
theorem dX1_weigh_10 : decode cX1_weigh 10 = .ok (.iload_n 3, 1) := by decide +kernel
theorem dX1_weigh_11 : decode cX1_weigh 11 = .ok (.aload_n 1, 1) := by decide +kernel
theorem dX1_weigh_12 : decode cX1_weigh 12 = .ok (.getfield 24, 3) := by decide +kernel
theorem dX1_weigh_15 : decode cX1_weigh 15 = .ok (.if_icmp .ge 107, 3) := by decide +kernel
theorem dX1_weigh_18 : decode cX1_weigh 18 = .ok (.aload_n 1, 1) := by decide +kernel
theorem dX1_weigh_19 : decode cX1_weigh 19 = .ok (.getfield 30, 3) := by decide +kernel
theorem dX1_weigh_22 : decode cX1_weigh 22 = .ok (.iload_n 3, 1) := by decide +kernel
theorem dX1_weigh_23 : decode cX1_weigh 23 = .ok (.iaload, 1) := by decide +kernel
theorem dX1_weigh_24 : decode cX1_weigh 24 = .ok (.istore 4, 2) := by decide +kernel
theorem dX1_weigh_26 : decode cX1_weigh 26 = .ok (.aload_n 1, 1) := by decide +kernel
theorem dX1_weigh_27 : decode cX1_weigh 27 = .ok (.getfield 34, 3) := by decide +kernel
theorem dX1_weigh_30 : decode cX1_weigh 30 = .ok (.iload_n 3, 1) := by decide +kernel
theorem dX1_weigh_31 : decode cX1_weigh 31 = .ok (.iaload, 1) := by decide +kernel
theorem dX1_weigh_32 : decode cX1_weigh 32 = .ok (.iload_n 2, 1) := by decide +kernel
theorem dX1_weigh_33 : decode cX1_weigh 33 = .ok (.if_icmp .ne 83, 3) := by decide +kernel
theorem dX1_weigh_36 : decode cX1_weigh 36 = .ok (.aload_n 1, 1) := by decide +kernel
theorem dX1_weigh_37 : decode cX1_weigh 37 = .ok (.iload 4, 2) := by decide +kernel
theorem dX1_weigh_39 : decode cX1_weigh 39 = .ok (.invokevirtual 37, 3) := by decide +kernel
theorem dX1_weigh_42 : decode cX1_weigh 42 = .ok (.ifCond .eq 74, 3) := by decide +kernel
theorem dX1_weigh_45 : decode cX1_weigh 45 = .ok (.aload_n 1, 1) := by decide +kernel
theorem dX1_weigh_46 : decode cX1_weigh 46 = .ok (.iload 4, 2) := by decide +kernel
theorem dX1_weigh_48 : decode cX1_weigh 48 = .ok (.invokevirtual 41, 3) := by decide +kernel
theorem dX1_weigh_51 : decode cX1_weigh 51 = .ok (.ifCond .ne 6, 3) := by decide +kernel
theorem dX1_weigh_54 : decode cX1_weigh 54 = .ok (.goto 62, 3) := by decide +kernel
theorem dX1_weigh_57 : decode cX1_weigh 57 = .ok (.aload_n 1, 1) := by decide +kernel
theorem dX1_weigh_58 : decode cX1_weigh 58 = .ok (.getfield 44, 3) := by decide +kernel
theorem dX1_weigh_61 : decode cX1_weigh 61 = .ok (.iload 4, 2) := by decide +kernel
theorem dX1_weigh_63 : decode cX1_weigh 63 = .ok (.iaload, 1) := by decide +kernel
theorem dX1_weigh_64 : decode cX1_weigh 64 = .ok (.istore 5, 2) := by decide +kernel
theorem dX1_weigh_66 : decode cX1_weigh 66 = .ok (.iconst 0, 1) := by decide +kernel
theorem dX1_weigh_67 : decode cX1_weigh 67 = .ok (.istore 6, 2) := by decide +kernel
theorem dX1_weigh_69 : decode cX1_weigh 69 = .ok (.iload 6, 2) := by decide +kernel
theorem dX1_weigh_71 : decode cX1_weigh 71 = .ok (.iconst 4, 1) := by decide +kernel
theorem dX1_weigh_72 : decode cX1_weigh 72 = .ok (.if_icmp .ge 44, 3) := by decide +kernel
theorem dX1_weigh_75 : decode cX1_weigh 75 = .ok (.aload_n 0, 1) := by decide +kernel
theorem dX1_weigh_76 : decode cX1_weigh 76 = .ok (.getfield 9, 3) := by decide +kernel
theorem dX1_weigh_79 : decode cX1_weigh 79 = .ok (.iload 6, 2) := by decide +kernel
theorem dX1_weigh_81 : decode cX1_weigh 81 = .ok (.dup2, 1) := by decide +kernel
theorem dX1_weigh_82 : decode cX1_weigh 82 = .ok (.laload, 1) := by decide +kernel
theorem dX1_weigh_83 : decode cX1_weigh 83 = .ok (.aload_n 1, 1) := by decide +kernel
theorem dX1_weigh_84 : decode cX1_weigh 84 = .ok (.getfield 47, 3) := by decide +kernel
theorem dX1_weigh_87 : decode cX1_weigh 87 = .ok (.iload_n 3, 1) := by decide +kernel
theorem dX1_weigh_88 : decode cX1_weigh 88 = .ok (.iaload, 1) := by decide +kernel
theorem dX1_weigh_89 : decode cX1_weigh 89 = .ok (.iload 6, 2) := by decide +kernel
theorem dX1_weigh_91 : decode cX1_weigh 91 = .ok (.if_icmp .ne 14, 3) := by decide +kernel
theorem dX1_weigh_94 : decode cX1_weigh 94 = .ok (.iconst 3, 1) := by decide +kernel
theorem dX1_weigh_95 : decode cX1_weigh 95 = .ok (.bipush 16, 2) := by decide +kernel
theorem dX1_weigh_97 : decode cX1_weigh 97 = .ok (.iload 5, 2) := by decide +kernel
theorem dX1_weigh_99 : decode cX1_weigh 99 = .ok (.isub, 1) := by decide +kernel
theorem dX1_weigh_100 : decode cX1_weigh 100 = .ok (.imul, 1) := by decide +kernel
theorem dX1_weigh_101 : decode cX1_weigh 101 = .ok (.i2l, 1) := by decide +kernel
theorem dX1_weigh_102 : decode cX1_weigh 102 = .ok (.goto 6, 3) := by decide +kernel
theorem dX1_weigh_105 : decode cX1_weigh 105 = .ok (.iload 5, 2) := by decide +kernel
theorem dX1_weigh_107 : decode cX1_weigh 107 = .ok (.i2l, 1) := by decide +kernel
theorem dX1_weigh_108 : decode cX1_weigh 108 = .ok (.lmul, 1) := by decide +kernel
theorem dX1_weigh_109 : decode cX1_weigh 109 = .ok (.lastore, 1) := by decide +kernel
theorem dX1_weigh_110 : decode cX1_weigh 110 = .ok (.iinc 6 1, 3) := by decide +kernel
theorem dX1_weigh_113 : decode cX1_weigh 113 = .ok (.goto (-44), 3) := by decide +kernel
theorem dX1_weigh_116 : decode cX1_weigh 116 = .ok (.iinc 3 1, 3) := by decide +kernel
theorem dX1_weigh_119 : decode cX1_weigh 119 = .ok (.goto (-109), 3) := by decide +kernel
theorem dX1_weigh_122 : decode cX1_weigh 122 = .ok (.return_, 1) := by decide +kernel
set_option maxRecDepth 100000 in
theorem c_X1_weigh (l : Launch) (E : xE) (a0 a1 a2 a3 a4 a5 a6 : Nat) {T1 : Nat → Int32} {V2 : Nat → Int64} {V3 : Nat → Int32} {V4 : Nat → Int32} {V5 : Nat → Int32} {V6 : Nat → Int32} {u0_1 u1_7 u1_9 u1_13 u1_14 : Nat} {x2 : Int32} {z : (Nat → Int64)} (hf : f_X1_weigh T1 V2 V3 V4 V5 V6 x2 = some z) (sz : Nat) : Met l yX1_weigh (Cond.code yX1_weigh cX1_weigh 7 none :: gw) ({ frames := 2, cells := 0, slots := 0, locals := 43 }) (xPc E [.ref a0, .ref a1, .int x2] [(a0, o1 a2 u0_1), (a1, o3 T1 u1_7 a5 u1_9 a3 a4 a6 u1_13 u1_14), (a2, al E 4 V2), (a3, ai E 12 V3), (a4, ai E 12 V4), (a5, ai E 5 V5), (a6, ai E 12 V6)] sz) (xQv E [(a0, o1 a2 u0_1), (a1, o3 T1 u1_7 a5 u1_9 a3 a4 a6 u1_13 u1_14), (a2, al E 4 V2), (a3, ai E 12 V3), (a4, ai E 12 V4), (a5, ai E 5 V5), (a6, ai E 12 V6)] [(a0, o1 a2 u0_1), (a1, o3 T1 u1_7 a5 u1_9 a3 a4 a6 u1_13 u1_14), (a2, al E 4 z), (a3, ai E 12 V3), (a4, ai E 12 V4), (a5, ai E 5 V5), (a6, ai E 12 V6)] sz) 0 0 (va_A [(a0, o1 a2 u0_1), (a1, o3 T1 u1_7 a5 u1_9 a3 a4 a6 u1_13 u1_14), (a2, al E 4 V2), (a3, ai E 12 V3), (a4, ai E 12 V4), (a5, ai E 5 V5), (a6, ai E 12 V6)] sz) := by
  refine xM_v (by decide +kernel) (Nat.le_of_ble_eq_true rfl) ?_
  intro p e s m args below meth c A Q hx hb hml hown htg hK hG hA ret0 H locs ls hP hD hS hl
  have ret : ∀ (z' : (Nat → Int64)) {H : Heap} {locs : List Loc} {pc : Nat} {ls : Array Slot}, some z' = some z → va_P E.1 vwCl [(a0, o1 a2 u0_1), (a1, o3 T1 u1_7 a5 u1_9 a3 a4 a6 u1_13 u1_14), (a2, al E 4 z'), (a3, ai E 12 V3), (a4, ai E 12 V4), (a5, ai E 5 V5), (a6, ai E 12 V6)] H → va_S A s.heap H locs → decode cX1_weigh pc = .ok (.return_, 1) → W p l e ({ frames := 2, cells := 0, slots := 0, locals := 43 } : Room) s m args below meth c H locs 0 0 Q (F0 m pc ls []) := by
    intro z' H locs pc ls h
    cases h
    exact ret0
  replace hl : lv_has ls 7 [(0, .ref a0), (1, .ref a1), (2, .int x2)] := hl
  have b10 : ∀ (n : Nat) (x3 : Int32) (V2 : Nat → Int64) (H : Heap) (locs : List Loc) (ls : Array Slot), f_X1_weigh_10 T1 V3 V4 V5 V6 x2 n x3 V2 = some z → va_P E.1 vwCl [(a0, o1 a2 u0_1), (a1, o3 T1 u1_7 a5 u1_9 a3 a4 a6 u1_13 u1_14), (a2, al E 4 V2), (a3, ai E 12 V3), (a4, ai E 12 V4), (a5, ai E 5 V5), (a6, ai E 12 V6)] H → va_D A [(a0, o1 a2 u0_1), (a1, o3 T1 u1_7 a5 u1_9 a3 a4 a6 u1_13 u1_14), (a2, al E 4 V2), (a3, ai E 12 V3), (a4, ai E 12 V4), (a5, ai E 5 V5), (a6, ai E 12 V6)] → va_S A s.heap H locs → lv_has ls 7 [(0, .ref a0), (1, .ref a1), (2, .int x2), (3, .int x3)] → W p l e ({ frames := 2, cells := 0, slots := 0, locals := 43 } : Room) s m args below meth c H locs 0 0 Q (F0 m 10 ls []) := by
    intro n
    induction n with
    | zero => intro x3 V2 H locs ls hf; exact (nn_s hf).elim
    | succ n ih10 =>
      obtain ⟨k10, ek10⟩ : ∃ k, k = f_X1_weigh_10 T1 V3 V4 V5 V6 x2 n := ⟨_, rfl⟩
      rw [← ek10] at ih10
      have b69 : ∀ (n : Nat) (x3 : Int32) (x5 : Int32) (x6 : Int32) (V2 : Nat → Int64) (H : Heap) (locs : List Loc) (ls : Array Slot), f_X1_weigh_69 T1 V3 V4 V5 V6 x2 k10 n x3 x5 x6 V2 = some z → va_P E.1 vwCl [(a0, o1 a2 u0_1), (a1, o3 T1 u1_7 a5 u1_9 a3 a4 a6 u1_13 u1_14), (a2, al E 4 V2), (a3, ai E 12 V3), (a4, ai E 12 V4), (a5, ai E 5 V5), (a6, ai E 12 V6)] H → va_D A [(a0, o1 a2 u0_1), (a1, o3 T1 u1_7 a5 u1_9 a3 a4 a6 u1_13 u1_14), (a2, al E 4 V2), (a3, ai E 12 V3), (a4, ai E 12 V4), (a5, ai E 5 V5), (a6, ai E 12 V6)] → va_S A s.heap H locs → lv_has ls 7 [(0, .ref a0), (1, .ref a1), (2, .int x2), (3, .int x3), (5, .int x5), (6, .int x6)] → W p l e ({ frames := 2, cells := 0, slots := 0, locals := 43 } : Room) s m args below meth c H locs 0 0 Q (F0 m 69 ls []) := by
        intro n
        induction n with
        | zero => intro x3 x5 x6 V2 H locs ls hf; exact (nn_s hf).elim
        | succ n ih69 =>
          obtain ⟨k69, ek69⟩ : ∃ k, k = f_X1_weigh_69 T1 V3 V4 V5 V6 x2 k10 n := ⟨_, rfl⟩
          rw [← ek69] at ih69
          have b108 : ∀ (x3 : Int32) (x5 : Int32) (x6 : Int32) (s1 : Int32) (s2 : Int64) (s3 : Int64) (V2 : Nat → Int64) (H : Heap) (locs : List Loc) (ls : Array Slot), f_X1_weigh_108 T1 V3 V4 V5 V6 x2 k10 k69 x3 x5 x6 s1 s2 s3 V2 = some z → va_P E.1 vwCl [(a0, o1 a2 u0_1), (a1, o3 T1 u1_7 a5 u1_9 a3 a4 a6 u1_13 u1_14), (a2, al E 4 V2), (a3, ai E 12 V3), (a4, ai E 12 V4), (a5, ai E 5 V5), (a6, ai E 12 V6)] H → va_D A [(a0, o1 a2 u0_1), (a1, o3 T1 u1_7 a5 u1_9 a3 a4 a6 u1_13 u1_14), (a2, al E 4 V2), (a3, ai E 12 V3), (a4, ai E 12 V4), (a5, ai E 5 V5), (a6, ai E 12 V6)] → va_S A s.heap H locs → lv_has ls 7 [(0, .ref a0), (1, .ref a1), (2, .int x2), (3, .int x3), (5, .int x5), (6, .int x6)] → W p l e ({ frames := 2, cells := 0, slots := 0, locals := 43 } : Room) s m args below meth c H locs 0 0 Q (F0 m 108 ls [.long s3, .long s2, .int s1, .ref a2]) := by
            intro x3 x5 x6 s1 s2 s3 V2 H locs ls hf hP hD hS hl
            unfold f_X1_weigh_108 at hf
            refine lv_lmul hx hb dX1_weigh_108 ?_
            obtain ⟨g109, hf⟩ := ck_s hf
            refine xlast hx hb hK hP hD hS 2 rfl g109 dX1_weigh_109 (fun H locs hP hD hS => ?_)
            refine lv_iinc (v := x6 + 1) (lv' := [(6, .int (x6 + 1)), (0, .ref a0), (1, .ref a1), (2, .int x2), (3, .int x3), (5, .int x5)]) hx hb dX1_weigh_110 hl (k := 5) rfl rfl (by decide) rfl (fun ls hl => ?_)
            refine lv_goto (tgt := 69) hx hb dX1_weigh_113 (by decide) ?_
            exact ih69 x3 x5 (x6 + 1) (vp_updL V2 (Int32.toNatClampNeg s1) (s2 * s3)) _ _ _ hf hP hD hS (lv_sub hl [1, 2, 3, 4, 5, 0] rfl)
          intro x3 x5 x6 V2 H locs ls hf hP hD hS hl
          replace hf : g_X1_weigh_69 T1 V3 V4 V5 V6 x2 k10 k69 x3 x5 x6 V2 = some z := by rw [ek69]; exact hf
          unfold g_X1_weigh_69 at hf
          refine lv_iload hx hb dX1_weigh_69 (lv_at hl 5 rfl) ?_
          refine lv_iconst (v := 4) hx hb dX1_weigh_71 rfl ?_
          refine lv_icmp_ge (tgt := 116) hx hb dX1_weigh_72 (by decide) (fun c72 => ?_) (fun c72 => ?_)
          · have hf := it_t c72 hf
            refine lv_iinc (v := x3 + 1) (lv' := [(3, .int (x3 + 1)), (0, .ref a0), (1, .ref a1), (2, .int x2), (5, .int x5), (6, .int x6)]) hx hb dX1_weigh_116 hl (k := 3) rfl rfl (by decide) rfl (fun ls hl => ?_)
            refine lv_goto (tgt := 10) hx hb dX1_weigh_119 (by decide) ?_
            exact ih10 (x3 + 1) V2 _ _ _ hf hP hD hS (lv_sub hl [1, 2, 3, 0] rfl)
          · have hf := it_f c72 hf
            refine lv_aload_n hx hb dX1_weigh_75 rfl (lv_at hl 0 rfl) ?_
            refine G1_9 hx hb htg hown hK hP 0 rfl dX1_weigh_76 ?_
            refine lv_iload hx hb dX1_weigh_79 (lv_at hl 5 rfl) ?_
            refine lv_dup2_11 hx hb dX1_weigh_81 rfl rfl ?_
            obtain ⟨g82, hf⟩ := ck_s hf
            refine xlald hx hb hK hP 2 rfl g82 dX1_weigh_82 ?_
            refine lv_aload_n hx hb dX1_weigh_83 rfl (lv_at hl 1 rfl) ?_
            refine G1_47 hx hb htg hown hK hP 1 rfl dX1_weigh_84 ?_
            refine lv_iload_n hx hb dX1_weigh_87 rfl (lv_at hl 3 rfl) ?_
            obtain ⟨g88, hf⟩ := ck_s hf
            refine xiald hx hb hK hP 6 rfl g88 dX1_weigh_88 ?_
            refine lv_iload hx hb dX1_weigh_89 (lv_at hl 5 rfl) ?_
            refine lv_icmp_ne (tgt := 105) hx hb dX1_weigh_91 (by decide) (fun c91 => ?_) (fun c91 => ?_)
            · have hf := it_f c91 hf
              refine lv_iload hx hb dX1_weigh_105 (lv_at hl 4 rfl) ?_
              refine lv_i2l hx hb dX1_weigh_107 rfl ?_
              exact b108 x3 x5 x6 x6 (V2 (Int32.toNatClampNeg x6)) (Int32.toInt64 x5) V2 _ _ _ hf hP hD hS (lv_sub hl [0, 1, 2, 3, 4, 5] rfl)
            · have hf := it_t c91 hf
              refine lv_iconst (v := 3) hx hb dX1_weigh_94 rfl ?_
              refine lv_bipush (v := 16) hx hb dX1_weigh_95 rfl ?_
              refine lv_iload hx hb dX1_weigh_97 (lv_at hl 4 rfl) ?_
              refine lv_isub hx hb dX1_weigh_99 ?_
              refine lv_imul hx hb dX1_weigh_100 ?_
              refine lv_i2l hx hb dX1_weigh_101 rfl ?_
              refine lv_goto (tgt := 108) hx hb dX1_weigh_102 (by decide) ?_
              exact b108 x3 x5 x6 x6 (V2 (Int32.toNatClampNeg x6)) (Int32.toInt64 (3 * (16 - x5))) V2 _ _ _ hf hP hD hS (lv_sub hl [0, 1, 2, 3, 4, 5] rfl)
      intro x3 V2 H locs ls hf hP hD hS hl
      replace hf : g_X1_weigh_10 T1 V3 V4 V5 V6 x2 k10 x3 V2 = some z := by rw [ek10]; exact hf
      unfold g_X1_weigh_10 at hf
      refine lv_iload_n hx hb dX1_weigh_10 rfl (lv_at hl 3 rfl) ?_
      refine lv_aload_n hx hb dX1_weigh_11 rfl (lv_at hl 1 rfl) ?_
      refine G1_24 hx hb htg hown hK hP 1 rfl dX1_weigh_12 ?_
      refine lv_icmp_ge (tgt := 122) hx hb dX1_weigh_15 (by decide) (fun c15 => ?_) (fun c15 => ?_)
      · have hf := it_t c15 hf
        exact ret V2 hf hP hS dX1_weigh_122
      · have hf := it_f c15 hf
        refine lv_aload_n hx hb dX1_weigh_18 rfl (lv_at hl 1 rfl) ?_
        refine G1_30 hx hb htg hown hK hP 1 rfl dX1_weigh_19 ?_
        refine lv_iload_n hx hb dX1_weigh_22 rfl (lv_at hl 3 rfl) ?_
        obtain ⟨g23, hf⟩ := ck_s hf
        refine xiald hx hb hK hP 3 rfl g23 dX1_weigh_23 ?_
        refine lv_istore (lv' := [(4, .int (V3 (Int32.toNatClampNeg x3))), (0, .ref a0), (1, .ref a1), (2, .int x2), (3, .int x3)]) hx hb dX1_weigh_24 hl (by decide) rfl (fun ls hl => ?_)
        refine lv_aload_n hx hb dX1_weigh_26 rfl (lv_at hl 2 rfl) ?_
        refine G1_34 hx hb htg hown hK hP 1 rfl dX1_weigh_27 ?_
        refine lv_iload_n hx hb dX1_weigh_30 rfl (lv_at hl 4 rfl) ?_
        obtain ⟨g31, hf⟩ := ck_s hf
        refine xiald hx hb hK hP 4 rfl g31 dX1_weigh_31 ?_
        refine lv_iload_n hx hb dX1_weigh_32 rfl (lv_at hl 3 rfl) ?_
        refine lv_icmp_ne (tgt := 116) hx hb dX1_weigh_33 (by decide) (fun c33 => ?_) (fun c33 => ?_)
        · have hf := it_f c33 hf
          refine lv_iinc (v := x3 + 1) (lv' := [(3, .int (x3 + 1)), (4, .int (V3 (Int32.toNatClampNeg x3))), (0, .ref a0), (1, .ref a1), (2, .int x2)]) hx hb dX1_weigh_116 hl (k := 4) rfl rfl (by decide) rfl (fun ls hl => ?_)
          refine lv_goto (tgt := 10) hx hb dX1_weigh_119 (by decide) ?_
          exact ih10 (x3 + 1) V2 _ _ _ hf hP hD hS (lv_sub hl [2, 3, 4, 0] rfl)
        · have hf := it_t c33 hf
          refine lv_aload_n hx hb dX1_weigh_36 rfl (lv_at hl 2 rfl) ?_
          refine lv_iload hx hb dX1_weigh_37 (lv_at hl 0 rfl) ?_
          obtain ⟨z39, hz39, hf⟩ := bind_s hf
          refine xV_ir hx hb hml hown htg L1_37 (c_X3_isHeard l E a1 hz39 _) ⟨⟨rfl, rfl⟩, Nat.le_of_ble_eq_true rfl, Nat.le_of_ble_eq_true rfl⟩ hK hG hA hP hD hS (is := [1]) rfl rfl (xrecv hK hP (q0 := 1) (ci := 3) rfl rfl) rfl hl.1 rfl (Nat.le_of_ble_eq_true rfl) dX1_weigh_39 (fun H locs hP hD hS => ?_)
          refine lv_if_eq (tgt := 116) hx hb dX1_weigh_42 (by decide) (fun c42 => ?_) (fun c42 => ?_)
          · have hf := it_t c42 hf
            refine lv_iinc (v := x3 + 1) (lv' := [(3, .int (x3 + 1)), (4, .int (V3 (Int32.toNatClampNeg x3))), (0, .ref a0), (1, .ref a1), (2, .int x2)]) hx hb dX1_weigh_116 hl (k := 4) rfl rfl (by decide) rfl (fun ls hl => ?_)
            refine lv_goto (tgt := 10) hx hb dX1_weigh_119 (by decide) ?_
            exact ih10 (x3 + 1) V2 _ _ _ hf hP hD hS (lv_sub hl [2, 3, 4, 0] rfl)
          · have hf := it_f c42 hf
            refine lv_aload_n hx hb dX1_weigh_45 rfl (lv_at hl 2 rfl) ?_
            refine lv_iload hx hb dX1_weigh_46 (lv_at hl 0 rfl) ?_
            obtain ⟨z48, hz48, hf⟩ := bind_s hf
            refine xV_ir hx hb hml hown htg L1_41 (c_X3_hasTraveller l E a1 hz48 _) ⟨⟨rfl, rfl⟩, Nat.le_of_ble_eq_true rfl, Nat.le_of_ble_eq_true rfl⟩ hK hG hA hP hD hS (is := [1]) rfl rfl (xrecv hK hP (q0 := 1) (ci := 3) rfl rfl) rfl hl.1 rfl (Nat.le_of_ble_eq_true rfl) dX1_weigh_48 (fun H locs hP hD hS => ?_)
            refine lv_if_ne (tgt := 57) hx hb dX1_weigh_51 (by decide) (fun c51 => ?_) (fun c51 => ?_)
            · have hf := it_f c51 hf
              refine lv_aload_n hx hb dX1_weigh_57 rfl (lv_at hl 2 rfl) ?_
              refine G1_44 hx hb htg hown hK hP 1 rfl dX1_weigh_58 ?_
              refine lv_iload hx hb dX1_weigh_61 (lv_at hl 0 rfl) ?_
              obtain ⟨g63, hf⟩ := ck_s hf
              refine xiald hx hb hK hP 5 rfl g63 dX1_weigh_63 ?_
              refine lv_topi (fun x5_64 ex5_64 => ?_)
              have hf := letv_s ex5_64 hf
              refine lv_istore (lv' := [(5, .int x5_64), (4, .int (V3 (Int32.toNatClampNeg x3))), (0, .ref a0), (1, .ref a1), (2, .int x2), (3, .int x3)]) hx hb dX1_weigh_64 hl (by decide) rfl (fun ls hl => ?_)
              refine lv_iconst (v := 0) hx hb dX1_weigh_66 rfl ?_
              refine lv_istore (lv' := [(6, .int 0), (5, .int x5_64), (4, .int (V3 (Int32.toNatClampNeg x3))), (0, .ref a0), (1, .ref a1), (2, .int x2), (3, .int x3)]) hx hb dX1_weigh_67 hl (by decide) rfl (fun ls hl => ?_)
              exact b69 xF x3 x5_64 0 V2 _ _ _ hf hP hD hS (lv_sub hl [3, 4, 5, 6, 1, 0] rfl)
            · have hf := it_t c51 hf
              refine lv_goto (tgt := 116) hx hb dX1_weigh_54 (by decide) ?_
              refine lv_iinc (v := x3 + 1) (lv' := [(3, .int (x3 + 1)), (4, .int (V3 (Int32.toNatClampNeg x3))), (0, .ref a0), (1, .ref a1), (2, .int x2)]) hx hb dX1_weigh_116 hl (k := 4) rfl rfl (by decide) rfl (fun ls hl => ?_)
              refine lv_goto (tgt := 10) hx hb dX1_weigh_119 (by decide) ?_
              exact ih10 (x3 + 1) V2 _ _ _ hf hP hD hS (lv_sub hl [2, 3, 4, 0] rfl)
  unfold f_X1_weigh at hf
  refine lv_aload_n hx hb dX1_weigh_0 rfl (lv_at hl 0 rfl) ?_
  refine G1_9 hx hb htg hown hK hP 0 rfl dX1_weigh_1 ?_
  refine lv_lconst (v := 1) hx hb dX1_weigh_4 rfl ?_
  obtain ⟨z5, hz5, hf⟩ := bind_s hf
  refine xS_vu hx hb hml hown htg L1_18 (c_J7_fill_d0a16 l E a2 hz5 _) ⟨⟨rfl, rfl⟩, Nat.le_of_ble_eq_true rfl, Nat.le_of_ble_eq_true rfl⟩ hK hG hA hP hD hS (is := [2]) (sel := [none, none, some 0, none, none, none, none]) (ws2 := [(a0, o1 a2 u0_1), (a1, o3 T1 u1_7 a5 u1_9 a3 a4 a6 u1_13 u1_14), (a2, al E 4 z5), (a3, ai E 12 V3), (a4, ai E 12 V4), (a5, ai E 5 V5), (a6, ai E 12 V6)]) rfl rfl rfl rfl rfl rfl hl.1 rfl (Nat.le_of_ble_eq_true rfl) dX1_weigh_5 (fun H locs hP hD hS => ?_)
  refine lv_iconst (v := 0) hx hb dX1_weigh_8 rfl ?_
  refine lv_istore_n (lv' := [(3, .int 0), (0, .ref a0), (1, .ref a1), (2, .int x2)]) hx hb dX1_weigh_9 rfl hl (by decide) rfl (fun ls hl => ?_)
  exact b10 xF 0 z5 _ _ _ hf hP hD hS (lv_sub hl [1, 2, 3, 0] rfl)
theorem dX1_sum_0 : decode cX1_sum 0 = .ok (.lconst 0, 1) := by decide +kernel
theorem dX1_sum_1 : decode cX1_sum 1 = .ok (.lstore_n 1, 1) := by decide +kernel
theorem dX1_sum_2 : decode cX1_sum 2 = .ok (.iconst 0, 1) := by decide +kernel
theorem dX1_sum_3 : decode cX1_sum 3 = .ok (.istore_n 3, 1) := by decide +kernel
theorem dX1_sum_4 : decode cX1_sum 4 = .ok (.iload_n 3, 1) := by decide +kernel
theorem dX1_sum_5 : decode cX1_sum 5 = .ok (.iconst 4, 1) := by decide +kernel
theorem dX1_sum_6 : decode cX1_sum 6 = .ok (.if_icmp .ge 18, 3) := by decide +kernel
theorem dX1_sum_9 : decode cX1_sum 9 = .ok (.lload_n 1, 1) := by decide +kernel
theorem dX1_sum_10 : decode cX1_sum 10 = .ok (.aload_n 0, 1) := by decide +kernel
theorem dX1_sum_11 : decode cX1_sum 11 = .ok (.getfield 9, 3) := by decide +kernel
theorem dX1_sum_14 : decode cX1_sum 14 = .ok (.iload_n 3, 1) := by decide +kernel
theorem dX1_sum_15 : decode cX1_sum 15 = .ok (.laload, 1) := by decide +kernel
theorem dX1_sum_16 : decode cX1_sum 16 = .ok (.ladd, 1) := by decide +kernel
theorem dX1_sum_17 : decode cX1_sum 17 = .ok (.lstore_n 1, 1) := by decide +kernel
theorem dX1_sum_18 : decode cX1_sum 18 = .ok (.iinc 3 1, 3) := by decide +kernel
theorem dX1_sum_21 : decode cX1_sum 21 = .ok (.goto (-17), 3) := by decide +kernel
theorem dX1_sum_24 : decode cX1_sum 24 = .ok (.lload_n 1, 1) := by decide +kernel
theorem dX1_sum_25 : decode cX1_sum 25 = .ok (.lreturn, 1) := by decide +kernel
set_option maxRecDepth 100000 in
theorem c_X1_sum (l : Launch) (E : xE) (a0 a1 : Nat) {V1 : Nat → Int64} {u0_1 : Nat} {z : Int64} (hf : f_X1_sum V1 = some z) (sz : Nat) : Met l yX1_sum (Cond.code yX1_sum cX1_sum 4 (some .long) :: gw) ({ frames := 0, cells := 0, slots := 0, locals := 0 }) (xPc E [.ref a0] [(a0, o1 a1 u0_1), (a1, al E 4 V1)] sz) (xQl E z [(a0, o1 a1 u0_1), (a1, al E 4 V1)] [(a0, o1 a1 u0_1), (a1, al E 4 V1)] sz) 0 0 (va_A [(a0, o1 a1 u0_1), (a1, al E 4 V1)] sz) := by
  refine xM_l (by decide +kernel) (Nat.le_of_ble_eq_true rfl) ?_
  intro p e s m args below meth c A Q hx hb hml hown htg hK hG hA ret0 H locs ls hP hD hS hl
  have ret : ∀ (z' : Int64) {H : Heap} {locs : List Loc} {pc : Nat} {ls : Array Slot}, some z' = some z → va_P E.1 vwCl [(a0, o1 a1 u0_1), (a1, al E 4 V1)] H → va_S A s.heap H locs → decode cX1_sum pc = .ok (.lreturn, 1) → W p l e ({ frames := 0, cells := 0, slots := 0, locals := 0 } : Room) s m args below meth c H locs 0 0 Q (F0 m pc ls [.long z']) := by
    intro z' H locs pc ls h
    cases h
    exact ret0
  replace hl : lv_has ls 4 [(0, .ref a0)] := hl
  have b4 : ∀ (n : Nat) (x1 : Int64) (x3 : Int32) (H : Heap) (locs : List Loc) (ls : Array Slot), f_X1_sum_4 V1 n x1 x3 = some z → va_P E.1 vwCl [(a0, o1 a1 u0_1), (a1, al E 4 V1)] H → va_D A [(a0, o1 a1 u0_1), (a1, al E 4 V1)] → va_S A s.heap H locs → lv_has ls 4 [(0, .ref a0), (1, .long x1), (3, .int x3)] → W p l e ({ frames := 0, cells := 0, slots := 0, locals := 0 } : Room) s m args below meth c H locs 0 0 Q (F0 m 4 ls []) := by
    intro n
    induction n with
    | zero => intro x1 x3 H locs ls hf; exact (nn_s hf).elim
    | succ n ih4 =>
      obtain ⟨k4, ek4⟩ : ∃ k, k = f_X1_sum_4 V1 n := ⟨_, rfl⟩
      rw [← ek4] at ih4
      intro x1 x3 H locs ls hf hP hD hS hl
      replace hf : g_X1_sum_4 V1 k4 x1 x3 = some z := by rw [ek4]; exact hf
      unfold g_X1_sum_4 at hf
      refine lv_iload_n hx hb dX1_sum_4 rfl (lv_at hl 2 rfl) ?_
      refine lv_iconst (v := 4) hx hb dX1_sum_5 rfl ?_
      refine lv_icmp_ge (tgt := 24) hx hb dX1_sum_6 (by decide) (fun c6 => ?_) (fun c6 => ?_)
      · have hf := it_t c6 hf
        refine lv_lload_n hx hb dX1_sum_24 rfl (lv_at hl 1 rfl) ?_
        exact ret x1 hf hP hS dX1_sum_25
      · have hf := it_f c6 hf
        refine lv_lload_n hx hb dX1_sum_9 rfl (lv_at hl 1 rfl) ?_
        refine lv_aload_n hx hb dX1_sum_10 rfl (lv_at hl 0 rfl) ?_
        refine G1_9 hx hb htg hown hK hP 0 rfl dX1_sum_11 ?_
        refine lv_iload_n hx hb dX1_sum_14 rfl (lv_at hl 2 rfl) ?_
        obtain ⟨g15, hf⟩ := ck_s hf
        refine xlald hx hb hK hP 1 rfl g15 dX1_sum_15 ?_
        refine lv_ladd hx hb dX1_sum_16 ?_
        refine lv_lstore_n (lv' := [(1, .long (x1 + (V1 (Int32.toNatClampNeg x3)))), (0, .ref a0), (3, .int x3)]) hx hb dX1_sum_17 rfl hl (by decide) rfl (fun ls hl => ?_)
        refine lv_iinc (v := x3 + 1) (lv' := [(3, .int (x3 + 1)), (1, .long (x1 + (V1 (Int32.toNatClampNeg x3)))), (0, .ref a0)]) hx hb dX1_sum_18 hl (k := 2) rfl rfl (by decide) rfl (fun ls hl => ?_)
        refine lv_goto (tgt := 4) hx hb dX1_sum_21 (by decide) ?_
        exact ih4 (x1 + (V1 (Int32.toNatClampNeg x3))) (x3 + 1) _ _ _ hf hP hD hS (lv_sub hl [2, 1, 0] rfl)
  unfold f_X1_sum at hf
  refine lv_lconst (v := 0) hx hb dX1_sum_0 rfl ?_
  refine lv_lstore_n (lv' := [(1, .long 0), (0, .ref a0)]) hx hb dX1_sum_1 rfl hl (by decide) rfl (fun ls hl => ?_)
  refine lv_iconst (v := 0) hx hb dX1_sum_2 rfl ?_
  refine lv_istore_n (lv' := [(3, .int 0), (1, .long 0), (0, .ref a0)]) hx hb dX1_sum_3 rfl hl (by decide) rfl (fun ls hl => ?_)
  exact b4 xF 0 0 _ _ _ hf hP hD hS (lv_sub hl [2, 1, 0] rfl)
theorem dX1_weightOf_0 : decode cX1_weightOf 0 = .ok (.iload_n 1, 1) := by decide +kernel
theorem dX1_weightOf_1 : decode cX1_weightOf 1 = .ok (.invokestatic 50, 3) := by decide +kernel
theorem dX1_weightOf_4 : decode cX1_weightOf 4 = .ok (.ifCond .eq 12, 3) := by decide +kernel
theorem dX1_weightOf_7 : decode cX1_weightOf 7 = .ok (.aload_n 0, 1) := by decide +kernel
theorem dX1_weightOf_8 : decode cX1_weightOf 8 = .ok (.getfield 9, 3) := by decide +kernel
theorem dX1_weightOf_11 : decode cX1_weightOf 11 = .ok (.iload_n 1, 1) := by decide +kernel
theorem dX1_weightOf_12 : decode cX1_weightOf 12 = .ok (.laload, 1) := by decide +kernel
theorem dX1_weightOf_13 : decode cX1_weightOf 13 = .ok (.goto 4, 3) := by decide +kernel
theorem dX1_weightOf_16 : decode cX1_weightOf 16 = .ok (.lconst 0, 1) := by decide +kernel
theorem dX1_weightOf_17 : decode cX1_weightOf 17 = .ok (.lreturn, 1) := by decide +kernel
set_option maxRecDepth 100000 in
theorem c_X1_weightOf (l : Launch) (E : xE) (a0 a1 : Nat) {V1 : Nat → Int64} {u0_1 : Nat} {x1 : Int32} {z : Int64} (hf : f_X1_weightOf V1 x1 = some z) (sz : Nat) : Met l yX1_weightOf (Cond.code yX1_weightOf cX1_weightOf 2 (some .long) :: gw) ({ frames := 2, cells := 0, slots := 0, locals := 42 }) (xPc E [.ref a0, .int x1] [(a0, o1 a1 u0_1), (a1, al E 4 V1)] sz) (xQl E z [(a0, o1 a1 u0_1), (a1, al E 4 V1)] [(a0, o1 a1 u0_1), (a1, al E 4 V1)] sz) 0 0 (va_A [(a0, o1 a1 u0_1), (a1, al E 4 V1)] sz) := by
  refine xM_l (by decide +kernel) (Nat.le_of_ble_eq_true rfl) ?_
  intro p e s m args below meth c A Q hx hb hml hown htg hK hG hA ret0 H locs ls hP hD hS hl
  have ret : ∀ (z' : Int64) {H : Heap} {locs : List Loc} {pc : Nat} {ls : Array Slot}, some z' = some z → va_P E.1 vwCl [(a0, o1 a1 u0_1), (a1, al E 4 V1)] H → va_S A s.heap H locs → decode cX1_weightOf pc = .ok (.lreturn, 1) → W p l e ({ frames := 2, cells := 0, slots := 0, locals := 42 } : Room) s m args below meth c H locs 0 0 Q (F0 m pc ls [.long z']) := by
    intro z' H locs pc ls h
    cases h
    exact ret0
  replace hl : lv_has ls 2 [(0, .ref a0), (1, .int x1)] := hl
  unfold f_X1_weightOf at hf
  refine lv_iload_n hx hb dX1_weightOf_0 rfl (lv_at hl 1 rfl) ?_
  obtain ⟨z1, hz1, hf⟩ := bind_s hf
  refine xN_ir hx hb hml hown htg L1_50 20 rfl (c_X11_isKind l E hz1 _) ⟨⟨rfl, rfl⟩, Nat.le_of_ble_eq_true rfl, Nat.le_of_ble_eq_true rfl⟩ hK hG hA hP hD hS (is := []) rfl rfl rfl hl.1 rfl (Nat.le_of_ble_eq_true rfl) dX1_weightOf_1 (fun H locs hP hD hS => ?_)
  refine lv_if_eq (tgt := 16) hx hb dX1_weightOf_4 (by decide) (fun c4 => ?_) (fun c4 => ?_)
  · have hf := it_t c4 hf
    refine lv_lconst (v := 0) hx hb dX1_weightOf_16 rfl ?_
    exact ret 0 hf hP hS dX1_weightOf_17
  · have hf := it_f c4 hf
    refine lv_aload_n hx hb dX1_weightOf_7 rfl (lv_at hl 0 rfl) ?_
    refine G1_9 hx hb htg hown hK hP 0 rfl dX1_weightOf_8 ?_
    refine lv_iload_n hx hb dX1_weightOf_11 rfl (lv_at hl 1 rfl) ?_
    obtain ⟨g12, hf⟩ := ck_s hf
    refine xlald hx hb hK hP 1 rfl g12 dX1_weightOf_12 ?_
    refine lv_goto (tgt := 17) hx hb dX1_weightOf_13 (by decide) ?_
    exact ret (V1 (Int32.toNatClampNeg x1)) hf hP hS dX1_weightOf_17
theorem dX1_likeliestKind_0 : decode cX1_likeliestKind 0 = .ok (.iconst 0, 1) := by decide +kernel
theorem dX1_likeliestKind_1 : decode cX1_likeliestKind 1 = .ok (.istore_n 1, 1) := by decide +kernel
theorem dX1_likeliestKind_2 : decode cX1_likeliestKind 2 = .ok (.iconst 1, 1) := by decide +kernel
theorem dX1_likeliestKind_3 : decode cX1_likeliestKind 3 = .ok (.istore_n 2, 1) := by decide +kernel
theorem dX1_likeliestKind_4 : decode cX1_likeliestKind 4 = .ok (.iload_n 2, 1) := by decide +kernel
theorem dX1_likeliestKind_5 : decode cX1_likeliestKind 5 = .ok (.iconst 4, 1) := by decide +kernel
theorem dX1_likeliestKind_6 : decode cX1_likeliestKind 6 = .ok (.if_icmp .ge 27, 3) := by decide +kernel
theorem dX1_likeliestKind_9 : decode cX1_likeliestKind 9 = .ok (.aload_n 0, 1) := by decide +kernel
theorem dX1_likeliestKind_10 : decode cX1_likeliestKind 10 = .ok (.getfield 9, 3) := by decide +kernel
theorem dX1_likeliestKind_13 : decode cX1_likeliestKind 13 = .ok (.iload_n 2, 1) := by decide +kernel
theorem dX1_likeliestKind_14 : decode cX1_likeliestKind 14 = .ok (.laload, 1) := by decide +kernel
theorem dX1_likeliestKind_15 : decode cX1_likeliestKind 15 = .ok (.aload_n 0, 1) := by decide +kernel
theorem dX1_likeliestKind_16 : decode cX1_likeliestKind 16 = .ok (.getfield 9, 3) := by decide +kernel
theorem dX1_likeliestKind_19 : decode cX1_likeliestKind 19 = .ok (.iload_n 1, 1) := by decide +kernel
theorem dX1_likeliestKind_20 : decode cX1_likeliestKind 20 = .ok (.laload, 1) := by decide +kernel
theorem dX1_likeliestKind_21 : decode cX1_likeliestKind 21 = .ok (.lcmp, 1) := by decide +kernel
theorem dX1_likeliestKind_22 : decode cX1_likeliestKind 22 = .ok (.ifCond .le 5, 3) := by decide +kernel
theorem dX1_likeliestKind_25 : decode cX1_likeliestKind 25 = .ok (.iload_n 2, 1) := by decide +kernel
theorem dX1_likeliestKind_26 : decode cX1_likeliestKind 26 = .ok (.istore_n 1, 1) := by decide +kernel
theorem dX1_likeliestKind_27 : decode cX1_likeliestKind 27 = .ok (.iinc 2 1, 3) := by decide +kernel
theorem dX1_likeliestKind_30 : decode cX1_likeliestKind 30 = .ok (.goto (-26), 3) := by decide +kernel
theorem dX1_likeliestKind_33 : decode cX1_likeliestKind 33 = .ok (.iload_n 1, 1) := by decide +kernel
theorem dX1_likeliestKind_34 : decode cX1_likeliestKind 34 = .ok (.ireturn, 1) := by decide +kernel
set_option maxRecDepth 100000 in
theorem c_X1_likeliestKind (l : Launch) (E : xE) (a0 a1 : Nat) {V1 : Nat → Int64} {u0_1 : Nat} {z : Int32} (hf : f_X1_likeliestKind V1 = some z) (sz : Nat) : Met l yX1_likeliestKind (Cond.code yX1_likeliestKind cX1_likeliestKind 3 (some .int) :: gw) ({ frames := 0, cells := 0, slots := 0, locals := 0 }) (xPc E [.ref a0] [(a0, o1 a1 u0_1), (a1, al E 4 V1)] sz) (xQi E z [(a0, o1 a1 u0_1), (a1, al E 4 V1)] [(a0, o1 a1 u0_1), (a1, al E 4 V1)] sz) 0 0 (va_A [(a0, o1 a1 u0_1), (a1, al E 4 V1)] sz) := by
  refine xM_i (by decide +kernel) (Nat.le_of_ble_eq_true rfl) ?_
  intro p e s m args below meth c A Q hx hb hml hown htg hK hG hA ret0 H locs ls hP hD hS hl
  have ret : ∀ (z' : Int32) {H : Heap} {locs : List Loc} {pc : Nat} {ls : Array Slot}, some z' = some z → narrow .int (.int z') = .int z' → va_P E.1 vwCl [(a0, o1 a1 u0_1), (a1, al E 4 V1)] H → va_S A s.heap H locs → decode cX1_likeliestKind pc = .ok (.ireturn, 1) → W p l e ({ frames := 0, cells := 0, slots := 0, locals := 0 } : Room) s m args below meth c H locs 0 0 Q (F0 m pc ls [.int z']) := by
    intro z' H locs pc ls h
    cases h
    exact ret0
  replace hl : lv_has ls 3 [(0, .ref a0)] := hl
  have b4 : ∀ (n : Nat) (x1 : Int32) (x2 : Int32) (H : Heap) (locs : List Loc) (ls : Array Slot), f_X1_likeliestKind_4 V1 n x1 x2 = some z → va_P E.1 vwCl [(a0, o1 a1 u0_1), (a1, al E 4 V1)] H → va_D A [(a0, o1 a1 u0_1), (a1, al E 4 V1)] → va_S A s.heap H locs → lv_has ls 3 [(0, .ref a0), (1, .int x1), (2, .int x2)] → W p l e ({ frames := 0, cells := 0, slots := 0, locals := 0 } : Room) s m args below meth c H locs 0 0 Q (F0 m 4 ls []) := by
    intro n
    induction n with
    | zero => intro x1 x2 H locs ls hf; exact (nn_s hf).elim
    | succ n ih4 =>
      obtain ⟨k4, ek4⟩ : ∃ k, k = f_X1_likeliestKind_4 V1 n := ⟨_, rfl⟩
      rw [← ek4] at ih4
      intro x1 x2 H locs ls hf hP hD hS hl
      replace hf : g_X1_likeliestKind_4 V1 k4 x1 x2 = some z := by rw [ek4]; exact hf
      unfold g_X1_likeliestKind_4 at hf
      refine lv_iload_n hx hb dX1_likeliestKind_4 rfl (lv_at hl 2 rfl) ?_
      refine lv_iconst (v := 4) hx hb dX1_likeliestKind_5 rfl ?_
      refine lv_icmp_ge (tgt := 33) hx hb dX1_likeliestKind_6 (by decide) (fun c6 => ?_) (fun c6 => ?_)
      · have hf := it_t c6 hf
        refine lv_iload_n hx hb dX1_likeliestKind_33 rfl (lv_at hl 1 rfl) ?_
        exact ret x1 hf nzi hP hS dX1_likeliestKind_34
      · have hf := it_f c6 hf
        refine lv_aload_n hx hb dX1_likeliestKind_9 rfl (lv_at hl 0 rfl) ?_
        refine G1_9 hx hb htg hown hK hP 0 rfl dX1_likeliestKind_10 ?_
        refine lv_iload_n hx hb dX1_likeliestKind_13 rfl (lv_at hl 2 rfl) ?_
        obtain ⟨g14, hf⟩ := ck_s hf
        refine xlald hx hb hK hP 1 rfl g14 dX1_likeliestKind_14 ?_
        refine lv_aload_n hx hb dX1_likeliestKind_15 rfl (lv_at hl 0 rfl) ?_
        refine G1_9 hx hb htg hown hK hP 0 rfl dX1_likeliestKind_16 ?_
        refine lv_iload_n hx hb dX1_likeliestKind_19 rfl (lv_at hl 1 rfl) ?_
        obtain ⟨g20, hf⟩ := ck_s hf
        refine xlald hx hb hK hP 1 rfl g20 dX1_likeliestKind_20 ?_
        refine W.lcmp hx hb dX1_likeliestKind_21 ?_
        refine lv_if_le (tgt := 27) hx hb dX1_likeliestKind_22 (by decide) (fun c22 => ?_) (fun c22 => ?_)
        · have hf := it_t c22 hf
          refine lv_iinc (v := x2 + 1) (lv' := [(2, .int (x2 + 1)), (0, .ref a0), (1, .int x1)]) hx hb dX1_likeliestKind_27 hl (k := 2) rfl rfl (by decide) rfl (fun ls hl => ?_)
          refine lv_goto (tgt := 4) hx hb dX1_likeliestKind_30 (by decide) ?_
          exact ih4 x1 (x2 + 1) _ _ _ hf hP hD hS (lv_sub hl [1, 2, 0] rfl)
        · have hf := it_f c22 hf
          refine lv_iload_n hx hb dX1_likeliestKind_25 rfl (lv_at hl 2 rfl) ?_
          refine lv_istore_n (lv' := [(1, .int x2), (0, .ref a0), (2, .int x2)]) hx hb dX1_likeliestKind_26 rfl hl (by decide) rfl (fun ls hl => ?_)
          refine lv_iinc (v := x2 + 1) (lv' := [(2, .int (x2 + 1)), (1, .int x2), (0, .ref a0)]) hx hb dX1_likeliestKind_27 hl (k := 2) rfl rfl (by decide) rfl (fun ls hl => ?_)
          refine lv_goto (tgt := 4) hx hb dX1_likeliestKind_30 (by decide) ?_
          exact ih4 x2 (x2 + 1) _ _ _ hf hP hD hS (lv_sub hl [2, 1, 0] rfl)
  unfold f_X1_likeliestKind at hf
  refine lv_iconst (v := 0) hx hb dX1_likeliestKind_0 rfl ?_
  refine lv_istore_n (lv' := [(1, .int 0), (0, .ref a0)]) hx hb dX1_likeliestKind_1 rfl hl (by decide) rfl (fun ls hl => ?_)
  refine lv_iconst (v := 1) hx hb dX1_likeliestKind_2 rfl ?_
  refine lv_istore_n (lv' := [(2, .int 1), (1, .int 0), (0, .ref a0)]) hx hb dX1_likeliestKind_3 rfl hl (by decide) rfl (fun ls hl => ?_)
  exact b4 xF 0 1 _ _ _ hf hP hD hS (lv_sub hl [2, 1, 0] rfl)
theorem dX1_leastSureCell_0 : decode cX1_leastSureCell 0 = .ok (.iconst (-1), 1) := by decide +kernel
theorem dX1_leastSureCell_1 : decode cX1_leastSureCell 1 = .ok (.istore_n 2, 1) := by decide +kernel
theorem dX1_leastSureCell_2 : decode cX1_leastSureCell 2 = .ok (.lconst 1, 1) := by decide +kernel
theorem dX1_leastSureCell_3 : decode cX1_leastSureCell 3 = .ok (.lstore_n 3, 1) := by decide +kernel
theorem dX1_leastSureCell_4 : decode cX1_leastSureCell 4 = .ok (.lconst 1, 1) := by decide +kernel
theorem dX1_leastSureCell_5 : decode cX1_leastSureCell 5 = .ok (.lstore 5, 2) := by decide +kernel
theorem dX1_leastSureCell_7 : decode cX1_leastSureCell 7 = .ok (.iconst 0, 1) := by decide +kernel
theorem dX1_leastSureCell_8 : decode cX1_leastSureCell 8 = .ok (.istore 7, 2) := by decide +kernel
theorem dX1_leastSureCell_10 : decode cX1_leastSureCell 10 = .ok (.iload 7, 2) := by decide +kernel
theorem dX1_leastSureCell_12 : decode cX1_leastSureCell 12 = .ok (.aload_n 1, 1) := by decide +kernel
theorem dX1_leastSureCell_13 : decode cX1_leastSureCell 13 = .ok (.invokevirtual 53, 3) := by decide +kernel
theorem dX1_leastSureCell_16 : decode cX1_leastSureCell 16 = .ok (.if_icmp .ge 79, 3) := by decide +kernel
theorem dX1_leastSureCell_19 : decode cX1_leastSureCell 19 = .ok (.aload_n 0, 1) := by decide +kernel
theorem dX1_leastSureCell_20 : decode cX1_leastSureCell 20 = .ok (.aload_n 1, 1) := by decide +kernel
theorem dX1_leastSureCell_21 : decode cX1_leastSureCell 21 = .ok (.iload 7, 2) := by decide +kernel
theorem dX1_leastSureCell_23 : decode cX1_leastSureCell 23 = .ok (.invokevirtual 57, 3) := by decide +kernel
theorem dX1_leastSureCell_26 : decode cX1_leastSureCell 26 = .ok (.aload_n 0, 1) := by decide +kernel
theorem dX1_leastSureCell_27 : decode cX1_leastSureCell 27 = .ok (.invokevirtual 61, 3) := by decide +kernel
theorem dX1_leastSureCell_30 : decode cX1_leastSureCell 30 = .ok (.lstore 8, 2) := by decide +kernel
theorem dX1_leastSureCell_32 : decode cX1_leastSureCell 32 = .ok (.aload_n 0, 1) := by decide +kernel
theorem dX1_leastSureCell_33 : decode cX1_leastSureCell 33 = .ok (.aload_n 0, 1) := by decide +kernel
theorem dX1_leastSureCell_34 : decode cX1_leastSureCell 34 = .ok (.invokevirtual 65, 3) := by decide +kernel
theorem dX1_leastSureCell_37 : decode cX1_leastSureCell 37 = .ok (.invokevirtual 68, 3) := by decide +kernel
theorem dX1_leastSureCell_40 : decode cX1_leastSureCell 40 = .ok (.lstore 10, 2) := by decide +kernel
theorem dX1_leastSureCell_42 : decode cX1_leastSureCell 42 = .ok (.iload_n 2, 1) := by decide +kernel
theorem dX1_leastSureCell_43 : decode cX1_leastSureCell 43 = .ok (.iconst (-1), 1) := by decide +kernel
theorem dX1_leastSureCell_44 : decode cX1_leastSureCell 44 = .ok (.if_icmp .eq 16, 3) := by decide +kernel
theorem dX1_leastSureCell_47 : decode cX1_leastSureCell 47 = .ok (.lload 10, 2) := by decide +kernel
theorem dX1_leastSureCell_49 : decode cX1_leastSureCell 49 = .ok (.lload 5, 2) := by decide +kernel
theorem dX1_leastSureCell_51 : decode cX1_leastSureCell 51 = .ok (.lmul, 1) := by decide +kernel
theorem dX1_leastSureCell_52 : decode cX1_leastSureCell 52 = .ok (.lload_n 3, 1) := by decide +kernel
theorem dX1_leastSureCell_53 : decode cX1_leastSureCell 53 = .ok (.lload 8, 2) := by decide +kernel
theorem dX1_leastSureCell_55 : decode cX1_leastSureCell 55 = .ok (.lmul, 1) := by decide +kernel
theorem dX1_leastSureCell_56 : decode cX1_leastSureCell 56 = .ok (.lcmp, 1) := by decide +kernel
theorem dX1_leastSureCell_57 : decode cX1_leastSureCell 57 = .ok (.ifCond .ge 7, 3) := by decide +kernel
theorem dX1_leastSureCell_60 : decode cX1_leastSureCell 60 = .ok (.iconst 1, 1) := by decide +kernel
theorem dX1_leastSureCell_61 : decode cX1_leastSureCell 61 = .ok (.goto 4, 3) := by decide +kernel
theorem dX1_leastSureCell_64 : decode cX1_leastSureCell 64 = .ok (.iconst 0, 1) := by decide +kernel
theorem dX1_leastSureCell_65 : decode cX1_leastSureCell 65 = .ok (.istore 12, 2) := by decide +kernel
theorem dX1_leastSureCell_67 : decode cX1_leastSureCell 67 = .ok (.lload 8, 2) := by decide +kernel
theorem dX1_leastSureCell_69 : decode cX1_leastSureCell 69 = .ok (.lconst 0, 1) := by decide +kernel
theorem dX1_leastSureCell_70 : decode cX1_leastSureCell 70 = .ok (.lcmp, 1) := by decide +kernel
theorem dX1_leastSureCell_71 : decode cX1_leastSureCell 71 = .ok (.ifCond .le 18, 3) := by decide +kernel
theorem dX1_leastSureCell_74 : decode cX1_leastSureCell 74 = .ok (.iload 12, 2) := by decide +kernel
theorem dX1_leastSureCell_76 : decode cX1_leastSureCell 76 = .ok (.ifCond .eq 13, 3) := by decide +kernel
theorem dX1_leastSureCell_79 : decode cX1_leastSureCell 79 = .ok (.iload 7, 2) := by decide +kernel
theorem dX1_leastSureCell_81 : decode cX1_leastSureCell 81 = .ok (.istore_n 2, 1) := by decide +kernel
theorem dX1_leastSureCell_82 : decode cX1_leastSureCell 82 = .ok (.lload 10, 2) := by decide +kernel
theorem dX1_leastSureCell_84 : decode cX1_leastSureCell 84 = .ok (.lstore_n 3, 1) := by decide +kernel
theorem dX1_leastSureCell_85 : decode cX1_leastSureCell 85 = .ok (.lload 8, 2) := by decide +kernel
theorem dX1_leastSureCell_87 : decode cX1_leastSureCell 87 = .ok (.lstore 5, 2) := by decide +kernel
theorem dX1_leastSureCell_89 : decode cX1_leastSureCell 89 = .ok (.iinc 7 1, 3) := by decide +kernel
theorem dX1_leastSureCell_92 : decode cX1_leastSureCell 92 = .ok (.goto (-82), 3) := by decide +kernel
theorem dX1_leastSureCell_95 : decode cX1_leastSureCell 95 = .ok (.iload_n 2, 1) := by decide +kernel
theorem dX1_leastSureCell_96 : decode cX1_leastSureCell 96 = .ok (.ireturn, 1) := by decide +kernel
set_option maxRecDepth 100000 in
theorem c_X1_leastSureCell (l : Launch) (E : xE) (a0 a1 a2 a3 a4 a5 a6 : Nat) {T1 : Nat → Int32} {V2 : Nat → Int64} {V3 : Nat → Int32} {V4 : Nat → Int32} {V5 : Nat → Int32} {V6 : Nat → Int32} {u0_1 u1_7 u1_9 u1_13 u1_14 : Nat} {z : Int32 × (Nat → Int64)} (hf : f_X1_leastSureCell T1 V2 V3 V4 V5 V6 = some z) (sz : Nat) : Met l yX1_leastSureCell (Cond.code yX1_leastSureCell cX1_leastSureCell 13 (some .int) :: gw) ({ frames := 3, cells := 0, slots := 0, locals := 69 }) (xPc E [.ref a0, .ref a1] [(a0, o1 a2 u0_1), (a1, o3 T1 u1_7 a5 u1_9 a3 a4 a6 u1_13 u1_14), (a2, al E 4 V2), (a3, ai E 12 V3), (a4, ai E 12 V4), (a5, ai E 5 V5), (a6, ai E 12 V6)] sz) (xQi E z.1 [(a0, o1 a2 u0_1), (a1, o3 T1 u1_7 a5 u1_9 a3 a4 a6 u1_13 u1_14), (a2, al E 4 V2), (a3, ai E 12 V3), (a4, ai E 12 V4), (a5, ai E 5 V5), (a6, ai E 12 V6)] [(a0, o1 a2 u0_1), (a1, o3 T1 u1_7 a5 u1_9 a3 a4 a6 u1_13 u1_14), (a2, al E 4 z.2), (a3, ai E 12 V3), (a4, ai E 12 V4), (a5, ai E 5 V5), (a6, ai E 12 V6)] sz) 0 0 (va_A [(a0, o1 a2 u0_1), (a1, o3 T1 u1_7 a5 u1_9 a3 a4 a6 u1_13 u1_14), (a2, al E 4 V2), (a3, ai E 12 V3), (a4, ai E 12 V4), (a5, ai E 5 V5), (a6, ai E 12 V6)] sz) := by
  refine xM_i (by decide +kernel) (Nat.le_of_ble_eq_true rfl) ?_
  intro p e s m args below meth c A Q hx hb hml hown htg hK hG hA ret0 H locs ls hP hD hS hl
  have ret : ∀ (z' : Int32 × (Nat → Int64)) {H : Heap} {locs : List Loc} {pc : Nat} {ls : Array Slot}, some z' = some z → narrow .int (.int z'.1) = .int z'.1 → va_P E.1 vwCl [(a0, o1 a2 u0_1), (a1, o3 T1 u1_7 a5 u1_9 a3 a4 a6 u1_13 u1_14), (a2, al E 4 z'.2), (a3, ai E 12 V3), (a4, ai E 12 V4), (a5, ai E 5 V5), (a6, ai E 12 V6)] H → va_S A s.heap H locs → decode cX1_leastSureCell pc = .ok (.ireturn, 1) → W p l e ({ frames := 3, cells := 0, slots := 0, locals := 69 } : Room) s m args below meth c H locs 0 0 Q (F0 m pc ls [.int z'.1]) := by
    intro z' H locs pc ls h
    cases h
    exact ret0
  replace hl : lv_has ls 13 [(0, .ref a0), (1, .ref a1)] := hl
  have b10 : ∀ (n : Nat) (x2 : Int32) (x3 : Int64) (x5 : Int64) (x7 : Int32) (V2 : Nat → Int64) (H : Heap) (locs : List Loc) (ls : Array Slot), f_X1_leastSureCell_10 T1 V3 V4 V5 V6 n x2 x3 x5 x7 V2 = some z → va_P E.1 vwCl [(a0, o1 a2 u0_1), (a1, o3 T1 u1_7 a5 u1_9 a3 a4 a6 u1_13 u1_14), (a2, al E 4 V2), (a3, ai E 12 V3), (a4, ai E 12 V4), (a5, ai E 5 V5), (a6, ai E 12 V6)] H → va_D A [(a0, o1 a2 u0_1), (a1, o3 T1 u1_7 a5 u1_9 a3 a4 a6 u1_13 u1_14), (a2, al E 4 V2), (a3, ai E 12 V3), (a4, ai E 12 V4), (a5, ai E 5 V5), (a6, ai E 12 V6)] → va_S A s.heap H locs → lv_has ls 13 [(0, .ref a0), (1, .ref a1), (2, .int x2), (3, .long x3), (5, .long x5), (7, .int x7)] → W p l e ({ frames := 3, cells := 0, slots := 0, locals := 69 } : Room) s m args below meth c H locs 0 0 Q (F0 m 10 ls []) := by
    intro n
    induction n with
    | zero => intro x2 x3 x5 x7 V2 H locs ls hf; exact (nn_s hf).elim
    | succ n ih10 =>
      obtain ⟨k10, ek10⟩ : ∃ k, k = f_X1_leastSureCell_10 T1 V3 V4 V5 V6 n := ⟨_, rfl⟩
      rw [← ek10] at ih10
      have b65 : ∀ (x2 : Int32) (x3 : Int64) (x5 : Int64) (x7 : Int32) (x8 : Int64) (x10 : Int64) (s0 : Int32) (V2 : Nat → Int64) (H : Heap) (locs : List Loc) (ls : Array Slot), f_X1_leastSureCell_65 T1 V3 V4 V5 V6 k10 x2 x3 x5 x7 x8 x10 s0 V2 = some z → va_P E.1 vwCl [(a0, o1 a2 u0_1), (a1, o3 T1 u1_7 a5 u1_9 a3 a4 a6 u1_13 u1_14), (a2, al E 4 V2), (a3, ai E 12 V3), (a4, ai E 12 V4), (a5, ai E 5 V5), (a6, ai E 12 V6)] H → va_D A [(a0, o1 a2 u0_1), (a1, o3 T1 u1_7 a5 u1_9 a3 a4 a6 u1_13 u1_14), (a2, al E 4 V2), (a3, ai E 12 V3), (a4, ai E 12 V4), (a5, ai E 5 V5), (a6, ai E 12 V6)] → va_S A s.heap H locs → lv_has ls 13 [(0, .ref a0), (1, .ref a1), (2, .int x2), (3, .long x3), (5, .long x5), (7, .int x7), (8, .long x8), (10, .long x10)] → W p l e ({ frames := 3, cells := 0, slots := 0, locals := 69 } : Room) s m args below meth c H locs 0 0 Q (F0 m 65 ls [.int s0]) := by
        intro x2 x3 x5 x7 x8 x10 s0 V2 H locs ls hf hP hD hS hl
        unfold f_X1_leastSureCell_65 at hf
        refine lv_istore (lv' := [(12, .int s0), (0, .ref a0), (1, .ref a1), (2, .int x2), (3, .long x3), (5, .long x5), (7, .int x7), (8, .long x8), (10, .long x10)]) hx hb dX1_leastSureCell_65 hl (by decide) rfl (fun ls hl => ?_)
        refine lv_lload hx hb dX1_leastSureCell_67 (lv_at hl 7 rfl) ?_
        refine lv_lconst (v := 0) hx hb dX1_leastSureCell_69 rfl ?_
        refine W.lcmp hx hb dX1_leastSureCell_70 ?_
        refine lv_if_le (tgt := 89) hx hb dX1_leastSureCell_71 (by decide) (fun c71 => ?_) (fun c71 => ?_)
        · have hf := it_t c71 hf
          refine lv_iinc (v := x7 + 1) (lv' := [(7, .int (x7 + 1)), (12, .int s0), (0, .ref a0), (1, .ref a1), (2, .int x2), (3, .long x3), (5, .long x5), (8, .long x8), (10, .long x10)]) hx hb dX1_leastSureCell_89 hl (k := 6) rfl rfl (by decide) rfl (fun ls hl => ?_)
          refine lv_goto (tgt := 10) hx hb dX1_leastSureCell_92 (by decide) ?_
          exact ih10 x2 x3 x5 (x7 + 1) V2 _ _ _ hf hP hD hS (lv_sub hl [2, 3, 4, 5, 6, 0] rfl)
        · have hf := it_f c71 hf
          refine lv_iload hx hb dX1_leastSureCell_74 (lv_at hl 0 rfl) ?_
          refine lv_if_eq (tgt := 89) hx hb dX1_leastSureCell_76 (by decide) (fun c76 => ?_) (fun c76 => ?_)
          · have hf := it_t c76 hf
            refine lv_iinc (v := x7 + 1) (lv' := [(7, .int (x7 + 1)), (12, .int s0), (0, .ref a0), (1, .ref a1), (2, .int x2), (3, .long x3), (5, .long x5), (8, .long x8), (10, .long x10)]) hx hb dX1_leastSureCell_89 hl (k := 6) rfl rfl (by decide) rfl (fun ls hl => ?_)
            refine lv_goto (tgt := 10) hx hb dX1_leastSureCell_92 (by decide) ?_
            exact ih10 x2 x3 x5 (x7 + 1) V2 _ _ _ hf hP hD hS (lv_sub hl [2, 3, 4, 5, 6, 0] rfl)
          · have hf := it_f c76 hf
            refine lv_iload hx hb dX1_leastSureCell_79 (lv_at hl 6 rfl) ?_
            refine lv_istore_n (lv' := [(2, .int x7), (12, .int s0), (0, .ref a0), (1, .ref a1), (3, .long x3), (5, .long x5), (7, .int x7), (8, .long x8), (10, .long x10)]) hx hb dX1_leastSureCell_81 rfl hl (by decide) rfl (fun ls hl => ?_)
            refine lv_lload hx hb dX1_leastSureCell_82 (lv_at hl 8 rfl) ?_
            refine lv_lstore_n (lv' := [(3, .long x10), (2, .int x7), (12, .int s0), (0, .ref a0), (1, .ref a1), (5, .long x5), (7, .int x7), (8, .long x8), (10, .long x10)]) hx hb dX1_leastSureCell_84 rfl hl (by decide) rfl (fun ls hl => ?_)
            refine lv_lload hx hb dX1_leastSureCell_85 (lv_at hl 7 rfl) ?_
            refine lv_lstore (lv' := [(5, .long x8), (3, .long x10), (2, .int x7), (12, .int s0), (0, .ref a0), (1, .ref a1), (7, .int x7), (8, .long x8), (10, .long x10)]) hx hb dX1_leastSureCell_87 hl (by decide) rfl (fun ls hl => ?_)
            refine lv_iinc (v := x7 + 1) (lv' := [(7, .int (x7 + 1)), (5, .long x8), (3, .long x10), (2, .int x7), (12, .int s0), (0, .ref a0), (1, .ref a1), (8, .long x8), (10, .long x10)]) hx hb dX1_leastSureCell_89 hl (k := 6) rfl rfl (by decide) rfl (fun ls hl => ?_)
            refine lv_goto (tgt := 10) hx hb dX1_leastSureCell_92 (by decide) ?_
            exact ih10 x7 x10 x8 (x7 + 1) V2 _ _ _ hf hP hD hS (lv_sub hl [5, 6, 3, 2, 1, 0] rfl)
      have b60 : ∀ (x2 : Int32) (x3 : Int64) (x5 : Int64) (x7 : Int32) (x8 : Int64) (x10 : Int64) (V2 : Nat → Int64) (H : Heap) (locs : List Loc) (ls : Array Slot), f_X1_leastSureCell_60 T1 V3 V4 V5 V6 k10 x2 x3 x5 x7 x8 x10 V2 = some z → va_P E.1 vwCl [(a0, o1 a2 u0_1), (a1, o3 T1 u1_7 a5 u1_9 a3 a4 a6 u1_13 u1_14), (a2, al E 4 V2), (a3, ai E 12 V3), (a4, ai E 12 V4), (a5, ai E 5 V5), (a6, ai E 12 V6)] H → va_D A [(a0, o1 a2 u0_1), (a1, o3 T1 u1_7 a5 u1_9 a3 a4 a6 u1_13 u1_14), (a2, al E 4 V2), (a3, ai E 12 V3), (a4, ai E 12 V4), (a5, ai E 5 V5), (a6, ai E 12 V6)] → va_S A s.heap H locs → lv_has ls 13 [(0, .ref a0), (1, .ref a1), (2, .int x2), (3, .long x3), (5, .long x5), (7, .int x7), (8, .long x8), (10, .long x10)] → W p l e ({ frames := 3, cells := 0, slots := 0, locals := 69 } : Room) s m args below meth c H locs 0 0 Q (F0 m 60 ls []) := by
        intro x2 x3 x5 x7 x8 x10 V2 H locs ls hf hP hD hS hl
        unfold f_X1_leastSureCell_60 at hf
        refine lv_iconst (v := 1) hx hb dX1_leastSureCell_60 rfl ?_
        refine lv_goto (tgt := 65) hx hb dX1_leastSureCell_61 (by decide) ?_
        exact b65 x2 x3 x5 x7 x8 x10 1 V2 _ _ _ hf hP hD hS (lv_sub hl [0, 1, 2, 3, 4, 5, 6, 7] rfl)
      intro x2 x3 x5 x7 V2 H locs ls hf hP hD hS hl
      replace hf : g_X1_leastSureCell_10 T1 V3 V4 V5 V6 k10 x2 x3 x5 x7 V2 = some z := by rw [ek10]; exact hf
      unfold g_X1_leastSureCell_10 at hf
      refine lv_iload hx hb dX1_leastSureCell_10 (lv_at hl 5 rfl) ?_
      refine lv_aload_n hx hb dX1_leastSureCell_12 rfl (lv_at hl 1 rfl) ?_
      obtain ⟨z13, hz13, hf⟩ := bind_s hf
      refine xV_ir hx hb hml hown htg L1_53 (c_X3_cellCount l E a1 hz13 _) ⟨⟨rfl, rfl⟩, Nat.le_of_ble_eq_true rfl, Nat.le_of_ble_eq_true rfl⟩ hK hG hA hP hD hS (is := [1]) rfl rfl (xrecv hK hP (q0 := 1) (ci := 3) rfl rfl) rfl hl.1 rfl (Nat.le_of_ble_eq_true rfl) dX1_leastSureCell_13 (fun H locs hP hD hS => ?_)
      refine lv_icmp_ge (tgt := 95) hx hb dX1_leastSureCell_16 (by decide) (fun c16 => ?_) (fun c16 => ?_)
      · have hf := it_t c16 hf
        refine lv_iload_n hx hb dX1_leastSureCell_95 rfl (lv_at hl 2 rfl) ?_
        exact ret (x2, V2) hf nzi hP hS dX1_leastSureCell_96
      · have hf := it_f c16 hf
        refine lv_aload_n hx hb dX1_leastSureCell_19 rfl (lv_at hl 0 rfl) ?_
        refine lv_aload_n hx hb dX1_leastSureCell_20 rfl (lv_at hl 1 rfl) ?_
        refine lv_iload hx hb dX1_leastSureCell_21 (lv_at hl 5 rfl) ?_
        obtain ⟨z23, hz23, hf⟩ := bind_s hf
        refine xV_vu hx hb hml hown htg L1_57 (c_X1_weigh l E a0 a1 a2 a3 a4 a5 a6 hz23 _) ⟨⟨rfl, rfl⟩, Nat.le_of_ble_eq_true rfl, Nat.le_of_ble_eq_true rfl⟩ hK hG hA hP hD hS (is := [0, 1, 2, 3, 4, 5, 6]) (sel := [some 0, some 1, some 2, some 3, some 4, some 5, some 6]) (ws2 := [(a0, o1 a2 u0_1), (a1, o3 T1 u1_7 a5 u1_9 a3 a4 a6 u1_13 u1_14), (a2, al E 4 z23), (a3, ai E 12 V3), (a4, ai E 12 V4), (a5, ai E 5 V5), (a6, ai E 12 V6)]) rfl rfl rfl rfl rfl (xrecv hK hP (q0 := 0) (ci := 1) rfl rfl) rfl hl.1 rfl (Nat.le_of_ble_eq_true rfl) dX1_leastSureCell_23 (fun H locs hP hD hS => ?_)
        refine lv_aload_n hx hb dX1_leastSureCell_26 rfl (lv_at hl 0 rfl) ?_
        obtain ⟨z27, hz27, hf⟩ := bind_s hf
        refine xV_lr hx hb hml hown htg L1_61 (c_X1_sum l E a0 a2 hz27 _) ⟨⟨rfl, rfl⟩, Nat.le_of_ble_eq_true rfl, Nat.le_of_ble_eq_true rfl⟩ hK hG hA hP hD hS (is := [0, 2]) rfl rfl (xrecv hK hP (q0 := 0) (ci := 1) rfl rfl) rfl hl.1 rfl (Nat.le_of_ble_eq_true rfl) dX1_leastSureCell_27 (fun H locs hP hD hS => ?_)
        refine lv_lstore (lv' := [(8, .long z27), (0, .ref a0), (1, .ref a1), (2, .int x2), (3, .long x3), (5, .long x5), (7, .int x7)]) hx hb dX1_leastSureCell_30 hl (by decide) rfl (fun ls hl => ?_)
        refine lv_aload_n hx hb dX1_leastSureCell_32 rfl (lv_at hl 1 rfl) ?_
        refine lv_aload_n hx hb dX1_leastSureCell_33 rfl (lv_at hl 1 rfl) ?_
        obtain ⟨z34, hz34, hf⟩ := bind_s hf
        refine xV_ir hx hb hml hown htg L1_65 (c_X1_likeliestKind l E a0 a2 hz34 _) ⟨⟨rfl, rfl⟩, Nat.le_of_ble_eq_true rfl, Nat.le_of_ble_eq_true rfl⟩ hK hG hA hP hD hS (is := [0, 2]) rfl rfl (xrecv hK hP (q0 := 0) (ci := 1) rfl rfl) rfl hl.1 rfl (Nat.le_of_ble_eq_true rfl) dX1_leastSureCell_34 (fun H locs hP hD hS => ?_)
        obtain ⟨z37, hz37, hf⟩ := bind_s hf
        refine xV_lr hx hb hml hown htg L1_68 (c_X1_weightOf l E a0 a2 hz37 _) ⟨⟨rfl, rfl⟩, Nat.le_of_ble_eq_true rfl, Nat.le_of_ble_eq_true rfl⟩ hK hG hA hP hD hS (is := [0, 2]) rfl rfl (xrecv hK hP (q0 := 0) (ci := 1) rfl rfl) rfl hl.1 rfl (Nat.le_of_ble_eq_true rfl) dX1_leastSureCell_37 (fun H locs hP hD hS => ?_)
        refine lv_lstore (lv' := [(10, .long z37), (8, .long z27), (0, .ref a0), (1, .ref a1), (2, .int x2), (3, .long x3), (5, .long x5), (7, .int x7)]) hx hb dX1_leastSureCell_40 hl (by decide) rfl (fun ls hl => ?_)
        refine lv_iload_n hx hb dX1_leastSureCell_42 rfl (lv_at hl 4 rfl) ?_
        refine lv_iconst (v := (-1)) hx hb dX1_leastSureCell_43 rfl ?_
        refine lv_icmp_eq (tgt := 60) hx hb dX1_leastSureCell_44 (by decide) (fun c44 => ?_) (fun c44 => ?_)
        · have hf := it_t c44 hf
          exact b60 x2 x3 x5 x7 z27 z37 z23 _ _ _ hf hP hD hS (lv_sub hl [2, 3, 4, 5, 6, 7, 1, 0] rfl)
        · have hf := it_f c44 hf
          refine lv_lload hx hb dX1_leastSureCell_47 (lv_at hl 0 rfl) ?_
          refine lv_lload hx hb dX1_leastSureCell_49 (lv_at hl 6 rfl) ?_
          refine lv_lmul hx hb dX1_leastSureCell_51 ?_
          refine lv_lload_n hx hb dX1_leastSureCell_52 rfl (lv_at hl 5 rfl) ?_
          refine lv_lload hx hb dX1_leastSureCell_53 (lv_at hl 1 rfl) ?_
          refine lv_lmul hx hb dX1_leastSureCell_55 ?_
          refine W.lcmp hx hb dX1_leastSureCell_56 ?_
          refine lv_if_ge (tgt := 64) hx hb dX1_leastSureCell_57 (by decide) (fun c57 => ?_) (fun c57 => ?_)
          · have hf := it_t c57 hf
            refine lv_iconst (v := 0) hx hb dX1_leastSureCell_64 rfl ?_
            exact b65 x2 x3 x5 x7 z27 z37 0 z23 _ _ _ hf hP hD hS (lv_sub hl [2, 3, 4, 5, 6, 7, 1, 0] rfl)
          · have hf := it_f c57 hf
            exact b60 x2 x3 x5 x7 z27 z37 z23 _ _ _ hf hP hD hS (lv_sub hl [2, 3, 4, 5, 6, 7, 1, 0] rfl)
  unfold f_X1_leastSureCell at hf
  refine lv_iconst (v := (-1)) hx hb dX1_leastSureCell_0 rfl ?_
  refine lv_istore_n (lv' := [(2, .int (-1)), (0, .ref a0), (1, .ref a1)]) hx hb dX1_leastSureCell_1 rfl hl (by decide) rfl (fun ls hl => ?_)
  refine lv_lconst (v := 1) hx hb dX1_leastSureCell_2 rfl ?_
  refine lv_lstore_n (lv' := [(3, .long 1), (2, .int (-1)), (0, .ref a0), (1, .ref a1)]) hx hb dX1_leastSureCell_3 rfl hl (by decide) rfl (fun ls hl => ?_)
  refine lv_lconst (v := 1) hx hb dX1_leastSureCell_4 rfl ?_
  refine lv_lstore (lv' := [(5, .long 1), (3, .long 1), (2, .int (-1)), (0, .ref a0), (1, .ref a1)]) hx hb dX1_leastSureCell_5 hl (by decide) rfl (fun ls hl => ?_)
  refine lv_iconst (v := 0) hx hb dX1_leastSureCell_7 rfl ?_
  refine lv_istore (lv' := [(7, .int 0), (5, .long 1), (3, .long 1), (2, .int (-1)), (0, .ref a0), (1, .ref a1)]) hx hb dX1_leastSureCell_8 hl (by decide) rfl (fun ls hl => ?_)
  exact b10 xF (-1) 1 1 0 V2 _ _ _ hf hP hD hS (lv_sub hl [4, 5, 3, 2, 1, 0] rfl)
theorem dX1_waysToSwear_0 : decode cX1_waysToSwear 0 = .ok (.aload_n 0, 1) := by decide +kernel
theorem dX1_waysToSwear_1 : decode cX1_waysToSwear 1 = .ok (.getfield 15, 3) := by decide +kernel
theorem dX1_waysToSwear_4 : decode cX1_waysToSwear 4 = .ok (.lconst 0, 1) := by decide +kernel
theorem dX1_waysToSwear_5 : decode cX1_waysToSwear 5 = .ok (.invokestatic 18, 3) := by decide +kernel
theorem dX1_waysToSwear_8 : decode cX1_waysToSwear 8 = .ok (.aload_n 0, 1) := by decide +kernel
theorem dX1_waysToSwear_9 : decode cX1_waysToSwear 9 = .ok (.getfield 15, 3) := by decide +kernel
theorem dX1_waysToSwear_12 : decode cX1_waysToSwear 12 = .ok (.iconst 0, 1) := by decide +kernel
theorem dX1_waysToSwear_13 : decode cX1_waysToSwear 13 = .ok (.lconst 1, 1) := by decide +kernel
theorem dX1_waysToSwear_14 : decode cX1_waysToSwear 14 = .ok (.lastore, 1) := by decide +kernel
theorem dX1_waysToSwear_15 : decode cX1_waysToSwear 15 = .ok (.iconst 0, 1) := by decide +kernel
theorem dX1_waysToSwear_16 : decode cX1_waysToSwear 16 = .ok (.istore 4, 2) := by decide +kernel
theorem dX1_waysToSwear_18 : decode cX1_waysToSwear 18 = .ok (.iload 4, 2) := by decide +kernel
theorem dX1_waysToSwear_20 : decode cX1_waysToSwear 20 = .ok (.iload_n 1, 1) := by decide +kernel
theorem dX1_waysToSwear_21 : decode cX1_waysToSwear 21 = .ok (.if_icmp .ge 75, 3) := by decide +kernel
theorem dX1_waysToSwear_24 : decode cX1_waysToSwear 24 = .ok (.aload_n 0, 1) := by decide +kernel
theorem dX1_waysToSwear_25 : decode cX1_waysToSwear 25 = .ok (.getfield 15, 3) := by decide +kernel
theorem dX1_waysToSwear_28 : decode cX1_waysToSwear 28 = .ok (.arraylength, 1) := by decide +kernel
theorem dX1_waysToSwear_29 : decode cX1_waysToSwear 29 = .ok (.iconst 1, 1) := by decide +kernel
theorem dX1_waysToSwear_30 : decode cX1_waysToSwear 30 = .ok (.isub, 1) := by decide +kernel
theorem dX1_waysToSwear_31 : decode cX1_waysToSwear 31 = .ok (.istore 5, 2) := by decide +kernel
theorem dX1_waysToSwear_33 : decode cX1_waysToSwear 33 = .ok (.iload 5, 2) := by decide +kernel
theorem dX1_waysToSwear_35 : decode cX1_waysToSwear 35 = .ok (.ifCond .lt 55, 3) := by decide +kernel
theorem dX1_waysToSwear_38 : decode cX1_waysToSwear 38 = .ok (.iload 5, 2) := by decide +kernel
theorem dX1_waysToSwear_40 : decode cX1_waysToSwear 40 = .ok (.ifCond .le 15, 3) := by decide +kernel
theorem dX1_waysToSwear_43 : decode cX1_waysToSwear 43 = .ok (.aload_n 0, 1) := by decide +kernel
theorem dX1_waysToSwear_44 : decode cX1_waysToSwear 44 = .ok (.getfield 15, 3) := by decide +kernel
theorem dX1_waysToSwear_47 : decode cX1_waysToSwear 47 = .ok (.iload 5, 2) := by decide +kernel
theorem dX1_waysToSwear_49 : decode cX1_waysToSwear 49 = .ok (.iconst 1, 1) := by decide +kernel
theorem dX1_waysToSwear_50 : decode cX1_waysToSwear 50 = .ok (.isub, 1) := by decide +kernel
theorem dX1_waysToSwear_51 : decode cX1_waysToSwear 51 = .ok (.laload, 1) := by decide +kernel
theorem dX1_waysToSwear_52 : decode cX1_waysToSwear 52 = .ok (.goto 4, 3) := by decide +kernel
theorem dX1_waysToSwear_55 : decode cX1_waysToSwear 55 = .ok (.lconst 0, 1) := by decide +kernel
theorem dX1_waysToSwear_56 : decode cX1_waysToSwear 56 = .ok (.lstore 6, 2) := by decide +kernel
theorem dX1_waysToSwear_58 : decode cX1_waysToSwear 58 = .ok (.aload_n 0, 1) := by decide +kernel
theorem dX1_waysToSwear_59 : decode cX1_waysToSwear 59 = .ok (.getfield 15, 3) := by decide +kernel
theorem dX1_waysToSwear_62 : decode cX1_waysToSwear 62 = .ok (.iload 5, 2) := by decide +kernel
theorem dX1_waysToSwear_64 : decode cX1_waysToSwear 64 = .ok (.aload_n 0, 1) := by decide +kernel
theorem dX1_waysToSwear_65 : decode cX1_waysToSwear 65 = .ok (.getfield 15, 3) := by decide +kernel
theorem dX1_waysToSwear_68 : decode cX1_waysToSwear 68 = .ok (.iload 5, 2) := by decide +kernel
theorem dX1_waysToSwear_70 : decode cX1_waysToSwear 70 = .ok (.laload, 1) := by decide +kernel
theorem dX1_waysToSwear_71 : decode cX1_waysToSwear 71 = .ok (.bipush 16, 2) := by decide +kernel
theorem dX1_waysToSwear_73 : decode cX1_waysToSwear 73 = .ok (.iload_n 3, 1) := by decide +kernel
theorem dX1_waysToSwear_74 : decode cX1_waysToSwear 74 = .ok (.isub, 1) := by decide +kernel
theorem dX1_waysToSwear_75 : decode cX1_waysToSwear 75 = .ok (.i2l, 1) := by decide +kernel
theorem dX1_waysToSwear_76 : decode cX1_waysToSwear 76 = .ok (.lmul, 1) := by decide +kernel
theorem dX1_waysToSwear_77 : decode cX1_waysToSwear 77 = .ok (.lload 6, 2) := by decide +kernel
theorem dX1_waysToSwear_79 : decode cX1_waysToSwear 79 = .ok (.iload_n 3, 1) := by decide +kernel
theorem dX1_waysToSwear_80 : decode cX1_waysToSwear 80 = .ok (.i2l, 1) := by decide +kernel
theorem dX1_waysToSwear_81 : decode cX1_waysToSwear 81 = .ok (.lmul, 1) := by decide +kernel
theorem dX1_waysToSwear_82 : decode cX1_waysToSwear 82 = .ok (.ladd, 1) := by decide +kernel
theorem dX1_waysToSwear_83 : decode cX1_waysToSwear 83 = .ok (.lastore, 1) := by decide +kernel
theorem dX1_waysToSwear_84 : decode cX1_waysToSwear 84 = .ok (.iinc 5 (-1), 3) := by decide +kernel
theorem dX1_waysToSwear_87 : decode cX1_waysToSwear 87 = .ok (.goto (-54), 3) := by decide +kernel
theorem dX1_waysToSwear_90 : decode cX1_waysToSwear 90 = .ok (.iinc 4 1, 3) := by decide +kernel
theorem dX1_waysToSwear_93 : decode cX1_waysToSwear 93 = .ok (.goto (-75), 3) := by decide +kernel
theorem dX1_waysToSwear_96 : decode cX1_waysToSwear 96 = .ok (.lconst 0, 1) := by decide +kernel
theorem dX1_waysToSwear_97 : decode cX1_waysToSwear 97 = .ok (.lstore 4, 2) := by decide +kernel
theorem dX1_waysToSwear_99 : decode cX1_waysToSwear 99 = .ok (.iconst 0, 1) := by decide +kernel
theorem dX1_waysToSwear_100 : decode cX1_waysToSwear 100 = .ok (.iload_n 2, 1) := by decide +kernel
theorem dX1_waysToSwear_101 : decode cX1_waysToSwear 101 = .ok (.invokestatic 72, 3) := by decide +kernel
theorem dX1_waysToSwear_104 : decode cX1_waysToSwear 104 = .ok (.istore 6, 2) := by decide +kernel
theorem dX1_waysToSwear_106 : decode cX1_waysToSwear 106 = .ok (.iload 6, 2) := by decide +kernel
theorem dX1_waysToSwear_108 : decode cX1_waysToSwear 108 = .ok (.aload_n 0, 1) := by decide +kernel
theorem dX1_waysToSwear_109 : decode cX1_waysToSwear 109 = .ok (.getfield 15, 3) := by decide +kernel
theorem dX1_waysToSwear_112 : decode cX1_waysToSwear 112 = .ok (.arraylength, 1) := by decide +kernel
theorem dX1_waysToSwear_113 : decode cX1_waysToSwear 113 = .ok (.if_icmp .ge 21, 3) := by decide +kernel
theorem dX1_waysToSwear_116 : decode cX1_waysToSwear 116 = .ok (.lload 4, 2) := by decide +kernel
theorem dX1_waysToSwear_118 : decode cX1_waysToSwear 118 = .ok (.aload_n 0, 1) := by decide +kernel
theorem dX1_waysToSwear_119 : decode cX1_waysToSwear 119 = .ok (.getfield 15, 3) := by decide +kernel
theorem dX1_waysToSwear_122 : decode cX1_waysToSwear 122 = .ok (.iload 6, 2) := by decide +kernel
theorem dX1_waysToSwear_124 : decode cX1_waysToSwear 124 = .ok (.laload, 1) := by decide +kernel
theorem dX1_waysToSwear_125 : decode cX1_waysToSwear 125 = .ok (.ladd, 1) := by decide +kernel
theorem dX1_waysToSwear_126 : decode cX1_waysToSwear 126 = .ok (.lstore 4, 2) := by decide +kernel
theorem dX1_waysToSwear_128 : decode cX1_waysToSwear 128 = .ok (.iinc 6 1, 3) := by decide +kernel
theorem dX1_waysToSwear_131 : decode cX1_waysToSwear 131 = .ok (.goto (-25), 3) := by decide +kernel
theorem dX1_waysToSwear_134 : decode cX1_waysToSwear 134 = .ok (.lload 4, 2) := by decide +kernel
theorem dX1_waysToSwear_136 : decode cX1_waysToSwear 136 = .ok (.lreturn, 1) := by decide +kernel
set_option maxRecDepth 100000 in
theorem c_X1_waysToSwear (l : Launch) (E : xE) (a0 a1 : Nat) {V1 : Nat → Int64} {u0_0 : Nat} {x1 : Int32} {x2 : Int32} {x3 : Int32} {z : Int64 × (Nat → Int64)} (hf : f_X1_waysToSwear V1 x1 x2 x3 = some z) (sz : Nat) : Met l yX1_waysToSwear (Cond.code yX1_waysToSwear cX1_waysToSwear 8 (some .long) :: gw) ({ frames := 1, cells := 0, slots := 0, locals := 40 }) (xPc E [.ref a0, .int x1, .int x2, .int x3] [(a0, o1 u0_0 a1), (a1, al E 13 V1)] sz) (xQl E z.1 [(a0, o1 u0_0 a1), (a1, al E 13 V1)] [(a0, o1 u0_0 a1), (a1, al E 13 z.2)] sz) 0 0 (va_A [(a0, o1 u0_0 a1), (a1, al E 13 V1)] sz) := by
  refine xM_l (by decide +kernel) (Nat.le_of_ble_eq_true rfl) ?_
  intro p e s m args below meth c A Q hx hb hml hown htg hK hG hA ret0 H locs ls hP hD hS hl
  have ret : ∀ (z' : Int64 × (Nat → Int64)) {H : Heap} {locs : List Loc} {pc : Nat} {ls : Array Slot}, some z' = some z → va_P E.1 vwCl [(a0, o1 u0_0 a1), (a1, al E 13 z'.2)] H → va_S A s.heap H locs → decode cX1_waysToSwear pc = .ok (.lreturn, 1) → W p l e ({ frames := 1, cells := 0, slots := 0, locals := 40 } : Room) s m args below meth c H locs 0 0 Q (F0 m pc ls [.long z'.1]) := by
    intro z' H locs pc ls h
    cases h
    exact ret0
  replace hl : lv_has ls 8 [(0, .ref a0), (1, .int x1), (2, .int x2), (3, .int x3)] := hl
  have b106 : ∀ (n : Nat) (x4 : Int64) (x6 : Int32) (V1 : Nat → Int64) (H : Heap) (locs : List Loc) (ls : Array Slot), f_X1_waysToSwear_106 x1 x2 x3 n x4 x6 V1 = some z → va_P E.1 vwCl [(a0, o1 u0_0 a1), (a1, al E 13 V1)] H → va_D A [(a0, o1 u0_0 a1), (a1, al E 13 V1)] → va_S A s.heap H locs → lv_has ls 8 [(0, .ref a0), (4, .long x4), (6, .int x6)] → W p l e ({ frames := 1, cells := 0, slots := 0, locals := 40 } : Room) s m args below meth c H locs 0 0 Q (F0 m 106 ls []) := by
    intro n
    induction n with
    | zero => intro x4 x6 V1 H locs ls hf; exact (nn_s hf).elim
    | succ n ih106 =>
      obtain ⟨k106, ek106⟩ : ∃ k, k = f_X1_waysToSwear_106 x1 x2 x3 n := ⟨_, rfl⟩
      rw [← ek106] at ih106
      intro x4 x6 V1 H locs ls hf hP hD hS hl
      replace hf : g_X1_waysToSwear_106 x1 x2 x3 k106 x4 x6 V1 = some z := by rw [ek106]; exact hf
      unfold g_X1_waysToSwear_106 at hf
      refine lv_iload hx hb dX1_waysToSwear_106 (lv_at hl 2 rfl) ?_
      refine lv_aload_n hx hb dX1_waysToSwear_108 rfl (lv_at hl 0 rfl) ?_
      refine G1_15 hx hb htg hown hK hP 0 rfl dX1_waysToSwear_109 ?_
      refine va_alen (v := 13) hx hb hK hP 1 2 rfl rfl rfl dX1_waysToSwear_112 ?_
      refine lv_icmp_ge (tgt := 134) hx hb dX1_waysToSwear_113 (by decide) (fun c113 => ?_) (fun c113 => ?_)
      · have hf := it_t c113 hf
        refine lv_lload hx hb dX1_waysToSwear_134 (lv_at hl 1 rfl) ?_
        exact ret (x4, V1) hf hP hS dX1_waysToSwear_136
      · have hf := it_f c113 hf
        refine lv_lload hx hb dX1_waysToSwear_116 (lv_at hl 1 rfl) ?_
        refine lv_aload_n hx hb dX1_waysToSwear_118 rfl (lv_at hl 0 rfl) ?_
        refine G1_15 hx hb htg hown hK hP 0 rfl dX1_waysToSwear_119 ?_
        refine lv_iload hx hb dX1_waysToSwear_122 (lv_at hl 2 rfl) ?_
        obtain ⟨g124, hf⟩ := ck_s hf
        refine xlald hx hb hK hP 1 rfl g124 dX1_waysToSwear_124 ?_
        refine lv_ladd hx hb dX1_waysToSwear_125 ?_
        refine lv_lstore (lv' := [(4, .long (x4 + (V1 (Int32.toNatClampNeg x6)))), (0, .ref a0), (6, .int x6)]) hx hb dX1_waysToSwear_126 hl (by decide) rfl (fun ls hl => ?_)
        refine lv_iinc (v := x6 + 1) (lv' := [(6, .int (x6 + 1)), (4, .long (x4 + (V1 (Int32.toNatClampNeg x6)))), (0, .ref a0)]) hx hb dX1_waysToSwear_128 hl (k := 2) rfl rfl (by decide) rfl (fun ls hl => ?_)
        refine lv_goto (tgt := 106) hx hb dX1_waysToSwear_131 (by decide) ?_
        exact ih106 (x4 + (V1 (Int32.toNatClampNeg x6))) (x6 + 1) V1 _ _ _ hf hP hD hS (lv_sub hl [2, 1, 0] rfl)
  have b18 : ∀ (n : Nat) (x4 : Int32) (V1 : Nat → Int64) (H : Heap) (locs : List Loc) (ls : Array Slot), f_X1_waysToSwear_18 x1 x2 x3 n x4 V1 = some z → va_P E.1 vwCl [(a0, o1 u0_0 a1), (a1, al E 13 V1)] H → va_D A [(a0, o1 u0_0 a1), (a1, al E 13 V1)] → va_S A s.heap H locs → lv_has ls 8 [(0, .ref a0), (1, .int x1), (2, .int x2), (3, .int x3), (4, .int x4)] → W p l e ({ frames := 1, cells := 0, slots := 0, locals := 40 } : Room) s m args below meth c H locs 0 0 Q (F0 m 18 ls []) := by
    intro n
    induction n with
    | zero => intro x4 V1 H locs ls hf; exact (nn_s hf).elim
    | succ n ih18 =>
      obtain ⟨k18, ek18⟩ : ∃ k, k = f_X1_waysToSwear_18 x1 x2 x3 n := ⟨_, rfl⟩
      rw [← ek18] at ih18
      have b33 : ∀ (n : Nat) (x4 : Int32) (x5 : Int32) (V1 : Nat → Int64) (H : Heap) (locs : List Loc) (ls : Array Slot), f_X1_waysToSwear_33 x1 x2 x3 k18 n x4 x5 V1 = some z → va_P E.1 vwCl [(a0, o1 u0_0 a1), (a1, al E 13 V1)] H → va_D A [(a0, o1 u0_0 a1), (a1, al E 13 V1)] → va_S A s.heap H locs → lv_has ls 8 [(0, .ref a0), (1, .int x1), (2, .int x2), (3, .int x3), (4, .int x4), (5, .int x5)] → W p l e ({ frames := 1, cells := 0, slots := 0, locals := 40 } : Room) s m args below meth c H locs 0 0 Q (F0 m 33 ls []) := by
        intro n
        induction n with
        | zero => intro x4 x5 V1 H locs ls hf; exact (nn_s hf).elim
        | succ n ih33 =>
          obtain ⟨k33, ek33⟩ : ∃ k, k = f_X1_waysToSwear_33 x1 x2 x3 k18 n := ⟨_, rfl⟩
          rw [← ek33] at ih33
          have b56 : ∀ (x4 : Int32) (x5 : Int32) (s0 : Int64) (V1 : Nat → Int64) (H : Heap) (locs : List Loc) (ls : Array Slot), f_X1_waysToSwear_56 x1 x2 x3 k18 k33 x4 x5 s0 V1 = some z → va_P E.1 vwCl [(a0, o1 u0_0 a1), (a1, al E 13 V1)] H → va_D A [(a0, o1 u0_0 a1), (a1, al E 13 V1)] → va_S A s.heap H locs → lv_has ls 8 [(0, .ref a0), (1, .int x1), (2, .int x2), (3, .int x3), (4, .int x4), (5, .int x5)] → W p l e ({ frames := 1, cells := 0, slots := 0, locals := 40 } : Room) s m args below meth c H locs 0 0 Q (F0 m 56 ls [.long s0]) := by
            intro x4 x5 s0 V1 H locs ls hf hP hD hS hl
            unfold f_X1_waysToSwear_56 at hf
            refine lv_lstore (lv' := [(6, .long s0), (0, .ref a0), (1, .int x1), (2, .int x2), (3, .int x3), (4, .int x4), (5, .int x5)]) hx hb dX1_waysToSwear_56 hl (by decide) rfl (fun ls hl => ?_)
            refine lv_aload_n hx hb dX1_waysToSwear_58 rfl (lv_at hl 1 rfl) ?_
            refine G1_15 hx hb htg hown hK hP 0 rfl dX1_waysToSwear_59 ?_
            refine lv_iload hx hb dX1_waysToSwear_62 (lv_at hl 6 rfl) ?_
            refine lv_aload_n hx hb dX1_waysToSwear_64 rfl (lv_at hl 1 rfl) ?_
            refine G1_15 hx hb htg hown hK hP 0 rfl dX1_waysToSwear_65 ?_
            refine lv_iload hx hb dX1_waysToSwear_68 (lv_at hl 6 rfl) ?_
            obtain ⟨g70, hf⟩ := ck_s hf
            refine xlald hx hb hK hP 1 rfl g70 dX1_waysToSwear_70 ?_
            refine lv_bipush (v := 16) hx hb dX1_waysToSwear_71 rfl ?_
            refine lv_iload_n hx hb dX1_waysToSwear_73 rfl (lv_at hl 4 rfl) ?_
            refine lv_isub hx hb dX1_waysToSwear_74 ?_
            refine lv_i2l hx hb dX1_waysToSwear_75 rfl ?_
            refine lv_lmul hx hb dX1_waysToSwear_76 ?_
            refine lv_lload hx hb dX1_waysToSwear_77 (lv_at hl 0 rfl) ?_
            refine lv_iload_n hx hb dX1_waysToSwear_79 rfl (lv_at hl 4 rfl) ?_
            refine lv_i2l hx hb dX1_waysToSwear_80 rfl ?_
            refine lv_lmul hx hb dX1_waysToSwear_81 ?_
            refine lv_ladd hx hb dX1_waysToSwear_82 ?_
            obtain ⟨g83, hf⟩ := ck_s hf
            refine xlast hx hb hK hP hD hS 1 rfl g83 dX1_waysToSwear_83 (fun H locs hP hD hS => ?_)
            refine lv_iinc (v := x5 + (-1)) (lv' := [(5, .int (x5 + (-1))), (6, .long s0), (0, .ref a0), (1, .int x1), (2, .int x2), (3, .int x3), (4, .int x4)]) hx hb dX1_waysToSwear_84 hl (k := 6) rfl rfl (by decide) rfl (fun ls hl => ?_)
            refine lv_goto (tgt := 33) hx hb dX1_waysToSwear_87 (by decide) ?_
            exact ih33 x4 (x5 + (-1)) (vp_updL V1 (Int32.toNatClampNeg x5) (((V1 (Int32.toNatClampNeg x5)) * (Int32.toInt64 (16 - x3))) + (s0 * (Int32.toInt64 x3)))) _ _ _ hf hP hD hS (lv_sub hl [2, 3, 4, 5, 6, 0] rfl)
          intro x4 x5 V1 H locs ls hf hP hD hS hl
          replace hf : g_X1_waysToSwear_33 x1 x2 x3 k18 k33 x4 x5 V1 = some z := by rw [ek33]; exact hf
          unfold g_X1_waysToSwear_33 at hf
          refine lv_iload hx hb dX1_waysToSwear_33 (lv_at hl 5 rfl) ?_
          refine lv_if_lt (tgt := 90) hx hb dX1_waysToSwear_35 (by decide) (fun c35 => ?_) (fun c35 => ?_)
          · have hf := it_t c35 hf
            refine lv_iinc (v := x4 + 1) (lv' := [(4, .int (x4 + 1)), (0, .ref a0), (1, .int x1), (2, .int x2), (3, .int x3), (5, .int x5)]) hx hb dX1_waysToSwear_90 hl (k := 4) rfl rfl (by decide) rfl (fun ls hl => ?_)
            refine lv_goto (tgt := 18) hx hb dX1_waysToSwear_93 (by decide) ?_
            exact ih18 (x4 + 1) V1 _ _ _ hf hP hD hS (lv_sub hl [1, 2, 3, 4, 0] rfl)
          · have hf := it_f c35 hf
            refine lv_iload hx hb dX1_waysToSwear_38 (lv_at hl 5 rfl) ?_
            refine lv_if_le (tgt := 55) hx hb dX1_waysToSwear_40 (by decide) (fun c40 => ?_) (fun c40 => ?_)
            · have hf := it_t c40 hf
              refine lv_lconst (v := 0) hx hb dX1_waysToSwear_55 rfl ?_
              exact b56 x4 x5 0 V1 _ _ _ hf hP hD hS (lv_sub hl [0, 1, 2, 3, 4, 5] rfl)
            · have hf := it_f c40 hf
              refine lv_aload_n hx hb dX1_waysToSwear_43 rfl (lv_at hl 0 rfl) ?_
              refine G1_15 hx hb htg hown hK hP 0 rfl dX1_waysToSwear_44 ?_
              refine lv_iload hx hb dX1_waysToSwear_47 (lv_at hl 5 rfl) ?_
              refine lv_iconst (v := 1) hx hb dX1_waysToSwear_49 rfl ?_
              refine lv_isub hx hb dX1_waysToSwear_50 ?_
              obtain ⟨g51, hf⟩ := ck_s hf
              refine xlald hx hb hK hP 1 rfl g51 dX1_waysToSwear_51 ?_
              refine lv_goto (tgt := 56) hx hb dX1_waysToSwear_52 (by decide) ?_
              exact b56 x4 x5 (V1 (Int32.toNatClampNeg (x5 - 1))) V1 _ _ _ hf hP hD hS (lv_sub hl [0, 1, 2, 3, 4, 5] rfl)
      intro x4 V1 H locs ls hf hP hD hS hl
      replace hf : g_X1_waysToSwear_18 x1 x2 x3 k18 x4 V1 = some z := by rw [ek18]; exact hf
      unfold g_X1_waysToSwear_18 at hf
      refine lv_iload hx hb dX1_waysToSwear_18 (lv_at hl 4 rfl) ?_
      refine lv_iload_n hx hb dX1_waysToSwear_20 rfl (lv_at hl 1 rfl) ?_
      refine lv_icmp_ge (tgt := 96) hx hb dX1_waysToSwear_21 (by decide) (fun c21 => ?_) (fun c21 => ?_)
      · have hf := it_t c21 hf
        refine lv_lconst (v := 0) hx hb dX1_waysToSwear_96 rfl ?_
        refine lv_lstore (lv' := [(4, .long 0), (0, .ref a0), (1, .int x1), (2, .int x2), (3, .int x3)]) hx hb dX1_waysToSwear_97 hl (by decide) rfl (fun ls hl => ?_)
        refine lv_iconst (v := 0) hx hb dX1_waysToSwear_99 rfl ?_
        refine lv_iload_n hx hb dX1_waysToSwear_100 rfl (lv_at hl 3 rfl) ?_
        refine xmax hx hb hml hl.1 hown htg ml1_72 (Nat.le_of_ble_eq_true rfl) (Nat.le_of_ble_eq_true rfl) dX1_waysToSwear_101 ?_
        refine lv_topi (fun w101 ew101 => ?_)
        have hf := letv_s ew101 hf
        refine lv_istore (lv' := [(6, .int w101), (4, .long 0), (0, .ref a0), (1, .int x1), (2, .int x2), (3, .int x3)]) hx hb dX1_waysToSwear_104 hl (by decide) rfl (fun ls hl => ?_)
        exact b106 xF 0 w101 V1 _ _ _ hf hP hD hS (lv_sub hl [2, 1, 0] rfl)
      · have hf := it_f c21 hf
        refine lv_aload_n hx hb dX1_waysToSwear_24 rfl (lv_at hl 0 rfl) ?_
        refine G1_15 hx hb htg hown hK hP 0 rfl dX1_waysToSwear_25 ?_
        refine va_alen (v := 13) hx hb hK hP 1 2 rfl rfl rfl dX1_waysToSwear_28 ?_
        refine lv_iconst (v := 1) hx hb dX1_waysToSwear_29 rfl ?_
        refine lv_isub hx hb dX1_waysToSwear_30 ?_
        refine lv_istore (lv' := [(5, .int (13 - 1)), (0, .ref a0), (1, .int x1), (2, .int x2), (3, .int x3), (4, .int x4)]) hx hb dX1_waysToSwear_31 hl (by decide) rfl (fun ls hl => ?_)
        exact b33 xF x4 (13 - 1) V1 _ _ _ hf hP hD hS (lv_sub hl [1, 2, 3, 4, 5, 0] rfl)
  unfold f_X1_waysToSwear at hf
  refine lv_aload_n hx hb dX1_waysToSwear_0 rfl (lv_at hl 0 rfl) ?_
  refine G1_15 hx hb htg hown hK hP 0 rfl dX1_waysToSwear_1 ?_
  refine lv_lconst (v := 0) hx hb dX1_waysToSwear_4 rfl ?_
  obtain ⟨z5, hz5, hf⟩ := bind_s hf
  refine xS_vu hx hb hml hown htg L1_18 (c_J7_fill_d0a16 l E a1 hz5 _) ⟨⟨rfl, rfl⟩, Nat.le_of_ble_eq_true rfl, Nat.le_of_ble_eq_true rfl⟩ hK hG hA hP hD hS (is := [1]) (sel := [none, some 0]) (ws2 := [(a0, o1 u0_0 a1), (a1, al E 13 z5)]) rfl rfl rfl rfl rfl rfl hl.1 rfl (Nat.le_of_ble_eq_true rfl) dX1_waysToSwear_5 (fun H locs hP hD hS => ?_)
  refine lv_aload_n hx hb dX1_waysToSwear_8 rfl (lv_at hl 0 rfl) ?_
  refine G1_15 hx hb htg hown hK hP 0 rfl dX1_waysToSwear_9 ?_
  refine lv_iconst (v := 0) hx hb dX1_waysToSwear_12 rfl ?_
  refine lv_lconst (v := 1) hx hb dX1_waysToSwear_13 rfl ?_
  obtain ⟨g14, hf⟩ := ck_s hf
  refine xlast hx hb hK hP hD hS 1 rfl g14 dX1_waysToSwear_14 (fun H locs hP hD hS => ?_)
  refine lv_iconst (v := 0) hx hb dX1_waysToSwear_15 rfl ?_
  refine lv_istore (lv' := [(4, .int 0), (0, .ref a0), (1, .int x1), (2, .int x2), (3, .int x3)]) hx hb dX1_waysToSwear_16 hl (by decide) rfl (fun ls hl => ?_)
  exact b18 xF 0 (vp_updL z5 (Int32.toNatClampNeg 0) 1) _ _ _ hf hP hD hS (lv_sub hl [1, 2, 3, 4, 0] rfl)
theorem dX2_weigh_0 : decode cX2_weigh 0 = .ok (.aload_n 1, 1) := by decide +kernel
theorem dX2_weigh_1 : decode cX2_weigh 1 = .ok (.getfield 18, 3) := by decide +kernel
theorem dX2_weigh_4 : decode cX2_weigh 4 = .ok (.istore_n 3, 1) := by decide +kernel
theorem dX2_weigh_5 : decode cX2_weigh 5 = .ok (.iload_n 3, 1) := by decide +kernel
theorem dX2_weigh_6 : decode cX2_weigh 6 = .ok (.aload_n 1, 1) := by decide +kernel
theorem dX2_weigh_7 : decode cX2_weigh 7 = .ok (.invokevirtual 24, 3) := by decide +kernel
theorem dX2_weigh_10 : decode cX2_weigh 10 = .ok (.if_icmp .ge 45, 3) := by decide +kernel
theorem dX2_weigh_13 : decode cX2_weigh 13 = .ok (.iload_n 3, 1) := by decide +kernel
theorem dX2_weigh_14 : decode cX2_weigh 14 = .ok (.bipush 32, 2) := by decide +kernel
theorem dX2_weigh_16 : decode cX2_weigh 16 = .ok (.if_icmp .ge 39, 3) := by decide +kernel
theorem dX2_weigh_19 : decode cX2_weigh 19 = .ok (.iload_n 3, 1) := by decide +kernel
theorem dX2_weigh_20 : decode cX2_weigh 20 = .ok (.aload_n 1, 1) := by decide +kernel
theorem dX2_weigh_21 : decode cX2_weigh 21 = .ok (.getfield 18, 3) := by decide +kernel
theorem dX2_weigh_24 : decode cX2_weigh 24 = .ok (.iand, 1) := by decide +kernel
theorem dX2_weigh_25 : decode cX2_weigh 25 = .ok (.aload_n 1, 1) := by decide +kernel
theorem dX2_weigh_26 : decode cX2_weigh 26 = .ok (.getfield 18, 3) := by decide +kernel
theorem dX2_weigh_29 : decode cX2_weigh 29 = .ok (.if_icmp .ne 20, 3) := by decide +kernel
theorem dX2_weigh_32 : decode cX2_weigh 32 = .ok (.aload_n 2, 1) := by decide +kernel
theorem dX2_weigh_33 : decode cX2_weigh 33 = .ok (.aload_n 1, 1) := by decide +kernel
theorem dX2_weigh_34 : decode cX2_weigh 34 = .ok (.iload_n 3, 1) := by decide +kernel
theorem dX2_weigh_35 : decode cX2_weigh 35 = .ok (.invokevirtual 28, 3) := by decide +kernel
theorem dX2_weigh_38 : decode cX2_weigh 38 = .ok (.aload_n 0, 1) := by decide +kernel
theorem dX2_weigh_39 : decode cX2_weigh 39 = .ok (.getfield 11, 3) := by decide +kernel
theorem dX2_weigh_42 : decode cX2_weigh 42 = .ok (.iload_n 3, 1) := by decide +kernel
theorem dX2_weigh_43 : decode cX2_weigh 43 = .ok (.aload_n 2, 1) := by decide +kernel
theorem dX2_weigh_44 : decode cX2_weigh 44 = .ok (.aload_n 1, 1) := by decide +kernel
theorem dX2_weigh_45 : decode cX2_weigh 45 = .ok (.invokevirtual 34, 3) := by decide +kernel
theorem dX2_weigh_48 : decode cX2_weigh 48 = .ok (.iastore, 1) := by decide +kernel
theorem dX2_weigh_49 : decode cX2_weigh 49 = .ok (.iinc 3 1, 3) := by decide +kernel
theorem dX2_weigh_52 : decode cX2_weigh 52 = .ok (.goto (-47), 3) := by decide +kernel
theorem dX2_weigh_55 : decode cX2_weigh 55 = .ok (.return_, 1) := by decide +kernel
set_option maxRecDepth 100000 in
theorem c_X2_weigh (l : Launch) (E : xE) (a0 a1 a2 a3 a4 a5 a6 a7 : Nat) {T1 : Nat → Int32} {V3 : Nat → Int32} {V4 : Nat → Int32} {V5 : Nat → Int32} {V6 : Nat → Int32} {V7 : Nat → Int32} {u0_1 u1_7 u1_8 u1_9 u1_13 u1_14 : Nat} {z : (Nat → Int32) × (Nat → Int32)} (hf : f_X2_weigh T1 V3 V4 V5 V6 V7 = some z) (sz : Nat) : Met l yX2_weigh (Cond.code yX2_weigh cX2_weigh 4 none :: gw) ({ frames := 2, cells := 0, slots := 0, locals := 49 }) (xPc E [.ref a0, .ref a1, .ref a2] [(a0, o2 a7 u0_1), (a1, o3 T1 u1_7 u1_8 u1_9 a6 a4 a5 u1_13 u1_14), (a2, o7 a3), (a3, ai E 144 V3), (a4, ai E 12 V4), (a5, ai E 12 V5), (a6, ai E 12 V6), (a7, ai E 32 V7)] sz) (xQv E [(a0, o2 a7 u0_1), (a1, o3 T1 u1_7 u1_8 u1_9 a6 a4 a5 u1_13 u1_14), (a2, o7 a3), (a3, ai E 144 V3), (a4, ai E 12 V4), (a5, ai E 12 V5), (a6, ai E 12 V6), (a7, ai E 32 V7)] [(a0, o2 a7 u0_1), (a1, o3 T1 u1_7 u1_8 u1_9 a6 a4 a5 u1_13 u1_14), (a2, o7 a3), (a3, ai E 144 z.1), (a4, ai E 12 V4), (a5, ai E 12 V5), (a6, ai E 12 V6), (a7, ai E 32 z.2)] sz) 0 0 (va_A [(a0, o2 a7 u0_1), (a1, o3 T1 u1_7 u1_8 u1_9 a6 a4 a5 u1_13 u1_14), (a2, o7 a3), (a3, ai E 144 V3), (a4, ai E 12 V4), (a5, ai E 12 V5), (a6, ai E 12 V6), (a7, ai E 32 V7)] sz) := by
  refine xM_v (by decide +kernel) (Nat.le_of_ble_eq_true rfl) ?_
  intro p e s m args below meth c A Q hx hb hml hown htg hK hG hA ret0 H locs ls hP hD hS hl
  have ret : ∀ (z' : (Nat → Int32) × (Nat → Int32)) {H : Heap} {locs : List Loc} {pc : Nat} {ls : Array Slot}, some z' = some z → va_P E.1 vwCl [(a0, o2 a7 u0_1), (a1, o3 T1 u1_7 u1_8 u1_9 a6 a4 a5 u1_13 u1_14), (a2, o7 a3), (a3, ai E 144 z'.1), (a4, ai E 12 V4), (a5, ai E 12 V5), (a6, ai E 12 V6), (a7, ai E 32 z'.2)] H → va_S A s.heap H locs → decode cX2_weigh pc = .ok (.return_, 1) → W p l e ({ frames := 2, cells := 0, slots := 0, locals := 49 } : Room) s m args below meth c H locs 0 0 Q (F0 m pc ls []) := by
    intro z' H locs pc ls h
    cases h
    exact ret0
  replace hl : lv_has ls 4 [(0, .ref a0), (1, .ref a1), (2, .ref a2)] := hl
  have b5 : ∀ (n : Nat) (x3 : Int32) (V3 : Nat → Int32) (V7 : Nat → Int32) (H : Heap) (locs : List Loc) (ls : Array Slot), f_X2_weigh_5 T1 V4 V5 V6 n x3 V3 V7 = some z → va_P E.1 vwCl [(a0, o2 a7 u0_1), (a1, o3 T1 u1_7 u1_8 u1_9 a6 a4 a5 u1_13 u1_14), (a2, o7 a3), (a3, ai E 144 V3), (a4, ai E 12 V4), (a5, ai E 12 V5), (a6, ai E 12 V6), (a7, ai E 32 V7)] H → va_D A [(a0, o2 a7 u0_1), (a1, o3 T1 u1_7 u1_8 u1_9 a6 a4 a5 u1_13 u1_14), (a2, o7 a3), (a3, ai E 144 V3), (a4, ai E 12 V4), (a5, ai E 12 V5), (a6, ai E 12 V6), (a7, ai E 32 V7)] → va_S A s.heap H locs → lv_has ls 4 [(0, .ref a0), (1, .ref a1), (2, .ref a2), (3, .int x3)] → W p l e ({ frames := 2, cells := 0, slots := 0, locals := 49 } : Room) s m args below meth c H locs 0 0 Q (F0 m 5 ls []) := by
    intro n
    induction n with
    | zero => intro x3 V3 V7 H locs ls hf; exact (nn_s hf).elim
    | succ n ih5 =>
      obtain ⟨k5, ek5⟩ : ∃ k, k = f_X2_weigh_5 T1 V4 V5 V6 n := ⟨_, rfl⟩
      rw [← ek5] at ih5
      intro x3 V3 V7 H locs ls hf hP hD hS hl
      replace hf : g_X2_weigh_5 T1 V4 V5 V6 k5 x3 V3 V7 = some z := by rw [ek5]; exact hf
      unfold g_X2_weigh_5 at hf
      refine lv_iload_n hx hb dX2_weigh_5 rfl (lv_at hl 3 rfl) ?_
      refine lv_aload_n hx hb dX2_weigh_6 rfl (lv_at hl 1 rfl) ?_
      obtain ⟨z7, hz7, hf⟩ := bind_s hf
      refine xV_ir hx hb hml hown htg L2_24 (c_X3_sets l E a1 hz7 _) ⟨⟨rfl, rfl⟩, Nat.le_of_ble_eq_true rfl, Nat.le_of_ble_eq_true rfl⟩ hK hG hA hP hD hS (is := [1]) rfl rfl (xrecv hK hP (q0 := 1) (ci := 3) rfl rfl) rfl hl.1 rfl (Nat.le_of_ble_eq_true rfl) dX2_weigh_7 (fun H locs hP hD hS => ?_)
      refine lv_icmp_ge (tgt := 55) hx hb dX2_weigh_10 (by decide) (fun c10 => ?_) (fun c10 => ?_)
      · have hf := it_t c10 hf
        exact ret (V3, V7) hf hP hS dX2_weigh_55
      · have hf := it_f c10 hf
        refine lv_iload_n hx hb dX2_weigh_13 rfl (lv_at hl 3 rfl) ?_
        refine lv_bipush (v := 32) hx hb dX2_weigh_14 rfl ?_
        refine lv_icmp_ge (tgt := 55) hx hb dX2_weigh_16 (by decide) (fun c16 => ?_) (fun c16 => ?_)
        · have hf := it_t c16 hf
          exact ret (V3, V7) hf hP hS dX2_weigh_55
        · have hf := it_f c16 hf
          refine lv_iload_n hx hb dX2_weigh_19 rfl (lv_at hl 3 rfl) ?_
          refine lv_aload_n hx hb dX2_weigh_20 rfl (lv_at hl 1 rfl) ?_
          refine G2_18 hx hb htg hown hK hP 1 rfl dX2_weigh_21 ?_
          refine lv_iand hx hb dX2_weigh_24 ?_
          refine lv_aload_n hx hb dX2_weigh_25 rfl (lv_at hl 1 rfl) ?_
          refine G2_18 hx hb htg hown hK hP 1 rfl dX2_weigh_26 ?_
          refine lv_icmp_ne (tgt := 49) hx hb dX2_weigh_29 (by decide) (fun c29 => ?_) (fun c29 => ?_)
          · have hf := it_f c29 hf
            refine lv_iinc (v := x3 + 1) (lv' := [(3, .int (x3 + 1)), (0, .ref a0), (1, .ref a1), (2, .ref a2)]) hx hb dX2_weigh_49 hl (k := 3) rfl rfl (by decide) rfl (fun ls hl => ?_)
            refine lv_goto (tgt := 5) hx hb dX2_weigh_52 (by decide) ?_
            exact ih5 (x3 + 1) V3 V7 _ _ _ hf hP hD hS (lv_sub hl [1, 2, 3, 0] rfl)
          · have hf := it_t c29 hf
            refine lv_aload_n hx hb dX2_weigh_32 rfl (lv_at hl 2 rfl) ?_
            refine lv_aload_n hx hb dX2_weigh_33 rfl (lv_at hl 1 rfl) ?_
            refine lv_iload_n hx hb dX2_weigh_34 rfl (lv_at hl 3 rfl) ?_
            obtain ⟨z35, hz35, hf⟩ := bind_s hf
            refine xV_vu hx hb hml hown htg L2_28 (c_X7_take l E a2 a1 a3 a4 a5 a6 hz35 _) ⟨⟨rfl, rfl⟩, Nat.le_of_ble_eq_true rfl, Nat.le_of_ble_eq_true rfl⟩ hK hG hA hP hD hS (is := [2, 1, 3, 4, 5, 6]) (sel := [none, some 1, some 0, some 2, some 3, some 4, some 5, none]) (ws2 := [(a0, o2 a7 u0_1), (a1, o3 T1 u1_7 u1_8 u1_9 a6 a4 a5 u1_13 u1_14), (a2, o7 a3), (a3, ai E 144 z35), (a4, ai E 12 V4), (a5, ai E 12 V5), (a6, ai E 12 V6), (a7, ai E 32 V7)]) rfl rfl rfl rfl rfl (xrecv hK hP (q0 := 2) (ci := 7) rfl rfl) rfl hl.1 rfl (Nat.le_of_ble_eq_true rfl) dX2_weigh_35 (fun H locs hP hD hS => ?_)
            refine lv_aload_n hx hb dX2_weigh_38 rfl (lv_at hl 0 rfl) ?_
            refine G2_11 hx hb htg hown hK hP 0 rfl dX2_weigh_39 ?_
            refine lv_iload_n hx hb dX2_weigh_42 rfl (lv_at hl 3 rfl) ?_
            refine lv_aload_n hx hb dX2_weigh_43 rfl (lv_at hl 2 rfl) ?_
            refine lv_aload_n hx hb dX2_weigh_44 rfl (lv_at hl 1 rfl) ?_
            obtain ⟨z45, hz45, hf⟩ := bind_s hf
            refine xV_ir hx hb hml hown htg L2_34 (c_X7_knownCells l E a2 a1 a3 hz45 _) ⟨⟨rfl, rfl⟩, Nat.le_of_ble_eq_true rfl, Nat.le_of_ble_eq_true rfl⟩ hK hG hA hP hD hS (is := [2, 1, 3]) rfl rfl (xrecv hK hP (q0 := 2) (ci := 7) rfl rfl) rfl hl.1 rfl (Nat.le_of_ble_eq_true rfl) dX2_weigh_45 (fun H locs hP hD hS => ?_)
            obtain ⟨g48, hf⟩ := ck_s hf
            refine xiast hx hb hK hP hD hS 7 rfl g48 dX2_weigh_48 (fun H locs hP hD hS => ?_)
            refine lv_iinc (v := x3 + 1) (lv' := [(3, .int (x3 + 1)), (0, .ref a0), (1, .ref a1), (2, .ref a2)]) hx hb dX2_weigh_49 hl (k := 3) rfl rfl (by decide) rfl (fun ls hl => ?_)
            refine lv_goto (tgt := 5) hx hb dX2_weigh_52 (by decide) ?_
            exact ih5 (x3 + 1) z35 (upd V7 (Int32.toNatClampNeg x3) z45) _ _ _ hf hP hD hS (lv_sub hl [1, 2, 3, 0] rfl)
  unfold f_X2_weigh at hf
  refine lv_aload_n hx hb dX2_weigh_0 rfl (lv_at hl 1 rfl) ?_
  refine G2_18 hx hb htg hown hK hP 1 rfl dX2_weigh_1 ?_
  refine lv_istore_n (lv' := [(3, .int (T1 5)), (0, .ref a0), (1, .ref a1), (2, .ref a2)]) hx hb dX2_weigh_4 rfl hl (by decide) rfl (fun ls hl => ?_)
  exact b5 xF (T1 5) V3 V7 _ _ _ hf hP hD hS (lv_sub hl [1, 2, 3, 0] rfl)
theorem dX2_knownBy_0 : decode cX2_knownBy 0 = .ok (.iload_n 1, 1) := by decide +kernel
theorem dX2_knownBy_1 : decode cX2_knownBy 1 = .ok (.iconst 0, 1) := by decide +kernel
theorem dX2_knownBy_2 : decode cX2_knownBy 2 = .ok (.bipush 31, 2) := by decide +kernel
theorem dX2_knownBy_4 : decode cX2_knownBy 4 = .ok (.invokestatic 38, 3) := by decide +kernel
theorem dX2_knownBy_7 : decode cX2_knownBy 7 = .ok (.ifCond .eq 12, 3) := by decide +kernel
theorem dX2_knownBy_10 : decode cX2_knownBy 10 = .ok (.aload_n 0, 1) := by decide +kernel
theorem dX2_knownBy_11 : decode cX2_knownBy 11 = .ok (.getfield 11, 3) := by decide +kernel
theorem dX2_knownBy_14 : decode cX2_knownBy 14 = .ok (.iload_n 1, 1) := by decide +kernel
theorem dX2_knownBy_15 : decode cX2_knownBy 15 = .ok (.iaload, 1) := by decide +kernel
theorem dX2_knownBy_16 : decode cX2_knownBy 16 = .ok (.goto 4, 3) := by decide +kernel
theorem dX2_knownBy_19 : decode cX2_knownBy 19 = .ok (.iconst 0, 1) := by decide +kernel
theorem dX2_knownBy_20 : decode cX2_knownBy 20 = .ok (.ireturn, 1) := by decide +kernel
set_option maxRecDepth 100000 in
theorem c_X2_knownBy (l : Launch) (E : xE) (a0 a1 : Nat) {V1 : Nat → Int32} {u0_1 : Nat} {x1 : Int32} {z : Int32} (hf : f_X2_knownBy V1 x1 = some z) (sz : Nat) : Met l yX2_knownBy (Cond.code yX2_knownBy cX2_knownBy 2 (some .int) :: gw) ({ frames := 1, cells := 0, slots := 0, locals := 22 }) (xPc E [.ref a0, .int x1] [(a0, o2 a1 u0_1), (a1, ai E 32 V1)] sz) (xQi E z [(a0, o2 a1 u0_1), (a1, ai E 32 V1)] [(a0, o2 a1 u0_1), (a1, ai E 32 V1)] sz) 0 0 (va_A [(a0, o2 a1 u0_1), (a1, ai E 32 V1)] sz) := by
  refine xM_i (by decide +kernel) (Nat.le_of_ble_eq_true rfl) ?_
  intro p e s m args below meth c A Q hx hb hml hown htg hK hG hA ret0 H locs ls hP hD hS hl
  have ret : ∀ (z' : Int32) {H : Heap} {locs : List Loc} {pc : Nat} {ls : Array Slot}, some z' = some z → narrow .int (.int z') = .int z' → va_P E.1 vwCl [(a0, o2 a1 u0_1), (a1, ai E 32 V1)] H → va_S A s.heap H locs → decode cX2_knownBy pc = .ok (.ireturn, 1) → W p l e ({ frames := 1, cells := 0, slots := 0, locals := 22 } : Room) s m args below meth c H locs 0 0 Q (F0 m pc ls [.int z']) := by
    intro z' H locs pc ls h
    cases h
    exact ret0
  replace hl : lv_has ls 2 [(0, .ref a0), (1, .int x1)] := hl
  unfold f_X2_knownBy at hf
  refine lv_iload_n hx hb dX2_knownBy_0 rfl (lv_at hl 1 rfl) ?_
  refine lv_iconst (v := 0) hx hb dX2_knownBy_1 rfl ?_
  refine lv_bipush (v := 31) hx hb dX2_knownBy_2 rfl ?_
  obtain ⟨z4, hz4, hf⟩ := bind_s hf
  refine xN_ir hx hb hml hown htg L2_38 23 rfl (c_X11_within l E hz4 _) ⟨⟨rfl, rfl⟩, Nat.le_of_ble_eq_true rfl, Nat.le_of_ble_eq_true rfl⟩ hK hG hA hP hD hS (is := []) rfl rfl rfl hl.1 rfl (Nat.le_of_ble_eq_true rfl) dX2_knownBy_4 (fun H locs hP hD hS => ?_)
  refine lv_if_eq (tgt := 19) hx hb dX2_knownBy_7 (by decide) (fun c7 => ?_) (fun c7 => ?_)
  · have hf := it_t c7 hf
    refine lv_iconst (v := 0) hx hb dX2_knownBy_19 rfl ?_
    exact ret 0 hf nzi hP hS dX2_knownBy_20
  · have hf := it_f c7 hf
    refine lv_aload_n hx hb dX2_knownBy_10 rfl (lv_at hl 0 rfl) ?_
    refine G2_11 hx hb htg hown hK hP 0 rfl dX2_knownBy_11 ?_
    refine lv_iload_n hx hb dX2_knownBy_14 rfl (lv_at hl 1 rfl) ?_
    obtain ⟨g15, hf⟩ := ck_s hf
    refine xiald hx hb hK hP 1 rfl g15 dX2_knownBy_15 ?_
    refine lv_goto (tgt := 20) hx hb dX2_knownBy_16 (by decide) ?_
    exact ret (V1 (Int32.toNatClampNeg x1)) hf nzi hP hS dX2_knownBy_20
theorem dX2_hoursOf_0 : decode cX2_hoursOf 0 = .ok (.iconst 0, 1) := by decide +kernel
theorem dX2_hoursOf_1 : decode cX2_hoursOf 1 = .ok (.istore_n 2, 1) := by decide +kernel
theorem dX2_hoursOf_2 : decode cX2_hoursOf 2 = .ok (.iconst 0, 1) := by decide +kernel
theorem dX2_hoursOf_3 : decode cX2_hoursOf 3 = .ok (.istore_n 3, 1) := by decide +kernel
theorem dX2_hoursOf_4 : decode cX2_hoursOf 4 = .ok (.iload_n 3, 1) := by decide +kernel
theorem dX2_hoursOf_5 : decode cX2_hoursOf 5 = .ok (.aload_n 0, 1) := by decide +kernel
theorem dX2_hoursOf_6 : decode cX2_hoursOf 6 = .ok (.getfield 50, 3) := by decide +kernel
theorem dX2_hoursOf_9 : decode cX2_hoursOf 9 = .ok (.if_icmp .ge 30, 3) := by decide +kernel
theorem dX2_hoursOf_12 : decode cX2_hoursOf 12 = .ok (.iload_n 2, 1) := by decide +kernel
theorem dX2_hoursOf_13 : decode cX2_hoursOf 13 = .ok (.aload_n 0, 1) := by decide +kernel
theorem dX2_hoursOf_14 : decode cX2_hoursOf 14 = .ok (.getfield 53, 3) := by decide +kernel
theorem dX2_hoursOf_17 : decode cX2_hoursOf 17 = .ok (.iload_n 3, 1) := by decide +kernel
theorem dX2_hoursOf_18 : decode cX2_hoursOf 18 = .ok (.iaload, 1) := by decide +kernel
theorem dX2_hoursOf_19 : decode cX2_hoursOf 19 = .ok (.iload_n 1, 1) := by decide +kernel
theorem dX2_hoursOf_20 : decode cX2_hoursOf 20 = .ok (.invokestatic 56, 3) := by decide +kernel
theorem dX2_hoursOf_23 : decode cX2_hoursOf 23 = .ok (.ifCond .eq 7, 3) := by decide +kernel
theorem dX2_hoursOf_26 : decode cX2_hoursOf 26 = .ok (.iconst 1, 1) := by decide +kernel
theorem dX2_hoursOf_27 : decode cX2_hoursOf 27 = .ok (.goto 4, 3) := by decide +kernel
theorem dX2_hoursOf_30 : decode cX2_hoursOf 30 = .ok (.iconst 0, 1) := by decide +kernel
theorem dX2_hoursOf_31 : decode cX2_hoursOf 31 = .ok (.iadd, 1) := by decide +kernel
theorem dX2_hoursOf_32 : decode cX2_hoursOf 32 = .ok (.istore_n 2, 1) := by decide +kernel
theorem dX2_hoursOf_33 : decode cX2_hoursOf 33 = .ok (.iinc 3 1, 3) := by decide +kernel
theorem dX2_hoursOf_36 : decode cX2_hoursOf 36 = .ok (.goto (-32), 3) := by decide +kernel
theorem dX2_hoursOf_39 : decode cX2_hoursOf 39 = .ok (.iload_n 2, 1) := by decide +kernel
theorem dX2_hoursOf_40 : decode cX2_hoursOf 40 = .ok (.ireturn, 1) := by decide +kernel
set_option maxRecDepth 100000 in
theorem c_X2_hoursOf (l : Launch) (E : xE) (a0 a1 : Nat) {T0 : Nat → Int32} {V1 : Nat → Int32} {u0_7 u0_8 u0_9 u0_11 u0_12 u0_13 u0_14 : Nat} {x1 : Int32} {z : Int32} (hf : f_X2_hoursOf T0 V1 x1 = some z) (sz : Nat) : Met l yX2_hoursOf (Cond.code yX2_hoursOf cX2_hoursOf 4 (some .int) :: gw) ({ frames := 1, cells := 0, slots := 0, locals := 21 }) (xPc E [.ref a0, .int x1] [(a0, o3 T0 u0_7 u0_8 u0_9 a1 u0_11 u0_12 u0_13 u0_14), (a1, ai E 12 V1)] sz) (xQi E z [(a0, o3 T0 u0_7 u0_8 u0_9 a1 u0_11 u0_12 u0_13 u0_14), (a1, ai E 12 V1)] [(a0, o3 T0 u0_7 u0_8 u0_9 a1 u0_11 u0_12 u0_13 u0_14), (a1, ai E 12 V1)] sz) 0 0 (va_A [(a0, o3 T0 u0_7 u0_8 u0_9 a1 u0_11 u0_12 u0_13 u0_14), (a1, ai E 12 V1)] sz) := by
  refine xM_i (by decide +kernel) (Nat.le_of_ble_eq_true rfl) ?_
  intro p e s m args below meth c A Q hx hb hml hown htg hK hG hA ret0 H locs ls hP hD hS hl
  have ret : ∀ (z' : Int32) {H : Heap} {locs : List Loc} {pc : Nat} {ls : Array Slot}, some z' = some z → narrow .int (.int z') = .int z' → va_P E.1 vwCl [(a0, o3 T0 u0_7 u0_8 u0_9 a1 u0_11 u0_12 u0_13 u0_14), (a1, ai E 12 V1)] H → va_S A s.heap H locs → decode cX2_hoursOf pc = .ok (.ireturn, 1) → W p l e ({ frames := 1, cells := 0, slots := 0, locals := 21 } : Room) s m args below meth c H locs 0 0 Q (F0 m pc ls [.int z']) := by
    intro z' H locs pc ls h
    cases h
    exact ret0
  replace hl : lv_has ls 4 [(0, .ref a0), (1, .int x1)] := hl
  have b4 : ∀ (n : Nat) (x2 : Int32) (x3 : Int32) (H : Heap) (locs : List Loc) (ls : Array Slot), f_X2_hoursOf_4 T0 V1 x1 n x2 x3 = some z → va_P E.1 vwCl [(a0, o3 T0 u0_7 u0_8 u0_9 a1 u0_11 u0_12 u0_13 u0_14), (a1, ai E 12 V1)] H → va_D A [(a0, o3 T0 u0_7 u0_8 u0_9 a1 u0_11 u0_12 u0_13 u0_14), (a1, ai E 12 V1)] → va_S A s.heap H locs → lv_has ls 4 [(0, .ref a0), (1, .int x1), (2, .int x2), (3, .int x3)] → W p l e ({ frames := 1, cells := 0, slots := 0, locals := 21 } : Room) s m args below meth c H locs 0 0 Q (F0 m 4 ls []) := by
    intro n
    induction n with
    | zero => intro x2 x3 H locs ls hf; exact (nn_s hf).elim
    | succ n ih4 =>
      obtain ⟨k4, ek4⟩ : ∃ k, k = f_X2_hoursOf_4 T0 V1 x1 n := ⟨_, rfl⟩
      rw [← ek4] at ih4
      have b31 : ∀ (x3 : Int32) (s0 : Int32) (s1 : Int32) (H : Heap) (locs : List Loc) (ls : Array Slot), f_X2_hoursOf_31 T0 V1 x1 k4 x3 s0 s1 = some z → va_P E.1 vwCl [(a0, o3 T0 u0_7 u0_8 u0_9 a1 u0_11 u0_12 u0_13 u0_14), (a1, ai E 12 V1)] H → va_D A [(a0, o3 T0 u0_7 u0_8 u0_9 a1 u0_11 u0_12 u0_13 u0_14), (a1, ai E 12 V1)] → va_S A s.heap H locs → lv_has ls 4 [(0, .ref a0), (1, .int x1), (3, .int x3)] → W p l e ({ frames := 1, cells := 0, slots := 0, locals := 21 } : Room) s m args below meth c H locs 0 0 Q (F0 m 31 ls [.int s1, .int s0]) := by
        intro x3 s0 s1 H locs ls hf hP hD hS hl
        unfold f_X2_hoursOf_31 at hf
        refine lv_iadd hx hb dX2_hoursOf_31 ?_
        refine lv_istore_n (lv' := [(2, .int (s0 + s1)), (0, .ref a0), (1, .int x1), (3, .int x3)]) hx hb dX2_hoursOf_32 rfl hl (by decide) rfl (fun ls hl => ?_)
        refine lv_iinc (v := x3 + 1) (lv' := [(3, .int (x3 + 1)), (2, .int (s0 + s1)), (0, .ref a0), (1, .int x1)]) hx hb dX2_hoursOf_33 hl (k := 3) rfl rfl (by decide) rfl (fun ls hl => ?_)
        refine lv_goto (tgt := 4) hx hb dX2_hoursOf_36 (by decide) ?_
        exact ih4 (s0 + s1) (x3 + 1) _ _ _ hf hP hD hS (lv_sub hl [2, 3, 1, 0] rfl)
      intro x2 x3 H locs ls hf hP hD hS hl
      replace hf : g_X2_hoursOf_4 T0 V1 x1 k4 x2 x3 = some z := by rw [ek4]; exact hf
      unfold g_X2_hoursOf_4 at hf
      refine lv_iload_n hx hb dX2_hoursOf_4 rfl (lv_at hl 3 rfl) ?_
      refine lv_aload_n hx hb dX2_hoursOf_5 rfl (lv_at hl 0 rfl) ?_
      refine G2_50 hx hb htg hown hK hP 0 rfl dX2_hoursOf_6 ?_
      refine lv_icmp_ge (tgt := 39) hx hb dX2_hoursOf_9 (by decide) (fun c9 => ?_) (fun c9 => ?_)
      · have hf := it_t c9 hf
        refine lv_iload_n hx hb dX2_hoursOf_39 rfl (lv_at hl 2 rfl) ?_
        exact ret x2 hf nzi hP hS dX2_hoursOf_40
      · have hf := it_f c9 hf
        refine lv_iload_n hx hb dX2_hoursOf_12 rfl (lv_at hl 2 rfl) ?_
        refine lv_aload_n hx hb dX2_hoursOf_13 rfl (lv_at hl 0 rfl) ?_
        refine G2_53 hx hb htg hown hK hP 0 rfl dX2_hoursOf_14 ?_
        refine lv_iload_n hx hb dX2_hoursOf_17 rfl (lv_at hl 3 rfl) ?_
        obtain ⟨g18, hf⟩ := ck_s hf
        refine xiald hx hb hK hP 1 rfl g18 dX2_hoursOf_18 ?_
        refine lv_iload_n hx hb dX2_hoursOf_19 rfl (lv_at hl 1 rfl) ?_
        obtain ⟨z20, hz20, hf⟩ := bind_s hf
        refine xN_ir hx hb hml hown htg L2_56 22 rfl (c_X3_isIn l E hz20 _) ⟨⟨rfl, rfl⟩, Nat.le_of_ble_eq_true rfl, Nat.le_of_ble_eq_true rfl⟩ hK hG hA hP hD hS (is := []) rfl rfl rfl hl.1 rfl (Nat.le_of_ble_eq_true rfl) dX2_hoursOf_20 (fun H locs hP hD hS => ?_)
        refine lv_if_eq (tgt := 30) hx hb dX2_hoursOf_23 (by decide) (fun c23 => ?_) (fun c23 => ?_)
        · have hf := it_t c23 hf
          refine lv_iconst (v := 0) hx hb dX2_hoursOf_30 rfl ?_
          exact b31 x3 x2 0 _ _ _ hf hP hD hS (lv_sub hl [0, 1, 3] rfl)
        · have hf := it_f c23 hf
          refine lv_iconst (v := 1) hx hb dX2_hoursOf_26 rfl ?_
          refine lv_goto (tgt := 31) hx hb dX2_hoursOf_27 (by decide) ?_
          exact b31 x3 x2 1 _ _ _ hf hP hD hS (lv_sub hl [0, 1, 3] rfl)
  unfold f_X2_hoursOf at hf
  refine lv_iconst (v := 0) hx hb dX2_hoursOf_0 rfl ?_
  refine lv_istore_n (lv' := [(2, .int 0), (0, .ref a0), (1, .int x1)]) hx hb dX2_hoursOf_1 rfl hl (by decide) rfl (fun ls hl => ?_)
  refine lv_iconst (v := 0) hx hb dX2_hoursOf_2 rfl ?_
  refine lv_istore_n (lv' := [(3, .int 0), (2, .int 0), (0, .ref a0), (1, .int x1)]) hx hb dX2_hoursOf_3 rfl hl (by decide) rfl (fun ls hl => ?_)
  exact b4 xF 0 0 _ _ _ hf hP hD hS (lv_sub hl [2, 3, 1, 0] rfl)
theorem dX2_bestSet_0 : decode cX2_bestSet 0 = .ok (.iconst 0, 1) := by decide +kernel
theorem dX2_bestSet_1 : decode cX2_bestSet 1 = .ok (.istore_n 3, 1) := by decide +kernel
theorem dX2_bestSet_2 : decode cX2_bestSet 2 = .ok (.iconst 1, 1) := by decide +kernel
theorem dX2_bestSet_3 : decode cX2_bestSet 3 = .ok (.istore 4, 2) := by decide +kernel
theorem dX2_bestSet_5 : decode cX2_bestSet 5 = .ok (.iload 4, 2) := by decide +kernel
theorem dX2_bestSet_7 : decode cX2_bestSet 7 = .ok (.aload_n 1, 1) := by decide +kernel
theorem dX2_bestSet_8 : decode cX2_bestSet 8 = .ok (.invokevirtual 24, 3) := by decide +kernel
theorem dX2_bestSet_11 : decode cX2_bestSet 11 = .ok (.if_icmp .ge 68, 3) := by decide +kernel
theorem dX2_bestSet_14 : decode cX2_bestSet 14 = .ok (.iload 4, 2) := by decide +kernel
theorem dX2_bestSet_16 : decode cX2_bestSet 16 = .ok (.aload_n 1, 1) := by decide +kernel
theorem dX2_bestSet_17 : decode cX2_bestSet 17 = .ok (.getfield 18, 3) := by decide +kernel
theorem dX2_bestSet_20 : decode cX2_bestSet 20 = .ok (.iand, 1) := by decide +kernel
theorem dX2_bestSet_21 : decode cX2_bestSet 21 = .ok (.ifCond .ne 17, 3) := by decide +kernel
theorem dX2_bestSet_24 : decode cX2_bestSet 24 = .ok (.aload_n 1, 1) := by decide +kernel
theorem dX2_bestSet_25 : decode cX2_bestSet 25 = .ok (.iload 4, 2) := by decide +kernel
theorem dX2_bestSet_27 : decode cX2_bestSet 27 = .ok (.invokestatic 42, 3) := by decide +kernel
theorem dX2_bestSet_30 : decode cX2_bestSet 30 = .ok (.iload_n 2, 1) := by decide +kernel
theorem dX2_bestSet_31 : decode cX2_bestSet 31 = .ok (.if_icmp .gt 7, 3) := by decide +kernel
theorem dX2_bestSet_34 : decode cX2_bestSet 34 = .ok (.iconst 1, 1) := by decide +kernel
theorem dX2_bestSet_35 : decode cX2_bestSet 35 = .ok (.goto 4, 3) := by decide +kernel
theorem dX2_bestSet_38 : decode cX2_bestSet 38 = .ok (.iconst 0, 1) := by decide +kernel
theorem dX2_bestSet_39 : decode cX2_bestSet 39 = .ok (.istore 5, 2) := by decide +kernel
theorem dX2_bestSet_41 : decode cX2_bestSet 41 = .ok (.iload 5, 2) := by decide +kernel
theorem dX2_bestSet_43 : decode cX2_bestSet 43 = .ok (.ifCond .eq 30, 3) := by decide +kernel
theorem dX2_bestSet_46 : decode cX2_bestSet 46 = .ok (.aload_n 0, 1) := by decide +kernel
theorem dX2_bestSet_47 : decode cX2_bestSet 47 = .ok (.aload_n 1, 1) := by decide +kernel
theorem dX2_bestSet_48 : decode cX2_bestSet 48 = .ok (.getfield 18, 3) := by decide +kernel
theorem dX2_bestSet_51 : decode cX2_bestSet 51 = .ok (.iload 4, 2) := by decide +kernel
theorem dX2_bestSet_53 : decode cX2_bestSet 53 = .ok (.ior, 1) := by decide +kernel
theorem dX2_bestSet_54 : decode cX2_bestSet 54 = .ok (.invokevirtual 46, 3) := by decide +kernel
theorem dX2_bestSet_57 : decode cX2_bestSet 57 = .ok (.aload_n 0, 1) := by decide +kernel
theorem dX2_bestSet_58 : decode cX2_bestSet 58 = .ok (.aload_n 1, 1) := by decide +kernel
theorem dX2_bestSet_59 : decode cX2_bestSet 59 = .ok (.getfield 18, 3) := by decide +kernel
theorem dX2_bestSet_62 : decode cX2_bestSet 62 = .ok (.iload_n 3, 1) := by decide +kernel
theorem dX2_bestSet_63 : decode cX2_bestSet 63 = .ok (.ior, 1) := by decide +kernel
theorem dX2_bestSet_64 : decode cX2_bestSet 64 = .ok (.invokevirtual 46, 3) := by decide +kernel
theorem dX2_bestSet_67 : decode cX2_bestSet 67 = .ok (.if_icmp .le 6, 3) := by decide +kernel
theorem dX2_bestSet_70 : decode cX2_bestSet 70 = .ok (.iload 4, 2) := by decide +kernel
theorem dX2_bestSet_72 : decode cX2_bestSet 72 = .ok (.istore_n 3, 1) := by decide +kernel
theorem dX2_bestSet_73 : decode cX2_bestSet 73 = .ok (.iinc 4 1, 3) := by decide +kernel
theorem dX2_bestSet_76 : decode cX2_bestSet 76 = .ok (.goto (-71), 3) := by decide +kernel
theorem dX2_bestSet_79 : decode cX2_bestSet 79 = .ok (.iload_n 3, 1) := by decide +kernel
theorem dX2_bestSet_80 : decode cX2_bestSet 80 = .ok (.ireturn, 1) := by decide +kernel
set_option maxRecDepth 100000 in
theorem c_X2_bestSet (l : Launch) (E : xE) (a0 a1 a2 a3 : Nat) {T1 : Nat → Int32} {V2 : Nat → Int32} {V3 : Nat → Int32} {u0_1 u1_7 u1_8 u1_9 u1_11 u1_12 u1_13 u1_14 : Nat} {x2 : Int32} {z : Int32} (hf : f_X2_bestSet T1 V2 V3 x2 = some z) (sz : Nat) : Met l yX2_bestSet (Cond.code yX2_bestSet cX2_bestSet 6 (some .int) :: gw) ({ frames := 2, cells := 0, slots := 0, locals := 44 }) (xPc E [.ref a0, .ref a1, .int x2] [(a0, o2 a3 u0_1), (a1, o3 T1 u1_7 u1_8 u1_9 a2 u1_11 u1_12 u1_13 u1_14), (a2, ai E 12 V2), (a3, ai E 32 V3)] sz) (xQi E z [(a0, o2 a3 u0_1), (a1, o3 T1 u1_7 u1_8 u1_9 a2 u1_11 u1_12 u1_13 u1_14), (a2, ai E 12 V2), (a3, ai E 32 V3)] [(a0, o2 a3 u0_1), (a1, o3 T1 u1_7 u1_8 u1_9 a2 u1_11 u1_12 u1_13 u1_14), (a2, ai E 12 V2), (a3, ai E 32 V3)] sz) 0 0 (va_A [(a0, o2 a3 u0_1), (a1, o3 T1 u1_7 u1_8 u1_9 a2 u1_11 u1_12 u1_13 u1_14), (a2, ai E 12 V2), (a3, ai E 32 V3)] sz) := by
  refine xM_i (by decide +kernel) (Nat.le_of_ble_eq_true rfl) ?_
  intro p e s m args below meth c A Q hx hb hml hown htg hK hG hA ret0 H locs ls hP hD hS hl
  have ret : ∀ (z' : Int32) {H : Heap} {locs : List Loc} {pc : Nat} {ls : Array Slot}, some z' = some z → narrow .int (.int z') = .int z' → va_P E.1 vwCl [(a0, o2 a3 u0_1), (a1, o3 T1 u1_7 u1_8 u1_9 a2 u1_11 u1_12 u1_13 u1_14), (a2, ai E 12 V2), (a3, ai E 32 V3)] H → va_S A s.heap H locs → decode cX2_bestSet pc = .ok (.ireturn, 1) → W p l e ({ frames := 2, cells := 0, slots := 0, locals := 44 } : Room) s m args below meth c H locs 0 0 Q (F0 m pc ls [.int z']) := by
    intro z' H locs pc ls h
    cases h
    exact ret0
  replace hl : lv_has ls 6 [(0, .ref a0), (1, .ref a1), (2, .int x2)] := hl
  have b5 : ∀ (n : Nat) (x3 : Int32) (x4 : Int32) (H : Heap) (locs : List Loc) (ls : Array Slot), f_X2_bestSet_5 T1 V2 V3 x2 n x3 x4 = some z → va_P E.1 vwCl [(a0, o2 a3 u0_1), (a1, o3 T1 u1_7 u1_8 u1_9 a2 u1_11 u1_12 u1_13 u1_14), (a2, ai E 12 V2), (a3, ai E 32 V3)] H → va_D A [(a0, o2 a3 u0_1), (a1, o3 T1 u1_7 u1_8 u1_9 a2 u1_11 u1_12 u1_13 u1_14), (a2, ai E 12 V2), (a3, ai E 32 V3)] → va_S A s.heap H locs → lv_has ls 6 [(0, .ref a0), (1, .ref a1), (2, .int x2), (3, .int x3), (4, .int x4)] → W p l e ({ frames := 2, cells := 0, slots := 0, locals := 44 } : Room) s m args below meth c H locs 0 0 Q (F0 m 5 ls []) := by
    intro n
    induction n with
    | zero => intro x3 x4 H locs ls hf; exact (nn_s hf).elim
    | succ n ih5 =>
      obtain ⟨k5, ek5⟩ : ∃ k, k = f_X2_bestSet_5 T1 V2 V3 x2 n := ⟨_, rfl⟩
      rw [← ek5] at ih5
      have b39 : ∀ (x3 : Int32) (x4 : Int32) (s0 : Int32) (H : Heap) (locs : List Loc) (ls : Array Slot), f_X2_bestSet_39 T1 V2 V3 x2 k5 x3 x4 s0 = some z → va_P E.1 vwCl [(a0, o2 a3 u0_1), (a1, o3 T1 u1_7 u1_8 u1_9 a2 u1_11 u1_12 u1_13 u1_14), (a2, ai E 12 V2), (a3, ai E 32 V3)] H → va_D A [(a0, o2 a3 u0_1), (a1, o3 T1 u1_7 u1_8 u1_9 a2 u1_11 u1_12 u1_13 u1_14), (a2, ai E 12 V2), (a3, ai E 32 V3)] → va_S A s.heap H locs → lv_has ls 6 [(0, .ref a0), (1, .ref a1), (2, .int x2), (3, .int x3), (4, .int x4)] → W p l e ({ frames := 2, cells := 0, slots := 0, locals := 44 } : Room) s m args below meth c H locs 0 0 Q (F0 m 39 ls [.int s0]) := by
        intro x3 x4 s0 H locs ls hf hP hD hS hl
        unfold f_X2_bestSet_39 at hf
        refine lv_istore (lv' := [(5, .int s0), (0, .ref a0), (1, .ref a1), (2, .int x2), (3, .int x3), (4, .int x4)]) hx hb dX2_bestSet_39 hl (by decide) rfl (fun ls hl => ?_)
        refine lv_iload hx hb dX2_bestSet_41 (lv_at hl 0 rfl) ?_
        refine lv_if_eq (tgt := 73) hx hb dX2_bestSet_43 (by decide) (fun c43 => ?_) (fun c43 => ?_)
        · have hf := it_t c43 hf
          refine lv_iinc (v := x4 + 1) (lv' := [(4, .int (x4 + 1)), (5, .int s0), (0, .ref a0), (1, .ref a1), (2, .int x2), (3, .int x3)]) hx hb dX2_bestSet_73 hl (k := 5) rfl rfl (by decide) rfl (fun ls hl => ?_)
          refine lv_goto (tgt := 5) hx hb dX2_bestSet_76 (by decide) ?_
          exact ih5 x3 (x4 + 1) _ _ _ hf hP hD hS (lv_sub hl [2, 3, 4, 5, 0] rfl)
        · have hf := it_f c43 hf
          refine lv_aload_n hx hb dX2_bestSet_46 rfl (lv_at hl 1 rfl) ?_
          refine lv_aload_n hx hb dX2_bestSet_47 rfl (lv_at hl 2 rfl) ?_
          refine G2_18 hx hb htg hown hK hP 1 rfl dX2_bestSet_48 ?_
          refine lv_iload hx hb dX2_bestSet_51 (lv_at hl 5 rfl) ?_
          refine lv_ior hx hb dX2_bestSet_53 ?_
          obtain ⟨z54, hz54, hf⟩ := bind_s hf
          refine xV_ir hx hb hml hown htg L2_46 (c_X2_knownBy l E a0 a3 hz54 _) ⟨⟨rfl, rfl⟩, Nat.le_of_ble_eq_true rfl, Nat.le_of_ble_eq_true rfl⟩ hK hG hA hP hD hS (is := [0, 3]) rfl rfl (xrecv hK hP (q0 := 0) (ci := 2) rfl rfl) rfl hl.1 rfl (Nat.le_of_ble_eq_true rfl) dX2_bestSet_54 (fun H locs hP hD hS => ?_)
          refine lv_aload_n hx hb dX2_bestSet_57 rfl (lv_at hl 1 rfl) ?_
          refine lv_aload_n hx hb dX2_bestSet_58 rfl (lv_at hl 2 rfl) ?_
          refine G2_18 hx hb htg hown hK hP 1 rfl dX2_bestSet_59 ?_
          refine lv_iload_n hx hb dX2_bestSet_62 rfl (lv_at hl 4 rfl) ?_
          refine lv_ior hx hb dX2_bestSet_63 ?_
          obtain ⟨z64, hz64, hf⟩ := bind_s hf
          refine xV_ir hx hb hml hown htg L2_46 (c_X2_knownBy l E a0 a3 hz64 _) ⟨⟨rfl, rfl⟩, Nat.le_of_ble_eq_true rfl, Nat.le_of_ble_eq_true rfl⟩ hK hG hA hP hD hS (is := [0, 3]) rfl rfl (xrecv hK hP (q0 := 0) (ci := 2) rfl rfl) rfl hl.1 rfl (Nat.le_of_ble_eq_true rfl) dX2_bestSet_64 (fun H locs hP hD hS => ?_)
          refine lv_icmp_le (tgt := 73) hx hb dX2_bestSet_67 (by decide) (fun c67 => ?_) (fun c67 => ?_)
          · have hf := it_t c67 hf
            refine lv_iinc (v := x4 + 1) (lv' := [(4, .int (x4 + 1)), (5, .int s0), (0, .ref a0), (1, .ref a1), (2, .int x2), (3, .int x3)]) hx hb dX2_bestSet_73 hl (k := 5) rfl rfl (by decide) rfl (fun ls hl => ?_)
            refine lv_goto (tgt := 5) hx hb dX2_bestSet_76 (by decide) ?_
            exact ih5 x3 (x4 + 1) _ _ _ hf hP hD hS (lv_sub hl [2, 3, 4, 5, 0] rfl)
          · have hf := it_f c67 hf
            refine lv_iload hx hb dX2_bestSet_70 (lv_at hl 5 rfl) ?_
            refine lv_istore_n (lv' := [(3, .int x4), (5, .int s0), (0, .ref a0), (1, .ref a1), (2, .int x2), (4, .int x4)]) hx hb dX2_bestSet_72 rfl hl (by decide) rfl (fun ls hl => ?_)
            refine lv_iinc (v := x4 + 1) (lv' := [(4, .int (x4 + 1)), (3, .int x4), (5, .int s0), (0, .ref a0), (1, .ref a1), (2, .int x2)]) hx hb dX2_bestSet_73 hl (k := 5) rfl rfl (by decide) rfl (fun ls hl => ?_)
            refine lv_goto (tgt := 5) hx hb dX2_bestSet_76 (by decide) ?_
            exact ih5 x4 (x4 + 1) _ _ _ hf hP hD hS (lv_sub hl [3, 4, 5, 1, 0] rfl)
      have b38 : ∀ (x3 : Int32) (x4 : Int32) (H : Heap) (locs : List Loc) (ls : Array Slot), f_X2_bestSet_38 T1 V2 V3 x2 k5 x3 x4 = some z → va_P E.1 vwCl [(a0, o2 a3 u0_1), (a1, o3 T1 u1_7 u1_8 u1_9 a2 u1_11 u1_12 u1_13 u1_14), (a2, ai E 12 V2), (a3, ai E 32 V3)] H → va_D A [(a0, o2 a3 u0_1), (a1, o3 T1 u1_7 u1_8 u1_9 a2 u1_11 u1_12 u1_13 u1_14), (a2, ai E 12 V2), (a3, ai E 32 V3)] → va_S A s.heap H locs → lv_has ls 6 [(0, .ref a0), (1, .ref a1), (2, .int x2), (3, .int x3), (4, .int x4)] → W p l e ({ frames := 2, cells := 0, slots := 0, locals := 44 } : Room) s m args below meth c H locs 0 0 Q (F0 m 38 ls []) := by
        intro x3 x4 H locs ls hf hP hD hS hl
        unfold f_X2_bestSet_38 at hf
        refine lv_iconst (v := 0) hx hb dX2_bestSet_38 rfl ?_
        exact b39 x3 x4 0 _ _ _ hf hP hD hS (lv_sub hl [0, 1, 2, 3, 4] rfl)
      intro x3 x4 H locs ls hf hP hD hS hl
      replace hf : g_X2_bestSet_5 T1 V2 V3 x2 k5 x3 x4 = some z := by rw [ek5]; exact hf
      unfold g_X2_bestSet_5 at hf
      refine lv_iload hx hb dX2_bestSet_5 (lv_at hl 4 rfl) ?_
      refine lv_aload_n hx hb dX2_bestSet_7 rfl (lv_at hl 1 rfl) ?_
      obtain ⟨z8, hz8, hf⟩ := bind_s hf
      refine xV_ir hx hb hml hown htg L2_24 (c_X3_sets l E a1 hz8 _) ⟨⟨rfl, rfl⟩, Nat.le_of_ble_eq_true rfl, Nat.le_of_ble_eq_true rfl⟩ hK hG hA hP hD hS (is := [1]) rfl rfl (xrecv hK hP (q0 := 1) (ci := 3) rfl rfl) rfl hl.1 rfl (Nat.le_of_ble_eq_true rfl) dX2_bestSet_8 (fun H locs hP hD hS => ?_)
      refine lv_icmp_ge (tgt := 79) hx hb dX2_bestSet_11 (by decide) (fun c11 => ?_) (fun c11 => ?_)
      · have hf := it_t c11 hf
        refine lv_iload_n hx hb dX2_bestSet_79 rfl (lv_at hl 3 rfl) ?_
        exact ret x3 hf nzi hP hS dX2_bestSet_80
      · have hf := it_f c11 hf
        refine lv_iload hx hb dX2_bestSet_14 (lv_at hl 4 rfl) ?_
        refine lv_aload_n hx hb dX2_bestSet_16 rfl (lv_at hl 1 rfl) ?_
        refine G2_18 hx hb htg hown hK hP 1 rfl dX2_bestSet_17 ?_
        refine lv_iand hx hb dX2_bestSet_20 ?_
        refine lv_if_ne (tgt := 38) hx hb dX2_bestSet_21 (by decide) (fun c21 => ?_) (fun c21 => ?_)
        · have hf := it_f c21 hf
          exact b38 x3 x4 _ _ _ hf hP hD hS (lv_sub hl [0, 1, 2, 3, 4] rfl)
        · have hf := it_t c21 hf
          refine lv_aload_n hx hb dX2_bestSet_24 rfl (lv_at hl 1 rfl) ?_
          refine lv_iload hx hb dX2_bestSet_25 (lv_at hl 4 rfl) ?_
          obtain ⟨z27, hz27, hf⟩ := bind_s hf
          refine xS_ir hx hb hml hown htg L2_42 (c_X2_hoursOf l E a1 a2 hz27 _) ⟨⟨rfl, rfl⟩, Nat.le_of_ble_eq_true rfl, Nat.le_of_ble_eq_true rfl⟩ hK hG hA hP hD hS (is := [1, 2]) rfl rfl rfl hl.1 rfl (Nat.le_of_ble_eq_true rfl) dX2_bestSet_27 (fun H locs hP hD hS => ?_)
          refine lv_iload_n hx hb dX2_bestSet_30 rfl (lv_at hl 2 rfl) ?_
          refine lv_icmp_gt (tgt := 38) hx hb dX2_bestSet_31 (by decide) (fun c31 => ?_) (fun c31 => ?_)
          · have hf := it_t c31 hf
            exact b38 x3 x4 _ _ _ hf hP hD hS (lv_sub hl [0, 1, 2, 3, 4] rfl)
          · have hf := it_f c31 hf
            refine lv_iconst (v := 1) hx hb dX2_bestSet_34 rfl ?_
            refine lv_goto (tgt := 39) hx hb dX2_bestSet_35 (by decide) ?_
            exact b39 x3 x4 1 _ _ _ hf hP hD hS (lv_sub hl [0, 1, 2, 3, 4] rfl)
  unfold f_X2_bestSet at hf
  refine lv_iconst (v := 0) hx hb dX2_bestSet_0 rfl ?_
  refine lv_istore_n (lv' := [(3, .int 0), (0, .ref a0), (1, .ref a1), (2, .int x2)]) hx hb dX2_bestSet_1 rfl hl (by decide) rfl (fun ls hl => ?_)
  refine lv_iconst (v := 1) hx hb dX2_bestSet_2 rfl ?_
  refine lv_istore (lv' := [(4, .int 1), (3, .int 0), (0, .ref a0), (1, .ref a1), (2, .int x2)]) hx hb dX2_bestSet_3 hl (by decide) rfl (fun ls hl => ?_)
  exact b5 xF 0 1 _ _ _ hf hP hD hS (lv_sub hl [2, 3, 4, 1, 0] rfl)
theorem dX2_creditFrom_0 : decode cX2_creditFrom 0 = .ok (.iload_n 1, 1) := by decide +kernel
theorem dX2_creditFrom_1 : decode cX2_creditFrom 1 = .ok (.iconst 0, 1) := by decide +kernel
theorem dX2_creditFrom_2 : decode cX2_creditFrom 2 = .ok (.bipush 31, 2) := by decide +kernel
theorem dX2_creditFrom_4 : decode cX2_creditFrom 4 = .ok (.invokestatic 38, 3) := by decide +kernel
theorem dX2_creditFrom_7 : decode cX2_creditFrom 7 = .ok (.ifCond .eq 12, 3) := by decide +kernel
theorem dX2_creditFrom_10 : decode cX2_creditFrom 10 = .ok (.aload_n 0, 1) := by decide +kernel
theorem dX2_creditFrom_11 : decode cX2_creditFrom 11 = .ok (.getfield 15, 3) := by decide +kernel
theorem dX2_creditFrom_14 : decode cX2_creditFrom 14 = .ok (.iload_n 1, 1) := by decide +kernel
theorem dX2_creditFrom_15 : decode cX2_creditFrom 15 = .ok (.iaload, 1) := by decide +kernel
theorem dX2_creditFrom_16 : decode cX2_creditFrom 16 = .ok (.goto 4, 3) := by decide +kernel
theorem dX2_creditFrom_19 : decode cX2_creditFrom 19 = .ok (.iconst 0, 1) := by decide +kernel
theorem dX2_creditFrom_20 : decode cX2_creditFrom 20 = .ok (.ireturn, 1) := by decide +kernel
set_option maxRecDepth 100000 in
theorem c_X2_creditFrom (l : Launch) (E : xE) (a0 a1 : Nat) {V1 : Nat → Int32} {u0_0 : Nat} {x1 : Int32} {z : Int32} (hf : f_X2_creditFrom V1 x1 = some z) (sz : Nat) : Met l yX2_creditFrom (Cond.code yX2_creditFrom cX2_creditFrom 2 (some .int) :: gw) ({ frames := 1, cells := 0, slots := 0, locals := 22 }) (xPc E [.ref a0, .int x1] [(a0, o2 u0_0 a1), (a1, ai E 32 V1)] sz) (xQi E z [(a0, o2 u0_0 a1), (a1, ai E 32 V1)] [(a0, o2 u0_0 a1), (a1, ai E 32 V1)] sz) 0 0 (va_A [(a0, o2 u0_0 a1), (a1, ai E 32 V1)] sz) := by
  refine xM_i (by decide +kernel) (Nat.le_of_ble_eq_true rfl) ?_
  intro p e s m args below meth c A Q hx hb hml hown htg hK hG hA ret0 H locs ls hP hD hS hl
  have ret : ∀ (z' : Int32) {H : Heap} {locs : List Loc} {pc : Nat} {ls : Array Slot}, some z' = some z → narrow .int (.int z') = .int z' → va_P E.1 vwCl [(a0, o2 u0_0 a1), (a1, ai E 32 V1)] H → va_S A s.heap H locs → decode cX2_creditFrom pc = .ok (.ireturn, 1) → W p l e ({ frames := 1, cells := 0, slots := 0, locals := 22 } : Room) s m args below meth c H locs 0 0 Q (F0 m pc ls [.int z']) := by
    intro z' H locs pc ls h
    cases h
    exact ret0
  replace hl : lv_has ls 2 [(0, .ref a0), (1, .int x1)] := hl
  unfold f_X2_creditFrom at hf
  refine lv_iload_n hx hb dX2_creditFrom_0 rfl (lv_at hl 1 rfl) ?_
  refine lv_iconst (v := 0) hx hb dX2_creditFrom_1 rfl ?_
  refine lv_bipush (v := 31) hx hb dX2_creditFrom_2 rfl ?_
  obtain ⟨z4, hz4, hf⟩ := bind_s hf
  refine xN_ir hx hb hml hown htg L2_38 23 rfl (c_X11_within l E hz4 _) ⟨⟨rfl, rfl⟩, Nat.le_of_ble_eq_true rfl, Nat.le_of_ble_eq_true rfl⟩ hK hG hA hP hD hS (is := []) rfl rfl rfl hl.1 rfl (Nat.le_of_ble_eq_true rfl) dX2_creditFrom_4 (fun H locs hP hD hS => ?_)
  refine lv_if_eq (tgt := 19) hx hb dX2_creditFrom_7 (by decide) (fun c7 => ?_) (fun c7 => ?_)
  · have hf := it_t c7 hf
    refine lv_iconst (v := 0) hx hb dX2_creditFrom_19 rfl ?_
    exact ret 0 hf nzi hP hS dX2_creditFrom_20
  · have hf := it_f c7 hf
    refine lv_aload_n hx hb dX2_creditFrom_10 rfl (lv_at hl 0 rfl) ?_
    refine G2_15 hx hb htg hown hK hP 0 rfl dX2_creditFrom_11 ?_
    refine lv_iload_n hx hb dX2_creditFrom_14 rfl (lv_at hl 1 rfl) ?_
    obtain ⟨g15, hf⟩ := ck_s hf
    refine xiald hx hb hK hP 1 rfl g15 dX2_creditFrom_15 ?_
    refine lv_goto (tgt := 20) hx hb dX2_creditFrom_16 (by decide) ?_
    exact ret (V1 (Int32.toNatClampNeg x1)) hf nzi hP hS dX2_creditFrom_20
theorem dX2_creditOfMove_0 : decode cX2_creditOfMove 0 = .ok (.iload_n 1, 1) := by decide +kernel
theorem dX2_creditOfMove_1 : decode cX2_creditOfMove 1 = .ok (.iconst 1, 1) := by decide +kernel
theorem dX2_creditOfMove_2 : decode cX2_creditOfMove 2 = .ok (.iload_n 2, 1) := by decide +kernel
theorem dX2_creditOfMove_3 : decode cX2_creditOfMove 3 = .ok (.ishl, 1) := by decide +kernel
theorem dX2_creditOfMove_4 : decode cX2_creditOfMove 4 = .ok (.ior, 1) := by decide +kernel
theorem dX2_creditOfMove_5 : decode cX2_creditOfMove 5 = .ok (.istore_n 3, 1) := by decide +kernel
theorem dX2_creditOfMove_6 : decode cX2_creditOfMove 6 = .ok (.aload_n 0, 1) := by decide +kernel
theorem dX2_creditOfMove_7 : decode cX2_creditOfMove 7 = .ok (.iload_n 3, 1) := by decide +kernel
theorem dX2_creditOfMove_8 : decode cX2_creditOfMove 8 = .ok (.invokevirtual 46, 3) := by decide +kernel
theorem dX2_creditOfMove_11 : decode cX2_creditOfMove 11 = .ok (.aload_n 0, 1) := by decide +kernel
theorem dX2_creditOfMove_12 : decode cX2_creditOfMove 12 = .ok (.iload_n 1, 1) := by decide +kernel
theorem dX2_creditOfMove_13 : decode cX2_creditOfMove 13 = .ok (.invokevirtual 46, 3) := by decide +kernel
theorem dX2_creditOfMove_16 : decode cX2_creditOfMove 16 = .ok (.isub, 1) := by decide +kernel
theorem dX2_creditOfMove_17 : decode cX2_creditOfMove 17 = .ok (.aload_n 0, 1) := by decide +kernel
theorem dX2_creditOfMove_18 : decode cX2_creditOfMove 18 = .ok (.iload_n 3, 1) := by decide +kernel
theorem dX2_creditOfMove_19 : decode cX2_creditOfMove 19 = .ok (.invokevirtual 80, 3) := by decide +kernel
theorem dX2_creditOfMove_22 : decode cX2_creditOfMove 22 = .ok (.isub, 1) := by decide +kernel
theorem dX2_creditOfMove_23 : decode cX2_creditOfMove 23 = .ok (.ireturn, 1) := by decide +kernel
set_option maxRecDepth 100000 in
theorem c_X2_creditOfMove (l : Launch) (E : xE) (a0 a1 a2 : Nat) {V1 : Nat → Int32} {V2 : Nat → Int32} {x1 : Int32} {x2 : Int32} {z : Int32} (hf : f_X2_creditOfMove V1 V2 x1 x2 = some z) (sz : Nat) : Met l yX2_creditOfMove (Cond.code yX2_creditOfMove cX2_creditOfMove 4 (some .int) :: gw) ({ frames := 2, cells := 0, slots := 0, locals := 43 }) (xPc E [.ref a0, .int x1, .int x2] [(a0, o2 a1 a2), (a1, ai E 32 V1), (a2, ai E 32 V2)] sz) (xQi E z [(a0, o2 a1 a2), (a1, ai E 32 V1), (a2, ai E 32 V2)] [(a0, o2 a1 a2), (a1, ai E 32 V1), (a2, ai E 32 V2)] sz) 0 0 (va_A [(a0, o2 a1 a2), (a1, ai E 32 V1), (a2, ai E 32 V2)] sz) := by
  refine xM_i (by decide +kernel) (Nat.le_of_ble_eq_true rfl) ?_
  intro p e s m args below meth c A Q hx hb hml hown htg hK hG hA ret0 H locs ls hP hD hS hl
  have ret : ∀ (z' : Int32) {H : Heap} {locs : List Loc} {pc : Nat} {ls : Array Slot}, some z' = some z → narrow .int (.int z') = .int z' → va_P E.1 vwCl [(a0, o2 a1 a2), (a1, ai E 32 V1), (a2, ai E 32 V2)] H → va_S A s.heap H locs → decode cX2_creditOfMove pc = .ok (.ireturn, 1) → W p l e ({ frames := 2, cells := 0, slots := 0, locals := 43 } : Room) s m args below meth c H locs 0 0 Q (F0 m pc ls [.int z']) := by
    intro z' H locs pc ls h
    cases h
    exact ret0
  replace hl : lv_has ls 4 [(0, .ref a0), (1, .int x1), (2, .int x2)] := hl
  unfold f_X2_creditOfMove at hf
  refine lv_iload_n hx hb dX2_creditOfMove_0 rfl (lv_at hl 1 rfl) ?_
  refine lv_iconst (v := 1) hx hb dX2_creditOfMove_1 rfl ?_
  refine lv_iload_n hx hb dX2_creditOfMove_2 rfl (lv_at hl 2 rfl) ?_
  refine lv_ishl hx hb dX2_creditOfMove_3 ?_
  refine lv_ior hx hb dX2_creditOfMove_4 ?_
  refine lv_istore_n (lv' := [(3, .int (x1 ||| (1 <<< (x2 &&& 31)))), (0, .ref a0), (1, .int x1), (2, .int x2)]) hx hb dX2_creditOfMove_5 rfl hl (by decide) rfl (fun ls hl => ?_)
  refine lv_aload_n hx hb dX2_creditOfMove_6 rfl (lv_at hl 1 rfl) ?_
  refine lv_iload_n hx hb dX2_creditOfMove_7 rfl (lv_at hl 0 rfl) ?_
  obtain ⟨z8, hz8, hf⟩ := bind_s hf
  refine xV_ir hx hb hml hown htg L2_46 (c_X2_knownBy l E a0 a1 hz8 _) ⟨⟨rfl, rfl⟩, Nat.le_of_ble_eq_true rfl, Nat.le_of_ble_eq_true rfl⟩ hK hG hA hP hD hS (is := [0, 1]) rfl rfl (xrecv hK hP (q0 := 0) (ci := 2) rfl rfl) rfl hl.1 rfl (Nat.le_of_ble_eq_true rfl) dX2_creditOfMove_8 (fun H locs hP hD hS => ?_)
  refine lv_aload_n hx hb dX2_creditOfMove_11 rfl (lv_at hl 1 rfl) ?_
  refine lv_iload_n hx hb dX2_creditOfMove_12 rfl (lv_at hl 2 rfl) ?_
  obtain ⟨z13, hz13, hf⟩ := bind_s hf
  refine xV_ir hx hb hml hown htg L2_46 (c_X2_knownBy l E a0 a1 hz13 _) ⟨⟨rfl, rfl⟩, Nat.le_of_ble_eq_true rfl, Nat.le_of_ble_eq_true rfl⟩ hK hG hA hP hD hS (is := [0, 1]) rfl rfl (xrecv hK hP (q0 := 0) (ci := 2) rfl rfl) rfl hl.1 rfl (Nat.le_of_ble_eq_true rfl) dX2_creditOfMove_13 (fun H locs hP hD hS => ?_)
  refine lv_isub hx hb dX2_creditOfMove_16 ?_
  refine lv_aload_n hx hb dX2_creditOfMove_17 rfl (lv_at hl 1 rfl) ?_
  refine lv_iload_n hx hb dX2_creditOfMove_18 rfl (lv_at hl 0 rfl) ?_
  obtain ⟨z19, hz19, hf⟩ := bind_s hf
  refine xV_ir hx hb hml hown htg L2_80 (c_X2_creditFrom l E a0 a2 hz19 _) ⟨⟨rfl, rfl⟩, Nat.le_of_ble_eq_true rfl, Nat.le_of_ble_eq_true rfl⟩ hK hG hA hP hD hS (is := [0, 2]) rfl rfl (xrecv hK hP (q0 := 0) (ci := 2) rfl rfl) rfl hl.1 rfl (Nat.le_of_ble_eq_true rfl) dX2_creditOfMove_19 (fun H locs hP hD hS => ?_)
  refine lv_isub hx hb dX2_creditOfMove_22 ?_
  exact ret ((z8 - z13) - z19) hf nzi hP hS dX2_creditOfMove_23
theorem dX2_bestCredit_0 : decode cX2_bestCredit 0 = .ok (.aload_n 0, 1) := by decide +kernel
theorem dX2_bestCredit_1 : decode cX2_bestCredit 1 = .ok (.iload_n 2, 1) := by decide +kernel
theorem dX2_bestCredit_2 : decode cX2_bestCredit 2 = .ok (.invokevirtual 80, 3) := by decide +kernel
theorem dX2_bestCredit_5 : decode cX2_bestCredit 5 = .ok (.ineg, 1) := by decide +kernel
theorem dX2_bestCredit_6 : decode cX2_bestCredit 6 = .ok (.istore_n 3, 1) := by decide +kernel
theorem dX2_bestCredit_7 : decode cX2_bestCredit 7 = .ok (.iconst 0, 1) := by decide +kernel
theorem dX2_bestCredit_8 : decode cX2_bestCredit 8 = .ok (.istore 4, 2) := by decide +kernel
theorem dX2_bestCredit_10 : decode cX2_bestCredit 10 = .ok (.iload 4, 2) := by decide +kernel
theorem dX2_bestCredit_12 : decode cX2_bestCredit 12 = .ok (.aload_n 1, 1) := by decide +kernel
theorem dX2_bestCredit_13 : decode cX2_bestCredit 13 = .ok (.getfield 69, 3) := by decide +kernel
theorem dX2_bestCredit_16 : decode cX2_bestCredit 16 = .ok (.if_icmp .ge 30, 3) := by decide +kernel
theorem dX2_bestCredit_19 : decode cX2_bestCredit 19 = .ok (.iload 4, 2) := by decide +kernel
theorem dX2_bestCredit_21 : decode cX2_bestCredit 21 = .ok (.iload_n 2, 1) := by decide +kernel
theorem dX2_bestCredit_22 : decode cX2_bestCredit 22 = .ok (.invokestatic 56, 3) := by decide +kernel
theorem dX2_bestCredit_25 : decode cX2_bestCredit 25 = .ok (.ifCond .ne 15, 3) := by decide +kernel
theorem dX2_bestCredit_28 : decode cX2_bestCredit 28 = .ok (.iload_n 3, 1) := by decide +kernel
theorem dX2_bestCredit_29 : decode cX2_bestCredit 29 = .ok (.aload_n 0, 1) := by decide +kernel
theorem dX2_bestCredit_30 : decode cX2_bestCredit 30 = .ok (.iload_n 2, 1) := by decide +kernel
theorem dX2_bestCredit_31 : decode cX2_bestCredit 31 = .ok (.iload 4, 2) := by decide +kernel
theorem dX2_bestCredit_33 : decode cX2_bestCredit 33 = .ok (.invokevirtual 76, 3) := by decide +kernel
theorem dX2_bestCredit_36 : decode cX2_bestCredit 36 = .ok (.invokestatic 83, 3) := by decide +kernel
theorem dX2_bestCredit_39 : decode cX2_bestCredit 39 = .ok (.istore_n 3, 1) := by decide +kernel
theorem dX2_bestCredit_40 : decode cX2_bestCredit 40 = .ok (.iinc 4 1, 3) := by decide +kernel
theorem dX2_bestCredit_43 : decode cX2_bestCredit 43 = .ok (.goto (-33), 3) := by decide +kernel
theorem dX2_bestCredit_46 : decode cX2_bestCredit 46 = .ok (.iload_n 3, 1) := by decide +kernel
theorem dX2_bestCredit_47 : decode cX2_bestCredit 47 = .ok (.ireturn, 1) := by decide +kernel
set_option maxRecDepth 100000 in
theorem c_X2_bestCredit (l : Launch) (E : xE) (a0 a1 a2 a3 : Nat) {T1 : Nat → Int32} {V2 : Nat → Int32} {V3 : Nat → Int32} {u1_7 u1_8 u1_9 u1_10 u1_11 u1_12 u1_13 u1_14 : Nat} {x2 : Int32} {z : Int32} (hf : f_X2_bestCredit T1 V2 V3 x2 = some z) (sz : Nat) : Met l yX2_bestCredit (Cond.code yX2_bestCredit cX2_bestCredit 5 (some .int) :: gw) ({ frames := 3, cells := 0, slots := 0, locals := 66 }) (xPc E [.ref a0, .ref a1, .int x2] [(a0, o2 a3 a2), (a1, o3 T1 u1_7 u1_8 u1_9 u1_10 u1_11 u1_12 u1_13 u1_14), (a2, ai E 32 V2), (a3, ai E 32 V3)] sz) (xQi E z [(a0, o2 a3 a2), (a1, o3 T1 u1_7 u1_8 u1_9 u1_10 u1_11 u1_12 u1_13 u1_14), (a2, ai E 32 V2), (a3, ai E 32 V3)] [(a0, o2 a3 a2), (a1, o3 T1 u1_7 u1_8 u1_9 u1_10 u1_11 u1_12 u1_13 u1_14), (a2, ai E 32 V2), (a3, ai E 32 V3)] sz) 0 0 (va_A [(a0, o2 a3 a2), (a1, o3 T1 u1_7 u1_8 u1_9 u1_10 u1_11 u1_12 u1_13 u1_14), (a2, ai E 32 V2), (a3, ai E 32 V3)] sz) := by
  refine xM_i (by decide +kernel) (Nat.le_of_ble_eq_true rfl) ?_
  intro p e s m args below meth c A Q hx hb hml hown htg hK hG hA ret0 H locs ls hP hD hS hl
  have ret : ∀ (z' : Int32) {H : Heap} {locs : List Loc} {pc : Nat} {ls : Array Slot}, some z' = some z → narrow .int (.int z') = .int z' → va_P E.1 vwCl [(a0, o2 a3 a2), (a1, o3 T1 u1_7 u1_8 u1_9 u1_10 u1_11 u1_12 u1_13 u1_14), (a2, ai E 32 V2), (a3, ai E 32 V3)] H → va_S A s.heap H locs → decode cX2_bestCredit pc = .ok (.ireturn, 1) → W p l e ({ frames := 3, cells := 0, slots := 0, locals := 66 } : Room) s m args below meth c H locs 0 0 Q (F0 m pc ls [.int z']) := by
    intro z' H locs pc ls h
    cases h
    exact ret0
  replace hl : lv_has ls 5 [(0, .ref a0), (1, .ref a1), (2, .int x2)] := hl
  have b10 : ∀ (n : Nat) (x3 : Int32) (x4 : Int32) (H : Heap) (locs : List Loc) (ls : Array Slot), f_X2_bestCredit_10 T1 V2 V3 x2 n x3 x4 = some z → va_P E.1 vwCl [(a0, o2 a3 a2), (a1, o3 T1 u1_7 u1_8 u1_9 u1_10 u1_11 u1_12 u1_13 u1_14), (a2, ai E 32 V2), (a3, ai E 32 V3)] H → va_D A [(a0, o2 a3 a2), (a1, o3 T1 u1_7 u1_8 u1_9 u1_10 u1_11 u1_12 u1_13 u1_14), (a2, ai E 32 V2), (a3, ai E 32 V3)] → va_S A s.heap H locs → lv_has ls 5 [(0, .ref a0), (1, .ref a1), (2, .int x2), (3, .int x3), (4, .int x4)] → W p l e ({ frames := 3, cells := 0, slots := 0, locals := 66 } : Room) s m args below meth c H locs 0 0 Q (F0 m 10 ls []) := by
    intro n
    induction n with
    | zero => intro x3 x4 H locs ls hf; exact (nn_s hf).elim
    | succ n ih10 =>
      obtain ⟨k10, ek10⟩ : ∃ k, k = f_X2_bestCredit_10 T1 V2 V3 x2 n := ⟨_, rfl⟩
      rw [← ek10] at ih10
      intro x3 x4 H locs ls hf hP hD hS hl
      replace hf : g_X2_bestCredit_10 T1 V2 V3 x2 k10 x3 x4 = some z := by rw [ek10]; exact hf
      unfold g_X2_bestCredit_10 at hf
      refine lv_iload hx hb dX2_bestCredit_10 (lv_at hl 4 rfl) ?_
      refine lv_aload_n hx hb dX2_bestCredit_12 rfl (lv_at hl 1 rfl) ?_
      refine G2_69 hx hb htg hown hK hP 1 rfl dX2_bestCredit_13 ?_
      refine lv_icmp_ge (tgt := 46) hx hb dX2_bestCredit_16 (by decide) (fun c16 => ?_) (fun c16 => ?_)
      · have hf := it_t c16 hf
        refine lv_iload_n hx hb dX2_bestCredit_46 rfl (lv_at hl 3 rfl) ?_
        exact ret x3 hf nzi hP hS dX2_bestCredit_47
      · have hf := it_f c16 hf
        refine lv_iload hx hb dX2_bestCredit_19 (lv_at hl 4 rfl) ?_
        refine lv_iload_n hx hb dX2_bestCredit_21 rfl (lv_at hl 2 rfl) ?_
        obtain ⟨z22, hz22, hf⟩ := bind_s hf
        refine xN_ir hx hb hml hown htg L2_56 22 rfl (c_X3_isIn l E hz22 _) ⟨⟨rfl, rfl⟩, Nat.le_of_ble_eq_true rfl, Nat.le_of_ble_eq_true rfl⟩ hK hG hA hP hD hS (is := []) rfl rfl rfl hl.1 rfl (Nat.le_of_ble_eq_true rfl) dX2_bestCredit_22 (fun H locs hP hD hS => ?_)
        refine lv_if_ne (tgt := 40) hx hb dX2_bestCredit_25 (by decide) (fun c25 => ?_) (fun c25 => ?_)
        · have hf := it_f c25 hf
          refine lv_iinc (v := x4 + 1) (lv' := [(4, .int (x4 + 1)), (0, .ref a0), (1, .ref a1), (2, .int x2), (3, .int x3)]) hx hb dX2_bestCredit_40 hl (k := 4) rfl rfl (by decide) rfl (fun ls hl => ?_)
          refine lv_goto (tgt := 10) hx hb dX2_bestCredit_43 (by decide) ?_
          exact ih10 x3 (x4 + 1) _ _ _ hf hP hD hS (lv_sub hl [1, 2, 3, 4, 0] rfl)
        · have hf := it_t c25 hf
          refine lv_iload_n hx hb dX2_bestCredit_28 rfl (lv_at hl 3 rfl) ?_
          refine lv_aload_n hx hb dX2_bestCredit_29 rfl (lv_at hl 0 rfl) ?_
          refine lv_iload_n hx hb dX2_bestCredit_30 rfl (lv_at hl 2 rfl) ?_
          refine lv_iload hx hb dX2_bestCredit_31 (lv_at hl 4 rfl) ?_
          obtain ⟨z33, hz33, hf⟩ := bind_s hf
          refine xV_ir hx hb hml hown htg L2_76 (c_X2_creditOfMove l E a0 a3 a2 hz33 _) ⟨⟨rfl, rfl⟩, Nat.le_of_ble_eq_true rfl, Nat.le_of_ble_eq_true rfl⟩ hK hG hA hP hD hS (is := [0, 3, 2]) rfl rfl (xrecv hK hP (q0 := 0) (ci := 2) rfl rfl) rfl hl.1 rfl (Nat.le_of_ble_eq_true rfl) dX2_bestCredit_33 (fun H locs hP hD hS => ?_)
          refine xmax hx hb hml hl.1 hown htg ml2_83 (Nat.le_of_ble_eq_true rfl) (Nat.le_of_ble_eq_true rfl) dX2_bestCredit_36 ?_
          refine lv_topi (fun w36 ew36 => ?_)
          have hf := letv_s ew36 hf
          refine lv_istore_n (lv' := [(3, .int w36), (0, .ref a0), (1, .ref a1), (2, .int x2), (4, .int x4)]) hx hb dX2_bestCredit_39 rfl hl (by decide) rfl (fun ls hl => ?_)
          refine lv_iinc (v := x4 + 1) (lv' := [(4, .int (x4 + 1)), (3, .int w36), (0, .ref a0), (1, .ref a1), (2, .int x2)]) hx hb dX2_bestCredit_40 hl (k := 4) rfl rfl (by decide) rfl (fun ls hl => ?_)
          refine lv_goto (tgt := 10) hx hb dX2_bestCredit_43 (by decide) ?_
          exact ih10 w36 (x4 + 1) _ _ _ hf hP hD hS (lv_sub hl [2, 3, 4, 1, 0] rfl)
  unfold f_X2_bestCredit at hf
  refine lv_aload_n hx hb dX2_bestCredit_0 rfl (lv_at hl 0 rfl) ?_
  refine lv_iload_n hx hb dX2_bestCredit_1 rfl (lv_at hl 2 rfl) ?_
  obtain ⟨z2, hz2, hf⟩ := bind_s hf
  refine xV_ir hx hb hml hown htg L2_80 (c_X2_creditFrom l E a0 a2 hz2 _) ⟨⟨rfl, rfl⟩, Nat.le_of_ble_eq_true rfl, Nat.le_of_ble_eq_true rfl⟩ hK hG hA hP hD hS (is := [0, 2]) rfl rfl (xrecv hK hP (q0 := 0) (ci := 2) rfl rfl) rfl hl.1 rfl (Nat.le_of_ble_eq_true rfl) dX2_bestCredit_2 (fun H locs hP hD hS => ?_)
  refine lv_ineg hx hb dX2_bestCredit_5 ?_
  refine lv_istore_n (lv' := [(3, .int (-z2)), (0, .ref a0), (1, .ref a1), (2, .int x2)]) hx hb dX2_bestCredit_6 rfl hl (by decide) rfl (fun ls hl => ?_)
  refine lv_iconst (v := 0) hx hb dX2_bestCredit_7 rfl ?_
  refine lv_istore (lv' := [(4, .int 0), (3, .int (-z2)), (0, .ref a0), (1, .ref a1), (2, .int x2)]) hx hb dX2_bestCredit_8 hl (by decide) rfl (fun ls hl => ?_)
  exact b10 xF (-z2) 0 _ _ _ hf hP hD hS (lv_sub hl [2, 3, 4, 1, 0] rfl)
theorem dX2_play_0 : decode cX2_play 0 = .ok (.aload_n 0, 1) := by decide +kernel
theorem dX2_play_1 : decode cX2_play 1 = .ok (.getfield 15, 3) := by decide +kernel
theorem dX2_play_4 : decode cX2_play 4 = .ok (.iconst 0, 1) := by decide +kernel
theorem dX2_play_5 : decode cX2_play 5 = .ok (.invokestatic 60, 3) := by decide +kernel
theorem dX2_play_8 : decode cX2_play 8 = .ok (.iconst 0, 1) := by decide +kernel
theorem dX2_play_9 : decode cX2_play 9 = .ok (.istore_n 3, 1) := by decide +kernel
theorem dX2_play_10 : decode cX2_play 10 = .ok (.iload_n 3, 1) := by decide +kernel
theorem dX2_play_11 : decode cX2_play 11 = .ok (.iload_n 2, 1) := by decide +kernel
theorem dX2_play_12 : decode cX2_play 12 = .ok (.if_icmp .ge 65, 3) := by decide +kernel
theorem dX2_play_15 : decode cX2_play 15 = .ok (.aload_n 1, 1) := by decide +kernel
theorem dX2_play_16 : decode cX2_play 16 = .ok (.getfield 18, 3) := by decide +kernel
theorem dX2_play_19 : decode cX2_play 19 = .ok (.istore 4, 2) := by decide +kernel
theorem dX2_play_21 : decode cX2_play 21 = .ok (.iload 4, 2) := by decide +kernel
theorem dX2_play_23 : decode cX2_play 23 = .ok (.aload_n 1, 1) := by decide +kernel
theorem dX2_play_24 : decode cX2_play 24 = .ok (.invokevirtual 24, 3) := by decide +kernel
theorem dX2_play_27 : decode cX2_play 27 = .ok (.if_icmp .ge 44, 3) := by decide +kernel
theorem dX2_play_30 : decode cX2_play 30 = .ok (.iload 4, 2) := by decide +kernel
theorem dX2_play_32 : decode cX2_play 32 = .ok (.bipush 32, 2) := by decide +kernel
theorem dX2_play_34 : decode cX2_play 34 = .ok (.if_icmp .ge 37, 3) := by decide +kernel
theorem dX2_play_37 : decode cX2_play 37 = .ok (.iload 4, 2) := by decide +kernel
theorem dX2_play_39 : decode cX2_play 39 = .ok (.aload_n 1, 1) := by decide +kernel
theorem dX2_play_40 : decode cX2_play 40 = .ok (.getfield 18, 3) := by decide +kernel
theorem dX2_play_43 : decode cX2_play 43 = .ok (.iand, 1) := by decide +kernel
theorem dX2_play_44 : decode cX2_play 44 = .ok (.aload_n 1, 1) := by decide +kernel
theorem dX2_play_45 : decode cX2_play 45 = .ok (.getfield 18, 3) := by decide +kernel
theorem dX2_play_48 : decode cX2_play 48 = .ok (.if_icmp .ne 17, 3) := by decide +kernel
theorem dX2_play_51 : decode cX2_play 51 = .ok (.aload_n 0, 1) := by decide +kernel
theorem dX2_play_52 : decode cX2_play 52 = .ok (.getfield 15, 3) := by decide +kernel
theorem dX2_play_55 : decode cX2_play 55 = .ok (.iload 4, 2) := by decide +kernel
theorem dX2_play_57 : decode cX2_play 57 = .ok (.aload_n 0, 1) := by decide +kernel
theorem dX2_play_58 : decode cX2_play 58 = .ok (.aload_n 1, 1) := by decide +kernel
theorem dX2_play_59 : decode cX2_play 59 = .ok (.iload 4, 2) := by decide +kernel
theorem dX2_play_61 : decode cX2_play 61 = .ok (.invokevirtual 66, 3) := by decide +kernel
theorem dX2_play_64 : decode cX2_play 64 = .ok (.iastore, 1) := by decide +kernel
theorem dX2_play_65 : decode cX2_play 65 = .ok (.iinc 4 1, 3) := by decide +kernel
theorem dX2_play_68 : decode cX2_play 68 = .ok (.goto (-47), 3) := by decide +kernel
theorem dX2_play_71 : decode cX2_play 71 = .ok (.iinc 3 1, 3) := by decide +kernel
theorem dX2_play_74 : decode cX2_play 74 = .ok (.goto (-64), 3) := by decide +kernel
theorem dX2_play_77 : decode cX2_play 77 = .ok (.return_, 1) := by decide +kernel
set_option maxRecDepth 100000 in
theorem c_X2_play (l : Launch) (E : xE) (a0 a1 a2 a3 : Nat) {T1 : Nat → Int32} {V2 : Nat → Int32} {V3 : Nat → Int32} {u1_7 u1_8 u1_9 u1_10 u1_11 u1_12 u1_13 u1_14 : Nat} {x2 : Int32} {z : (Nat → Int32)} (hf : f_X2_play T1 V2 V3 x2 = some z) (sz : Nat) : Met l yX2_play (Cond.code yX2_play cX2_play 5 none :: gw) ({ frames := 4, cells := 0, slots := 0, locals := 90 }) (xPc E [.ref a0, .ref a1, .int x2] [(a0, o2 a3 a2), (a1, o3 T1 u1_7 u1_8 u1_9 u1_10 u1_11 u1_12 u1_13 u1_14), (a2, ai E 32 V2), (a3, ai E 32 V3)] sz) (xQv E [(a0, o2 a3 a2), (a1, o3 T1 u1_7 u1_8 u1_9 u1_10 u1_11 u1_12 u1_13 u1_14), (a2, ai E 32 V2), (a3, ai E 32 V3)] [(a0, o2 a3 a2), (a1, o3 T1 u1_7 u1_8 u1_9 u1_10 u1_11 u1_12 u1_13 u1_14), (a2, ai E 32 z), (a3, ai E 32 V3)] sz) 0 0 (va_A [(a0, o2 a3 a2), (a1, o3 T1 u1_7 u1_8 u1_9 u1_10 u1_11 u1_12 u1_13 u1_14), (a2, ai E 32 V2), (a3, ai E 32 V3)] sz) := by
  refine xM_v (by decide +kernel) (Nat.le_of_ble_eq_true rfl) ?_
  intro p e s m args below meth c A Q hx hb hml hown htg hK hG hA ret0 H locs ls hP hD hS hl
  have ret : ∀ (z' : (Nat → Int32)) {H : Heap} {locs : List Loc} {pc : Nat} {ls : Array Slot}, some z' = some z → va_P E.1 vwCl [(a0, o2 a3 a2), (a1, o3 T1 u1_7 u1_8 u1_9 u1_10 u1_11 u1_12 u1_13 u1_14), (a2, ai E 32 z'), (a3, ai E 32 V3)] H → va_S A s.heap H locs → decode cX2_play pc = .ok (.return_, 1) → W p l e ({ frames := 4, cells := 0, slots := 0, locals := 90 } : Room) s m args below meth c H locs 0 0 Q (F0 m pc ls []) := by
    intro z' H locs pc ls h
    cases h
    exact ret0
  replace hl : lv_has ls 5 [(0, .ref a0), (1, .ref a1), (2, .int x2)] := hl
  have b10 : ∀ (n : Nat) (x3 : Int32) (V2 : Nat → Int32) (H : Heap) (locs : List Loc) (ls : Array Slot), f_X2_play_10 T1 V3 x2 n x3 V2 = some z → va_P E.1 vwCl [(a0, o2 a3 a2), (a1, o3 T1 u1_7 u1_8 u1_9 u1_10 u1_11 u1_12 u1_13 u1_14), (a2, ai E 32 V2), (a3, ai E 32 V3)] H → va_D A [(a0, o2 a3 a2), (a1, o3 T1 u1_7 u1_8 u1_9 u1_10 u1_11 u1_12 u1_13 u1_14), (a2, ai E 32 V2), (a3, ai E 32 V3)] → va_S A s.heap H locs → lv_has ls 5 [(0, .ref a0), (1, .ref a1), (2, .int x2), (3, .int x3)] → W p l e ({ frames := 4, cells := 0, slots := 0, locals := 90 } : Room) s m args below meth c H locs 0 0 Q (F0 m 10 ls []) := by
    intro n
    induction n with
    | zero => intro x3 V2 H locs ls hf; exact (nn_s hf).elim
    | succ n ih10 =>
      obtain ⟨k10, ek10⟩ : ∃ k, k = f_X2_play_10 T1 V3 x2 n := ⟨_, rfl⟩
      rw [← ek10] at ih10
      have b21 : ∀ (n : Nat) (x3 : Int32) (x4 : Int32) (V2 : Nat → Int32) (H : Heap) (locs : List Loc) (ls : Array Slot), f_X2_play_21 T1 V3 x2 k10 n x3 x4 V2 = some z → va_P E.1 vwCl [(a0, o2 a3 a2), (a1, o3 T1 u1_7 u1_8 u1_9 u1_10 u1_11 u1_12 u1_13 u1_14), (a2, ai E 32 V2), (a3, ai E 32 V3)] H → va_D A [(a0, o2 a3 a2), (a1, o3 T1 u1_7 u1_8 u1_9 u1_10 u1_11 u1_12 u1_13 u1_14), (a2, ai E 32 V2), (a3, ai E 32 V3)] → va_S A s.heap H locs → lv_has ls 5 [(0, .ref a0), (1, .ref a1), (2, .int x2), (3, .int x3), (4, .int x4)] → W p l e ({ frames := 4, cells := 0, slots := 0, locals := 90 } : Room) s m args below meth c H locs 0 0 Q (F0 m 21 ls []) := by
        intro n
        induction n with
        | zero => intro x3 x4 V2 H locs ls hf; exact (nn_s hf).elim
        | succ n ih21 =>
          obtain ⟨k21, ek21⟩ : ∃ k, k = f_X2_play_21 T1 V3 x2 k10 n := ⟨_, rfl⟩
          rw [← ek21] at ih21
          intro x3 x4 V2 H locs ls hf hP hD hS hl
          replace hf : g_X2_play_21 T1 V3 x2 k10 k21 x3 x4 V2 = some z := by rw [ek21]; exact hf
          unfold g_X2_play_21 at hf
          refine lv_iload hx hb dX2_play_21 (lv_at hl 4 rfl) ?_
          refine lv_aload_n hx hb dX2_play_23 rfl (lv_at hl 1 rfl) ?_
          obtain ⟨z24, hz24, hf⟩ := bind_s hf
          refine xV_ir hx hb hml hown htg L2_24 (c_X3_sets l E a1 hz24 _) ⟨⟨rfl, rfl⟩, Nat.le_of_ble_eq_true rfl, Nat.le_of_ble_eq_true rfl⟩ hK hG hA hP hD hS (is := [1]) rfl rfl (xrecv hK hP (q0 := 1) (ci := 3) rfl rfl) rfl hl.1 rfl (Nat.le_of_ble_eq_true rfl) dX2_play_24 (fun H locs hP hD hS => ?_)
          refine lv_icmp_ge (tgt := 71) hx hb dX2_play_27 (by decide) (fun c27 => ?_) (fun c27 => ?_)
          · have hf := it_t c27 hf
            refine lv_iinc (v := x3 + 1) (lv' := [(3, .int (x3 + 1)), (0, .ref a0), (1, .ref a1), (2, .int x2), (4, .int x4)]) hx hb dX2_play_71 hl (k := 3) rfl rfl (by decide) rfl (fun ls hl => ?_)
            refine lv_goto (tgt := 10) hx hb dX2_play_74 (by decide) ?_
            exact ih10 (x3 + 1) V2 _ _ _ hf hP hD hS (lv_sub hl [1, 2, 3, 0] rfl)
          · have hf := it_f c27 hf
            refine lv_iload hx hb dX2_play_30 (lv_at hl 4 rfl) ?_
            refine lv_bipush (v := 32) hx hb dX2_play_32 rfl ?_
            refine lv_icmp_ge (tgt := 71) hx hb dX2_play_34 (by decide) (fun c34 => ?_) (fun c34 => ?_)
            · have hf := it_t c34 hf
              refine lv_iinc (v := x3 + 1) (lv' := [(3, .int (x3 + 1)), (0, .ref a0), (1, .ref a1), (2, .int x2), (4, .int x4)]) hx hb dX2_play_71 hl (k := 3) rfl rfl (by decide) rfl (fun ls hl => ?_)
              refine lv_goto (tgt := 10) hx hb dX2_play_74 (by decide) ?_
              exact ih10 (x3 + 1) V2 _ _ _ hf hP hD hS (lv_sub hl [1, 2, 3, 0] rfl)
            · have hf := it_f c34 hf
              refine lv_iload hx hb dX2_play_37 (lv_at hl 4 rfl) ?_
              refine lv_aload_n hx hb dX2_play_39 rfl (lv_at hl 1 rfl) ?_
              refine G2_18 hx hb htg hown hK hP 1 rfl dX2_play_40 ?_
              refine lv_iand hx hb dX2_play_43 ?_
              refine lv_aload_n hx hb dX2_play_44 rfl (lv_at hl 1 rfl) ?_
              refine G2_18 hx hb htg hown hK hP 1 rfl dX2_play_45 ?_
              refine lv_icmp_ne (tgt := 65) hx hb dX2_play_48 (by decide) (fun c48 => ?_) (fun c48 => ?_)
              · have hf := it_f c48 hf
                refine lv_iinc (v := x4 + 1) (lv' := [(4, .int (x4 + 1)), (0, .ref a0), (1, .ref a1), (2, .int x2), (3, .int x3)]) hx hb dX2_play_65 hl (k := 4) rfl rfl (by decide) rfl (fun ls hl => ?_)
                refine lv_goto (tgt := 21) hx hb dX2_play_68 (by decide) ?_
                exact ih21 x3 (x4 + 1) V2 _ _ _ hf hP hD hS (lv_sub hl [1, 2, 3, 4, 0] rfl)
              · have hf := it_t c48 hf
                refine lv_aload_n hx hb dX2_play_51 rfl (lv_at hl 0 rfl) ?_
                refine G2_15 hx hb htg hown hK hP 0 rfl dX2_play_52 ?_
                refine lv_iload hx hb dX2_play_55 (lv_at hl 4 rfl) ?_
                refine lv_aload_n hx hb dX2_play_57 rfl (lv_at hl 0 rfl) ?_
                refine lv_aload_n hx hb dX2_play_58 rfl (lv_at hl 1 rfl) ?_
                refine lv_iload hx hb dX2_play_59 (lv_at hl 4 rfl) ?_
                obtain ⟨z61, hz61, hf⟩ := bind_s hf
                refine xV_ir hx hb hml hown htg L2_66 (c_X2_bestCredit l E a0 a1 a2 a3 hz61 _) ⟨⟨rfl, rfl⟩, Nat.le_of_ble_eq_true rfl, Nat.le_of_ble_eq_true rfl⟩ hK hG hA hP hD hS (is := [0, 1, 2, 3]) rfl rfl (xrecv hK hP (q0 := 0) (ci := 2) rfl rfl) rfl hl.1 rfl (Nat.le_of_ble_eq_true rfl) dX2_play_61 (fun H locs hP hD hS => ?_)
                obtain ⟨g64, hf⟩ := ck_s hf
                refine xiast hx hb hK hP hD hS 2 rfl g64 dX2_play_64 (fun H locs hP hD hS => ?_)
                refine lv_iinc (v := x4 + 1) (lv' := [(4, .int (x4 + 1)), (0, .ref a0), (1, .ref a1), (2, .int x2), (3, .int x3)]) hx hb dX2_play_65 hl (k := 4) rfl rfl (by decide) rfl (fun ls hl => ?_)
                refine lv_goto (tgt := 21) hx hb dX2_play_68 (by decide) ?_
                exact ih21 x3 (x4 + 1) (upd V2 (Int32.toNatClampNeg x4) z61) _ _ _ hf hP hD hS (lv_sub hl [1, 2, 3, 4, 0] rfl)
      intro x3 V2 H locs ls hf hP hD hS hl
      replace hf : g_X2_play_10 T1 V3 x2 k10 x3 V2 = some z := by rw [ek10]; exact hf
      unfold g_X2_play_10 at hf
      refine lv_iload_n hx hb dX2_play_10 rfl (lv_at hl 3 rfl) ?_
      refine lv_iload_n hx hb dX2_play_11 rfl (lv_at hl 2 rfl) ?_
      refine lv_icmp_ge (tgt := 77) hx hb dX2_play_12 (by decide) (fun c12 => ?_) (fun c12 => ?_)
      · have hf := it_t c12 hf
        exact ret V2 hf hP hS dX2_play_77
      · have hf := it_f c12 hf
        refine lv_aload_n hx hb dX2_play_15 rfl (lv_at hl 1 rfl) ?_
        refine G2_18 hx hb htg hown hK hP 1 rfl dX2_play_16 ?_
        refine lv_istore (lv' := [(4, .int (T1 5)), (0, .ref a0), (1, .ref a1), (2, .int x2), (3, .int x3)]) hx hb dX2_play_19 hl (by decide) rfl (fun ls hl => ?_)
        exact b21 xF x3 (T1 5) V2 _ _ _ hf hP hD hS (lv_sub hl [1, 2, 3, 4, 0] rfl)
  unfold f_X2_play at hf
  refine lv_aload_n hx hb dX2_play_0 rfl (lv_at hl 0 rfl) ?_
  refine G2_15 hx hb htg hown hK hP 0 rfl dX2_play_1 ?_
  refine lv_iconst (v := 0) hx hb dX2_play_4 rfl ?_
  obtain ⟨z5, hz5, hf⟩ := bind_s hf
  refine xS_vu hx hb hml hown htg L2_60 (c_J7_fill_53178 l E a2 hz5 _) ⟨⟨rfl, rfl⟩, Nat.le_of_ble_eq_true rfl, Nat.le_of_ble_eq_true rfl⟩ hK hG hA hP hD hS (is := [2]) (sel := [none, none, some 0, none]) (ws2 := [(a0, o2 a3 a2), (a1, o3 T1 u1_7 u1_8 u1_9 u1_10 u1_11 u1_12 u1_13 u1_14), (a2, ai E 32 z5), (a3, ai E 32 V3)]) rfl rfl rfl rfl rfl rfl hl.1 rfl (Nat.le_of_ble_eq_true rfl) dX2_play_5 (fun H locs hP hD hS => ?_)
  refine lv_iconst (v := 0) hx hb dX2_play_8 rfl ?_
  refine lv_istore_n (lv' := [(3, .int 0), (0, .ref a0), (1, .ref a1), (2, .int x2)]) hx hb dX2_play_9 rfl hl (by decide) rfl (fun ls hl => ?_)
  exact b10 xF 0 z5 _ _ _ hf hP hD hS (lv_sub hl [1, 2, 3, 0] rfl)
theorem dX2_firstBestMove_0 : decode cX2_firstBestMove 0 = .ok (.aload_n 0, 1) := by decide +kernel
theorem dX2_firstBestMove_1 : decode cX2_firstBestMove 1 = .ok (.aload_n 1, 1) := by decide +kernel
theorem dX2_firstBestMove_2 : decode cX2_firstBestMove 2 = .ok (.aload_n 1, 1) := by decide +kernel
theorem dX2_firstBestMove_3 : decode cX2_firstBestMove 3 = .ok (.getfield 18, 3) := by decide +kernel
theorem dX2_firstBestMove_6 : decode cX2_firstBestMove 6 = .ok (.invokevirtual 66, 3) := by decide +kernel
theorem dX2_firstBestMove_9 : decode cX2_firstBestMove 9 = .ok (.istore_n 2, 1) := by decide +kernel
theorem dX2_firstBestMove_10 : decode cX2_firstBestMove 10 = .ok (.iconst 0, 1) := by decide +kernel
theorem dX2_firstBestMove_11 : decode cX2_firstBestMove 11 = .ok (.istore_n 3, 1) := by decide +kernel
theorem dX2_firstBestMove_12 : decode cX2_firstBestMove 12 = .ok (.iload_n 3, 1) := by decide +kernel
theorem dX2_firstBestMove_13 : decode cX2_firstBestMove 13 = .ok (.aload_n 1, 1) := by decide +kernel
theorem dX2_firstBestMove_14 : decode cX2_firstBestMove 14 = .ok (.getfield 69, 3) := by decide +kernel
theorem dX2_firstBestMove_17 : decode cX2_firstBestMove 17 = .ok (.if_icmp .ge 32, 3) := by decide +kernel
theorem dX2_firstBestMove_20 : decode cX2_firstBestMove 20 = .ok (.aload_n 1, 1) := by decide +kernel
theorem dX2_firstBestMove_21 : decode cX2_firstBestMove 21 = .ok (.iload_n 3, 1) := by decide +kernel
theorem dX2_firstBestMove_22 : decode cX2_firstBestMove 22 = .ok (.invokevirtual 72, 3) := by decide +kernel
theorem dX2_firstBestMove_25 : decode cX2_firstBestMove 25 = .ok (.ifCond .ne 18, 3) := by decide +kernel
theorem dX2_firstBestMove_28 : decode cX2_firstBestMove 28 = .ok (.aload_n 0, 1) := by decide +kernel
theorem dX2_firstBestMove_29 : decode cX2_firstBestMove 29 = .ok (.aload_n 1, 1) := by decide +kernel
theorem dX2_firstBestMove_30 : decode cX2_firstBestMove 30 = .ok (.getfield 18, 3) := by decide +kernel
theorem dX2_firstBestMove_33 : decode cX2_firstBestMove 33 = .ok (.iload_n 3, 1) := by decide +kernel
theorem dX2_firstBestMove_34 : decode cX2_firstBestMove 34 = .ok (.invokevirtual 76, 3) := by decide +kernel
theorem dX2_firstBestMove_37 : decode cX2_firstBestMove 37 = .ok (.iload_n 2, 1) := by decide +kernel
theorem dX2_firstBestMove_38 : decode cX2_firstBestMove 38 = .ok (.if_icmp .ne 5, 3) := by decide +kernel
theorem dX2_firstBestMove_41 : decode cX2_firstBestMove 41 = .ok (.iload_n 3, 1) := by decide +kernel
theorem dX2_firstBestMove_42 : decode cX2_firstBestMove 42 = .ok (.ireturn, 1) := by decide +kernel
theorem dX2_firstBestMove_43 : decode cX2_firstBestMove 43 = .ok (.iinc 3 1, 3) := by decide +kernel
theorem dX2_firstBestMove_46 : decode cX2_firstBestMove 46 = .ok (.goto (-34), 3) := by decide +kernel
theorem dX2_firstBestMove_49 : decode cX2_firstBestMove 49 = .ok (.iconst (-1), 1) := by decide +kernel
theorem dX2_firstBestMove_50 : decode cX2_firstBestMove 50 = .ok (.ireturn, 1) := by decide +kernel
set_option maxRecDepth 100000 in
theorem c_X2_firstBestMove (l : Launch) (E : xE) (a0 a1 a2 a3 : Nat) {T1 : Nat → Int32} {V2 : Nat → Int32} {V3 : Nat → Int32} {u1_7 u1_8 u1_9 u1_10 u1_11 u1_12 u1_13 u1_14 : Nat} {z : Int32} (hf : f_X2_firstBestMove T1 V2 V3 = some z) (sz : Nat) : Met l yX2_firstBestMove (Cond.code yX2_firstBestMove cX2_firstBestMove 4 (some .int) :: gw) ({ frames := 4, cells := 0, slots := 0, locals := 90 }) (xPc E [.ref a0, .ref a1] [(a0, o2 a3 a2), (a1, o3 T1 u1_7 u1_8 u1_9 u1_10 u1_11 u1_12 u1_13 u1_14), (a2, ai E 32 V2), (a3, ai E 32 V3)] sz) (xQi E z [(a0, o2 a3 a2), (a1, o3 T1 u1_7 u1_8 u1_9 u1_10 u1_11 u1_12 u1_13 u1_14), (a2, ai E 32 V2), (a3, ai E 32 V3)] [(a0, o2 a3 a2), (a1, o3 T1 u1_7 u1_8 u1_9 u1_10 u1_11 u1_12 u1_13 u1_14), (a2, ai E 32 V2), (a3, ai E 32 V3)] sz) 0 0 (va_A [(a0, o2 a3 a2), (a1, o3 T1 u1_7 u1_8 u1_9 u1_10 u1_11 u1_12 u1_13 u1_14), (a2, ai E 32 V2), (a3, ai E 32 V3)] sz) := by
  refine xM_i (by decide +kernel) (Nat.le_of_ble_eq_true rfl) ?_
  intro p e s m args below meth c A Q hx hb hml hown htg hK hG hA ret0 H locs ls hP hD hS hl
  have ret : ∀ (z' : Int32) {H : Heap} {locs : List Loc} {pc : Nat} {ls : Array Slot}, some z' = some z → narrow .int (.int z') = .int z' → va_P E.1 vwCl [(a0, o2 a3 a2), (a1, o3 T1 u1_7 u1_8 u1_9 u1_10 u1_11 u1_12 u1_13 u1_14), (a2, ai E 32 V2), (a3, ai E 32 V3)] H → va_S A s.heap H locs → decode cX2_firstBestMove pc = .ok (.ireturn, 1) → W p l e ({ frames := 4, cells := 0, slots := 0, locals := 90 } : Room) s m args below meth c H locs 0 0 Q (F0 m pc ls [.int z']) := by
    intro z' H locs pc ls h
    cases h
    exact ret0
  replace hl : lv_has ls 4 [(0, .ref a0), (1, .ref a1)] := hl
  have b12 : ∀ (n : Nat) (x2 : Int32) (x3 : Int32) (H : Heap) (locs : List Loc) (ls : Array Slot), f_X2_firstBestMove_12 T1 V2 V3 n x2 x3 = some z → va_P E.1 vwCl [(a0, o2 a3 a2), (a1, o3 T1 u1_7 u1_8 u1_9 u1_10 u1_11 u1_12 u1_13 u1_14), (a2, ai E 32 V2), (a3, ai E 32 V3)] H → va_D A [(a0, o2 a3 a2), (a1, o3 T1 u1_7 u1_8 u1_9 u1_10 u1_11 u1_12 u1_13 u1_14), (a2, ai E 32 V2), (a3, ai E 32 V3)] → va_S A s.heap H locs → lv_has ls 4 [(0, .ref a0), (1, .ref a1), (2, .int x2), (3, .int x3)] → W p l e ({ frames := 4, cells := 0, slots := 0, locals := 90 } : Room) s m args below meth c H locs 0 0 Q (F0 m 12 ls []) := by
    intro n
    induction n with
    | zero => intro x2 x3 H locs ls hf; exact (nn_s hf).elim
    | succ n ih12 =>
      obtain ⟨k12, ek12⟩ : ∃ k, k = f_X2_firstBestMove_12 T1 V2 V3 n := ⟨_, rfl⟩
      rw [← ek12] at ih12
      intro x2 x3 H locs ls hf hP hD hS hl
      replace hf : g_X2_firstBestMove_12 T1 V2 V3 k12 x2 x3 = some z := by rw [ek12]; exact hf
      unfold g_X2_firstBestMove_12 at hf
      refine lv_iload_n hx hb dX2_firstBestMove_12 rfl (lv_at hl 3 rfl) ?_
      refine lv_aload_n hx hb dX2_firstBestMove_13 rfl (lv_at hl 1 rfl) ?_
      refine G2_69 hx hb htg hown hK hP 1 rfl dX2_firstBestMove_14 ?_
      refine lv_icmp_ge (tgt := 49) hx hb dX2_firstBestMove_17 (by decide) (fun c17 => ?_) (fun c17 => ?_)
      · have hf := it_t c17 hf
        refine lv_iconst (v := (-1)) hx hb dX2_firstBestMove_49 rfl ?_
        exact ret (-1) hf nzi hP hS dX2_firstBestMove_50
      · have hf := it_f c17 hf
        refine lv_aload_n hx hb dX2_firstBestMove_20 rfl (lv_at hl 1 rfl) ?_
        refine lv_iload_n hx hb dX2_firstBestMove_21 rfl (lv_at hl 3 rfl) ?_
        obtain ⟨z22, hz22, hf⟩ := bind_s hf
        refine xV_ir hx hb hml hown htg L2_72 (c_X3_isHeard l E a1 hz22 _) ⟨⟨rfl, rfl⟩, Nat.le_of_ble_eq_true rfl, Nat.le_of_ble_eq_true rfl⟩ hK hG hA hP hD hS (is := [1]) rfl rfl (xrecv hK hP (q0 := 1) (ci := 3) rfl rfl) rfl hl.1 rfl (Nat.le_of_ble_eq_true rfl) dX2_firstBestMove_22 (fun H locs hP hD hS => ?_)
        refine lv_if_ne (tgt := 43) hx hb dX2_firstBestMove_25 (by decide) (fun c25 => ?_) (fun c25 => ?_)
        · have hf := it_f c25 hf
          refine lv_iinc (v := x3 + 1) (lv' := [(3, .int (x3 + 1)), (0, .ref a0), (1, .ref a1), (2, .int x2)]) hx hb dX2_firstBestMove_43 hl (k := 3) rfl rfl (by decide) rfl (fun ls hl => ?_)
          refine lv_goto (tgt := 12) hx hb dX2_firstBestMove_46 (by decide) ?_
          exact ih12 x2 (x3 + 1) _ _ _ hf hP hD hS (lv_sub hl [1, 2, 3, 0] rfl)
        · have hf := it_t c25 hf
          refine lv_aload_n hx hb dX2_firstBestMove_28 rfl (lv_at hl 0 rfl) ?_
          refine lv_aload_n hx hb dX2_firstBestMove_29 rfl (lv_at hl 1 rfl) ?_
          refine G2_18 hx hb htg hown hK hP 1 rfl dX2_firstBestMove_30 ?_
          refine lv_iload_n hx hb dX2_firstBestMove_33 rfl (lv_at hl 3 rfl) ?_
          obtain ⟨z34, hz34, hf⟩ := bind_s hf
          refine xV_ir hx hb hml hown htg L2_76 (c_X2_creditOfMove l E a0 a3 a2 hz34 _) ⟨⟨rfl, rfl⟩, Nat.le_of_ble_eq_true rfl, Nat.le_of_ble_eq_true rfl⟩ hK hG hA hP hD hS (is := [0, 3, 2]) rfl rfl (xrecv hK hP (q0 := 0) (ci := 2) rfl rfl) rfl hl.1 rfl (Nat.le_of_ble_eq_true rfl) dX2_firstBestMove_34 (fun H locs hP hD hS => ?_)
          refine lv_iload_n hx hb dX2_firstBestMove_37 rfl (lv_at hl 2 rfl) ?_
          refine lv_icmp_ne (tgt := 43) hx hb dX2_firstBestMove_38 (by decide) (fun c38 => ?_) (fun c38 => ?_)
          · have hf := it_f c38 hf
            refine lv_iinc (v := x3 + 1) (lv' := [(3, .int (x3 + 1)), (0, .ref a0), (1, .ref a1), (2, .int x2)]) hx hb dX2_firstBestMove_43 hl (k := 3) rfl rfl (by decide) rfl (fun ls hl => ?_)
            refine lv_goto (tgt := 12) hx hb dX2_firstBestMove_46 (by decide) ?_
            exact ih12 x2 (x3 + 1) _ _ _ hf hP hD hS (lv_sub hl [1, 2, 3, 0] rfl)
          · have hf := it_t c38 hf
            refine lv_iload_n hx hb dX2_firstBestMove_41 rfl (lv_at hl 3 rfl) ?_
            exact ret x3 hf nzi hP hS dX2_firstBestMove_42
  unfold f_X2_firstBestMove at hf
  refine lv_aload_n hx hb dX2_firstBestMove_0 rfl (lv_at hl 0 rfl) ?_
  refine lv_aload_n hx hb dX2_firstBestMove_1 rfl (lv_at hl 1 rfl) ?_
  refine lv_aload_n hx hb dX2_firstBestMove_2 rfl (lv_at hl 1 rfl) ?_
  refine G2_18 hx hb htg hown hK hP 1 rfl dX2_firstBestMove_3 ?_
  obtain ⟨z6, hz6, hf⟩ := bind_s hf
  refine xV_ir hx hb hml hown htg L2_66 (c_X2_bestCredit l E a0 a1 a2 a3 hz6 _) ⟨⟨rfl, rfl⟩, Nat.le_of_ble_eq_true rfl, Nat.le_of_ble_eq_true rfl⟩ hK hG hA hP hD hS (is := [0, 1, 2, 3]) rfl rfl (xrecv hK hP (q0 := 0) (ci := 2) rfl rfl) rfl hl.1 rfl (Nat.le_of_ble_eq_true rfl) dX2_firstBestMove_6 (fun H locs hP hD hS => ?_)
  refine lv_istore_n (lv' := [(2, .int z6), (0, .ref a0), (1, .ref a1)]) hx hb dX2_firstBestMove_9 rfl hl (by decide) rfl (fun ls hl => ?_)
  refine lv_iconst (v := 0) hx hb dX2_firstBestMove_10 rfl ?_
  refine lv_istore_n (lv' := [(3, .int 0), (2, .int z6), (0, .ref a0), (1, .ref a1)]) hx hb dX2_firstBestMove_11 rfl hl (by decide) rfl (fun ls hl => ?_)
  exact b12 xF z6 0 _ _ _ hf hP hD hS (lv_sub hl [2, 3, 1, 0] rfl)
