theorem dX12_plays_0 : decode cX12_plays 0 = .ok (.iload_n 1, 1) := by decide +kernel
theorem dX12_plays_1 : decode cX12_plays 1 = .ok (.iload_n 2, 1) := by decide +kernel
theorem dX12_plays_2 : decode cX12_plays 2 = .ok (.if_icmp .ne 5, 3) := by decide +kernel
theorem dX12_plays_5 : decode cX12_plays 5 = .ok (.iconst 0, 1) := by decide +kernel
theorem dX12_plays_6 : decode cX12_plays 6 = .ok (.ireturn, 1) := by decide +kernel
theorem dX12_plays_7 : decode cX12_plays 7 = .ok (.iload_n 1, 1) := by decide +kernel
theorem dX12_plays_8 : decode cX12_plays 8 = .ok (.iconst 2, 1) := by decide +kernel
theorem dX12_plays_9 : decode cX12_plays 9 = .ok (.irem, 1) := by decide +kernel
theorem dX12_plays_10 : decode cX12_plays 10 = .ok (.ifCond .ne 7, 3) := by decide +kernel
theorem dX12_plays_13 : decode cX12_plays 13 = .ok (.iconst 1, 1) := by decide +kernel
theorem dX12_plays_14 : decode cX12_plays 14 = .ok (.goto 4, 3) := by decide +kernel
theorem dX12_plays_17 : decode cX12_plays 17 = .ok (.iconst 0, 1) := by decide +kernel
theorem dX12_plays_18 : decode cX12_plays 18 = .ok (.istore_n 3, 1) := by decide +kernel
theorem dX12_plays_19 : decode cX12_plays 19 = .ok (.aload_n 0, 1) := by decide +kernel
theorem dX12_plays_20 : decode cX12_plays 20 = .ok (.invokevirtual 361, 3) := by decide +kernel
theorem dX12_plays_23 : decode cX12_plays 23 = .ok (.istore 4, 2) := by decide +kernel
theorem dX12_plays_25 : decode cX12_plays 25 = .ok (.iconst 0, 1) := by decide +kernel
theorem dX12_plays_26 : decode cX12_plays 26 = .ok (.istore 5, 2) := by decide +kernel
theorem dX12_plays_28 : decode cX12_plays 28 = .ok (.iconst (-1), 1) := by decide +kernel
theorem dX12_plays_29 : decode cX12_plays 29 = .ok (.istore 6, 2) := by decide +kernel
theorem dX12_plays_31 : decode cX12_plays 31 = .ok (.iconst 0, 1) := by decide +kernel
theorem dX12_plays_32 : decode cX12_plays 32 = .ok (.istore 7, 2) := by decide +kernel
theorem dX12_plays_34 : decode cX12_plays 34 = .ok (.iload 7, 2) := by decide +kernel
theorem dX12_plays_36 : decode cX12_plays 36 = .ok (.aload_n 0, 1) := by decide +kernel
theorem dX12_plays_37 : decode cX12_plays 37 = .ok (.getfield 35, 3) := by decide +kernel
theorem dX12_plays_40 : decode cX12_plays 40 = .ok (.iconst 2, 1) := by decide +kernel
theorem dX12_plays_41 : decode cX12_plays 41 = .ok (.iaload, 1) := by decide +kernel
theorem dX12_plays_42 : decode cX12_plays 42 = .ok (.if_icmp .gt 136, 3) := by decide +kernel
theorem dX12_plays_45 : decode cX12_plays 45 = .ok (.iload 7, 2) := by decide +kernel
theorem dX12_plays_47 : decode cX12_plays 47 = .ok (.aload_n 0, 1) := by decide +kernel
theorem dX12_plays_48 : decode cX12_plays 48 = .ok (.getfield 35, 3) := by decide +kernel
theorem dX12_plays_51 : decode cX12_plays 51 = .ok (.iconst 2, 1) := by decide +kernel
theorem dX12_plays_52 : decode cX12_plays 52 = .ok (.iaload, 1) := by decide +kernel
theorem dX12_plays_53 : decode cX12_plays 53 = .ok (.if_icmp .ne 7, 3) := by decide +kernel
theorem dX12_plays_56 : decode cX12_plays 56 = .ok (.iconst 1, 1) := by decide +kernel
theorem dX12_plays_57 : decode cX12_plays 57 = .ok (.goto 4, 3) := by decide +kernel
theorem dX12_plays_60 : decode cX12_plays 60 = .ok (.iconst 0, 1) := by decide +kernel
theorem dX12_plays_61 : decode cX12_plays 61 = .ok (.istore 8, 2) := by decide +kernel
theorem dX12_plays_63 : decode cX12_plays 63 = .ok (.iload 8, 2) := by decide +kernel
theorem dX12_plays_65 : decode cX12_plays 65 = .ok (.ifCond .ne 16, 3) := by decide +kernel
theorem dX12_plays_68 : decode cX12_plays 68 = .ok (.aload_n 0, 1) := by decide +kernel
theorem dX12_plays_69 : decode cX12_plays 69 = .ok (.iload 7, 2) := by decide +kernel
theorem dX12_plays_71 : decode cX12_plays 71 = .ok (.iconst 1, 1) := by decide +kernel
theorem dX12_plays_72 : decode cX12_plays 72 = .ok (.invokevirtual 358, 3) := by decide +kernel
theorem dX12_plays_75 : decode cX12_plays 75 = .ok (.ifCond .ne 6, 3) := by decide +kernel
theorem dX12_plays_78 : decode cX12_plays 78 = .ok (.goto 94, 3) := by decide +kernel
theorem dX12_plays_81 : decode cX12_plays 81 = .ok (.iload 8, 2) := by decide +kernel
theorem dX12_plays_83 : decode cX12_plays 83 = .ok (.ifCond .eq 7, 3) := by decide +kernel
theorem dX12_plays_86 : decode cX12_plays 86 = .ok (.iconst 0, 1) := by decide +kernel
theorem dX12_plays_87 : decode cX12_plays 87 = .ok (.goto 10, 3) := by decide +kernel
theorem dX12_plays_90 : decode cX12_plays 90 = .ok (.aload_n 0, 1) := by decide +kernel
theorem dX12_plays_91 : decode cX12_plays 91 = .ok (.invokevirtual 361, 3) := by decide +kernel
theorem dX12_plays_94 : decode cX12_plays 94 = .ok (.iload 4, 2) := by decide +kernel
theorem dX12_plays_96 : decode cX12_plays 96 = .ok (.isub, 1) := by decide +kernel
theorem dX12_plays_97 : decode cX12_plays 97 = .ok (.istore 9, 2) := by decide +kernel
theorem dX12_plays_99 : decode cX12_plays 99 = .ok (.iload_n 3, 1) := by decide +kernel
theorem dX12_plays_100 : decode cX12_plays 100 = .ok (.ifCond .eq 8, 3) := by decide +kernel
theorem dX12_plays_103 : decode cX12_plays 103 = .ok (.iload 9, 2) := by decide +kernel
theorem dX12_plays_105 : decode cX12_plays 105 = .ok (.goto 6, 3) := by decide +kernel
theorem dX12_plays_108 : decode cX12_plays 108 = .ok (.iload 9, 2) := by decide +kernel
theorem dX12_plays_110 : decode cX12_plays 110 = .ok (.ineg, 1) := by decide +kernel
theorem dX12_plays_111 : decode cX12_plays 111 = .ok (.aload_n 0, 1) := by decide +kernel
theorem dX12_plays_112 : decode cX12_plays 112 = .ok (.iload_n 1, 1) := by decide +kernel
theorem dX12_plays_113 : decode cX12_plays 113 = .ok (.iconst 1, 1) := by decide +kernel
theorem dX12_plays_114 : decode cX12_plays 114 = .ok (.iadd, 1) := by decide +kernel
theorem dX12_plays_115 : decode cX12_plays 115 = .ok (.iload_n 2, 1) := by decide +kernel
theorem dX12_plays_116 : decode cX12_plays 116 = .ok (.invokevirtual 433, 3) := by decide +kernel
theorem dX12_plays_119 : decode cX12_plays 119 = .ok (.iadd, 1) := by decide +kernel
theorem dX12_plays_120 : decode cX12_plays 120 = .ok (.istore 10, 2) := by decide +kernel
theorem dX12_plays_122 : decode cX12_plays 122 = .ok (.iload 8, 2) := by decide +kernel
theorem dX12_plays_124 : decode cX12_plays 124 = .ok (.ifCond .ne 11, 3) := by decide +kernel
theorem dX12_plays_127 : decode cX12_plays 127 = .ok (.aload_n 0, 1) := by decide +kernel
theorem dX12_plays_128 : decode cX12_plays 128 = .ok (.iload 7, 2) := by decide +kernel
theorem dX12_plays_130 : decode cX12_plays 130 = .ok (.iconst 0, 1) := by decide +kernel
theorem dX12_plays_131 : decode cX12_plays 131 = .ok (.invokevirtual 358, 3) := by decide +kernel
theorem dX12_plays_134 : decode cX12_plays 134 = .ok (.pop, 1) := by decide +kernel
theorem dX12_plays_135 : decode cX12_plays 135 = .ok (.iload 6, 2) := by decide +kernel
theorem dX12_plays_137 : decode cX12_plays 137 = .ok (.ifCond .lt 27, 3) := by decide +kernel
theorem dX12_plays_140 : decode cX12_plays 140 = .ok (.iload_n 3, 1) := by decide +kernel
theorem dX12_plays_141 : decode cX12_plays 141 = .ok (.ifCond .eq 13, 3) := by decide +kernel
theorem dX12_plays_144 : decode cX12_plays 144 = .ok (.iload 10, 2) := by decide +kernel
theorem dX12_plays_146 : decode cX12_plays 146 = .ok (.iload 5, 2) := by decide +kernel
theorem dX12_plays_148 : decode cX12_plays 148 = .ok (.if_icmp .gt 16, 3) := by decide +kernel
theorem dX12_plays_151 : decode cX12_plays 151 = .ok (.goto 21, 3) := by decide +kernel
theorem dX12_plays_154 : decode cX12_plays 154 = .ok (.iload 10, 2) := by decide +kernel
theorem dX12_plays_156 : decode cX12_plays 156 = .ok (.iload 5, 2) := by decide +kernel
theorem dX12_plays_158 : decode cX12_plays 158 = .ok (.if_icmp .lt 6, 3) := by decide +kernel
theorem dX12_plays_161 : decode cX12_plays 161 = .ok (.goto 11, 3) := by decide +kernel
theorem dX12_plays_164 : decode cX12_plays 164 = .ok (.iload 10, 2) := by decide +kernel
theorem dX12_plays_166 : decode cX12_plays 166 = .ok (.istore 5, 2) := by decide +kernel
theorem dX12_plays_168 : decode cX12_plays 168 = .ok (.iload 7, 2) := by decide +kernel
theorem dX12_plays_170 : decode cX12_plays 170 = .ok (.istore 6, 2) := by decide +kernel
theorem dX12_plays_172 : decode cX12_plays 172 = .ok (.iinc 7 1, 3) := by decide +kernel
theorem dX12_plays_175 : decode cX12_plays 175 = .ok (.goto (-141), 3) := by decide +kernel
theorem dX12_plays_178 : decode cX12_plays 178 = .ok (.iload_n 1, 1) := by decide +kernel
theorem dX12_plays_179 : decode cX12_plays 179 = .ok (.ifCond .ne 9, 3) := by decide +kernel
theorem dX12_plays_182 : decode cX12_plays 182 = .ok (.aload_n 0, 1) := by decide +kernel
theorem dX12_plays_183 : decode cX12_plays 183 = .ok (.iload 6, 2) := by decide +kernel
theorem dX12_plays_185 : decode cX12_plays 185 = .ok (.putfield 436, 3) := by decide +kernel
theorem dX12_plays_188 : decode cX12_plays 188 = .ok (.iload 5, 2) := by decide +kernel
theorem dX12_plays_190 : decode cX12_plays 190 = .ok (.ireturn, 1) := by decide +kernel
set_option maxRecDepth 100000 in
theorem c_X12_plays (l : Launch) (E : xE) (fr lo : Nat) {rec_X12_plays : (Nat → Int32) → (Nat → Int32) → Int32 → Int32 → Option (Int32 × (Nat → Int32) × (Nat → Int32))} (ih_X12_plays : ∀ (a0 a1 : Nat) {T0 : Nat → Int32} {J0_2 : Int64} {J0_3 : Int64} {J0_19 : Int64} {V1 : Nat → Int32} {u0_4 u0_5 u0_6 u0_7 u0_21 u0_22 u0_27 u0_28 u0_31 u0_32 : Nat} {x1 : Int32} {x2 : Int32} {z : Int32 × (Nat → Int32) × (Nat → Int32)}, rec_X12_plays T0 V1 x1 x2 = some z → ∀ sz : Nat, Met l yX12_plays (Cond.code yX12_plays cX12_plays 11 (some .int) :: gw) ({ frames := fr, cells := 0, slots := 0, locals := lo }) (xPc E [.ref a0, .int x1, .int x2] [(a0, o12 T0 J0_2 J0_3 J0_19 u0_4 u0_5 u0_6 u0_7 a1 u0_21 u0_22 u0_27 u0_28 u0_31 u0_32), (a1, ai E 1860 V1)] sz) (xQi E z.1 [(a0, o12 T0 J0_2 J0_3 J0_19 u0_4 u0_5 u0_6 u0_7 a1 u0_21 u0_22 u0_27 u0_28 u0_31 u0_32), (a1, ai E 1860 V1)] [(a0, o12 z.2.1 J0_2 J0_3 J0_19 u0_4 u0_5 u0_6 u0_7 a1 u0_21 u0_22 u0_27 u0_28 u0_31 u0_32), (a1, ai E 1860 z.2.2)] sz) 0 0 (va_A [(a0, o12 T0 J0_2 J0_3 J0_19 u0_4 u0_5 u0_6 u0_7 a1 u0_21 u0_22 u0_27 u0_28 u0_31 u0_32), (a1, ai E 1860 V1)] sz)) (a0 a1 : Nat) {T0 : Nat → Int32} {J0_2 : Int64} {J0_3 : Int64} {J0_19 : Int64} {V1 : Nat → Int32} {u0_4 u0_5 u0_6 u0_7 u0_21 u0_22 u0_27 u0_28 u0_31 u0_32 : Nat} {x1 : Int32} {x2 : Int32} {z : Int32 × (Nat → Int32) × (Nat → Int32)} (hf : o_X12_plays rec_X12_plays T0 V1 x1 x2 = some z) (sz : Nat) : Met l yX12_plays (Cond.code yX12_plays cX12_plays 11 (some .int) :: gw) ({ frames := fr + 4, cells := 0, slots := 0, locals := lo + 107 }) (xPc E [.ref a0, .int x1, .int x2] [(a0, o12 T0 J0_2 J0_3 J0_19 u0_4 u0_5 u0_6 u0_7 a1 u0_21 u0_22 u0_27 u0_28 u0_31 u0_32), (a1, ai E 1860 V1)] sz) (xQi E z.1 [(a0, o12 T0 J0_2 J0_3 J0_19 u0_4 u0_5 u0_6 u0_7 a1 u0_21 u0_22 u0_27 u0_28 u0_31 u0_32), (a1, ai E 1860 V1)] [(a0, o12 z.2.1 J0_2 J0_3 J0_19 u0_4 u0_5 u0_6 u0_7 a1 u0_21 u0_22 u0_27 u0_28 u0_31 u0_32), (a1, ai E 1860 z.2.2)] sz) 0 0 (va_A [(a0, o12 T0 J0_2 J0_3 J0_19 u0_4 u0_5 u0_6 u0_7 a1 u0_21 u0_22 u0_27 u0_28 u0_31 u0_32), (a1, ai E 1860 V1)] sz) := by
  refine xM_i (by decide +kernel) (Nat.le_of_ble_eq_true rfl) ?_
  intro p e s m args below meth c A Q hx hb hml hown htg hK hG hA ret0 H locs ls hP hD hS hl
  have ret : ∀ (z' : Int32 × (Nat → Int32) × (Nat → Int32)) {H : Heap} {locs : List Loc} {pc : Nat} {ls : Array Slot}, some z' = some z → narrow .int (.int z'.1) = .int z'.1 → va_P E.1 vwCl [(a0, o12 z'.2.1 J0_2 J0_3 J0_19 u0_4 u0_5 u0_6 u0_7 a1 u0_21 u0_22 u0_27 u0_28 u0_31 u0_32), (a1, ai E 1860 z'.2.2)] H → va_S A s.heap H locs → decode cX12_plays pc = .ok (.ireturn, 1) → W p l e ({ frames := fr + 4, cells := 0, slots := 0, locals := lo + 107 } : Room) s m args below meth c H locs 0 0 Q (F0 m pc ls [.int z'.1]) := by
    intro z' H locs pc ls h
    cases h
    exact ret0
  replace hl : lv_has ls 11 [(0, .ref a0), (1, .int x1), (2, .int x2)] := hl
  have b34 : ∀ (n : Nat) (x3 : Int32) (x4 : Int32) (x5 : Int32) (x6 : Int32) (x7 : Int32) (T0 : Nat → Int32) (V1 : Nat → Int32) (H : Heap) (locs : List Loc) (ls : Array Slot), f_X12_plays_34 rec_X12_plays x1 x2 n x3 x4 x5 x6 x7 T0 V1 = some z → va_P E.1 vwCl [(a0, o12 T0 J0_2 J0_3 J0_19 u0_4 u0_5 u0_6 u0_7 a1 u0_21 u0_22 u0_27 u0_28 u0_31 u0_32), (a1, ai E 1860 V1)] H → va_D A [(a0, o12 T0 J0_2 J0_3 J0_19 u0_4 u0_5 u0_6 u0_7 a1 u0_21 u0_22 u0_27 u0_28 u0_31 u0_32), (a1, ai E 1860 V1)] → va_S A s.heap H locs → lv_has ls 11 [(0, .ref a0), (1, .int x1), (2, .int x2), (3, .int x3), (4, .int x4), (5, .int x5), (6, .int x6), (7, .int x7)] → W p l e ({ frames := fr + 4, cells := 0, slots := 0, locals := lo + 107 } : Room) s m args below meth c H locs 0 0 Q (F0 m 34 ls []) := by
    intro n
    induction n with
    | zero => intro x3 x4 x5 x6 x7 T0 V1 H locs ls hf; exact (nn_s hf).elim
    | succ n ih34 =>
      obtain ⟨k34, ek34⟩ : ∃ k, k = f_X12_plays_34 rec_X12_plays x1 x2 n := ⟨_, rfl⟩
      rw [← ek34] at ih34
      have b164 : ∀ (x3 : Int32) (x4 : Int32) (x7 : Int32) (x10 : Int32) (T0 : Nat → Int32) (V1 : Nat → Int32) (H : Heap) (locs : List Loc) (ls : Array Slot), f_X12_plays_164 rec_X12_plays x1 x2 k34 x3 x4 x7 x10 T0 V1 = some z → va_P E.1 vwCl [(a0, o12 T0 J0_2 J0_3 J0_19 u0_4 u0_5 u0_6 u0_7 a1 u0_21 u0_22 u0_27 u0_28 u0_31 u0_32), (a1, ai E 1860 V1)] H → va_D A [(a0, o12 T0 J0_2 J0_3 J0_19 u0_4 u0_5 u0_6 u0_7 a1 u0_21 u0_22 u0_27 u0_28 u0_31 u0_32), (a1, ai E 1860 V1)] → va_S A s.heap H locs → lv_has ls 11 [(0, .ref a0), (1, .int x1), (2, .int x2), (3, .int x3), (4, .int x4), (7, .int x7), (10, .int x10)] → W p l e ({ frames := fr + 4, cells := 0, slots := 0, locals := lo + 107 } : Room) s m args below meth c H locs 0 0 Q (F0 m 164 ls []) := by
        intro x3 x4 x7 x10 T0 V1 H locs ls hf hP hD hS hl
        unfold f_X12_plays_164 at hf
        refine lv_iload hx hb dX12_plays_164 (lv_at hl 6 rfl) ?_
        refine lv_istore (lv' := [(5, .int x10), (0, .ref a0), (1, .int x1), (2, .int x2), (3, .int x3), (4, .int x4), (7, .int x7), (10, .int x10)]) hx hb dX12_plays_166 hl (by decide) rfl (fun ls hl => ?_)
        refine lv_iload hx hb dX12_plays_168 (lv_at hl 6 rfl) ?_
        refine lv_istore (lv' := [(6, .int x7), (5, .int x10), (0, .ref a0), (1, .int x1), (2, .int x2), (3, .int x3), (4, .int x4), (7, .int x7), (10, .int x10)]) hx hb dX12_plays_170 hl (by decide) rfl (fun ls hl => ?_)
        refine lv_iinc (v := x7 + 1) (lv' := [(7, .int (x7 + 1)), (6, .int x7), (5, .int x10), (0, .ref a0), (1, .int x1), (2, .int x2), (3, .int x3), (4, .int x4), (10, .int x10)]) hx hb dX12_plays_172 hl (k := 7) rfl rfl (by decide) rfl (fun ls hl => ?_)
        refine lv_goto (tgt := 34) hx hb dX12_plays_175 (by decide) ?_
        exact ih34 x3 x4 x10 x7 (x7 + 1) T0 V1 _ _ _ hf hP hD hS (lv_sub hl [3, 4, 5, 6, 7, 2, 1, 0] rfl)
      have b135 : ∀ (x3 : Int32) (x4 : Int32) (x5 : Int32) (x6 : Int32) (x7 : Int32) (x10 : Int32) (T0 : Nat → Int32) (V1 : Nat → Int32) (H : Heap) (locs : List Loc) (ls : Array Slot), f_X12_plays_135 rec_X12_plays x1 x2 k34 x3 x4 x5 x6 x7 x10 T0 V1 = some z → va_P E.1 vwCl [(a0, o12 T0 J0_2 J0_3 J0_19 u0_4 u0_5 u0_6 u0_7 a1 u0_21 u0_22 u0_27 u0_28 u0_31 u0_32), (a1, ai E 1860 V1)] H → va_D A [(a0, o12 T0 J0_2 J0_3 J0_19 u0_4 u0_5 u0_6 u0_7 a1 u0_21 u0_22 u0_27 u0_28 u0_31 u0_32), (a1, ai E 1860 V1)] → va_S A s.heap H locs → lv_has ls 11 [(0, .ref a0), (1, .int x1), (2, .int x2), (3, .int x3), (4, .int x4), (5, .int x5), (6, .int x6), (7, .int x7), (10, .int x10)] → W p l e ({ frames := fr + 4, cells := 0, slots := 0, locals := lo + 107 } : Room) s m args below meth c H locs 0 0 Q (F0 m 135 ls []) := by
        intro x3 x4 x5 x6 x7 x10 T0 V1 H locs ls hf hP hD hS hl
        unfold f_X12_plays_135 at hf
        refine lv_iload hx hb dX12_plays_135 (lv_at hl 6 rfl) ?_
        refine lv_if_lt (tgt := 164) hx hb dX12_plays_137 (by decide) (fun c137 => ?_) (fun c137 => ?_)
        · have hf := it_t c137 hf
          exact b164 x3 x4 x7 x10 T0 V1 _ _ _ hf hP hD hS (lv_sub hl [0, 1, 2, 3, 4, 7, 8] rfl)
        · have hf := it_f c137 hf
          refine lv_iload_n hx hb dX12_plays_140 rfl (lv_at hl 3 rfl) ?_
          refine lv_if_eq (tgt := 154) hx hb dX12_plays_141 (by decide) (fun c141 => ?_) (fun c141 => ?_)
          · have hf := it_t c141 hf
            refine lv_iload hx hb dX12_plays_154 (lv_at hl 8 rfl) ?_
            refine lv_iload hx hb dX12_plays_156 (lv_at hl 5 rfl) ?_
            refine lv_icmp_lt (tgt := 164) hx hb dX12_plays_158 (by decide) (fun c158 => ?_) (fun c158 => ?_)
            · have hf := it_t c158 hf
              exact b164 x3 x4 x7 x10 T0 V1 _ _ _ hf hP hD hS (lv_sub hl [0, 1, 2, 3, 4, 7, 8] rfl)
            · have hf := it_f c158 hf
              refine lv_goto (tgt := 172) hx hb dX12_plays_161 (by decide) ?_
              refine lv_iinc (v := x7 + 1) (lv' := [(7, .int (x7 + 1)), (0, .ref a0), (1, .int x1), (2, .int x2), (3, .int x3), (4, .int x4), (5, .int x5), (6, .int x6), (10, .int x10)]) hx hb dX12_plays_172 hl (k := 7) rfl rfl (by decide) rfl (fun ls hl => ?_)
              refine lv_goto (tgt := 34) hx hb dX12_plays_175 (by decide) ?_
              exact ih34 x3 x4 x5 x6 (x7 + 1) T0 V1 _ _ _ hf hP hD hS (lv_sub hl [1, 2, 3, 4, 5, 6, 7, 0] rfl)
          · have hf := it_f c141 hf
            refine lv_iload hx hb dX12_plays_144 (lv_at hl 8 rfl) ?_
            refine lv_iload hx hb dX12_plays_146 (lv_at hl 5 rfl) ?_
            refine lv_icmp_gt (tgt := 164) hx hb dX12_plays_148 (by decide) (fun c148 => ?_) (fun c148 => ?_)
            · have hf := it_t c148 hf
              exact b164 x3 x4 x7 x10 T0 V1 _ _ _ hf hP hD hS (lv_sub hl [0, 1, 2, 3, 4, 7, 8] rfl)
            · have hf := it_f c148 hf
              refine lv_goto (tgt := 172) hx hb dX12_plays_151 (by decide) ?_
              refine lv_iinc (v := x7 + 1) (lv' := [(7, .int (x7 + 1)), (0, .ref a0), (1, .int x1), (2, .int x2), (3, .int x3), (4, .int x4), (5, .int x5), (6, .int x6), (10, .int x10)]) hx hb dX12_plays_172 hl (k := 7) rfl rfl (by decide) rfl (fun ls hl => ?_)
              refine lv_goto (tgt := 34) hx hb dX12_plays_175 (by decide) ?_
              exact ih34 x3 x4 x5 x6 (x7 + 1) T0 V1 _ _ _ hf hP hD hS (lv_sub hl [1, 2, 3, 4, 5, 6, 7, 0] rfl)
      have b111 : ∀ (x3 : Int32) (x4 : Int32) (x5 : Int32) (x6 : Int32) (x7 : Int32) (x8 : Int32) (s0 : Int32) (T0 : Nat → Int32) (V1 : Nat → Int32) (H : Heap) (locs : List Loc) (ls : Array Slot), f_X12_plays_111 rec_X12_plays x1 x2 k34 x3 x4 x5 x6 x7 x8 s0 T0 V1 = some z → va_P E.1 vwCl [(a0, o12 T0 J0_2 J0_3 J0_19 u0_4 u0_5 u0_6 u0_7 a1 u0_21 u0_22 u0_27 u0_28 u0_31 u0_32), (a1, ai E 1860 V1)] H → va_D A [(a0, o12 T0 J0_2 J0_3 J0_19 u0_4 u0_5 u0_6 u0_7 a1 u0_21 u0_22 u0_27 u0_28 u0_31 u0_32), (a1, ai E 1860 V1)] → va_S A s.heap H locs → lv_has ls 11 [(0, .ref a0), (1, .int x1), (2, .int x2), (3, .int x3), (4, .int x4), (5, .int x5), (6, .int x6), (7, .int x7), (8, .int x8)] → W p l e ({ frames := fr + 4, cells := 0, slots := 0, locals := lo + 107 } : Room) s m args below meth c H locs 0 0 Q (F0 m 111 ls [.int s0]) := by
        intro x3 x4 x5 x6 x7 x8 s0 T0 V1 H locs ls hf hP hD hS hl
        unfold f_X12_plays_111 at hf
        refine lv_aload_n hx hb dX12_plays_111 rfl (lv_at hl 0 rfl) ?_
        refine lv_iload_n hx hb dX12_plays_112 rfl (lv_at hl 1 rfl) ?_
        refine lv_iconst (v := 1) hx hb dX12_plays_113 rfl ?_
        refine lv_iadd hx hb dX12_plays_114 ?_
        refine lv_iload_n hx hb dX12_plays_115 rfl (lv_at hl 2 rfl) ?_
        obtain ⟨z116, hz116, hf⟩ := bind_s hf
        refine xV_iu hx hb hml hown htg L12_433 (ih_X12_plays a0 a1 hz116 _) ⟨⟨rfl, rfl⟩, (by show fr + 1 ≤ fr + 4; omega), (by show 8 + (11 + 11) + lo ≤ lo + 107; omega)⟩ hK hG hA hP hD hS (is := [0, 1]) (sel := [some 0, some 1]) (ws2 := [(a0, o12 z116.2.1 J0_2 J0_3 J0_19 u0_4 u0_5 u0_6 u0_7 a1 u0_21 u0_22 u0_27 u0_28 u0_31 u0_32), (a1, ai E 1860 z116.2.2)]) rfl rfl rfl rfl rfl (xrecv hK hP (q0 := 0) (ci := 12) rfl rfl) rfl hl.1 rfl (Nat.le_of_ble_eq_true rfl) dX12_plays_116 (fun H locs hP hD hS => ?_)
        refine lv_iadd hx hb dX12_plays_119 ?_
        refine lv_istore (lv' := [(10, .int (s0 + z116.1)), (0, .ref a0), (1, .int x1), (2, .int x2), (3, .int x3), (4, .int x4), (5, .int x5), (6, .int x6), (7, .int x7), (8, .int x8)]) hx hb dX12_plays_120 hl (by decide) rfl (fun ls hl => ?_)
        refine lv_iload hx hb dX12_plays_122 (lv_at hl 9 rfl) ?_
        refine lv_if_ne (tgt := 135) hx hb dX12_plays_124 (by decide) (fun c124 => ?_) (fun c124 => ?_)
        · have hf := it_f c124 hf
          exact b135 x3 x4 x5 x6 x7 (s0 + z116.1) z116.2.1 z116.2.2 _ _ _ hf hP hD hS (lv_sub hl [1, 2, 3, 4, 5, 6, 7, 8, 0] rfl)
        · have hf := it_t c124 hf
          refine lv_aload_n hx hb dX12_plays_127 rfl (lv_at hl 1 rfl) ?_
          refine lv_iload hx hb dX12_plays_128 (lv_at hl 8 rfl) ?_
          refine lv_iconst (v := 0) hx hb dX12_plays_130 rfl ?_
          obtain ⟨z131, hz131, hf⟩ := bind_s hf
          refine xV_iu hx hb hml hown htg L12_358 (c_X12_hears l E a0 a1 hz131 _) ⟨⟨rfl, rfl⟩, (by show 0 + 1 ≤ fr + 4; omega), (by show 8 + (3 + 11) + 0 ≤ lo + 107; omega)⟩ hK hG hA hP hD hS (is := [0, 1]) (sel := [some 0, some 1]) (ws2 := [(a0, o12 z116.2.1 J0_2 J0_3 J0_19 u0_4 u0_5 u0_6 u0_7 a1 u0_21 u0_22 u0_27 u0_28 u0_31 u0_32), (a1, ai E 1860 z131.2)]) rfl rfl rfl rfl rfl (xrecv hK hP (q0 := 0) (ci := 12) rfl rfl) rfl hl.1 rfl (Nat.le_of_ble_eq_true rfl) dX12_plays_131 (fun H locs hP hD hS => ?_)
          refine lv_pop hx hb dX12_plays_134 rfl ?_
          exact b135 x3 x4 x5 x6 x7 (s0 + z116.1) z116.2.1 z131.2 _ _ _ hf hP hD hS (lv_sub hl [1, 2, 3, 4, 5, 6, 7, 8, 0] rfl)
      have b97 : ∀ (x3 : Int32) (x4 : Int32) (x5 : Int32) (x6 : Int32) (x7 : Int32) (x8 : Int32) (s0 : Int32) (T0 : Nat → Int32) (V1 : Nat → Int32) (H : Heap) (locs : List Loc) (ls : Array Slot), f_X12_plays_97 rec_X12_plays x1 x2 k34 x3 x4 x5 x6 x7 x8 s0 T0 V1 = some z → va_P E.1 vwCl [(a0, o12 T0 J0_2 J0_3 J0_19 u0_4 u0_5 u0_6 u0_7 a1 u0_21 u0_22 u0_27 u0_28 u0_31 u0_32), (a1, ai E 1860 V1)] H → va_D A [(a0, o12 T0 J0_2 J0_3 J0_19 u0_4 u0_5 u0_6 u0_7 a1 u0_21 u0_22 u0_27 u0_28 u0_31 u0_32), (a1, ai E 1860 V1)] → va_S A s.heap H locs → lv_has ls 11 [(0, .ref a0), (1, .int x1), (2, .int x2), (3, .int x3), (4, .int x4), (5, .int x5), (6, .int x6), (7, .int x7), (8, .int x8)] → W p l e ({ frames := fr + 4, cells := 0, slots := 0, locals := lo + 107 } : Room) s m args below meth c H locs 0 0 Q (F0 m 97 ls [.int s0]) := by
        intro x3 x4 x5 x6 x7 x8 s0 T0 V1 H locs ls hf hP hD hS hl
        unfold f_X12_plays_97 at hf
        refine lv_istore (lv' := [(9, .int s0), (0, .ref a0), (1, .int x1), (2, .int x2), (3, .int x3), (4, .int x4), (5, .int x5), (6, .int x6), (7, .int x7), (8, .int x8)]) hx hb dX12_plays_97 hl (by decide) rfl (fun ls hl => ?_)
        refine lv_iload_n hx hb dX12_plays_99 rfl (lv_at hl 4 rfl) ?_
        refine lv_if_eq (tgt := 108) hx hb dX12_plays_100 (by decide) (fun c100 => ?_) (fun c100 => ?_)
        · have hf := it_t c100 hf
          refine lv_iload hx hb dX12_plays_108 (lv_at hl 0 rfl) ?_
          refine lv_ineg hx hb dX12_plays_110 ?_
          exact b111 x3 x4 x5 x6 x7 x8 (-s0) T0 V1 _ _ _ hf hP hD hS (lv_sub hl [1, 2, 3, 4, 5, 6, 7, 8, 9] rfl)
        · have hf := it_f c100 hf
          refine lv_iload hx hb dX12_plays_103 (lv_at hl 0 rfl) ?_
          refine lv_goto (tgt := 111) hx hb dX12_plays_105 (by decide) ?_
          exact b111 x3 x4 x5 x6 x7 x8 s0 T0 V1 _ _ _ hf hP hD hS (lv_sub hl [1, 2, 3, 4, 5, 6, 7, 8, 9] rfl)
      have b81 : ∀ (x3 : Int32) (x4 : Int32) (x5 : Int32) (x6 : Int32) (x7 : Int32) (x8 : Int32) (T0 : Nat → Int32) (V1 : Nat → Int32) (H : Heap) (locs : List Loc) (ls : Array Slot), f_X12_plays_81 rec_X12_plays x1 x2 k34 x3 x4 x5 x6 x7 x8 T0 V1 = some z → va_P E.1 vwCl [(a0, o12 T0 J0_2 J0_3 J0_19 u0_4 u0_5 u0_6 u0_7 a1 u0_21 u0_22 u0_27 u0_28 u0_31 u0_32), (a1, ai E 1860 V1)] H → va_D A [(a0, o12 T0 J0_2 J0_3 J0_19 u0_4 u0_5 u0_6 u0_7 a1 u0_21 u0_22 u0_27 u0_28 u0_31 u0_32), (a1, ai E 1860 V1)] → va_S A s.heap H locs → lv_has ls 11 [(0, .ref a0), (1, .int x1), (2, .int x2), (3, .int x3), (4, .int x4), (5, .int x5), (6, .int x6), (7, .int x7), (8, .int x8)] → W p l e ({ frames := fr + 4, cells := 0, slots := 0, locals := lo + 107 } : Room) s m args below meth c H locs 0 0 Q (F0 m 81 ls []) := by
        intro x3 x4 x5 x6 x7 x8 T0 V1 H locs ls hf hP hD hS hl
        unfold f_X12_plays_81 at hf
        refine lv_iload hx hb dX12_plays_81 (lv_at hl 8 rfl) ?_
        refine lv_if_eq (tgt := 90) hx hb dX12_plays_83 (by decide) (fun c83 => ?_) (fun c83 => ?_)
        · have hf := it_t c83 hf
          refine lv_aload_n hx hb dX12_plays_90 rfl (lv_at hl 0 rfl) ?_
          obtain ⟨z91, hz91, hf⟩ := bind_s hf
          refine xV_ir hx hb hml hown htg L12_361 (c_X12_knowns l E a0 a1 hz91 _) ⟨⟨rfl, rfl⟩, (by show 3 + 1 ≤ fr + 4; omega), (by show 8 + (1 + 11) + 87 ≤ lo + 107; omega)⟩ hK hG hA hP hD hS (is := [0, 1]) rfl rfl (xrecv hK hP (q0 := 0) (ci := 12) rfl rfl) rfl hl.1 rfl (Nat.le_of_ble_eq_true rfl) dX12_plays_91 (fun H locs hP hD hS => ?_)
          refine lv_iload hx hb dX12_plays_94 (lv_at hl 4 rfl) ?_
          refine lv_isub hx hb dX12_plays_96 ?_
          exact b97 x3 x4 x5 x6 x7 x8 (z91 - x4) T0 V1 _ _ _ hf hP hD hS (lv_sub hl [0, 1, 2, 3, 4, 5, 6, 7, 8] rfl)
        · have hf := it_f c83 hf
          refine lv_iconst (v := 0) hx hb dX12_plays_86 rfl ?_
          refine lv_goto (tgt := 97) hx hb dX12_plays_87 (by decide) ?_
          exact b97 x3 x4 x5 x6 x7 x8 0 T0 V1 _ _ _ hf hP hD hS (lv_sub hl [0, 1, 2, 3, 4, 5, 6, 7, 8] rfl)
      have b61 : ∀ (x3 : Int32) (x4 : Int32) (x5 : Int32) (x6 : Int32) (x7 : Int32) (s0 : Int32) (T0 : Nat → Int32) (V1 : Nat → Int32) (H : Heap) (locs : List Loc) (ls : Array Slot), f_X12_plays_61 rec_X12_plays x1 x2 k34 x3 x4 x5 x6 x7 s0 T0 V1 = some z → va_P E.1 vwCl [(a0, o12 T0 J0_2 J0_3 J0_19 u0_4 u0_5 u0_6 u0_7 a1 u0_21 u0_22 u0_27 u0_28 u0_31 u0_32), (a1, ai E 1860 V1)] H → va_D A [(a0, o12 T0 J0_2 J0_3 J0_19 u0_4 u0_5 u0_6 u0_7 a1 u0_21 u0_22 u0_27 u0_28 u0_31 u0_32), (a1, ai E 1860 V1)] → va_S A s.heap H locs → lv_has ls 11 [(0, .ref a0), (1, .int x1), (2, .int x2), (3, .int x3), (4, .int x4), (5, .int x5), (6, .int x6), (7, .int x7)] → W p l e ({ frames := fr + 4, cells := 0, slots := 0, locals := lo + 107 } : Room) s m args below meth c H locs 0 0 Q (F0 m 61 ls [.int s0]) := by
        intro x3 x4 x5 x6 x7 s0 T0 V1 H locs ls hf hP hD hS hl
        unfold f_X12_plays_61 at hf
        refine lv_istore (lv' := [(8, .int s0), (0, .ref a0), (1, .int x1), (2, .int x2), (3, .int x3), (4, .int x4), (5, .int x5), (6, .int x6), (7, .int x7)]) hx hb dX12_plays_61 hl (by decide) rfl (fun ls hl => ?_)
        refine lv_iload hx hb dX12_plays_63 (lv_at hl 0 rfl) ?_
        refine lv_if_ne (tgt := 81) hx hb dX12_plays_65 (by decide) (fun c65 => ?_) (fun c65 => ?_)
        · have hf := it_f c65 hf
          exact b81 x3 x4 x5 x6 x7 s0 T0 V1 _ _ _ hf hP hD hS (lv_sub hl [1, 2, 3, 4, 5, 6, 7, 8, 0] rfl)
        · have hf := it_t c65 hf
          refine lv_aload_n hx hb dX12_plays_68 rfl (lv_at hl 1 rfl) ?_
          refine lv_iload hx hb dX12_plays_69 (lv_at hl 8 rfl) ?_
          refine lv_iconst (v := 1) hx hb dX12_plays_71 rfl ?_
          obtain ⟨z72, hz72, hf⟩ := bind_s hf
          refine xV_iu hx hb hml hown htg L12_358 (c_X12_hears l E a0 a1 hz72 _) ⟨⟨rfl, rfl⟩, (by show 0 + 1 ≤ fr + 4; omega), (by show 8 + (3 + 11) + 0 ≤ lo + 107; omega)⟩ hK hG hA hP hD hS (is := [0, 1]) (sel := [some 0, some 1]) (ws2 := [(a0, o12 T0 J0_2 J0_3 J0_19 u0_4 u0_5 u0_6 u0_7 a1 u0_21 u0_22 u0_27 u0_28 u0_31 u0_32), (a1, ai E 1860 z72.2)]) rfl rfl rfl rfl rfl (xrecv hK hP (q0 := 0) (ci := 12) rfl rfl) rfl hl.1 rfl (Nat.le_of_ble_eq_true rfl) dX12_plays_72 (fun H locs hP hD hS => ?_)
          refine lv_if_ne (tgt := 81) hx hb dX12_plays_75 (by decide) (fun c75 => ?_) (fun c75 => ?_)
          · have hf := it_f c75 hf
            exact b81 x3 x4 x5 x6 x7 s0 T0 z72.2 _ _ _ hf hP hD hS (lv_sub hl [1, 2, 3, 4, 5, 6, 7, 8, 0] rfl)
          · have hf := it_t c75 hf
            refine lv_goto (tgt := 172) hx hb dX12_plays_78 (by decide) ?_
            refine lv_iinc (v := x7 + 1) (lv' := [(7, .int (x7 + 1)), (8, .int s0), (0, .ref a0), (1, .int x1), (2, .int x2), (3, .int x3), (4, .int x4), (5, .int x5), (6, .int x6)]) hx hb dX12_plays_172 hl (k := 8) rfl rfl (by decide) rfl (fun ls hl => ?_)
            refine lv_goto (tgt := 34) hx hb dX12_plays_175 (by decide) ?_
            exact ih34 x3 x4 x5 x6 (x7 + 1) T0 z72.2 _ _ _ hf hP hD hS (lv_sub hl [2, 3, 4, 5, 6, 7, 8, 0] rfl)
      intro x3 x4 x5 x6 x7 T0 V1 H locs ls hf hP hD hS hl
      replace hf : g_X12_plays_34 rec_X12_plays x1 x2 k34 x3 x4 x5 x6 x7 T0 V1 = some z := by rw [ek34]; exact hf
      unfold g_X12_plays_34 at hf
      refine lv_iload hx hb dX12_plays_34 (lv_at hl 7 rfl) ?_
      refine lv_aload_n hx hb dX12_plays_36 rfl (lv_at hl 0 rfl) ?_
      refine G12_35 hx hb htg hown hK hP 0 rfl dX12_plays_37 ?_
      refine lv_iconst (v := 2) hx hb dX12_plays_40 rfl ?_
      obtain ⟨g41, hf⟩ := ck_s hf
      refine xiald hx hb hK hP 1 rfl g41 dX12_plays_41 ?_
      refine lv_icmp_gt (tgt := 178) hx hb dX12_plays_42 (by decide) (fun c42 => ?_) (fun c42 => ?_)
      · have hf := it_t c42 hf
        refine lv_iload_n hx hb dX12_plays_178 rfl (lv_at hl 1 rfl) ?_
        refine lv_if_ne (tgt := 188) hx hb dX12_plays_179 (by decide) (fun c179 => ?_) (fun c179 => ?_)
        · have hf := it_f c179 hf
          refine lv_iload hx hb dX12_plays_188 (lv_at hl 5 rfl) ?_
          exact ret (x5, T0, V1) hf nzi hP hS dX12_plays_190
        · have hf := it_t c179 hf
          refine lv_aload_n hx hb dX12_plays_182 rfl (lv_at hl 0 rfl) ?_
          refine lv_iload hx hb dX12_plays_183 (lv_at hl 6 rfl) ?_
          refine P12_436 hx hb htg hown hK hP hD hS 0 rfl dX12_plays_185 (fun H locs hP hD hS => ?_)
          refine lv_iload hx hb dX12_plays_188 (lv_at hl 5 rfl) ?_
          exact ret (x5, upd T0 30 x6, V1) hf nzi hP hS dX12_plays_190
      · have hf := it_f c42 hf
        refine lv_iload hx hb dX12_plays_45 (lv_at hl 7 rfl) ?_
        refine lv_aload_n hx hb dX12_plays_47 rfl (lv_at hl 0 rfl) ?_
        refine G12_35 hx hb htg hown hK hP 0 rfl dX12_plays_48 ?_
        refine lv_iconst (v := 2) hx hb dX12_plays_51 rfl ?_
        obtain ⟨g52, hf⟩ := ck_s hf
        refine xiald hx hb hK hP 1 rfl g52 dX12_plays_52 ?_
        refine lv_icmp_ne (tgt := 60) hx hb dX12_plays_53 (by decide) (fun c53 => ?_) (fun c53 => ?_)
        · have hf := it_f c53 hf
          refine lv_iconst (v := 0) hx hb dX12_plays_60 rfl ?_
          exact b61 x3 x4 x5 x6 x7 0 T0 V1 _ _ _ hf hP hD hS (lv_sub hl [0, 1, 2, 3, 4, 5, 6, 7] rfl)
        · have hf := it_t c53 hf
          refine lv_iconst (v := 1) hx hb dX12_plays_56 rfl ?_
          refine lv_goto (tgt := 61) hx hb dX12_plays_57 (by decide) ?_
          exact b61 x3 x4 x5 x6 x7 1 T0 V1 _ _ _ hf hP hD hS (lv_sub hl [0, 1, 2, 3, 4, 5, 6, 7] rfl)
  have b18 : ∀ (s0 : Int32) (T0 : Nat → Int32) (V1 : Nat → Int32) (H : Heap) (locs : List Loc) (ls : Array Slot), f_X12_plays_18 rec_X12_plays x1 x2 s0 T0 V1 = some z → va_P E.1 vwCl [(a0, o12 T0 J0_2 J0_3 J0_19 u0_4 u0_5 u0_6 u0_7 a1 u0_21 u0_22 u0_27 u0_28 u0_31 u0_32), (a1, ai E 1860 V1)] H → va_D A [(a0, o12 T0 J0_2 J0_3 J0_19 u0_4 u0_5 u0_6 u0_7 a1 u0_21 u0_22 u0_27 u0_28 u0_31 u0_32), (a1, ai E 1860 V1)] → va_S A s.heap H locs → lv_has ls 11 [(0, .ref a0), (1, .int x1), (2, .int x2)] → W p l e ({ frames := fr + 4, cells := 0, slots := 0, locals := lo + 107 } : Room) s m args below meth c H locs 0 0 Q (F0 m 18 ls [.int s0]) := by
    intro s0 T0 V1 H locs ls hf hP hD hS hl
    unfold f_X12_plays_18 at hf
    refine lv_istore_n (lv' := [(3, .int s0), (0, .ref a0), (1, .int x1), (2, .int x2)]) hx hb dX12_plays_18 rfl hl (by decide) rfl (fun ls hl => ?_)
    refine lv_aload_n hx hb dX12_plays_19 rfl (lv_at hl 1 rfl) ?_
    obtain ⟨z20, hz20, hf⟩ := bind_s hf
    refine xV_ir hx hb hml hown htg L12_361 (c_X12_knowns l E a0 a1 hz20 _) ⟨⟨rfl, rfl⟩, (by show 3 + 1 ≤ fr + 4; omega), (by show 8 + (1 + 11) + 87 ≤ lo + 107; omega)⟩ hK hG hA hP hD hS (is := [0, 1]) rfl rfl (xrecv hK hP (q0 := 0) (ci := 12) rfl rfl) rfl hl.1 rfl (Nat.le_of_ble_eq_true rfl) dX12_plays_20 (fun H locs hP hD hS => ?_)
    refine lv_istore (lv' := [(4, .int z20), (3, .int s0), (0, .ref a0), (1, .int x1), (2, .int x2)]) hx hb dX12_plays_23 hl (by decide) rfl (fun ls hl => ?_)
    refine lv_iconst (v := 0) hx hb dX12_plays_25 rfl ?_
    refine lv_istore (lv' := [(5, .int 0), (4, .int z20), (3, .int s0), (0, .ref a0), (1, .int x1), (2, .int x2)]) hx hb dX12_plays_26 hl (by decide) rfl (fun ls hl => ?_)
    refine lv_iconst (v := (-1)) hx hb dX12_plays_28 rfl ?_
    refine lv_istore (lv' := [(6, .int (-1)), (5, .int 0), (4, .int z20), (3, .int s0), (0, .ref a0), (1, .int x1), (2, .int x2)]) hx hb dX12_plays_29 hl (by decide) rfl (fun ls hl => ?_)
    refine lv_iconst (v := 0) hx hb dX12_plays_31 rfl ?_
    refine lv_istore (lv' := [(7, .int 0), (6, .int (-1)), (5, .int 0), (4, .int z20), (3, .int s0), (0, .ref a0), (1, .int x1), (2, .int x2)]) hx hb dX12_plays_32 hl (by decide) rfl (fun ls hl => ?_)
    exact b34 xF s0 z20 0 (-1) 0 T0 V1 _ _ _ hf hP hD hS (lv_sub hl [5, 6, 7, 4, 3, 2, 1, 0] rfl)
  unfold o_X12_plays at hf
  refine lv_iload_n hx hb dX12_plays_0 rfl (lv_at hl 1 rfl) ?_
  refine lv_iload_n hx hb dX12_plays_1 rfl (lv_at hl 2 rfl) ?_
  refine lv_icmp_ne (tgt := 7) hx hb dX12_plays_2 (by decide) (fun c2 => ?_) (fun c2 => ?_)
  · have hf := it_f c2 hf
    refine lv_iload_n hx hb dX12_plays_7 rfl (lv_at hl 1 rfl) ?_
    refine lv_iconst (v := 2) hx hb dX12_plays_8 rfl ?_
    obtain ⟨g9, hf⟩ := ck_s hf
    refine lv_irem hx hb dX12_plays_9 (of_decide_eq_true g9) ?_
    refine lv_if_ne (tgt := 17) hx hb dX12_plays_10 (by decide) (fun c10 => ?_) (fun c10 => ?_)
    · have hf := it_f c10 hf
      refine lv_iconst (v := 0) hx hb dX12_plays_17 rfl ?_
      exact b18 0 T0 V1 _ _ _ hf hP hD hS (lv_sub hl [0, 1, 2] rfl)
    · have hf := it_t c10 hf
      refine lv_iconst (v := 1) hx hb dX12_plays_13 rfl ?_
      refine lv_goto (tgt := 18) hx hb dX12_plays_14 (by decide) ?_
      exact b18 1 T0 V1 _ _ _ hf hP hD hS (lv_sub hl [0, 1, 2] rfl)
  · have hf := it_t c2 hf
    refine lv_iconst (v := 0) hx hb dX12_plays_5 rfl ?_
    exact ret (0, T0, V1) hf nzi hP hS dX12_plays_6
theorem rs_X12_plays (d : Nat) : r_X12_plays (d + 1) = o_X12_plays (r_X12_plays d) := by
  unfold r_X12_plays
  exact iter_succ _ _ _
set_option maxRecDepth 100000 in
theorem cr_X12_plays (l : Launch) (E : xE) : ∀ (d : Nat) (a0 a1 : Nat) {T0 : Nat → Int32} {J0_2 : Int64} {J0_3 : Int64} {J0_19 : Int64} {V1 : Nat → Int32} {u0_4 u0_5 u0_6 u0_7 u0_21 u0_22 u0_27 u0_28 u0_31 u0_32 : Nat} {x1 : Int32} {x2 : Int32} {z : Int32 × (Nat → Int32) × (Nat → Int32)}, r_X12_plays d T0 V1 x1 x2 = some z → ∀ sz : Nat, Met l yX12_plays (Cond.code yX12_plays cX12_plays 11 (some .int) :: gw) ({ frames := 4 * d, cells := 0, slots := 0, locals := 107 * d }) (xPc E [.ref a0, .int x1, .int x2] [(a0, o12 T0 J0_2 J0_3 J0_19 u0_4 u0_5 u0_6 u0_7 a1 u0_21 u0_22 u0_27 u0_28 u0_31 u0_32), (a1, ai E 1860 V1)] sz) (xQi E z.1 [(a0, o12 T0 J0_2 J0_3 J0_19 u0_4 u0_5 u0_6 u0_7 a1 u0_21 u0_22 u0_27 u0_28 u0_31 u0_32), (a1, ai E 1860 V1)] [(a0, o12 z.2.1 J0_2 J0_3 J0_19 u0_4 u0_5 u0_6 u0_7 a1 u0_21 u0_22 u0_27 u0_28 u0_31 u0_32), (a1, ai E 1860 z.2.2)] sz) 0 0 (va_A [(a0, o12 T0 J0_2 J0_3 J0_19 u0_4 u0_5 u0_6 u0_7 a1 u0_21 u0_22 u0_27 u0_28 u0_31 u0_32), (a1, ai E 1860 V1)] sz) := by
  intro d
  induction d with
  | zero => intro a0 a1 T0 J0_2 J0_3 J0_19 V1 u0_4 u0_5 u0_6 u0_7 u0_21 u0_22 u0_27 u0_28 u0_31 u0_32 x1 x2 z hf; exact (nn_s hf).elim
  | succ d ih => intro a0 a1 T0 J0_2 J0_3 J0_19 V1 u0_4 u0_5 u0_6 u0_7 u0_21 u0_22 u0_27 u0_28 u0_31 u0_32 x1 x2 z hf sz; rw [rs_X12_plays] at hf; rw [Nat.mul_succ, Nat.mul_succ]; exact c_X12_plays l E (4 * d) (107 * d) (rec_X12_plays := r_X12_plays d) ih a0 a1 hf sz
set_option maxRecDepth 100000 in
theorem c_X12_playsc (l : Launch) (E : xE) (a0 a1 : Nat) {T0 : Nat → Int32} {J0_2 : Int64} {J0_3 : Int64} {J0_19 : Int64} {V1 : Nat → Int32} {u0_4 u0_5 u0_6 u0_7 u0_21 u0_22 u0_27 u0_28 u0_31 u0_32 : Nat} {x1 : Int32} {x2 : Int32} {z : Int32 × (Nat → Int32) × (Nat → Int32)} (hf : f_X12_plays T0 V1 x1 x2 = some z) (sz : Nat) : Met l yX12_plays (Cond.code yX12_plays cX12_plays 11 (some .int) :: gw) ({ frames := 24, cells := 0, slots := 0, locals := 642 }) (xPc E [.ref a0, .int x1, .int x2] [(a0, o12 T0 J0_2 J0_3 J0_19 u0_4 u0_5 u0_6 u0_7 a1 u0_21 u0_22 u0_27 u0_28 u0_31 u0_32), (a1, ai E 1860 V1)] sz) (xQi E z.1 [(a0, o12 T0 J0_2 J0_3 J0_19 u0_4 u0_5 u0_6 u0_7 a1 u0_21 u0_22 u0_27 u0_28 u0_31 u0_32), (a1, ai E 1860 V1)] [(a0, o12 z.2.1 J0_2 J0_3 J0_19 u0_4 u0_5 u0_6 u0_7 a1 u0_21 u0_22 u0_27 u0_28 u0_31 u0_32), (a1, ai E 1860 z.2.2)] sz) 0 0 (va_A [(a0, o12 T0 J0_2 J0_3 J0_19 u0_4 u0_5 u0_6 u0_7 a1 u0_21 u0_22 u0_27 u0_28 u0_31 u0_32), (a1, ai E 1860 V1)] sz) := cr_X12_plays l E 6 a0 a1 hf sz
theorem dX12_readStep_0 : decode cX12_readStep 0 = .ok (.aload_n 0, 1) := by decide +kernel
theorem dX12_readStep_1 : decode cX12_readStep 1 = .ok (.invokevirtual 179, 3) := by decide +kernel
theorem dX12_readStep_4 : decode cX12_readStep 4 = .ok (.istore_n 2, 1) := by decide +kernel
theorem dX12_readStep_5 : decode cX12_readStep 5 = .ok (.iload_n 2, 1) := by decide +kernel
theorem dX12_readStep_6 : decode cX12_readStep 6 = .ok (.iconst 5, 1) := by decide +kernel
theorem dX12_readStep_7 : decode cX12_readStep 7 = .ok (.if_icmp .eq 9, 3) := by decide +kernel
theorem dX12_readStep_10 : decode cX12_readStep 10 = .ok (.iload_n 2, 1) := by decide +kernel
theorem dX12_readStep_11 : decode cX12_readStep 11 = .ok (.bipush 6, 2) := by decide +kernel
theorem dX12_readStep_13 : decode cX12_readStep 13 = .ok (.if_icmp .ne 7, 3) := by decide +kernel
theorem dX12_readStep_16 : decode cX12_readStep 16 = .ok (.iconst 1, 1) := by decide +kernel
theorem dX12_readStep_17 : decode cX12_readStep 17 = .ok (.goto 4, 3) := by decide +kernel
theorem dX12_readStep_20 : decode cX12_readStep 20 = .ok (.iconst 0, 1) := by decide +kernel
theorem dX12_readStep_21 : decode cX12_readStep 21 = .ok (.istore_n 3, 1) := by decide +kernel
theorem dX12_readStep_22 : decode cX12_readStep 22 = .ok (.iload_n 2, 1) := by decide +kernel
theorem dX12_readStep_23 : decode cX12_readStep 23 = .ok (.ifCond .ge 7, 3) := by decide +kernel
theorem dX12_readStep_26 : decode cX12_readStep 26 = .ok (.aload_n 0, 1) := by decide +kernel
theorem dX12_readStep_27 : decode cX12_readStep 27 = .ok (.invokevirtual 204, 3) := by decide +kernel
theorem dX12_readStep_30 : decode cX12_readStep 30 = .ok (.aload_n 0, 1) := by decide +kernel
theorem dX12_readStep_31 : decode cX12_readStep 31 = .ok (.getfield 191, 3) := by decide +kernel
theorem dX12_readStep_34 : decode cX12_readStep 34 = .ok (.ifCond .ne 22, 3) := by decide +kernel
theorem dX12_readStep_37 : decode cX12_readStep 37 = .ok (.aload_n 0, 1) := by decide +kernel
theorem dX12_readStep_38 : decode cX12_readStep 38 = .ok (.getfield 301, 3) := by decide +kernel
theorem dX12_readStep_41 : decode cX12_readStep 41 = .ok (.bipush 30, 2) := by decide +kernel
theorem dX12_readStep_43 : decode cX12_readStep 43 = .ok (.if_icmp .ne 13, 3) := by decide +kernel
theorem dX12_readStep_46 : decode cX12_readStep 46 = .ok (.aload_n 0, 1) := by decide +kernel
theorem dX12_readStep_47 : decode cX12_readStep 47 = .ok (.bipush 6, 2) := by decide +kernel
theorem dX12_readStep_49 : decode cX12_readStep 49 = .ok (.aload_n 0, 1) := by decide +kernel
theorem dX12_readStep_50 : decode cX12_readStep 50 = .ok (.getfield 109, 3) := by decide +kernel
theorem dX12_readStep_53 : decode cX12_readStep 53 = .ok (.invokevirtual 197, 3) := by decide +kernel
theorem dX12_readStep_56 : decode cX12_readStep 56 = .ok (.aload_n 0, 1) := by decide +kernel
theorem dX12_readStep_57 : decode cX12_readStep 57 = .ok (.getfield 191, 3) := by decide +kernel
theorem dX12_readStep_60 : decode cX12_readStep 60 = .ok (.ifCond .ne 22, 3) := by decide +kernel
theorem dX12_readStep_63 : decode cX12_readStep 63 = .ok (.iload_n 3, 1) := by decide +kernel
theorem dX12_readStep_64 : decode cX12_readStep 64 = .ok (.ifCond .eq 18, 3) := by decide +kernel
theorem dX12_readStep_67 : decode cX12_readStep 67 = .ok (.iload_n 1, 1) := by decide +kernel
theorem dX12_readStep_68 : decode cX12_readStep 68 = .ok (.iconst 3, 1) := by decide +kernel
theorem dX12_readStep_69 : decode cX12_readStep 69 = .ok (.if_icmp .ne 13, 3) := by decide +kernel
theorem dX12_readStep_72 : decode cX12_readStep 72 = .ok (.aload_n 0, 1) := by decide +kernel
theorem dX12_readStep_73 : decode cX12_readStep 73 = .ok (.bipush 7, 2) := by decide +kernel
theorem dX12_readStep_75 : decode cX12_readStep 75 = .ok (.aload_n 0, 1) := by decide +kernel
theorem dX12_readStep_76 : decode cX12_readStep 76 = .ok (.getfield 109, 3) := by decide +kernel
theorem dX12_readStep_79 : decode cX12_readStep 79 = .ok (.invokevirtual 197, 3) := by decide +kernel
theorem dX12_readStep_82 : decode cX12_readStep 82 = .ok (.aload_n 0, 1) := by decide +kernel
theorem dX12_readStep_83 : decode cX12_readStep 83 = .ok (.getfield 191, 3) := by decide +kernel
theorem dX12_readStep_86 : decode cX12_readStep 86 = .ok (.ifCond .le 4, 3) := by decide +kernel
theorem dX12_readStep_89 : decode cX12_readStep 89 = .ok (.return_, 1) := by decide +kernel
theorem dX12_readStep_90 : decode cX12_readStep 90 = .ok (.sipush 1590, 3) := by decide +kernel
theorem dX12_readStep_93 : decode cX12_readStep 93 = .ok (.bipush 9, 2) := by decide +kernel
theorem dX12_readStep_95 : decode cX12_readStep 95 = .ok (.aload_n 0, 1) := by decide +kernel
theorem dX12_readStep_96 : decode cX12_readStep 96 = .ok (.getfield 301, 3) := by decide +kernel
theorem dX12_readStep_99 : decode cX12_readStep 99 = .ok (.imul, 1) := by decide +kernel
theorem dX12_readStep_100 : decode cX12_readStep 100 = .ok (.iadd, 1) := by decide +kernel
theorem dX12_readStep_101 : decode cX12_readStep 101 = .ok (.istore 4, 2) := by decide +kernel
theorem dX12_readStep_103 : decode cX12_readStep 103 = .ok (.aload_n 0, 1) := by decide +kernel
theorem dX12_readStep_104 : decode cX12_readStep 104 = .ok (.dup, 1) := by decide +kernel
theorem dX12_readStep_105 : decode cX12_readStep 105 = .ok (.getfield 301, 3) := by decide +kernel
theorem dX12_readStep_108 : decode cX12_readStep 108 = .ok (.iconst 1, 1) := by decide +kernel
theorem dX12_readStep_109 : decode cX12_readStep 109 = .ok (.iadd, 1) := by decide +kernel
theorem dX12_readStep_110 : decode cX12_readStep 110 = .ok (.putfield 301, 3) := by decide +kernel
theorem dX12_readStep_113 : decode cX12_readStep 113 = .ok (.aload_n 0, 1) := by decide +kernel
theorem dX12_readStep_114 : decode cX12_readStep 114 = .ok (.invokevirtual 201, 3) := by decide +kernel
theorem dX12_readStep_117 : decode cX12_readStep 117 = .ok (.aload_n 0, 1) := by decide +kernel
theorem dX12_readStep_118 : decode cX12_readStep 118 = .ok (.getfield 35, 3) := by decide +kernel
theorem dX12_readStep_121 : decode cX12_readStep 121 = .ok (.iload 4, 2) := by decide +kernel
theorem dX12_readStep_123 : decode cX12_readStep 123 = .ok (.iload_n 2, 1) := by decide +kernel
theorem dX12_readStep_124 : decode cX12_readStep 124 = .ok (.iastore, 1) := by decide +kernel
theorem dX12_readStep_125 : decode cX12_readStep 125 = .ok (.aload_n 0, 1) := by decide +kernel
theorem dX12_readStep_126 : decode cX12_readStep 126 = .ok (.iload 4, 2) := by decide +kernel
theorem dX12_readStep_128 : decode cX12_readStep 128 = .ok (.invokevirtual 304, 3) := by decide +kernel
theorem dX12_readStep_131 : decode cX12_readStep 131 = .ok (.aload_n 0, 1) := by decide +kernel
theorem dX12_readStep_132 : decode cX12_readStep 132 = .ok (.aload_n 0, 1) := by decide +kernel
theorem dX12_readStep_133 : decode cX12_readStep 133 = .ok (.bipush 59, 2) := by decide +kernel
theorem dX12_readStep_135 : decode cX12_readStep 135 = .ok (.invokevirtual 286, 3) := by decide +kernel
theorem dX12_readStep_138 : decode cX12_readStep 138 = .ok (.invokevirtual 207, 3) := by decide +kernel
theorem dX12_readStep_141 : decode cX12_readStep 141 = .ok (.iload_n 3, 1) := by decide +kernel
theorem dX12_readStep_142 : decode cX12_readStep 142 = .ok (.ifCond .eq 27, 3) := by decide +kernel
theorem dX12_readStep_145 : decode cX12_readStep 145 = .ok (.aload_n 0, 1) := by decide +kernel
theorem dX12_readStep_146 : decode cX12_readStep 146 = .ok (.getfield 191, 3) := by decide +kernel
theorem dX12_readStep_149 : decode cX12_readStep 149 = .ok (.ifCond .ne 20, 3) := by decide +kernel
theorem dX12_readStep_152 : decode cX12_readStep 152 = .ok (.aload_n 0, 1) := by decide +kernel
theorem dX12_readStep_153 : decode cX12_readStep 153 = .ok (.invokevirtual 185, 3) := by decide +kernel
theorem dX12_readStep_156 : decode cX12_readStep 156 = .ok (.ifCond .ne 13, 3) := by decide +kernel
theorem dX12_readStep_159 : decode cX12_readStep 159 = .ok (.aload_n 0, 1) := by decide +kernel
theorem dX12_readStep_160 : decode cX12_readStep 160 = .ok (.iload_n 1, 1) := by decide +kernel
theorem dX12_readStep_161 : decode cX12_readStep 161 = .ok (.iconst 1, 1) := by decide +kernel
theorem dX12_readStep_162 : decode cX12_readStep 162 = .ok (.iadd, 1) := by decide +kernel
theorem dX12_readStep_163 : decode cX12_readStep 163 = .ok (.invokevirtual 307, 3) := by decide +kernel
theorem dX12_readStep_166 : decode cX12_readStep 166 = .ok (.goto (-25), 3) := by decide +kernel
theorem dX12_readStep_169 : decode cX12_readStep 169 = .ok (.iload_n 3, 1) := by decide +kernel
theorem dX12_readStep_170 : decode cX12_readStep 170 = .ok (.ifCond .eq 21, 3) := by decide +kernel
theorem dX12_readStep_173 : decode cX12_readStep 173 = .ok (.aload_n 0, 1) := by decide +kernel
theorem dX12_readStep_174 : decode cX12_readStep 174 = .ok (.aload_n 0, 1) := by decide +kernel
theorem dX12_readStep_175 : decode cX12_readStep 175 = .ok (.invokevirtual 185, 3) := by decide +kernel
theorem dX12_readStep_178 : decode cX12_readStep 178 = .ok (.invokevirtual 207, 3) := by decide +kernel
theorem dX12_readStep_181 : decode cX12_readStep 181 = .ok (.aload_n 0, 1) := by decide +kernel
theorem dX12_readStep_182 : decode cX12_readStep 182 = .ok (.aload_n 0, 1) := by decide +kernel
theorem dX12_readStep_183 : decode cX12_readStep 183 = .ok (.bipush 59, 2) := by decide +kernel
theorem dX12_readStep_185 : decode cX12_readStep 185 = .ok (.invokevirtual 286, 3) := by decide +kernel
theorem dX12_readStep_188 : decode cX12_readStep 188 = .ok (.invokevirtual 207, 3) := by decide +kernel
theorem dX12_readStep_191 : decode cX12_readStep 191 = .ok (.aload_n 0, 1) := by decide +kernel
theorem dX12_readStep_192 : decode cX12_readStep 192 = .ok (.getfield 35, 3) := by decide +kernel
theorem dX12_readStep_195 : decode cX12_readStep 195 = .ok (.iload 4, 2) := by decide +kernel
theorem dX12_readStep_197 : decode cX12_readStep 197 = .ok (.bipush 8, 2) := by decide +kernel
theorem dX12_readStep_199 : decode cX12_readStep 199 = .ok (.iadd, 1) := by decide +kernel
theorem dX12_readStep_200 : decode cX12_readStep 200 = .ok (.aload_n 0, 1) := by decide +kernel
theorem dX12_readStep_201 : decode cX12_readStep 201 = .ok (.getfield 301, 3) := by decide +kernel
theorem dX12_readStep_204 : decode cX12_readStep 204 = .ok (.iastore, 1) := by decide +kernel
theorem dX12_readStep_205 : decode cX12_readStep 205 = .ok (.return_, 1) := by decide +kernel
set_option maxRecDepth 100000 in
theorem c_X12_readStep (l : Launch) (E : xE) (fr lo : Nat) {rec_X12_readStep : (Nat → Int32) → Int64 → (Nat → Int32) → (Nat → Int32) → (Nat → Int64) → Int32 → Option ((Nat → Int32) × Int64 × (Nat → Int32))} (ih_X12_readStep : ∀ (a0 a1 a2 a3 : Nat) {T0 : Nat → Int32} {J0_2 : Int64} {J0_3 : Int64} {J0_19 : Int64} {V1 : Nat → Int32} {V2 : Nat → Int32} {V3 : Nat → Int64} {u0_4 u0_5 u0_6 u0_21 u0_27 u0_28 u0_31 u0_32 : Nat} {x1 : Int32} {z : (Nat → Int32) × Int64 × (Nat → Int32)}, rec_X12_readStep T0 J0_19 V1 V2 V3 x1 = some z → ∀ sz : Nat, Met l yX12_readStep (Cond.code yX12_readStep cX12_readStep 5 none :: gw) ({ frames := fr, cells := 0, slots := 0, locals := lo }) (xPc E [.ref a0, .int x1] [(a0, o12 T0 J0_2 J0_3 J0_19 u0_4 u0_5 u0_6 a1 a2 u0_21 a3 u0_27 u0_28 u0_31 u0_32), (a1, ab E 900 V1), (a2, ai E 1860 V2), (a3, al E 25 V3)] sz) (xQv E [(a0, o12 T0 J0_2 J0_3 J0_19 u0_4 u0_5 u0_6 a1 a2 u0_21 a3 u0_27 u0_28 u0_31 u0_32), (a1, ab E 900 V1), (a2, ai E 1860 V2), (a3, al E 25 V3)] [(a0, o12 z.1 J0_2 J0_3 z.2.1 u0_4 u0_5 u0_6 a1 a2 u0_21 a3 u0_27 u0_28 u0_31 u0_32), (a1, ab E 900 V1), (a2, ai E 1860 z.2.2), (a3, al E 25 V3)] sz) 0 0 (va_A [(a0, o12 T0 J0_2 J0_3 J0_19 u0_4 u0_5 u0_6 a1 a2 u0_21 a3 u0_27 u0_28 u0_31 u0_32), (a1, ab E 900 V1), (a2, ai E 1860 V2), (a3, al E 25 V3)] sz)) (a0 a1 a2 a3 : Nat) {T0 : Nat → Int32} {J0_2 : Int64} {J0_3 : Int64} {J0_19 : Int64} {V1 : Nat → Int32} {V2 : Nat → Int32} {V3 : Nat → Int64} {u0_4 u0_5 u0_6 u0_21 u0_27 u0_28 u0_31 u0_32 : Nat} {x1 : Int32} {z : (Nat → Int32) × Int64 × (Nat → Int32)} (hf : o_X12_readStep rec_X12_readStep T0 J0_19 V1 V2 V3 x1 = some z) (sz : Nat) : Met l yX12_readStep (Cond.code yX12_readStep cX12_readStep 5 none :: gw) ({ frames := fr + 8, cells := 0, slots := 0, locals := lo + 173 }) (xPc E [.ref a0, .int x1] [(a0, o12 T0 J0_2 J0_3 J0_19 u0_4 u0_5 u0_6 a1 a2 u0_21 a3 u0_27 u0_28 u0_31 u0_32), (a1, ab E 900 V1), (a2, ai E 1860 V2), (a3, al E 25 V3)] sz) (xQv E [(a0, o12 T0 J0_2 J0_3 J0_19 u0_4 u0_5 u0_6 a1 a2 u0_21 a3 u0_27 u0_28 u0_31 u0_32), (a1, ab E 900 V1), (a2, ai E 1860 V2), (a3, al E 25 V3)] [(a0, o12 z.1 J0_2 J0_3 z.2.1 u0_4 u0_5 u0_6 a1 a2 u0_21 a3 u0_27 u0_28 u0_31 u0_32), (a1, ab E 900 V1), (a2, ai E 1860 z.2.2), (a3, al E 25 V3)] sz) 0 0 (va_A [(a0, o12 T0 J0_2 J0_3 J0_19 u0_4 u0_5 u0_6 a1 a2 u0_21 a3 u0_27 u0_28 u0_31 u0_32), (a1, ab E 900 V1), (a2, ai E 1860 V2), (a3, al E 25 V3)] sz) := by
  refine xM_v (by decide +kernel) (Nat.le_of_ble_eq_true rfl) ?_
  intro p e s m args below meth c A Q hx hb hml hown htg hK hG hA ret0 H locs ls hP hD hS hl
  have ret : ∀ (z' : (Nat → Int32) × Int64 × (Nat → Int32)) {H : Heap} {locs : List Loc} {pc : Nat} {ls : Array Slot}, some z' = some z → va_P E.1 vwCl [(a0, o12 z'.1 J0_2 J0_3 z'.2.1 u0_4 u0_5 u0_6 a1 a2 u0_21 a3 u0_27 u0_28 u0_31 u0_32), (a1, ab E 900 V1), (a2, ai E 1860 z'.2.2), (a3, al E 25 V3)] H → va_S A s.heap H locs → decode cX12_readStep pc = .ok (.return_, 1) → W p l e ({ frames := fr + 8, cells := 0, slots := 0, locals := lo + 173 } : Room) s m args below meth c H locs 0 0 Q (F0 m pc ls []) := by
    intro z' H locs pc ls h
    cases h
    exact ret0
  replace hl : lv_has ls 5 [(0, .ref a0), (1, .int x1)] := hl
  have b191 : ∀ (x4 : Int32) (T0 : Nat → Int32) (J0_19 : Int64) (V2 : Nat → Int32) (H : Heap) (locs : List Loc) (ls : Array Slot), f_X12_readStep_191 rec_X12_readStep V1 V3 x1 x4 T0 J0_19 V2 = some z → va_P E.1 vwCl [(a0, o12 T0 J0_2 J0_3 J0_19 u0_4 u0_5 u0_6 a1 a2 u0_21 a3 u0_27 u0_28 u0_31 u0_32), (a1, ab E 900 V1), (a2, ai E 1860 V2), (a3, al E 25 V3)] H → va_D A [(a0, o12 T0 J0_2 J0_3 J0_19 u0_4 u0_5 u0_6 a1 a2 u0_21 a3 u0_27 u0_28 u0_31 u0_32), (a1, ab E 900 V1), (a2, ai E 1860 V2), (a3, al E 25 V3)] → va_S A s.heap H locs → lv_has ls 5 [(0, .ref a0), (4, .int x4)] → W p l e ({ frames := fr + 8, cells := 0, slots := 0, locals := lo + 173 } : Room) s m args below meth c H locs 0 0 Q (F0 m 191 ls []) := by
    intro x4 T0 J0_19 V2 H locs ls hf hP hD hS hl
    unfold f_X12_readStep_191 at hf
    refine lv_aload_n hx hb dX12_readStep_191 rfl (lv_at hl 0 rfl) ?_
    refine G12_35 hx hb htg hown hK hP 0 rfl dX12_readStep_192 ?_
    refine lv_iload hx hb dX12_readStep_195 (lv_at hl 1 rfl) ?_
    refine lv_bipush (v := 8) hx hb dX12_readStep_197 rfl ?_
    refine lv_iadd hx hb dX12_readStep_199 ?_
    refine lv_aload_n hx hb dX12_readStep_200 rfl (lv_at hl 0 rfl) ?_
    refine G12_301 hx hb htg hown hK hP 0 rfl dX12_readStep_201 ?_
    obtain ⟨g204, hf⟩ := ck_s hf
    refine xiast hx hb hK hP hD hS 2 rfl g204 dX12_readStep_204 (fun H locs hP hD hS => ?_)
    exact ret (T0, J0_19, upd V2 (Int32.toNatClampNeg (x4 + 8)) (T0 26)) hf hP hS dX12_readStep_205
  have b169 : ∀ (x3 : Int32) (x4 : Int32) (T0 : Nat → Int32) (J0_19 : Int64) (V2 : Nat → Int32) (H : Heap) (locs : List Loc) (ls : Array Slot), f_X12_readStep_169 rec_X12_readStep V1 V3 x1 x3 x4 T0 J0_19 V2 = some z → va_P E.1 vwCl [(a0, o12 T0 J0_2 J0_3 J0_19 u0_4 u0_5 u0_6 a1 a2 u0_21 a3 u0_27 u0_28 u0_31 u0_32), (a1, ab E 900 V1), (a2, ai E 1860 V2), (a3, al E 25 V3)] H → va_D A [(a0, o12 T0 J0_2 J0_3 J0_19 u0_4 u0_5 u0_6 a1 a2 u0_21 a3 u0_27 u0_28 u0_31 u0_32), (a1, ab E 900 V1), (a2, ai E 1860 V2), (a3, al E 25 V3)] → va_S A s.heap H locs → lv_has ls 5 [(0, .ref a0), (3, .int x3), (4, .int x4)] → W p l e ({ frames := fr + 8, cells := 0, slots := 0, locals := lo + 173 } : Room) s m args below meth c H locs 0 0 Q (F0 m 169 ls []) := by
    intro x3 x4 T0 J0_19 V2 H locs ls hf hP hD hS hl
    unfold f_X12_readStep_169 at hf
    refine lv_iload_n hx hb dX12_readStep_169 rfl (lv_at hl 1 rfl) ?_
    refine lv_if_eq (tgt := 191) hx hb dX12_readStep_170 (by decide) (fun c170 => ?_) (fun c170 => ?_)
    · have hf := it_t c170 hf
      exact b191 x4 T0 J0_19 V2 _ _ _ hf hP hD hS (lv_sub hl [0, 2] rfl)
    · have hf := it_f c170 hf
      refine lv_aload_n hx hb dX12_readStep_173 rfl (lv_at hl 0 rfl) ?_
      refine lv_aload_n hx hb dX12_readStep_174 rfl (lv_at hl 0 rfl) ?_
      obtain ⟨z175, hz175, hf⟩ := bind_s hf
      refine xV_ir hx hb hml hown htg L12_185 (c_X12_isEnd l E a0 hz175 _) ⟨⟨rfl, rfl⟩, (by show 1 + 1 ≤ fr + 8; omega), (by show 8 + (1 + 11) + 27 ≤ lo + 173; omega)⟩ hK hG hA hP hD hS (is := [0]) rfl rfl (xrecv hK hP (q0 := 0) (ci := 12) rfl rfl) rfl hl.1 rfl (Nat.le_of_ble_eq_true rfl) dX12_readStep_175 (fun H locs hP hD hS => ?_)
      obtain ⟨z178, hz178, hf⟩ := bind_s hf
      refine xV_vu hx hb hml hown htg L12_207 (c_X12_must l E a0 a1 hz178 _) ⟨⟨rfl, rfl⟩, (by show 2 + 1 ≤ fr + 8; omega), (by show 8 + (2 + 11) + 42 ≤ lo + 173; omega)⟩ hK hG hA hP hD hS (is := [0, 1]) (sel := [some 0, some 1, none, none]) (ws2 := [(a0, o12 z178.1 J0_2 J0_3 z178.2 u0_4 u0_5 u0_6 a1 a2 u0_21 a3 u0_27 u0_28 u0_31 u0_32), (a1, ab E 900 V1), (a2, ai E 1860 V2), (a3, al E 25 V3)]) rfl rfl rfl rfl rfl (xrecv hK hP (q0 := 0) (ci := 12) rfl rfl) rfl hl.1 rfl (Nat.le_of_ble_eq_true rfl) dX12_readStep_178 (fun H locs hP hD hS => ?_)
      refine lv_aload_n hx hb dX12_readStep_181 rfl (lv_at hl 0 rfl) ?_
      refine lv_aload_n hx hb dX12_readStep_182 rfl (lv_at hl 0 rfl) ?_
      refine lv_bipush (v := 59) hx hb dX12_readStep_183 rfl ?_
      obtain ⟨z185, hz185, hf⟩ := bind_s hf
      refine xV_ir hx hb hml hown htg L12_286 (c_X12_isSign l E a0 hz185 _) ⟨⟨rfl, rfl⟩, (by show 0 + 1 ≤ fr + 8; omega), (by show 8 + (2 + 11) + 0 ≤ lo + 173; omega)⟩ hK hG hA hP hD hS (is := [0]) rfl rfl (xrecv hK hP (q0 := 0) (ci := 12) rfl rfl) rfl hl.1 rfl (Nat.le_of_ble_eq_true rfl) dX12_readStep_185 (fun H locs hP hD hS => ?_)
      obtain ⟨z188, hz188, hf⟩ := bind_s hf
      refine xV_vu hx hb hml hown htg L12_207 (c_X12_must l E a0 a1 hz188 _) ⟨⟨rfl, rfl⟩, (by show 2 + 1 ≤ fr + 8; omega), (by show 8 + (2 + 11) + 42 ≤ lo + 173; omega)⟩ hK hG hA hP hD hS (is := [0, 1]) (sel := [some 0, some 1, none, none]) (ws2 := [(a0, o12 z188.1 J0_2 J0_3 z188.2 u0_4 u0_5 u0_6 a1 a2 u0_21 a3 u0_27 u0_28 u0_31 u0_32), (a1, ab E 900 V1), (a2, ai E 1860 V2), (a3, al E 25 V3)]) rfl rfl rfl rfl rfl (xrecv hK hP (q0 := 0) (ci := 12) rfl rfl) rfl hl.1 rfl (Nat.le_of_ble_eq_true rfl) dX12_readStep_188 (fun H locs hP hD hS => ?_)
      exact b191 x4 z188.1 z188.2 V2 _ _ _ hf hP hD hS (lv_sub hl [0, 2] rfl)
  have b141 : ∀ (n : Nat) (x3 : Int32) (x4 : Int32) (T0 : Nat → Int32) (J0_19 : Int64) (V2 : Nat → Int32) (H : Heap) (locs : List Loc) (ls : Array Slot), f_X12_readStep_141 rec_X12_readStep V1 V3 x1 n x3 x4 T0 J0_19 V2 = some z → va_P E.1 vwCl [(a0, o12 T0 J0_2 J0_3 J0_19 u0_4 u0_5 u0_6 a1 a2 u0_21 a3 u0_27 u0_28 u0_31 u0_32), (a1, ab E 900 V1), (a2, ai E 1860 V2), (a3, al E 25 V3)] H → va_D A [(a0, o12 T0 J0_2 J0_3 J0_19 u0_4 u0_5 u0_6 a1 a2 u0_21 a3 u0_27 u0_28 u0_31 u0_32), (a1, ab E 900 V1), (a2, ai E 1860 V2), (a3, al E 25 V3)] → va_S A s.heap H locs → lv_has ls 5 [(0, .ref a0), (1, .int x1), (3, .int x3), (4, .int x4)] → W p l e ({ frames := fr + 8, cells := 0, slots := 0, locals := lo + 173 } : Room) s m args below meth c H locs 0 0 Q (F0 m 141 ls []) := by
    intro n
    induction n with
    | zero => intro x3 x4 T0 J0_19 V2 H locs ls hf; exact (nn_s hf).elim
    | succ n ih141 =>
      obtain ⟨k141, ek141⟩ : ∃ k, k = f_X12_readStep_141 rec_X12_readStep V1 V3 x1 n := ⟨_, rfl⟩
      rw [← ek141] at ih141
      intro x3 x4 T0 J0_19 V2 H locs ls hf hP hD hS hl
      replace hf : g_X12_readStep_141 rec_X12_readStep V1 V3 x1 k141 x3 x4 T0 J0_19 V2 = some z := by rw [ek141]; exact hf
      unfold g_X12_readStep_141 at hf
      refine lv_iload_n hx hb dX12_readStep_141 rfl (lv_at hl 2 rfl) ?_
      refine lv_if_eq (tgt := 169) hx hb dX12_readStep_142 (by decide) (fun c142 => ?_) (fun c142 => ?_)
      · have hf := it_t c142 hf
        exact b169 x3 x4 T0 J0_19 V2 _ _ _ hf hP hD hS (lv_sub hl [0, 2, 3] rfl)
      · have hf := it_f c142 hf
        refine lv_aload_n hx hb dX12_readStep_145 rfl (lv_at hl 0 rfl) ?_
        refine G12_191 hx hb htg hown hK hP 0 rfl dX12_readStep_146 ?_
        refine lv_if_ne (tgt := 169) hx hb dX12_readStep_149 (by decide) (fun c149 => ?_) (fun c149 => ?_)
        · have hf := it_f c149 hf
          exact b169 x3 x4 T0 J0_19 V2 _ _ _ hf hP hD hS (lv_sub hl [0, 2, 3] rfl)
        · have hf := it_t c149 hf
          refine lv_aload_n hx hb dX12_readStep_152 rfl (lv_at hl 0 rfl) ?_
          obtain ⟨z153, hz153, hf⟩ := bind_s hf
          refine xV_ir hx hb hml hown htg L12_185 (c_X12_isEnd l E a0 hz153 _) ⟨⟨rfl, rfl⟩, (by show 1 + 1 ≤ fr + 8; omega), (by show 8 + (1 + 11) + 27 ≤ lo + 173; omega)⟩ hK hG hA hP hD hS (is := [0]) rfl rfl (xrecv hK hP (q0 := 0) (ci := 12) rfl rfl) rfl hl.1 rfl (Nat.le_of_ble_eq_true rfl) dX12_readStep_153 (fun H locs hP hD hS => ?_)
          refine lv_if_ne (tgt := 169) hx hb dX12_readStep_156 (by decide) (fun c156 => ?_) (fun c156 => ?_)
          · have hf := it_f c156 hf
            exact b169 x3 x4 T0 J0_19 V2 _ _ _ hf hP hD hS (lv_sub hl [0, 2, 3] rfl)
          · have hf := it_t c156 hf
            refine lv_aload_n hx hb dX12_readStep_159 rfl (lv_at hl 0 rfl) ?_
            refine lv_iload_n hx hb dX12_readStep_160 rfl (lv_at hl 1 rfl) ?_
            refine lv_iconst (v := 1) hx hb dX12_readStep_161 rfl ?_
            refine lv_iadd hx hb dX12_readStep_162 ?_
            obtain ⟨z163, hz163, hf⟩ := bind_s hf
            refine xV_vu hx hb hml hown htg L12_307 (ih_X12_readStep a0 a1 a2 a3 hz163 _) ⟨⟨rfl, rfl⟩, (by show fr + 1 ≤ fr + 8; omega), (by show 8 + (5 + 11) + lo ≤ lo + 173; omega)⟩ hK hG hA hP hD hS (is := [0, 1, 2, 3]) (sel := [some 0, some 1, some 2, some 3]) (ws2 := [(a0, o12 z163.1 J0_2 J0_3 z163.2.1 u0_4 u0_5 u0_6 a1 a2 u0_21 a3 u0_27 u0_28 u0_31 u0_32), (a1, ab E 900 V1), (a2, ai E 1860 z163.2.2), (a3, al E 25 V3)]) rfl rfl rfl rfl rfl (xrecv hK hP (q0 := 0) (ci := 12) rfl rfl) rfl hl.1 rfl (Nat.le_of_ble_eq_true rfl) dX12_readStep_163 (fun H locs hP hD hS => ?_)
            refine lv_goto (tgt := 141) hx hb dX12_readStep_166 (by decide) ?_
            exact ih141 x3 x4 z163.1 z163.2.1 z163.2.2 _ _ _ hf hP hD hS (lv_sub hl [0, 1, 2, 3] rfl)
  have b82 : ∀ (x2 : Int32) (x3 : Int32) (T0 : Nat → Int32) (J0_19 : Int64) (V2 : Nat → Int32) (H : Heap) (locs : List Loc) (ls : Array Slot), f_X12_readStep_82 rec_X12_readStep V1 V3 x1 x2 x3 T0 J0_19 V2 = some z → va_P E.1 vwCl [(a0, o12 T0 J0_2 J0_3 J0_19 u0_4 u0_5 u0_6 a1 a2 u0_21 a3 u0_27 u0_28 u0_31 u0_32), (a1, ab E 900 V1), (a2, ai E 1860 V2), (a3, al E 25 V3)] H → va_D A [(a0, o12 T0 J0_2 J0_3 J0_19 u0_4 u0_5 u0_6 a1 a2 u0_21 a3 u0_27 u0_28 u0_31 u0_32), (a1, ab E 900 V1), (a2, ai E 1860 V2), (a3, al E 25 V3)] → va_S A s.heap H locs → lv_has ls 5 [(0, .ref a0), (1, .int x1), (2, .int x2), (3, .int x3)] → W p l e ({ frames := fr + 8, cells := 0, slots := 0, locals := lo + 173 } : Room) s m args below meth c H locs 0 0 Q (F0 m 82 ls []) := by
    intro x2 x3 T0 J0_19 V2 H locs ls hf hP hD hS hl
    unfold f_X12_readStep_82 at hf
    refine lv_aload_n hx hb dX12_readStep_82 rfl (lv_at hl 0 rfl) ?_
    refine G12_191 hx hb htg hown hK hP 0 rfl dX12_readStep_83 ?_
    refine lv_if_le (tgt := 90) hx hb dX12_readStep_86 (by decide) (fun c86 => ?_) (fun c86 => ?_)
    · have hf := it_t c86 hf
      refine lv_sipush (v := 1590) hx hb dX12_readStep_90 rfl ?_
      refine lv_bipush (v := 9) hx hb dX12_readStep_93 rfl ?_
      refine lv_aload_n hx hb dX12_readStep_95 rfl (lv_at hl 0 rfl) ?_
      refine G12_301 hx hb htg hown hK hP 0 rfl dX12_readStep_96 ?_
      refine lv_imul hx hb dX12_readStep_99 ?_
      refine lv_iadd hx hb dX12_readStep_100 ?_
      refine lv_istore (lv' := [(4, .int (1590 + (9 * (T0 26)))), (0, .ref a0), (1, .int x1), (2, .int x2), (3, .int x3)]) hx hb dX12_readStep_101 hl (by decide) rfl (fun ls hl => ?_)
      refine lv_aload_n hx hb dX12_readStep_103 rfl (lv_at hl 1 rfl) ?_
      refine lv_dup hx hb dX12_readStep_104 rfl ?_
      refine G12_301 hx hb htg hown hK hP 0 rfl dX12_readStep_105 ?_
      refine lv_iconst (v := 1) hx hb dX12_readStep_108 rfl ?_
      refine lv_iadd hx hb dX12_readStep_109 ?_
      refine P12_301 hx hb htg hown hK hP hD hS 0 rfl dX12_readStep_110 (fun H locs hP hD hS => ?_)
      refine lv_aload_n hx hb dX12_readStep_113 rfl (lv_at hl 1 rfl) ?_
      obtain ⟨z114, hz114, hf⟩ := bind_s hf
      refine xV_vu hx hb hml hown htg L12_201 (c_X12_advance l E a0 a1 hz114 _) ⟨⟨rfl, rfl⟩, (by show 1 + 1 ≤ fr + 8; omega), (by show 8 + (2 + 11) + 21 ≤ lo + 173; omega)⟩ hK hG hA hP hD hS (is := [0, 1]) (sel := [some 0, some 1, none, none]) (ws2 := [(a0, o12 z114.1 J0_2 J0_3 z114.2 u0_4 u0_5 u0_6 a1 a2 u0_21 a3 u0_27 u0_28 u0_31 u0_32), (a1, ab E 900 V1), (a2, ai E 1860 V2), (a3, al E 25 V3)]) rfl rfl rfl rfl rfl (xrecv hK hP (q0 := 0) (ci := 12) rfl rfl) rfl hl.1 rfl (Nat.le_of_ble_eq_true rfl) dX12_readStep_114 (fun H locs hP hD hS => ?_)
      refine lv_aload_n hx hb dX12_readStep_117 rfl (lv_at hl 1 rfl) ?_
      refine G12_35 hx hb htg hown hK hP 0 rfl dX12_readStep_118 ?_
      refine lv_iload hx hb dX12_readStep_121 (lv_at hl 0 rfl) ?_
      refine lv_iload_n hx hb dX12_readStep_123 rfl (lv_at hl 3 rfl) ?_
      obtain ⟨g124, hf⟩ := ck_s hf
      refine xiast hx hb hK hP hD hS 2 rfl g124 dX12_readStep_124 (fun H locs hP hD hS => ?_)
      refine lv_aload_n hx hb dX12_readStep_125 rfl (lv_at hl 1 rfl) ?_
      refine lv_iload hx hb dX12_readStep_126 (lv_at hl 0 rfl) ?_
      obtain ⟨z128, hz128, hf⟩ := bind_s hf
      refine xV_vu hx hb hml hown htg L12_304 (c_X12_readRest l E a0 a2 a1 a3 hz128 _) ⟨⟨rfl, rfl⟩, (by show 7 + 1 ≤ fr + 8; omega), (by show 8 + (3 + 11) + 151 ≤ lo + 173; omega)⟩ hK hG hA hP hD hS (is := [0, 2, 1, 3]) (sel := [some 0, some 2, some 1, some 3]) (ws2 := [(a0, o12 z128.1 J0_2 J0_3 z128.2.1 u0_4 u0_5 u0_6 a1 a2 u0_21 a3 u0_27 u0_28 u0_31 u0_32), (a1, ab E 900 V1), (a2, ai E 1860 z128.2.2), (a3, al E 25 V3)]) rfl rfl rfl rfl rfl (xrecv hK hP (q0 := 0) (ci := 12) rfl rfl) rfl hl.1 rfl (Nat.le_of_ble_eq_true rfl) dX12_readStep_128 (fun H locs hP hD hS => ?_)
      refine lv_aload_n hx hb dX12_readStep_131 rfl (lv_at hl 1 rfl) ?_
      refine lv_aload_n hx hb dX12_readStep_132 rfl (lv_at hl 1 rfl) ?_
      refine lv_bipush (v := 59) hx hb dX12_readStep_133 rfl ?_
      obtain ⟨z135, hz135, hf⟩ := bind_s hf
      refine xV_ir hx hb hml hown htg L12_286 (c_X12_isSign l E a0 hz135 _) ⟨⟨rfl, rfl⟩, (by show 0 + 1 ≤ fr + 8; omega), (by show 8 + (2 + 11) + 0 ≤ lo + 173; omega)⟩ hK hG hA hP hD hS (is := [0]) rfl rfl (xrecv hK hP (q0 := 0) (ci := 12) rfl rfl) rfl hl.1 rfl (Nat.le_of_ble_eq_true rfl) dX12_readStep_135 (fun H locs hP hD hS => ?_)
      obtain ⟨z138, hz138, hf⟩ := bind_s hf
      refine xV_vu hx hb hml hown htg L12_207 (c_X12_must l E a0 a1 hz138 _) ⟨⟨rfl, rfl⟩, (by show 2 + 1 ≤ fr + 8; omega), (by show 8 + (2 + 11) + 42 ≤ lo + 173; omega)⟩ hK hG hA hP hD hS (is := [0, 1]) (sel := [some 0, some 1, none, none]) (ws2 := [(a0, o12 z138.1 J0_2 J0_3 z138.2 u0_4 u0_5 u0_6 a1 a2 u0_21 a3 u0_27 u0_28 u0_31 u0_32), (a1, ab E 900 V1), (a2, ai E 1860 z128.2.2), (a3, al E 25 V3)]) rfl rfl rfl rfl rfl (xrecv hK hP (q0 := 0) (ci := 12) rfl rfl) rfl hl.1 rfl (Nat.le_of_ble_eq_true rfl) dX12_readStep_138 (fun H locs hP hD hS => ?_)
      exact b141 xF x3 (1590 + (9 * (T0 26))) z138.1 z138.2 z128.2.2 _ _ _ hf hP hD hS (lv_sub hl [1, 2, 4, 0] rfl)
    · have hf := it_f c86 hf
      exact ret (T0, J0_19, V2) hf hP hS dX12_readStep_89
  have b56 : ∀ (x2 : Int32) (x3 : Int32) (T0 : Nat → Int32) (J0_19 : Int64) (V2 : Nat → Int32) (H : Heap) (locs : List Loc) (ls : Array Slot), f_X12_readStep_56 rec_X12_readStep V1 V3 x1 x2 x3 T0 J0_19 V2 = some z → va_P E.1 vwCl [(a0, o12 T0 J0_2 J0_3 J0_19 u0_4 u0_5 u0_6 a1 a2 u0_21 a3 u0_27 u0_28 u0_31 u0_32), (a1, ab E 900 V1), (a2, ai E 1860 V2), (a3, al E 25 V3)] H → va_D A [(a0, o12 T0 J0_2 J0_3 J0_19 u0_4 u0_5 u0_6 a1 a2 u0_21 a3 u0_27 u0_28 u0_31 u0_32), (a1, ab E 900 V1), (a2, ai E 1860 V2), (a3, al E 25 V3)] → va_S A s.heap H locs → lv_has ls 5 [(0, .ref a0), (1, .int x1), (2, .int x2), (3, .int x3)] → W p l e ({ frames := fr + 8, cells := 0, slots := 0, locals := lo + 173 } : Room) s m args below meth c H locs 0 0 Q (F0 m 56 ls []) := by
    intro x2 x3 T0 J0_19 V2 H locs ls hf hP hD hS hl
    unfold f_X12_readStep_56 at hf
    refine lv_aload_n hx hb dX12_readStep_56 rfl (lv_at hl 0 rfl) ?_
    refine G12_191 hx hb htg hown hK hP 0 rfl dX12_readStep_57 ?_
    refine lv_if_ne (tgt := 82) hx hb dX12_readStep_60 (by decide) (fun c60 => ?_) (fun c60 => ?_)
    · have hf := it_f c60 hf
      exact b82 x2 x3 T0 J0_19 V2 _ _ _ hf hP hD hS (lv_sub hl [0, 1, 2, 3] rfl)
    · have hf := it_t c60 hf
      refine lv_iload_n hx hb dX12_readStep_63 rfl (lv_at hl 3 rfl) ?_
      refine lv_if_eq (tgt := 82) hx hb dX12_readStep_64 (by decide) (fun c64 => ?_) (fun c64 => ?_)
      · have hf := it_t c64 hf
        exact b82 x2 x3 T0 J0_19 V2 _ _ _ hf hP hD hS (lv_sub hl [0, 1, 2, 3] rfl)
      · have hf := it_f c64 hf
        refine lv_iload_n hx hb dX12_readStep_67 rfl (lv_at hl 1 rfl) ?_
        refine lv_iconst (v := 3) hx hb dX12_readStep_68 rfl ?_
        refine lv_icmp_ne (tgt := 82) hx hb dX12_readStep_69 (by decide) (fun c69 => ?_) (fun c69 => ?_)
        · have hf := it_f c69 hf
          exact b82 x2 x3 T0 J0_19 V2 _ _ _ hf hP hD hS (lv_sub hl [0, 1, 2, 3] rfl)
        · have hf := it_t c69 hf
          refine lv_aload_n hx hb dX12_readStep_72 rfl (lv_at hl 0 rfl) ?_
          refine lv_bipush (v := 7) hx hb dX12_readStep_73 rfl ?_
          refine lv_aload_n hx hb dX12_readStep_75 rfl (lv_at hl 0 rfl) ?_
          refine G12_109 hx hb htg hown hK hP 0 rfl dX12_readStep_76 ?_
          obtain ⟨z79, hz79, hf⟩ := bind_s hf
          refine xV_vu hx hb hml hown htg L12_197 (c_X12_fail l E a0 hz79 _) ⟨⟨rfl, rfl⟩, (by show 0 + 1 ≤ fr + 8; omega), (by show 8 + (3 + 11) + 0 ≤ lo + 173; omega)⟩ hK hG hA hP hD hS (is := [0]) (sel := [some 0, none, none, none]) (ws2 := [(a0, o12 z79 J0_2 J0_3 J0_19 u0_4 u0_5 u0_6 a1 a2 u0_21 a3 u0_27 u0_28 u0_31 u0_32), (a1, ab E 900 V1), (a2, ai E 1860 V2), (a3, al E 25 V3)]) rfl rfl rfl rfl rfl (xrecv hK hP (q0 := 0) (ci := 12) rfl rfl) rfl hl.1 rfl (Nat.le_of_ble_eq_true rfl) dX12_readStep_79 (fun H locs hP hD hS => ?_)
          exact b82 x2 x3 z79 J0_19 V2 _ _ _ hf hP hD hS (lv_sub hl [0, 1, 2, 3] rfl)
  have b30 : ∀ (x2 : Int32) (x3 : Int32) (T0 : Nat → Int32) (J0_19 : Int64) (V2 : Nat → Int32) (H : Heap) (locs : List Loc) (ls : Array Slot), f_X12_readStep_30 rec_X12_readStep V1 V3 x1 x2 x3 T0 J0_19 V2 = some z → va_P E.1 vwCl [(a0, o12 T0 J0_2 J0_3 J0_19 u0_4 u0_5 u0_6 a1 a2 u0_21 a3 u0_27 u0_28 u0_31 u0_32), (a1, ab E 900 V1), (a2, ai E 1860 V2), (a3, al E 25 V3)] H → va_D A [(a0, o12 T0 J0_2 J0_3 J0_19 u0_4 u0_5 u0_6 a1 a2 u0_21 a3 u0_27 u0_28 u0_31 u0_32), (a1, ab E 900 V1), (a2, ai E 1860 V2), (a3, al E 25 V3)] → va_S A s.heap H locs → lv_has ls 5 [(0, .ref a0), (1, .int x1), (2, .int x2), (3, .int x3)] → W p l e ({ frames := fr + 8, cells := 0, slots := 0, locals := lo + 173 } : Room) s m args below meth c H locs 0 0 Q (F0 m 30 ls []) := by
    intro x2 x3 T0 J0_19 V2 H locs ls hf hP hD hS hl
    unfold f_X12_readStep_30 at hf
    refine lv_aload_n hx hb dX12_readStep_30 rfl (lv_at hl 0 rfl) ?_
    refine G12_191 hx hb htg hown hK hP 0 rfl dX12_readStep_31 ?_
    refine lv_if_ne (tgt := 56) hx hb dX12_readStep_34 (by decide) (fun c34 => ?_) (fun c34 => ?_)
    · have hf := it_f c34 hf
      exact b56 x2 x3 T0 J0_19 V2 _ _ _ hf hP hD hS (lv_sub hl [0, 1, 2, 3] rfl)
    · have hf := it_t c34 hf
      refine lv_aload_n hx hb dX12_readStep_37 rfl (lv_at hl 0 rfl) ?_
      refine G12_301 hx hb htg hown hK hP 0 rfl dX12_readStep_38 ?_
      refine lv_bipush (v := 30) hx hb dX12_readStep_41 rfl ?_
      refine lv_icmp_ne (tgt := 56) hx hb dX12_readStep_43 (by decide) (fun c43 => ?_) (fun c43 => ?_)
      · have hf := it_f c43 hf
        exact b56 x2 x3 T0 J0_19 V2 _ _ _ hf hP hD hS (lv_sub hl [0, 1, 2, 3] rfl)
      · have hf := it_t c43 hf
        refine lv_aload_n hx hb dX12_readStep_46 rfl (lv_at hl 0 rfl) ?_
        refine lv_bipush (v := 6) hx hb dX12_readStep_47 rfl ?_
        refine lv_aload_n hx hb dX12_readStep_49 rfl (lv_at hl 0 rfl) ?_
        refine G12_109 hx hb htg hown hK hP 0 rfl dX12_readStep_50 ?_
        obtain ⟨z53, hz53, hf⟩ := bind_s hf
        refine xV_vu hx hb hml hown htg L12_197 (c_X12_fail l E a0 hz53 _) ⟨⟨rfl, rfl⟩, (by show 0 + 1 ≤ fr + 8; omega), (by show 8 + (3 + 11) + 0 ≤ lo + 173; omega)⟩ hK hG hA hP hD hS (is := [0]) (sel := [some 0, none, none, none]) (ws2 := [(a0, o12 z53 J0_2 J0_3 J0_19 u0_4 u0_5 u0_6 a1 a2 u0_21 a3 u0_27 u0_28 u0_31 u0_32), (a1, ab E 900 V1), (a2, ai E 1860 V2), (a3, al E 25 V3)]) rfl rfl rfl rfl rfl (xrecv hK hP (q0 := 0) (ci := 12) rfl rfl) rfl hl.1 rfl (Nat.le_of_ble_eq_true rfl) dX12_readStep_53 (fun H locs hP hD hS => ?_)
        exact b56 x2 x3 z53 J0_19 V2 _ _ _ hf hP hD hS (lv_sub hl [0, 1, 2, 3] rfl)
  have b21 : ∀ (x2 : Int32) (s0 : Int32) (T0 : Nat → Int32) (J0_19 : Int64) (V2 : Nat → Int32) (H : Heap) (locs : List Loc) (ls : Array Slot), f_X12_readStep_21 rec_X12_readStep V1 V3 x1 x2 s0 T0 J0_19 V2 = some z → va_P E.1 vwCl [(a0, o12 T0 J0_2 J0_3 J0_19 u0_4 u0_5 u0_6 a1 a2 u0_21 a3 u0_27 u0_28 u0_31 u0_32), (a1, ab E 900 V1), (a2, ai E 1860 V2), (a3, al E 25 V3)] H → va_D A [(a0, o12 T0 J0_2 J0_3 J0_19 u0_4 u0_5 u0_6 a1 a2 u0_21 a3 u0_27 u0_28 u0_31 u0_32), (a1, ab E 900 V1), (a2, ai E 1860 V2), (a3, al E 25 V3)] → va_S A s.heap H locs → lv_has ls 5 [(0, .ref a0), (1, .int x1), (2, .int x2)] → W p l e ({ frames := fr + 8, cells := 0, slots := 0, locals := lo + 173 } : Room) s m args below meth c H locs 0 0 Q (F0 m 21 ls [.int s0]) := by
    intro x2 s0 T0 J0_19 V2 H locs ls hf hP hD hS hl
    unfold f_X12_readStep_21 at hf
    refine lv_istore_n (lv' := [(3, .int s0), (0, .ref a0), (1, .int x1), (2, .int x2)]) hx hb dX12_readStep_21 rfl hl (by decide) rfl (fun ls hl => ?_)
    refine lv_iload_n hx hb dX12_readStep_22 rfl (lv_at hl 3 rfl) ?_
    refine lv_if_ge (tgt := 30) hx hb dX12_readStep_23 (by decide) (fun c23 => ?_) (fun c23 => ?_)
    · have hf := it_t c23 hf
      exact b30 x2 s0 T0 J0_19 V2 _ _ _ hf hP hD hS (lv_sub hl [1, 2, 3, 0] rfl)
    · have hf := it_f c23 hf
      refine lv_aload_n hx hb dX12_readStep_26 rfl (lv_at hl 1 rfl) ?_
      obtain ⟨z27, hz27, hf⟩ := bind_s hf
      refine xV_vu hx hb hml hown htg L12_204 (c_X12_amiss l E a0 hz27 _) ⟨⟨rfl, rfl⟩, (by show 1 + 1 ≤ fr + 8; omega), (by show 8 + (1 + 11) + 22 ≤ lo + 173; omega)⟩ hK hG hA hP hD hS (is := [0]) (sel := [some 0, none, none, none]) (ws2 := [(a0, o12 z27 J0_2 J0_3 J0_19 u0_4 u0_5 u0_6 a1 a2 u0_21 a3 u0_27 u0_28 u0_31 u0_32), (a1, ab E 900 V1), (a2, ai E 1860 V2), (a3, al E 25 V3)]) rfl rfl rfl rfl rfl (xrecv hK hP (q0 := 0) (ci := 12) rfl rfl) rfl hl.1 rfl (Nat.le_of_ble_eq_true rfl) dX12_readStep_27 (fun H locs hP hD hS => ?_)
      exact b30 x2 s0 z27 J0_19 V2 _ _ _ hf hP hD hS (lv_sub hl [1, 2, 3, 0] rfl)
  have b16 : ∀ (x2 : Int32) (T0 : Nat → Int32) (J0_19 : Int64) (V2 : Nat → Int32) (H : Heap) (locs : List Loc) (ls : Array Slot), f_X12_readStep_16 rec_X12_readStep V1 V3 x1 x2 T0 J0_19 V2 = some z → va_P E.1 vwCl [(a0, o12 T0 J0_2 J0_3 J0_19 u0_4 u0_5 u0_6 a1 a2 u0_21 a3 u0_27 u0_28 u0_31 u0_32), (a1, ab E 900 V1), (a2, ai E 1860 V2), (a3, al E 25 V3)] H → va_D A [(a0, o12 T0 J0_2 J0_3 J0_19 u0_4 u0_5 u0_6 a1 a2 u0_21 a3 u0_27 u0_28 u0_31 u0_32), (a1, ab E 900 V1), (a2, ai E 1860 V2), (a3, al E 25 V3)] → va_S A s.heap H locs → lv_has ls 5 [(0, .ref a0), (1, .int x1), (2, .int x2)] → W p l e ({ frames := fr + 8, cells := 0, slots := 0, locals := lo + 173 } : Room) s m args below meth c H locs 0 0 Q (F0 m 16 ls []) := by
    intro x2 T0 J0_19 V2 H locs ls hf hP hD hS hl
    unfold f_X12_readStep_16 at hf
    refine lv_iconst (v := 1) hx hb dX12_readStep_16 rfl ?_
    refine lv_goto (tgt := 21) hx hb dX12_readStep_17 (by decide) ?_
    exact b21 x2 1 T0 J0_19 V2 _ _ _ hf hP hD hS (lv_sub hl [0, 1, 2] rfl)
  unfold o_X12_readStep at hf
  refine lv_aload_n hx hb dX12_readStep_0 rfl (lv_at hl 0 rfl) ?_
  obtain ⟨z1, hz1, hf⟩ := bind_s hf
  refine xV_ir hx hb hml hown htg L12_179 (c_X12_stepWord l E a0 hz1 _) ⟨⟨rfl, rfl⟩, (by show 2 + 1 ≤ fr + 8; omega), (by show 8 + (1 + 11) + 47 ≤ lo + 173; omega)⟩ hK hG hA hP hD hS (is := [0]) rfl rfl (xrecv hK hP (q0 := 0) (ci := 12) rfl rfl) rfl hl.1 rfl (Nat.le_of_ble_eq_true rfl) dX12_readStep_1 (fun H locs hP hD hS => ?_)
  refine lv_istore_n (lv' := [(2, .int z1), (0, .ref a0), (1, .int x1)]) hx hb dX12_readStep_4 rfl hl (by decide) rfl (fun ls hl => ?_)
  refine lv_iload_n hx hb dX12_readStep_5 rfl (lv_at hl 0 rfl) ?_
  refine lv_iconst (v := 5) hx hb dX12_readStep_6 rfl ?_
  refine lv_icmp_eq (tgt := 16) hx hb dX12_readStep_7 (by decide) (fun c7 => ?_) (fun c7 => ?_)
  · have hf := it_t c7 hf
    exact b16 z1 T0 J0_19 V2 _ _ _ hf hP hD hS (lv_sub hl [1, 2, 0] rfl)
  · have hf := it_f c7 hf
    refine lv_iload_n hx hb dX12_readStep_10 rfl (lv_at hl 0 rfl) ?_
    refine lv_bipush (v := 6) hx hb dX12_readStep_11 rfl ?_
    refine lv_icmp_ne (tgt := 20) hx hb dX12_readStep_13 (by decide) (fun c13 => ?_) (fun c13 => ?_)
    · have hf := it_f c13 hf
      refine lv_iconst (v := 0) hx hb dX12_readStep_20 rfl ?_
      exact b21 z1 0 T0 J0_19 V2 _ _ _ hf hP hD hS (lv_sub hl [1, 2, 0] rfl)
    · have hf := it_t c13 hf
      exact b16 z1 T0 J0_19 V2 _ _ _ hf hP hD hS (lv_sub hl [1, 2, 0] rfl)
theorem rs_X12_readStep (d : Nat) : r_X12_readStep (d + 1) = o_X12_readStep (r_X12_readStep d) := by
  unfold r_X12_readStep
  exact iter_succ _ _ _
set_option maxRecDepth 100000 in
theorem cr_X12_readStep (l : Launch) (E : xE) : ∀ (d : Nat) (a0 a1 a2 a3 : Nat) {T0 : Nat → Int32} {J0_2 : Int64} {J0_3 : Int64} {J0_19 : Int64} {V1 : Nat → Int32} {V2 : Nat → Int32} {V3 : Nat → Int64} {u0_4 u0_5 u0_6 u0_21 u0_27 u0_28 u0_31 u0_32 : Nat} {x1 : Int32} {z : (Nat → Int32) × Int64 × (Nat → Int32)}, r_X12_readStep d T0 J0_19 V1 V2 V3 x1 = some z → ∀ sz : Nat, Met l yX12_readStep (Cond.code yX12_readStep cX12_readStep 5 none :: gw) ({ frames := 8 * d, cells := 0, slots := 0, locals := 173 * d }) (xPc E [.ref a0, .int x1] [(a0, o12 T0 J0_2 J0_3 J0_19 u0_4 u0_5 u0_6 a1 a2 u0_21 a3 u0_27 u0_28 u0_31 u0_32), (a1, ab E 900 V1), (a2, ai E 1860 V2), (a3, al E 25 V3)] sz) (xQv E [(a0, o12 T0 J0_2 J0_3 J0_19 u0_4 u0_5 u0_6 a1 a2 u0_21 a3 u0_27 u0_28 u0_31 u0_32), (a1, ab E 900 V1), (a2, ai E 1860 V2), (a3, al E 25 V3)] [(a0, o12 z.1 J0_2 J0_3 z.2.1 u0_4 u0_5 u0_6 a1 a2 u0_21 a3 u0_27 u0_28 u0_31 u0_32), (a1, ab E 900 V1), (a2, ai E 1860 z.2.2), (a3, al E 25 V3)] sz) 0 0 (va_A [(a0, o12 T0 J0_2 J0_3 J0_19 u0_4 u0_5 u0_6 a1 a2 u0_21 a3 u0_27 u0_28 u0_31 u0_32), (a1, ab E 900 V1), (a2, ai E 1860 V2), (a3, al E 25 V3)] sz) := by
  intro d
  induction d with
  | zero => intro a0 a1 a2 a3 T0 J0_2 J0_3 J0_19 V1 V2 V3 u0_4 u0_5 u0_6 u0_21 u0_27 u0_28 u0_31 u0_32 x1 z hf; exact (nn_s hf).elim
  | succ d ih => intro a0 a1 a2 a3 T0 J0_2 J0_3 J0_19 V1 V2 V3 u0_4 u0_5 u0_6 u0_21 u0_27 u0_28 u0_31 u0_32 x1 z hf sz; rw [rs_X12_readStep] at hf; rw [Nat.mul_succ, Nat.mul_succ]; exact c_X12_readStep l E (8 * d) (173 * d) (rec_X12_readStep := r_X12_readStep d) ih a0 a1 a2 a3 hf sz
set_option maxRecDepth 100000 in
theorem c_X12_readStepc (l : Launch) (E : xE) (a0 a1 a2 a3 : Nat) {T0 : Nat → Int32} {J0_2 : Int64} {J0_3 : Int64} {J0_19 : Int64} {V1 : Nat → Int32} {V2 : Nat → Int32} {V3 : Nat → Int64} {u0_4 u0_5 u0_6 u0_21 u0_27 u0_28 u0_31 u0_32 : Nat} {x1 : Int32} {z : (Nat → Int32) × Int64 × (Nat → Int32)} (hf : f_X12_readStep T0 J0_19 V1 V2 V3 x1 = some z) (sz : Nat) : Met l yX12_readStep (Cond.code yX12_readStep cX12_readStep 5 none :: gw) ({ frames := 40, cells := 0, slots := 0, locals := 865 }) (xPc E [.ref a0, .int x1] [(a0, o12 T0 J0_2 J0_3 J0_19 u0_4 u0_5 u0_6 a1 a2 u0_21 a3 u0_27 u0_28 u0_31 u0_32), (a1, ab E 900 V1), (a2, ai E 1860 V2), (a3, al E 25 V3)] sz) (xQv E [(a0, o12 T0 J0_2 J0_3 J0_19 u0_4 u0_5 u0_6 a1 a2 u0_21 a3 u0_27 u0_28 u0_31 u0_32), (a1, ab E 900 V1), (a2, ai E 1860 V2), (a3, al E 25 V3)] [(a0, o12 z.1 J0_2 J0_3 z.2.1 u0_4 u0_5 u0_6 a1 a2 u0_21 a3 u0_27 u0_28 u0_31 u0_32), (a1, ab E 900 V1), (a2, ai E 1860 z.2.2), (a3, al E 25 V3)] sz) 0 0 (va_A [(a0, o12 T0 J0_2 J0_3 J0_19 u0_4 u0_5 u0_6 a1 a2 u0_21 a3 u0_27 u0_28 u0_31 u0_32), (a1, ab E 900 V1), (a2, ai E 1860 V2), (a3, al E 25 V3)] sz) := cr_X12_readStep l E 5 a0 a1 a2 a3 hf sz
theorem dX12_doOne_0 : decode cX12_doOne 0 = .ok (.aload_n 0, 1) := by decide +kernel
theorem dX12_doOne_1 : decode cX12_doOne 1 = .ok (.getfield 470, 3) := by decide +kernel
theorem dX12_doOne_4 : decode cX12_doOne 4 = .ok (.sipush 300, 3) := by decide +kernel
theorem dX12_doOne_7 : decode cX12_doOne 7 = .ok (.if_icmp .ne 14, 3) := by decide +kernel
theorem dX12_doOne_10 : decode cX12_doOne 10 = .ok (.aload_n 0, 1) := by decide +kernel
theorem dX12_doOne_11 : decode cX12_doOne 11 = .ok (.iconst 1, 1) := by decide +kernel
theorem dX12_doOne_12 : decode cX12_doOne 12 = .ok (.putfield 473, 3) := by decide +kernel
theorem dX12_doOne_15 : decode cX12_doOne 15 = .ok (.aload_n 0, 1) := by decide +kernel
theorem dX12_doOne_16 : decode cX12_doOne 16 = .ok (.iconst 1, 1) := by decide +kernel
theorem dX12_doOne_17 : decode cX12_doOne 17 = .ok (.putfield 476, 3) := by decide +kernel
theorem dX12_doOne_20 : decode cX12_doOne 20 = .ok (.return_, 1) := by decide +kernel
theorem dX12_doOne_21 : decode cX12_doOne 21 = .ok (.aload_n 0, 1) := by decide +kernel
theorem dX12_doOne_22 : decode cX12_doOne 22 = .ok (.dup, 1) := by decide +kernel
theorem dX12_doOne_23 : decode cX12_doOne 23 = .ok (.getfield 470, 3) := by decide +kernel
theorem dX12_doOne_26 : decode cX12_doOne 26 = .ok (.iconst 1, 1) := by decide +kernel
theorem dX12_doOne_27 : decode cX12_doOne 27 = .ok (.iadd, 1) := by decide +kernel
theorem dX12_doOne_28 : decode cX12_doOne 28 = .ok (.putfield 470, 3) := by decide +kernel
theorem dX12_doOne_31 : decode cX12_doOne 31 = .ok (.bipush 102, 2) := by decide +kernel
theorem dX12_doOne_33 : decode cX12_doOne 33 = .ok (.bipush 9, 2) := by decide +kernel
theorem dX12_doOne_35 : decode cX12_doOne 35 = .ok (.iload_n 1, 1) := by decide +kernel
theorem dX12_doOne_36 : decode cX12_doOne 36 = .ok (.imul, 1) := by decide +kernel
theorem dX12_doOne_37 : decode cX12_doOne 37 = .ok (.iadd, 1) := by decide +kernel
theorem dX12_doOne_38 : decode cX12_doOne 38 = .ok (.istore_n 2, 1) := by decide +kernel
theorem dX12_doOne_39 : decode cX12_doOne 39 = .ok (.aload_n 0, 1) := by decide +kernel
theorem dX12_doOne_40 : decode cX12_doOne 40 = .ok (.getfield 35, 3) := by decide +kernel
theorem dX12_doOne_43 : decode cX12_doOne 43 = .ok (.iload_n 2, 1) := by decide +kernel
theorem dX12_doOne_44 : decode cX12_doOne 44 = .ok (.iaload, 1) := by decide +kernel
theorem dX12_doOne_45 : decode cX12_doOne 45 = .ok (.istore_n 3, 1) := by decide +kernel
theorem dX12_doOne_46 : decode cX12_doOne 46 = .ok (.iload_n 3, 1) := by decide +kernel
theorem dX12_doOne_47 : decode cX12_doOne 47 = .ok (.iconst 5, 1) := by decide +kernel
theorem dX12_doOne_48 : decode cX12_doOne 48 = .ok (.if_icmp .ge 28, 3) := by decide +kernel
theorem dX12_doOne_51 : decode cX12_doOne 51 = .ok (.aload_n 0, 1) := by decide +kernel
theorem dX12_doOne_52 : decode cX12_doOne 52 = .ok (.dup, 1) := by decide +kernel
theorem dX12_doOne_53 : decode cX12_doOne 53 = .ok (.getfield 479, 3) := by decide +kernel
theorem dX12_doOne_56 : decode cX12_doOne 56 = .ok (.aload_n 0, 1) := by decide +kernel
theorem dX12_doOne_57 : decode cX12_doOne 57 = .ok (.iload_n 2, 1) := by decide +kernel
theorem dX12_doOne_58 : decode cX12_doOne 58 = .ok (.invokevirtual 482, 3) := by decide +kernel
theorem dX12_doOne_61 : decode cX12_doOne 61 = .ok (.ifCond .eq 7, 3) := by decide +kernel
theorem dX12_doOne_64 : decode cX12_doOne 64 = .ok (.iconst 0, 1) := by decide +kernel
theorem dX12_doOne_65 : decode cX12_doOne 65 = .ok (.goto 4, 3) := by decide +kernel
theorem dX12_doOne_68 : decode cX12_doOne 68 = .ok (.iconst 1, 1) := by decide +kernel
theorem dX12_doOne_69 : decode cX12_doOne 69 = .ok (.iadd, 1) := by decide +kernel
theorem dX12_doOne_70 : decode cX12_doOne 70 = .ok (.putfield 479, 3) := by decide +kernel
theorem dX12_doOne_73 : decode cX12_doOne 73 = .ok (.goto 100, 3) := by decide +kernel
theorem dX12_doOne_76 : decode cX12_doOne 76 = .ok (.iload_n 3, 1) := by decide +kernel
theorem dX12_doOne_77 : decode cX12_doOne 77 = .ok (.iconst 5, 1) := by decide +kernel
theorem dX12_doOne_78 : decode cX12_doOne 78 = .ok (.if_icmp .ne 30, 3) := by decide +kernel
theorem dX12_doOne_81 : decode cX12_doOne 81 = .ok (.aload_n 0, 1) := by decide +kernel
theorem dX12_doOne_82 : decode cX12_doOne 82 = .ok (.iload_n 2, 1) := by decide +kernel
theorem dX12_doOne_83 : decode cX12_doOne 83 = .ok (.invokevirtual 485, 3) := by decide +kernel
theorem dX12_doOne_86 : decode cX12_doOne 86 = .ok (.ifCond .eq 22, 3) := by decide +kernel
theorem dX12_doOne_89 : decode cX12_doOne 89 = .ok (.aload_n 0, 1) := by decide +kernel
theorem dX12_doOne_90 : decode cX12_doOne 90 = .ok (.iload_n 1, 1) := by decide +kernel
theorem dX12_doOne_91 : decode cX12_doOne 91 = .ok (.iconst 1, 1) := by decide +kernel
theorem dX12_doOne_92 : decode cX12_doOne 92 = .ok (.iadd, 1) := by decide +kernel
theorem dX12_doOne_93 : decode cX12_doOne 93 = .ok (.aload_n 0, 1) := by decide +kernel
theorem dX12_doOne_94 : decode cX12_doOne 94 = .ok (.getfield 35, 3) := by decide +kernel
theorem dX12_doOne_97 : decode cX12_doOne 97 = .ok (.iload_n 2, 1) := by decide +kernel
theorem dX12_doOne_98 : decode cX12_doOne 98 = .ok (.bipush 8, 2) := by decide +kernel
theorem dX12_doOne_100 : decode cX12_doOne 100 = .ok (.iadd, 1) := by decide +kernel
theorem dX12_doOne_101 : decode cX12_doOne 101 = .ok (.iaload, 1) := by decide +kernel
theorem dX12_doOne_102 : decode cX12_doOne 102 = .ok (.invokevirtual 488, 3) := by decide +kernel
theorem dX12_doOne_105 : decode cX12_doOne 105 = .ok (.goto 68, 3) := by decide +kernel
theorem dX12_doOne_108 : decode cX12_doOne 108 = .ok (.iload_n 3, 1) := by decide +kernel
theorem dX12_doOne_109 : decode cX12_doOne 109 = .ok (.bipush 6, 2) := by decide +kernel
theorem dX12_doOne_111 : decode cX12_doOne 111 = .ok (.if_icmp .ne 51, 3) := by decide +kernel
theorem dX12_doOne_114 : decode cX12_doOne 114 = .ok (.iconst 0, 1) := by decide +kernel
theorem dX12_doOne_115 : decode cX12_doOne 115 = .ok (.istore 4, 2) := by decide +kernel
theorem dX12_doOne_117 : decode cX12_doOne 117 = .ok (.iload 4, 2) := by decide +kernel
theorem dX12_doOne_119 : decode cX12_doOne 119 = .ok (.aload_n 0, 1) := by decide +kernel
theorem dX12_doOne_120 : decode cX12_doOne 120 = .ok (.getfield 35, 3) := by decide +kernel
theorem dX12_doOne_123 : decode cX12_doOne 123 = .ok (.iload_n 2, 1) := by decide +kernel
theorem dX12_doOne_124 : decode cX12_doOne 124 = .ok (.iconst 1, 1) := by decide +kernel
theorem dX12_doOne_125 : decode cX12_doOne 125 = .ok (.iadd, 1) := by decide +kernel
theorem dX12_doOne_126 : decode cX12_doOne 126 = .ok (.iaload, 1) := by decide +kernel
theorem dX12_doOne_127 : decode cX12_doOne 127 = .ok (.if_icmp .ge 32, 3) := by decide +kernel
theorem dX12_doOne_130 : decode cX12_doOne 130 = .ok (.aload_n 0, 1) := by decide +kernel
theorem dX12_doOne_131 : decode cX12_doOne 131 = .ok (.getfield 473, 3) := by decide +kernel
theorem dX12_doOne_134 : decode cX12_doOne 134 = .ok (.ifCond .ne 25, 3) := by decide +kernel
theorem dX12_doOne_137 : decode cX12_doOne 137 = .ok (.aload_n 0, 1) := by decide +kernel
theorem dX12_doOne_138 : decode cX12_doOne 138 = .ok (.iload_n 1, 1) := by decide +kernel
theorem dX12_doOne_139 : decode cX12_doOne 139 = .ok (.iconst 1, 1) := by decide +kernel
theorem dX12_doOne_140 : decode cX12_doOne 140 = .ok (.iadd, 1) := by decide +kernel
theorem dX12_doOne_141 : decode cX12_doOne 141 = .ok (.aload_n 0, 1) := by decide +kernel
theorem dX12_doOne_142 : decode cX12_doOne 142 = .ok (.getfield 35, 3) := by decide +kernel
theorem dX12_doOne_145 : decode cX12_doOne 145 = .ok (.iload_n 2, 1) := by decide +kernel
theorem dX12_doOne_146 : decode cX12_doOne 146 = .ok (.bipush 8, 2) := by decide +kernel
theorem dX12_doOne_148 : decode cX12_doOne 148 = .ok (.iadd, 1) := by decide +kernel
theorem dX12_doOne_149 : decode cX12_doOne 149 = .ok (.iaload, 1) := by decide +kernel
theorem dX12_doOne_150 : decode cX12_doOne 150 = .ok (.invokevirtual 488, 3) := by decide +kernel
theorem dX12_doOne_153 : decode cX12_doOne 153 = .ok (.iinc 4 1, 3) := by decide +kernel
theorem dX12_doOne_156 : decode cX12_doOne 156 = .ok (.goto (-39), 3) := by decide +kernel
theorem dX12_doOne_159 : decode cX12_doOne 159 = .ok (.goto 14, 3) := by decide +kernel
theorem dX12_doOne_162 : decode cX12_doOne 162 = .ok (.iload_n 3, 1) := by decide +kernel
theorem dX12_doOne_163 : decode cX12_doOne 163 = .ok (.bipush 6, 2) := by decide +kernel
theorem dX12_doOne_165 : decode cX12_doOne 165 = .ok (.if_icmp .le 8, 3) := by decide +kernel
theorem dX12_doOne_168 : decode cX12_doOne 168 = .ok (.aload_n 0, 1) := by decide +kernel
theorem dX12_doOne_169 : decode cX12_doOne 169 = .ok (.iconst 1, 1) := by decide +kernel
theorem dX12_doOne_170 : decode cX12_doOne 170 = .ok (.putfield 473, 3) := by decide +kernel
theorem dX12_doOne_173 : decode cX12_doOne 173 = .ok (.return_, 1) := by decide +kernel
set_option maxRecDepth 100000 in
theorem c_X12_doOne (l : Launch) (E : xE) (fr lo : Nat) {rec_X12_doAll : (Nat → Int32) → (Nat → Int32) → (Nat → Int32) → (Nat → Int32) → Int32 → Int32 → Option ((Nat → Int32) × (Nat → Int32) × (Nat → Int32) × (Nat → Int32))} (ih_X12_doAll : ∀ (a0 a1 a2 a3 : Nat) {T0 : Nat → Int32} {J0_2 : Int64} {J0_3 : Int64} {J0_19 : Int64} {V1 : Nat → Int32} {V2 : Nat → Int32} {V3 : Nat → Int32} {u0_4 u0_5 u0_6 u0_7 u0_21 u0_22 u0_31 u0_32 : Nat} {x1 : Int32} {x2 : Int32} {z : (Nat → Int32) × (Nat → Int32) × (Nat → Int32) × (Nat → Int32)}, rec_X12_doAll T0 V1 V2 V3 x1 x2 = some z → ∀ sz : Nat, Met l yX12_doAll (Cond.code yX12_doAll cX12_doAll 4 none :: gw) ({ frames := fr, cells := 0, slots := 0, locals := lo }) (xPc E [.ref a0, .int x1, .int x2] [(a0, o12 T0 J0_2 J0_3 J0_19 u0_4 u0_5 u0_6 u0_7 a1 u0_21 u0_22 a3 a2 u0_31 u0_32), (a1, ai E 1860 V1), (a2, ai E 36 V2), (a3, ai E 36 V3)] sz) (xQv E [(a0, o12 T0 J0_2 J0_3 J0_19 u0_4 u0_5 u0_6 u0_7 a1 u0_21 u0_22 a3 a2 u0_31 u0_32), (a1, ai E 1860 V1), (a2, ai E 36 V2), (a3, ai E 36 V3)] [(a0, o12 z.1 J0_2 J0_3 J0_19 u0_4 u0_5 u0_6 u0_7 a1 u0_21 u0_22 a3 a2 u0_31 u0_32), (a1, ai E 1860 z.2.1), (a2, ai E 36 z.2.2.1), (a3, ai E 36 z.2.2.2)] sz) 0 0 (va_A [(a0, o12 T0 J0_2 J0_3 J0_19 u0_4 u0_5 u0_6 u0_7 a1 u0_21 u0_22 a3 a2 u0_31 u0_32), (a1, ai E 1860 V1), (a2, ai E 36 V2), (a3, ai E 36 V3)] sz)) (a0 a1 a2 a3 : Nat) {T0 : Nat → Int32} {J0_2 : Int64} {J0_3 : Int64} {J0_19 : Int64} {V1 : Nat → Int32} {V2 : Nat → Int32} {V3 : Nat → Int32} {u0_4 u0_5 u0_6 u0_7 u0_21 u0_22 u0_31 u0_32 : Nat} {x1 : Int32} {z : (Nat → Int32) × (Nat → Int32) × (Nat → Int32) × (Nat → Int32)} (hf : o_X12_doOne rec_X12_doAll T0 V1 V2 V3 x1 = some z) (sz : Nat) : Met l yX12_doOne (Cond.code yX12_doOne cX12_doOne 5 none :: gw) ({ frames := fr + 8, cells := 0, slots := 0, locals := lo + 204 }) (xPc E [.ref a0, .int x1] [(a0, o12 T0 J0_2 J0_3 J0_19 u0_4 u0_5 u0_6 u0_7 a1 u0_21 u0_22 a3 a2 u0_31 u0_32), (a1, ai E 1860 V1), (a2, ai E 36 V2), (a3, ai E 36 V3)] sz) (xQv E [(a0, o12 T0 J0_2 J0_3 J0_19 u0_4 u0_5 u0_6 u0_7 a1 u0_21 u0_22 a3 a2 u0_31 u0_32), (a1, ai E 1860 V1), (a2, ai E 36 V2), (a3, ai E 36 V3)] [(a0, o12 z.1 J0_2 J0_3 J0_19 u0_4 u0_5 u0_6 u0_7 a1 u0_21 u0_22 a3 a2 u0_31 u0_32), (a1, ai E 1860 z.2.1), (a2, ai E 36 z.2.2.1), (a3, ai E 36 z.2.2.2)] sz) 0 0 (va_A [(a0, o12 T0 J0_2 J0_3 J0_19 u0_4 u0_5 u0_6 u0_7 a1 u0_21 u0_22 a3 a2 u0_31 u0_32), (a1, ai E 1860 V1), (a2, ai E 36 V2), (a3, ai E 36 V3)] sz) := by
  refine xM_v (by decide +kernel) (Nat.le_of_ble_eq_true rfl) ?_
  intro p e s m args below meth c A Q hx hb hml hown htg hK hG hA ret0 H locs ls hP hD hS hl
  have ret : ∀ (z' : (Nat → Int32) × (Nat → Int32) × (Nat → Int32) × (Nat → Int32)) {H : Heap} {locs : List Loc} {pc : Nat} {ls : Array Slot}, some z' = some z → va_P E.1 vwCl [(a0, o12 z'.1 J0_2 J0_3 J0_19 u0_4 u0_5 u0_6 u0_7 a1 u0_21 u0_22 a3 a2 u0_31 u0_32), (a1, ai E 1860 z'.2.1), (a2, ai E 36 z'.2.2.1), (a3, ai E 36 z'.2.2.2)] H → va_S A s.heap H locs → decode cX12_doOne pc = .ok (.return_, 1) → W p l e ({ frames := fr + 8, cells := 0, slots := 0, locals := lo + 204 } : Room) s m args below meth c H locs 0 0 Q (F0 m pc ls []) := by
    intro z' H locs pc ls h
    cases h
    exact ret0
  replace hl : lv_has ls 5 [(0, .ref a0), (1, .int x1)] := hl
  have b69 : ∀ (s1 : Int32) (s2 : Int32) (T0 : Nat → Int32) (V1 : Nat → Int32) (V2 : Nat → Int32) (V3 : Nat → Int32) (H : Heap) (locs : List Loc) (ls : Array Slot), f_X12_doOne_69 rec_X12_doAll x1 s1 s2 T0 V1 V2 V3 = some z → va_P E.1 vwCl [(a0, o12 T0 J0_2 J0_3 J0_19 u0_4 u0_5 u0_6 u0_7 a1 u0_21 u0_22 a3 a2 u0_31 u0_32), (a1, ai E 1860 V1), (a2, ai E 36 V2), (a3, ai E 36 V3)] H → va_D A [(a0, o12 T0 J0_2 J0_3 J0_19 u0_4 u0_5 u0_6 u0_7 a1 u0_21 u0_22 a3 a2 u0_31 u0_32), (a1, ai E 1860 V1), (a2, ai E 36 V2), (a3, ai E 36 V3)] → va_S A s.heap H locs → lv_has ls 5 [] → W p l e ({ frames := fr + 8, cells := 0, slots := 0, locals := lo + 204 } : Room) s m args below meth c H locs 0 0 Q (F0 m 69 ls [.int s2, .int s1, .ref a0]) := by
    intro s1 s2 T0 V1 V2 V3 H locs ls hf hP hD hS hl
    unfold f_X12_doOne_69 at hf
    refine lv_iadd hx hb dX12_doOne_69 ?_
    refine P12_479 hx hb htg hown hK hP hD hS 0 rfl dX12_doOne_70 (fun H locs hP hD hS => ?_)
    refine lv_goto (tgt := 173) hx hb dX12_doOne_73 (by decide) ?_
    exact ret (upd T0 37 (s1 + s2), V1, V2, V3) hf hP hS dX12_doOne_173
  have b117 : ∀ (n : Nat) (x2 : Int32) (x4 : Int32) (T0 : Nat → Int32) (V1 : Nat → Int32) (V2 : Nat → Int32) (V3 : Nat → Int32) (H : Heap) (locs : List Loc) (ls : Array Slot), f_X12_doOne_117 rec_X12_doAll x1 n x2 x4 T0 V1 V2 V3 = some z → va_P E.1 vwCl [(a0, o12 T0 J0_2 J0_3 J0_19 u0_4 u0_5 u0_6 u0_7 a1 u0_21 u0_22 a3 a2 u0_31 u0_32), (a1, ai E 1860 V1), (a2, ai E 36 V2), (a3, ai E 36 V3)] H → va_D A [(a0, o12 T0 J0_2 J0_3 J0_19 u0_4 u0_5 u0_6 u0_7 a1 u0_21 u0_22 a3 a2 u0_31 u0_32), (a1, ai E 1860 V1), (a2, ai E 36 V2), (a3, ai E 36 V3)] → va_S A s.heap H locs → lv_has ls 5 [(0, .ref a0), (1, .int x1), (2, .int x2), (4, .int x4)] → W p l e ({ frames := fr + 8, cells := 0, slots := 0, locals := lo + 204 } : Room) s m args below meth c H locs 0 0 Q (F0 m 117 ls []) := by
    intro n
    induction n with
    | zero => intro x2 x4 T0 V1 V2 V3 H locs ls hf; exact (nn_s hf).elim
    | succ n ih117 =>
      obtain ⟨k117, ek117⟩ : ∃ k, k = f_X12_doOne_117 rec_X12_doAll x1 n := ⟨_, rfl⟩
      rw [← ek117] at ih117
      intro x2 x4 T0 V1 V2 V3 H locs ls hf hP hD hS hl
      replace hf : g_X12_doOne_117 rec_X12_doAll x1 k117 x2 x4 T0 V1 V2 V3 = some z := by rw [ek117]; exact hf
      unfold g_X12_doOne_117 at hf
      refine lv_iload hx hb dX12_doOne_117 (lv_at hl 3 rfl) ?_
      refine lv_aload_n hx hb dX12_doOne_119 rfl (lv_at hl 0 rfl) ?_
      refine G12_35 hx hb htg hown hK hP 0 rfl dX12_doOne_120 ?_
      refine lv_iload_n hx hb dX12_doOne_123 rfl (lv_at hl 2 rfl) ?_
      refine lv_iconst (v := 1) hx hb dX12_doOne_124 rfl ?_
      refine lv_iadd hx hb dX12_doOne_125 ?_
      obtain ⟨g126, hf⟩ := ck_s hf
      refine xiald hx hb hK hP 1 rfl g126 dX12_doOne_126 ?_
      refine lv_icmp_ge (tgt := 159) hx hb dX12_doOne_127 (by decide) (fun c127 => ?_) (fun c127 => ?_)
      · have hf := it_t c127 hf
        refine lv_goto (tgt := 173) hx hb dX12_doOne_159 (by decide) ?_
        exact ret (T0, V1, V2, V3) hf hP hS dX12_doOne_173
      · have hf := it_f c127 hf
        refine lv_aload_n hx hb dX12_doOne_130 rfl (lv_at hl 0 rfl) ?_
        refine G12_473 hx hb htg hown hK hP 0 rfl dX12_doOne_131 ?_
        refine lv_if_ne (tgt := 159) hx hb dX12_doOne_134 (by decide) (fun c134 => ?_) (fun c134 => ?_)
        · have hf := it_f c134 hf
          refine lv_goto (tgt := 173) hx hb dX12_doOne_159 (by decide) ?_
          exact ret (T0, V1, V2, V3) hf hP hS dX12_doOne_173
        · have hf := it_t c134 hf
          refine lv_aload_n hx hb dX12_doOne_137 rfl (lv_at hl 0 rfl) ?_
          refine lv_iload_n hx hb dX12_doOne_138 rfl (lv_at hl 1 rfl) ?_
          refine lv_iconst (v := 1) hx hb dX12_doOne_139 rfl ?_
          refine lv_iadd hx hb dX12_doOne_140 ?_
          refine lv_aload_n hx hb dX12_doOne_141 rfl (lv_at hl 0 rfl) ?_
          refine G12_35 hx hb htg hown hK hP 0 rfl dX12_doOne_142 ?_
          refine lv_iload_n hx hb dX12_doOne_145 rfl (lv_at hl 2 rfl) ?_
          refine lv_bipush (v := 8) hx hb dX12_doOne_146 rfl ?_
          refine lv_iadd hx hb dX12_doOne_148 ?_
          obtain ⟨g149, hf⟩ := ck_s hf
          refine xiald hx hb hK hP 1 rfl g149 dX12_doOne_149 ?_
          obtain ⟨z150, hz150, hf⟩ := bind_s hf
          refine xV_vu hx hb hml hown htg L12_488 (ih_X12_doAll a0 a1 a2 a3 hz150 _) ⟨⟨rfl, rfl⟩, (by show fr + 1 ≤ fr + 8; omega), (by show 8 + (4 + 11) + lo ≤ lo + 204; omega)⟩ hK hG hA hP hD hS (is := [0, 1, 2, 3]) (sel := [some 0, some 1, some 2, some 3]) (ws2 := [(a0, o12 z150.1 J0_2 J0_3 J0_19 u0_4 u0_5 u0_6 u0_7 a1 u0_21 u0_22 a3 a2 u0_31 u0_32), (a1, ai E 1860 z150.2.1), (a2, ai E 36 z150.2.2.1), (a3, ai E 36 z150.2.2.2)]) rfl rfl rfl rfl rfl (xrecv hK hP (q0 := 0) (ci := 12) rfl rfl) rfl hl.1 rfl (Nat.le_of_ble_eq_true rfl) dX12_doOne_150 (fun H locs hP hD hS => ?_)
          refine lv_iinc (v := x4 + 1) (lv' := [(4, .int (x4 + 1)), (0, .ref a0), (1, .int x1), (2, .int x2)]) hx hb dX12_doOne_153 hl (k := 3) rfl rfl (by decide) rfl (fun ls hl => ?_)
          refine lv_goto (tgt := 117) hx hb dX12_doOne_156 (by decide) ?_
          exact ih117 x2 (x4 + 1) z150.1 z150.2.1 z150.2.2.1 z150.2.2.2 _ _ _ hf hP hD hS (lv_sub hl [1, 2, 3, 0] rfl)
  have b108 : ∀ (x2 : Int32) (x3 : Int32) (T0 : Nat → Int32) (V1 : Nat → Int32) (V2 : Nat → Int32) (V3 : Nat → Int32) (H : Heap) (locs : List Loc) (ls : Array Slot), f_X12_doOne_108 rec_X12_doAll x1 x2 x3 T0 V1 V2 V3 = some z → va_P E.1 vwCl [(a0, o12 T0 J0_2 J0_3 J0_19 u0_4 u0_5 u0_6 u0_7 a1 u0_21 u0_22 a3 a2 u0_31 u0_32), (a1, ai E 1860 V1), (a2, ai E 36 V2), (a3, ai E 36 V3)] H → va_D A [(a0, o12 T0 J0_2 J0_3 J0_19 u0_4 u0_5 u0_6 u0_7 a1 u0_21 u0_22 a3 a2 u0_31 u0_32), (a1, ai E 1860 V1), (a2, ai E 36 V2), (a3, ai E 36 V3)] → va_S A s.heap H locs → lv_has ls 5 [(0, .ref a0), (1, .int x1), (2, .int x2), (3, .int x3)] → W p l e ({ frames := fr + 8, cells := 0, slots := 0, locals := lo + 204 } : Room) s m args below meth c H locs 0 0 Q (F0 m 108 ls []) := by
    intro x2 x3 T0 V1 V2 V3 H locs ls hf hP hD hS hl
    unfold f_X12_doOne_108 at hf
    refine lv_iload_n hx hb dX12_doOne_108 rfl (lv_at hl 3 rfl) ?_
    refine lv_bipush (v := 6) hx hb dX12_doOne_109 rfl ?_
    refine lv_icmp_ne (tgt := 162) hx hb dX12_doOne_111 (by decide) (fun c111 => ?_) (fun c111 => ?_)
    · have hf := it_f c111 hf
      refine lv_iload_n hx hb dX12_doOne_162 rfl (lv_at hl 3 rfl) ?_
      refine lv_bipush (v := 6) hx hb dX12_doOne_163 rfl ?_
      refine lv_icmp_le (tgt := 173) hx hb dX12_doOne_165 (by decide) (fun c165 => ?_) (fun c165 => ?_)
      · have hf := it_t c165 hf
        exact ret (T0, V1, V2, V3) hf hP hS dX12_doOne_173
      · have hf := it_f c165 hf
        refine lv_aload_n hx hb dX12_doOne_168 rfl (lv_at hl 0 rfl) ?_
        refine lv_iconst (v := 1) hx hb dX12_doOne_169 rfl ?_
        refine P12_473 hx hb htg hown hK hP hD hS 0 rfl rfl dX12_doOne_170 (fun H locs hP hD hS => ?_)
        exact ret (upd T0 34 1, V1, V2, V3) hf hP hS dX12_doOne_173
    · have hf := it_t c111 hf
      refine lv_iconst (v := 0) hx hb dX12_doOne_114 rfl ?_
      refine lv_istore (lv' := [(4, .int 0), (0, .ref a0), (1, .int x1), (2, .int x2), (3, .int x3)]) hx hb dX12_doOne_115 hl (by decide) rfl (fun ls hl => ?_)
      exact b117 xF x2 0 T0 V1 V2 V3 _ _ _ hf hP hD hS (lv_sub hl [1, 2, 3, 0] rfl)
  unfold o_X12_doOne at hf
  refine lv_aload_n hx hb dX12_doOne_0 rfl (lv_at hl 0 rfl) ?_
  refine G12_470 hx hb htg hown hK hP 0 rfl dX12_doOne_1 ?_
  refine lv_sipush (v := 300) hx hb dX12_doOne_4 rfl ?_
  refine lv_icmp_ne (tgt := 21) hx hb dX12_doOne_7 (by decide) (fun c7 => ?_) (fun c7 => ?_)
  · have hf := it_f c7 hf
    refine lv_aload_n hx hb dX12_doOne_21 rfl (lv_at hl 0 rfl) ?_
    refine lv_dup hx hb dX12_doOne_22 rfl ?_
    refine G12_470 hx hb htg hown hK hP 0 rfl dX12_doOne_23 ?_
    refine lv_iconst (v := 1) hx hb dX12_doOne_26 rfl ?_
    refine lv_iadd hx hb dX12_doOne_27 ?_
    refine P12_470 hx hb htg hown hK hP hD hS 0 rfl dX12_doOne_28 (fun H locs hP hD hS => ?_)
    refine lv_bipush (v := 102) hx hb dX12_doOne_31 rfl ?_
    refine lv_bipush (v := 9) hx hb dX12_doOne_33 rfl ?_
    refine lv_iload_n hx hb dX12_doOne_35 rfl (lv_at hl 1 rfl) ?_
    refine lv_imul hx hb dX12_doOne_36 ?_
    refine lv_iadd hx hb dX12_doOne_37 ?_
    refine lv_istore_n (lv' := [(2, .int (102 + (9 * x1))), (0, .ref a0), (1, .int x1)]) hx hb dX12_doOne_38 rfl hl (by decide) rfl (fun ls hl => ?_)
    refine lv_aload_n hx hb dX12_doOne_39 rfl (lv_at hl 1 rfl) ?_
    refine G12_35 hx hb htg hown hK hP 0 rfl dX12_doOne_40 ?_
    refine lv_iload_n hx hb dX12_doOne_43 rfl (lv_at hl 0 rfl) ?_
    obtain ⟨g44, hf⟩ := ck_s hf
    refine xiald hx hb hK hP 1 rfl g44 dX12_doOne_44 ?_
    refine lv_istore_n (lv' := [(3, .int (V1 (Int32.toNatClampNeg (102 + (9 * x1))))), (2, .int (102 + (9 * x1))), (0, .ref a0), (1, .int x1)]) hx hb dX12_doOne_45 rfl hl (by decide) rfl (fun ls hl => ?_)
    refine lv_iload_n hx hb dX12_doOne_46 rfl (lv_at hl 0 rfl) ?_
    refine lv_iconst (v := 5) hx hb dX12_doOne_47 rfl ?_
    refine lv_icmp_ge (tgt := 76) hx hb dX12_doOne_48 (by decide) (fun c48 => ?_) (fun c48 => ?_)
    · have hf := it_t c48 hf
      refine lv_iload_n hx hb dX12_doOne_76 rfl (lv_at hl 0 rfl) ?_
      refine lv_iconst (v := 5) hx hb dX12_doOne_77 rfl ?_
      refine lv_icmp_ne (tgt := 108) hx hb dX12_doOne_78 (by decide) (fun c78 => ?_) (fun c78 => ?_)
      · have hf := it_f c78 hf
        exact b108 (102 + (9 * x1)) (V1 (Int32.toNatClampNeg (102 + (9 * x1)))) (upd T0 36 ((T0 36) + 1)) V1 V2 V3 _ _ _ hf hP hD hS (lv_sub hl [2, 3, 1, 0] rfl)
      · have hf := it_t c78 hf
        refine lv_aload_n hx hb dX12_doOne_81 rfl (lv_at hl 2 rfl) ?_
        refine lv_iload_n hx hb dX12_doOne_82 rfl (lv_at hl 1 rfl) ?_
        obtain ⟨z83, hz83, hf⟩ := bind_s hf
        refine xV_ir hx hb hml hown htg L12_485 (c_X12_holds l E a0 a1 hz83 _) ⟨⟨rfl, rfl⟩, (by show 4 + 1 ≤ fr + 8; omega), (by show 8 + (5 + 11) + 107 ≤ lo + 204; omega)⟩ hK hG hA hP hD hS (is := [0, 1]) rfl rfl (xrecv hK hP (q0 := 0) (ci := 12) rfl rfl) rfl hl.1 rfl (Nat.le_of_ble_eq_true rfl) dX12_doOne_83 (fun H locs hP hD hS => ?_)
        refine lv_if_eq (tgt := 108) hx hb dX12_doOne_86 (by decide) (fun c86 => ?_) (fun c86 => ?_)
        · have hf := it_t c86 hf
          exact b108 (102 + (9 * x1)) (V1 (Int32.toNatClampNeg (102 + (9 * x1)))) (upd T0 36 ((T0 36) + 1)) V1 V2 V3 _ _ _ hf hP hD hS (lv_sub hl [2, 3, 1, 0] rfl)
        · have hf := it_f c86 hf
          refine lv_aload_n hx hb dX12_doOne_89 rfl (lv_at hl 2 rfl) ?_
          refine lv_iload_n hx hb dX12_doOne_90 rfl (lv_at hl 3 rfl) ?_
          refine lv_iconst (v := 1) hx hb dX12_doOne_91 rfl ?_
          refine lv_iadd hx hb dX12_doOne_92 ?_
          refine lv_aload_n hx hb dX12_doOne_93 rfl (lv_at hl 2 rfl) ?_
          refine G12_35 hx hb htg hown hK hP 0 rfl dX12_doOne_94 ?_
          refine lv_iload_n hx hb dX12_doOne_97 rfl (lv_at hl 1 rfl) ?_
          refine lv_bipush (v := 8) hx hb dX12_doOne_98 rfl ?_
          refine lv_iadd hx hb dX12_doOne_100 ?_
          obtain ⟨g101, hf⟩ := ck_s hf
          refine xiald hx hb hK hP 1 rfl g101 dX12_doOne_101 ?_
          obtain ⟨z102, hz102, hf⟩ := bind_s hf
          refine xV_vu hx hb hml hown htg L12_488 (ih_X12_doAll a0 a1 a2 a3 hz102 _) ⟨⟨rfl, rfl⟩, (by show fr + 1 ≤ fr + 8; omega), (by show 8 + (4 + 11) + lo ≤ lo + 204; omega)⟩ hK hG hA hP hD hS (is := [0, 1, 2, 3]) (sel := [some 0, some 1, some 2, some 3]) (ws2 := [(a0, o12 z102.1 J0_2 J0_3 J0_19 u0_4 u0_5 u0_6 u0_7 a1 u0_21 u0_22 a3 a2 u0_31 u0_32), (a1, ai E 1860 z102.2.1), (a2, ai E 36 z102.2.2.1), (a3, ai E 36 z102.2.2.2)]) rfl rfl rfl rfl rfl (xrecv hK hP (q0 := 0) (ci := 12) rfl rfl) rfl hl.1 rfl (Nat.le_of_ble_eq_true rfl) dX12_doOne_102 (fun H locs hP hD hS => ?_)
          refine lv_goto (tgt := 173) hx hb dX12_doOne_105 (by decide) ?_
          exact ret (z102.1, z102.2.1, z102.2.2.1, z102.2.2.2) hf hP hS dX12_doOne_173
    · have hf := it_f c48 hf
      refine lv_aload_n hx hb dX12_doOne_51 rfl (lv_at hl 2 rfl) ?_
      refine lv_dup hx hb dX12_doOne_52 rfl ?_
      refine G12_479 hx hb htg hown hK hP 0 rfl dX12_doOne_53 ?_
      refine lv_aload_n hx hb dX12_doOne_56 rfl (lv_at hl 2 rfl) ?_
      refine lv_iload_n hx hb dX12_doOne_57 rfl (lv_at hl 1 rfl) ?_
      obtain ⟨z58, hz58, hf⟩ := bind_s hf
      refine xV_iu hx hb hml hown htg L12_482 (c_X12_does l E a0 a1 a2 a3 hz58 _) ⟨⟨rfl, rfl⟩, (by show 7 + 1 ≤ fr + 8; omega), (by show 8 + (4 + 11) + 181 ≤ lo + 204; omega)⟩ hK hG hA hP hD hS (is := [0, 1, 2, 3]) (sel := [some 0, some 1, some 2, some 3]) (ws2 := [(a0, o12 z58.2.1 J0_2 J0_3 J0_19 u0_4 u0_5 u0_6 u0_7 a1 u0_21 u0_22 a3 a2 u0_31 u0_32), (a1, ai E 1860 z58.2.2.1), (a2, ai E 36 z58.2.2.2.1), (a3, ai E 36 z58.2.2.2.2)]) rfl rfl rfl rfl rfl (xrecv hK hP (q0 := 0) (ci := 12) rfl rfl) rfl hl.1 rfl (Nat.le_of_ble_eq_true rfl) dX12_doOne_58 (fun H locs hP hD hS => ?_)
      refine lv_if_eq (tgt := 68) hx hb dX12_doOne_61 (by decide) (fun c61 => ?_) (fun c61 => ?_)
      · have hf := it_t c61 hf
        refine lv_iconst (v := 1) hx hb dX12_doOne_68 rfl ?_
        exact b69 ((upd T0 36 ((T0 36) + 1)) 37) 1 z58.2.1 z58.2.2.1 z58.2.2.2.1 z58.2.2.2.2 _ _ _ hf hP hD hS (lv_sub hl [] rfl)
      · have hf := it_f c61 hf
        refine lv_iconst (v := 0) hx hb dX12_doOne_64 rfl ?_
        refine lv_goto (tgt := 69) hx hb dX12_doOne_65 (by decide) ?_
        exact b69 ((upd T0 36 ((T0 36) + 1)) 37) 0 z58.2.1 z58.2.2.1 z58.2.2.2.1 z58.2.2.2.2 _ _ _ hf hP hD hS (lv_sub hl [] rfl)
  · have hf := it_t c7 hf
    refine lv_aload_n hx hb dX12_doOne_10 rfl (lv_at hl 0 rfl) ?_
    refine lv_iconst (v := 1) hx hb dX12_doOne_11 rfl ?_
    refine P12_473 hx hb htg hown hK hP hD hS 0 rfl rfl dX12_doOne_12 (fun H locs hP hD hS => ?_)
    refine lv_aload_n hx hb dX12_doOne_15 rfl (lv_at hl 0 rfl) ?_
    refine lv_iconst (v := 1) hx hb dX12_doOne_16 rfl ?_
    refine P12_476 hx hb htg hown hK hP hD hS 0 rfl dX12_doOne_17 (fun H locs hP hD hS => ?_)
    exact ret (upd (upd T0 34 1) 41 1, V1, V2, V3) hf hP hS dX12_doOne_20
theorem dX12_doAll_0 : decode cX12_doAll 0 = .ok (.iload_n 1, 1) := by decide +kernel
theorem dX12_doAll_1 : decode cX12_doAll 1 = .ok (.istore_n 3, 1) := by decide +kernel
theorem dX12_doAll_2 : decode cX12_doAll 2 = .ok (.iload_n 3, 1) := by decide +kernel
theorem dX12_doAll_3 : decode cX12_doAll 3 = .ok (.iload_n 2, 1) := by decide +kernel
theorem dX12_doAll_4 : decode cX12_doAll 4 = .ok (.if_icmp .ge 34, 3) := by decide +kernel
theorem dX12_doAll_7 : decode cX12_doAll 7 = .ok (.aload_n 0, 1) := by decide +kernel
theorem dX12_doAll_8 : decode cX12_doAll 8 = .ok (.getfield 473, 3) := by decide +kernel
theorem dX12_doAll_11 : decode cX12_doAll 11 = .ok (.ifCond .ne 27, 3) := by decide +kernel
theorem dX12_doAll_14 : decode cX12_doAll 14 = .ok (.aload_n 0, 1) := by decide +kernel
theorem dX12_doAll_15 : decode cX12_doAll 15 = .ok (.iload_n 3, 1) := by decide +kernel
theorem dX12_doAll_16 : decode cX12_doAll 16 = .ok (.invokevirtual 491, 3) := by decide +kernel
theorem dX12_doAll_19 : decode cX12_doAll 19 = .ok (.aload_n 0, 1) := by decide +kernel
theorem dX12_doAll_20 : decode cX12_doAll 20 = .ok (.getfield 35, 3) := by decide +kernel
theorem dX12_doAll_23 : decode cX12_doAll 23 = .ok (.bipush 102, 2) := by decide +kernel
theorem dX12_doAll_25 : decode cX12_doAll 25 = .ok (.bipush 9, 2) := by decide +kernel
theorem dX12_doAll_27 : decode cX12_doAll 27 = .ok (.iload_n 3, 1) := by decide +kernel
theorem dX12_doAll_28 : decode cX12_doAll 28 = .ok (.imul, 1) := by decide +kernel
theorem dX12_doAll_29 : decode cX12_doAll 29 = .ok (.iadd, 1) := by decide +kernel
theorem dX12_doAll_30 : decode cX12_doAll 30 = .ok (.bipush 8, 2) := by decide +kernel
theorem dX12_doAll_32 : decode cX12_doAll 32 = .ok (.iadd, 1) := by decide +kernel
theorem dX12_doAll_33 : decode cX12_doAll 33 = .ok (.iaload, 1) := by decide +kernel
theorem dX12_doAll_34 : decode cX12_doAll 34 = .ok (.istore_n 3, 1) := by decide +kernel
theorem dX12_doAll_35 : decode cX12_doAll 35 = .ok (.goto (-33), 3) := by decide +kernel
theorem dX12_doAll_38 : decode cX12_doAll 38 = .ok (.return_, 1) := by decide +kernel
set_option maxRecDepth 100000 in
theorem c_X12_doAll (l : Launch) (E : xE) (fr lo : Nat) {rec_X12_doAll : (Nat → Int32) → (Nat → Int32) → (Nat → Int32) → (Nat → Int32) → Int32 → Int32 → Option ((Nat → Int32) × (Nat → Int32) × (Nat → Int32) × (Nat → Int32))} (ih_X12_doAll : ∀ (a0 a1 a2 a3 : Nat) {T0 : Nat → Int32} {J0_2 : Int64} {J0_3 : Int64} {J0_19 : Int64} {V1 : Nat → Int32} {V2 : Nat → Int32} {V3 : Nat → Int32} {u0_4 u0_5 u0_6 u0_7 u0_21 u0_22 u0_31 u0_32 : Nat} {x1 : Int32} {x2 : Int32} {z : (Nat → Int32) × (Nat → Int32) × (Nat → Int32) × (Nat → Int32)}, rec_X12_doAll T0 V1 V2 V3 x1 x2 = some z → ∀ sz : Nat, Met l yX12_doAll (Cond.code yX12_doAll cX12_doAll 4 none :: gw) ({ frames := fr, cells := 0, slots := 0, locals := lo }) (xPc E [.ref a0, .int x1, .int x2] [(a0, o12 T0 J0_2 J0_3 J0_19 u0_4 u0_5 u0_6 u0_7 a1 u0_21 u0_22 a3 a2 u0_31 u0_32), (a1, ai E 1860 V1), (a2, ai E 36 V2), (a3, ai E 36 V3)] sz) (xQv E [(a0, o12 T0 J0_2 J0_3 J0_19 u0_4 u0_5 u0_6 u0_7 a1 u0_21 u0_22 a3 a2 u0_31 u0_32), (a1, ai E 1860 V1), (a2, ai E 36 V2), (a3, ai E 36 V3)] [(a0, o12 z.1 J0_2 J0_3 J0_19 u0_4 u0_5 u0_6 u0_7 a1 u0_21 u0_22 a3 a2 u0_31 u0_32), (a1, ai E 1860 z.2.1), (a2, ai E 36 z.2.2.1), (a3, ai E 36 z.2.2.2)] sz) 0 0 (va_A [(a0, o12 T0 J0_2 J0_3 J0_19 u0_4 u0_5 u0_6 u0_7 a1 u0_21 u0_22 a3 a2 u0_31 u0_32), (a1, ai E 1860 V1), (a2, ai E 36 V2), (a3, ai E 36 V3)] sz)) (a0 a1 a2 a3 : Nat) {T0 : Nat → Int32} {J0_2 : Int64} {J0_3 : Int64} {J0_19 : Int64} {V1 : Nat → Int32} {V2 : Nat → Int32} {V3 : Nat → Int32} {u0_4 u0_5 u0_6 u0_7 u0_21 u0_22 u0_31 u0_32 : Nat} {x1 : Int32} {x2 : Int32} {z : (Nat → Int32) × (Nat → Int32) × (Nat → Int32) × (Nat → Int32)} (hf : o_X12_doAll rec_X12_doAll T0 V1 V2 V3 x1 x2 = some z) (sz : Nat) : Met l yX12_doAll (Cond.code yX12_doAll cX12_doAll 4 none :: gw) ({ frames := fr + 9, cells := 0, slots := 0, locals := lo + 228 }) (xPc E [.ref a0, .int x1, .int x2] [(a0, o12 T0 J0_2 J0_3 J0_19 u0_4 u0_5 u0_6 u0_7 a1 u0_21 u0_22 a3 a2 u0_31 u0_32), (a1, ai E 1860 V1), (a2, ai E 36 V2), (a3, ai E 36 V3)] sz) (xQv E [(a0, o12 T0 J0_2 J0_3 J0_19 u0_4 u0_5 u0_6 u0_7 a1 u0_21 u0_22 a3 a2 u0_31 u0_32), (a1, ai E 1860 V1), (a2, ai E 36 V2), (a3, ai E 36 V3)] [(a0, o12 z.1 J0_2 J0_3 J0_19 u0_4 u0_5 u0_6 u0_7 a1 u0_21 u0_22 a3 a2 u0_31 u0_32), (a1, ai E 1860 z.2.1), (a2, ai E 36 z.2.2.1), (a3, ai E 36 z.2.2.2)] sz) 0 0 (va_A [(a0, o12 T0 J0_2 J0_3 J0_19 u0_4 u0_5 u0_6 u0_7 a1 u0_21 u0_22 a3 a2 u0_31 u0_32), (a1, ai E 1860 V1), (a2, ai E 36 V2), (a3, ai E 36 V3)] sz) := by
  refine xM_v (by decide +kernel) (Nat.le_of_ble_eq_true rfl) ?_
  intro p e s m args below meth c A Q hx hb hml hown htg hK hG hA ret0 H locs ls hP hD hS hl
  have ret : ∀ (z' : (Nat → Int32) × (Nat → Int32) × (Nat → Int32) × (Nat → Int32)) {H : Heap} {locs : List Loc} {pc : Nat} {ls : Array Slot}, some z' = some z → va_P E.1 vwCl [(a0, o12 z'.1 J0_2 J0_3 J0_19 u0_4 u0_5 u0_6 u0_7 a1 u0_21 u0_22 a3 a2 u0_31 u0_32), (a1, ai E 1860 z'.2.1), (a2, ai E 36 z'.2.2.1), (a3, ai E 36 z'.2.2.2)] H → va_S A s.heap H locs → decode cX12_doAll pc = .ok (.return_, 1) → W p l e ({ frames := fr + 9, cells := 0, slots := 0, locals := lo + 228 } : Room) s m args below meth c H locs 0 0 Q (F0 m pc ls []) := by
    intro z' H locs pc ls h
    cases h
    exact ret0
  replace hl : lv_has ls 4 [(0, .ref a0), (1, .int x1), (2, .int x2)] := hl
  have b2 : ∀ (n : Nat) (x3 : Int32) (T0 : Nat → Int32) (V1 : Nat → Int32) (V2 : Nat → Int32) (V3 : Nat → Int32) (H : Heap) (locs : List Loc) (ls : Array Slot), f_X12_doAll_2 rec_X12_doAll x1 x2 n x3 T0 V1 V2 V3 = some z → va_P E.1 vwCl [(a0, o12 T0 J0_2 J0_3 J0_19 u0_4 u0_5 u0_6 u0_7 a1 u0_21 u0_22 a3 a2 u0_31 u0_32), (a1, ai E 1860 V1), (a2, ai E 36 V2), (a3, ai E 36 V3)] H → va_D A [(a0, o12 T0 J0_2 J0_3 J0_19 u0_4 u0_5 u0_6 u0_7 a1 u0_21 u0_22 a3 a2 u0_31 u0_32), (a1, ai E 1860 V1), (a2, ai E 36 V2), (a3, ai E 36 V3)] → va_S A s.heap H locs → lv_has ls 4 [(0, .ref a0), (2, .int x2), (3, .int x3)] → W p l e ({ frames := fr + 9, cells := 0, slots := 0, locals := lo + 228 } : Room) s m args below meth c H locs 0 0 Q (F0 m 2 ls []) := by
    intro n
    induction n with
    | zero => intro x3 T0 V1 V2 V3 H locs ls hf; exact (nn_s hf).elim
    | succ n ih2 =>
      obtain ⟨k2, ek2⟩ : ∃ k, k = f_X12_doAll_2 rec_X12_doAll x1 x2 n := ⟨_, rfl⟩
      rw [← ek2] at ih2
      intro x3 T0 V1 V2 V3 H locs ls hf hP hD hS hl
      replace hf : g_X12_doAll_2 rec_X12_doAll x1 x2 k2 x3 T0 V1 V2 V3 = some z := by rw [ek2]; exact hf
      unfold g_X12_doAll_2 at hf
      refine lv_iload_n hx hb dX12_doAll_2 rfl (lv_at hl 2 rfl) ?_
      refine lv_iload_n hx hb dX12_doAll_3 rfl (lv_at hl 1 rfl) ?_
      refine lv_icmp_ge (tgt := 38) hx hb dX12_doAll_4 (by decide) (fun c4 => ?_) (fun c4 => ?_)
      · have hf := it_t c4 hf
        exact ret (T0, V1, V2, V3) hf hP hS dX12_doAll_38
      · have hf := it_f c4 hf
        refine lv_aload_n hx hb dX12_doAll_7 rfl (lv_at hl 0 rfl) ?_
        refine G12_473 hx hb htg hown hK hP 0 rfl dX12_doAll_8 ?_
        refine lv_if_ne (tgt := 38) hx hb dX12_doAll_11 (by decide) (fun c11 => ?_) (fun c11 => ?_)
        · have hf := it_f c11 hf
          exact ret (T0, V1, V2, V3) hf hP hS dX12_doAll_38
        · have hf := it_t c11 hf
          refine lv_aload_n hx hb dX12_doAll_14 rfl (lv_at hl 0 rfl) ?_
          refine lv_iload_n hx hb dX12_doAll_15 rfl (lv_at hl 2 rfl) ?_
          obtain ⟨z16, hz16, hf⟩ := bind_s hf
          refine xV_vu hx hb hml hown htg L12_491 (c_X12_doOne l E fr lo ih_X12_doAll a0 a1 a2 a3 hz16 _) ⟨⟨rfl, rfl⟩, (by show fr + 8 + 1 ≤ fr + 9; omega), (by show 8 + (5 + 11) + lo + 204 ≤ lo + 228; omega)⟩ hK hG hA hP hD hS (is := [0, 1, 2, 3]) (sel := [some 0, some 1, some 2, some 3]) (ws2 := [(a0, o12 z16.1 J0_2 J0_3 J0_19 u0_4 u0_5 u0_6 u0_7 a1 u0_21 u0_22 a3 a2 u0_31 u0_32), (a1, ai E 1860 z16.2.1), (a2, ai E 36 z16.2.2.1), (a3, ai E 36 z16.2.2.2)]) rfl rfl rfl rfl rfl (xrecv hK hP (q0 := 0) (ci := 12) rfl rfl) rfl hl.1 rfl (Nat.le_of_ble_eq_true rfl) dX12_doAll_16 (fun H locs hP hD hS => ?_)
          refine lv_aload_n hx hb dX12_doAll_19 rfl (lv_at hl 0 rfl) ?_
          refine G12_35 hx hb htg hown hK hP 0 rfl dX12_doAll_20 ?_
          refine lv_bipush (v := 102) hx hb dX12_doAll_23 rfl ?_
          refine lv_bipush (v := 9) hx hb dX12_doAll_25 rfl ?_
          refine lv_iload_n hx hb dX12_doAll_27 rfl (lv_at hl 2 rfl) ?_
          refine lv_imul hx hb dX12_doAll_28 ?_
          refine lv_iadd hx hb dX12_doAll_29 ?_
          refine lv_bipush (v := 8) hx hb dX12_doAll_30 rfl ?_
          refine lv_iadd hx hb dX12_doAll_32 ?_
          obtain ⟨g33, hf⟩ := ck_s hf
          refine xiald hx hb hK hP 1 rfl g33 dX12_doAll_33 ?_
          refine lv_topi (fun x3_34 ex3_34 => ?_)
          have hf := letv_s ex3_34 hf
          refine lv_istore_n (lv' := [(3, .int x3_34), (0, .ref a0), (2, .int x2)]) hx hb dX12_doAll_34 rfl hl (by decide) rfl (fun ls hl => ?_)
          refine lv_goto (tgt := 2) hx hb dX12_doAll_35 (by decide) ?_
          exact ih2 x3_34 z16.1 z16.2.1 z16.2.2.1 z16.2.2.2 _ _ _ hf hP hD hS (lv_sub hl [1, 2, 0] rfl)
  unfold o_X12_doAll at hf
  refine lv_iload_n hx hb dX12_doAll_0 rfl (lv_at hl 1 rfl) ?_
  refine lv_istore_n (lv' := [(3, .int x1), (0, .ref a0), (1, .int x1), (2, .int x2)]) hx hb dX12_doAll_1 rfl hl (by decide) rfl (fun ls hl => ?_)
  exact b2 xF x1 T0 V1 V2 V3 _ _ _ hf hP hD hS (lv_sub hl [1, 3, 0] rfl)
theorem rs_X12_doAll (d : Nat) : r_X12_doAll (d + 1) = o_X12_doAll (r_X12_doAll d) := by
  unfold r_X12_doAll
  exact iter_succ _ _ _
set_option maxRecDepth 100000 in
theorem cr_X12_doAll (l : Launch) (E : xE) : ∀ (d : Nat) (a0 a1 a2 a3 : Nat) {T0 : Nat → Int32} {J0_2 : Int64} {J0_3 : Int64} {J0_19 : Int64} {V1 : Nat → Int32} {V2 : Nat → Int32} {V3 : Nat → Int32} {u0_4 u0_5 u0_6 u0_7 u0_21 u0_22 u0_31 u0_32 : Nat} {x1 : Int32} {x2 : Int32} {z : (Nat → Int32) × (Nat → Int32) × (Nat → Int32) × (Nat → Int32)}, r_X12_doAll d T0 V1 V2 V3 x1 x2 = some z → ∀ sz : Nat, Met l yX12_doAll (Cond.code yX12_doAll cX12_doAll 4 none :: gw) ({ frames := 9 * d, cells := 0, slots := 0, locals := 228 * d }) (xPc E [.ref a0, .int x1, .int x2] [(a0, o12 T0 J0_2 J0_3 J0_19 u0_4 u0_5 u0_6 u0_7 a1 u0_21 u0_22 a3 a2 u0_31 u0_32), (a1, ai E 1860 V1), (a2, ai E 36 V2), (a3, ai E 36 V3)] sz) (xQv E [(a0, o12 T0 J0_2 J0_3 J0_19 u0_4 u0_5 u0_6 u0_7 a1 u0_21 u0_22 a3 a2 u0_31 u0_32), (a1, ai E 1860 V1), (a2, ai E 36 V2), (a3, ai E 36 V3)] [(a0, o12 z.1 J0_2 J0_3 J0_19 u0_4 u0_5 u0_6 u0_7 a1 u0_21 u0_22 a3 a2 u0_31 u0_32), (a1, ai E 1860 z.2.1), (a2, ai E 36 z.2.2.1), (a3, ai E 36 z.2.2.2)] sz) 0 0 (va_A [(a0, o12 T0 J0_2 J0_3 J0_19 u0_4 u0_5 u0_6 u0_7 a1 u0_21 u0_22 a3 a2 u0_31 u0_32), (a1, ai E 1860 V1), (a2, ai E 36 V2), (a3, ai E 36 V3)] sz) := by
  intro d
  induction d with
  | zero => intro a0 a1 a2 a3 T0 J0_2 J0_3 J0_19 V1 V2 V3 u0_4 u0_5 u0_6 u0_7 u0_21 u0_22 u0_31 u0_32 x1 x2 z hf; exact (nn_s hf).elim
  | succ d ih => intro a0 a1 a2 a3 T0 J0_2 J0_3 J0_19 V1 V2 V3 u0_4 u0_5 u0_6 u0_7 u0_21 u0_22 u0_31 u0_32 x1 x2 z hf sz; rw [rs_X12_doAll] at hf; rw [Nat.mul_succ, Nat.mul_succ]; exact c_X12_doAll l E (9 * d) (228 * d) (rec_X12_doAll := r_X12_doAll d) ih a0 a1 a2 a3 hf sz
set_option maxRecDepth 100000 in
theorem c_X12_doAllc (l : Launch) (E : xE) (a0 a1 a2 a3 : Nat) {T0 : Nat → Int32} {J0_2 : Int64} {J0_3 : Int64} {J0_19 : Int64} {V1 : Nat → Int32} {V2 : Nat → Int32} {V3 : Nat → Int32} {u0_4 u0_5 u0_6 u0_7 u0_21 u0_22 u0_31 u0_32 : Nat} {x1 : Int32} {x2 : Int32} {z : (Nat → Int32) × (Nat → Int32) × (Nat → Int32) × (Nat → Int32)} (hf : f_X12_doAll T0 V1 V2 V3 x1 x2 = some z) (sz : Nat) : Met l yX12_doAll (Cond.code yX12_doAll cX12_doAll 4 none :: gw) ({ frames := 45, cells := 0, slots := 0, locals := 1140 }) (xPc E [.ref a0, .int x1, .int x2] [(a0, o12 T0 J0_2 J0_3 J0_19 u0_4 u0_5 u0_6 u0_7 a1 u0_21 u0_22 a3 a2 u0_31 u0_32), (a1, ai E 1860 V1), (a2, ai E 36 V2), (a3, ai E 36 V3)] sz) (xQv E [(a0, o12 T0 J0_2 J0_3 J0_19 u0_4 u0_5 u0_6 u0_7 a1 u0_21 u0_22 a3 a2 u0_31 u0_32), (a1, ai E 1860 V1), (a2, ai E 36 V2), (a3, ai E 36 V3)] [(a0, o12 z.1 J0_2 J0_3 J0_19 u0_4 u0_5 u0_6 u0_7 a1 u0_21 u0_22 a3 a2 u0_31 u0_32), (a1, ai E 1860 z.2.1), (a2, ai E 36 z.2.2.1), (a3, ai E 36 z.2.2.2)] sz) 0 0 (va_A [(a0, o12 T0 J0_2 J0_3 J0_19 u0_4 u0_5 u0_6 u0_7 a1 u0_21 u0_22 a3 a2 u0_31 u0_32), (a1, ai E 1860 V1), (a2, ai E 36 V2), (a3, ai E 36 V3)] sz) := cr_X12_doAll l E 5 a0 a1 a2 a3 hf sz
theorem dX12_game_0 : decode cX12_game 0 = .ok (.aload_n 0, 1) := by decide +kernel
theorem dX12_game_1 : decode cX12_game 1 = .ok (.iconst 0, 1) := by decide +kernel
theorem dX12_game_2 : decode cX12_game 2 = .ok (.putfield 60, 3) := by decide +kernel
theorem dX12_game_5 : decode cX12_game 5 = .ok (.aload_n 0, 1) := by decide +kernel
theorem dX12_game_6 : decode cX12_game 6 = .ok (.iconst 0, 1) := by decide +kernel
theorem dX12_game_7 : decode cX12_game 7 = .ok (.putfield 63, 3) := by decide +kernel
theorem dX12_game_10 : decode cX12_game 10 = .ok (.iload_n 1, 1) := by decide +kernel
theorem dX12_game_11 : decode cX12_game 11 = .ok (.i2l, 1) := by decide +kernel
theorem dX12_game_12 : decode cX12_game 12 = .ok (.lconst 0, 1) := by decide +kernel
theorem dX12_game_13 : decode cX12_game 13 = .ok (.ldc2_w 333, 3) := by decide +kernel
theorem dX12_game_16 : decode cX12_game 16 = .ok (.invokestatic 95, 3) := by decide +kernel
theorem dX12_game_19 : decode cX12_game 19 = .ok (.ifCond .eq 12, 3) := by decide +kernel
theorem dX12_game_22 : decode cX12_game 22 = .ok (.aload_n 0, 1) := by decide +kernel
theorem dX12_game_23 : decode cX12_game 23 = .ok (.iconst 0, 1) := by decide +kernel
theorem dX12_game_24 : decode cX12_game 24 = .ok (.iload_n 1, 1) := by decide +kernel
theorem dX12_game_25 : decode cX12_game 25 = .ok (.invokevirtual 433, 3) := by decide +kernel
theorem dX12_game_28 : decode cX12_game 28 = .ok (.goto 8, 3) := by decide +kernel
theorem dX12_game_31 : decode cX12_game 31 = .ok (.aload_n 0, 1) := by decide +kernel
theorem dX12_game_32 : decode cX12_game 32 = .ok (.iconst 5, 1) := by decide +kernel
theorem dX12_game_33 : decode cX12_game 33 = .ok (.invokevirtual 321, 3) := by decide +kernel
theorem dX12_game_36 : decode cX12_game 36 = .ok (.ireturn, 1) := by decide +kernel
set_option maxRecDepth 100000 in
theorem c_X12_game (l : Launch) (E : xE) (a0 a1 : Nat) {T0 : Nat → Int32} {J0_2 : Int64} {J0_3 : Int64} {J0_19 : Int64} {V1 : Nat → Int32} {u0_4 u0_5 u0_6 u0_7 u0_21 u0_22 u0_27 u0_28 u0_31 u0_32 : Nat} {x1 : Int32} {z : Int32 × (Nat → Int32) × (Nat → Int32)} (hf : f_X12_game T0 V1 x1 = some z) (sz : Nat) : Met l yX12_game (Cond.code yX12_game cX12_game 2 (some .int) :: gw) ({ frames := 25, cells := 0, slots := 0, locals := 672 }) (xPc E [.ref a0, .int x1] [(a0, o12 T0 J0_2 J0_3 J0_19 u0_4 u0_5 u0_6 u0_7 a1 u0_21 u0_22 u0_27 u0_28 u0_31 u0_32), (a1, ai E 1860 V1)] sz) (xQi E z.1 [(a0, o12 T0 J0_2 J0_3 J0_19 u0_4 u0_5 u0_6 u0_7 a1 u0_21 u0_22 u0_27 u0_28 u0_31 u0_32), (a1, ai E 1860 V1)] [(a0, o12 z.2.1 J0_2 J0_3 J0_19 u0_4 u0_5 u0_6 u0_7 a1 u0_21 u0_22 u0_27 u0_28 u0_31 u0_32), (a1, ai E 1860 z.2.2)] sz) 0 0 (va_A [(a0, o12 T0 J0_2 J0_3 J0_19 u0_4 u0_5 u0_6 u0_7 a1 u0_21 u0_22 u0_27 u0_28 u0_31 u0_32), (a1, ai E 1860 V1)] sz) := by
  refine xM_i (by decide +kernel) (Nat.le_of_ble_eq_true rfl) ?_
  intro p e s m args below meth c A Q hx hb hml hown htg hK hG hA ret0 H locs ls hP hD hS hl
  have ret : ∀ (z' : Int32 × (Nat → Int32) × (Nat → Int32)) {H : Heap} {locs : List Loc} {pc : Nat} {ls : Array Slot}, some z' = some z → narrow .int (.int z'.1) = .int z'.1 → va_P E.1 vwCl [(a0, o12 z'.2.1 J0_2 J0_3 J0_19 u0_4 u0_5 u0_6 u0_7 a1 u0_21 u0_22 u0_27 u0_28 u0_31 u0_32), (a1, ai E 1860 z'.2.2)] H → va_S A s.heap H locs → decode cX12_game pc = .ok (.ireturn, 1) → W p l e ({ frames := 25, cells := 0, slots := 0, locals := 672 } : Room) s m args below meth c H locs 0 0 Q (F0 m pc ls [.int z'.1]) := by
    intro z' H locs pc ls h
    cases h
    exact ret0
  replace hl : lv_has ls 2 [(0, .ref a0), (1, .int x1)] := hl
  unfold f_X12_game at hf
  refine lv_aload_n hx hb dX12_game_0 rfl (lv_at hl 0 rfl) ?_
  refine lv_iconst (v := 0) hx hb dX12_game_1 rfl ?_
  refine P12_60 hx hb htg hown hK hP hD hS 0 rfl dX12_game_2 (fun H locs hP hD hS => ?_)
  refine lv_aload_n hx hb dX12_game_5 rfl (lv_at hl 0 rfl) ?_
  refine lv_iconst (v := 0) hx hb dX12_game_6 rfl ?_
  refine P12_63 hx hb htg hown hK hP hD hS 0 rfl dX12_game_7 (fun H locs hP hD hS => ?_)
  refine lv_iload_n hx hb dX12_game_10 rfl (lv_at hl 1 rfl) ?_
  refine lv_i2l hx hb dX12_game_11 rfl ?_
  refine lv_lconst (v := 0) hx hb dX12_game_12 rfl ?_
  refine lv_ldc2 hx hb hown (htg _ (gw_t (tb8 133 rfl) rfl)) dX12_game_13 ?_
  obtain ⟨z16, hz16, hf⟩ := bind_s hf
  refine xS_ir hx hb hml hown htg L12_95 (c_X12_isIn l E hz16 _) ⟨⟨rfl, rfl⟩, Nat.le_of_ble_eq_true rfl, Nat.le_of_ble_eq_true rfl⟩ hK hG hA hP hD hS (is := []) rfl rfl rfl hl.1 rfl (Nat.le_of_ble_eq_true rfl) dX12_game_16 (fun H locs hP hD hS => ?_)
  refine lv_if_eq (tgt := 31) hx hb dX12_game_19 (by decide) (fun c19 => ?_) (fun c19 => ?_)
  · have hf := it_t c19 hf
    refine lv_aload_n hx hb dX12_game_31 rfl (lv_at hl 0 rfl) ?_
    refine lv_iconst (v := 5) hx hb dX12_game_32 rfl ?_
    obtain ⟨z33, hz33, hf⟩ := bind_s hf
    refine xV_iu hx hb hml hown htg L12_321 (c_X12_refuse l E a0 hz33 _) ⟨⟨rfl, rfl⟩, Nat.le_of_ble_eq_true rfl, Nat.le_of_ble_eq_true rfl⟩ hK hG hA hP hD hS (is := [0]) (sel := [some 0, none]) (ws2 := [(a0, o12 z33.2 J0_2 J0_3 J0_19 u0_4 u0_5 u0_6 u0_7 a1 u0_21 u0_22 u0_27 u0_28 u0_31 u0_32), (a1, ai E 1860 V1)]) rfl rfl rfl rfl rfl (xrecv hK hP (q0 := 0) (ci := 12) rfl rfl) rfl hl.1 rfl (Nat.le_of_ble_eq_true rfl) dX12_game_33 (fun H locs hP hD hS => ?_)
    exact ret (z33.1, z33.2, V1) hf nzi hP hS dX12_game_36
  · have hf := it_f c19 hf
    refine lv_aload_n hx hb dX12_game_22 rfl (lv_at hl 0 rfl) ?_
    refine lv_iconst (v := 0) hx hb dX12_game_23 rfl ?_
    refine lv_iload_n hx hb dX12_game_24 rfl (lv_at hl 1 rfl) ?_
    obtain ⟨z25, hz25, hf⟩ := bind_s hf
    refine xV_iu hx hb hml hown htg L12_433 (c_X12_playsc l E a0 a1 hz25 _) ⟨⟨rfl, rfl⟩, Nat.le_of_ble_eq_true rfl, Nat.le_of_ble_eq_true rfl⟩ hK hG hA hP hD hS (is := [0, 1]) (sel := [some 0, some 1]) (ws2 := [(a0, o12 z25.2.1 J0_2 J0_3 J0_19 u0_4 u0_5 u0_6 u0_7 a1 u0_21 u0_22 u0_27 u0_28 u0_31 u0_32), (a1, ai E 1860 z25.2.2)]) rfl rfl rfl rfl rfl (xrecv hK hP (q0 := 0) (ci := 12) rfl rfl) rfl hl.1 rfl (Nat.le_of_ble_eq_true rfl) dX12_game_25 (fun H locs hP hD hS => ?_)
    refine lv_goto (tgt := 36) hx hb dX12_game_28 (by decide) ?_
    exact ret (z25.1, z25.2.1, z25.2.2) hf nzi hP hS dX12_game_36
theorem dX12_moveOf_0 : decode cX12_moveOf 0 = .ok (.aload_n 0, 1) := by decide +kernel
theorem dX12_moveOf_1 : decode cX12_moveOf 1 = .ok (.iconst 0, 1) := by decide +kernel
theorem dX12_moveOf_2 : decode cX12_moveOf 2 = .ok (.putfield 60, 3) := by decide +kernel
theorem dX12_moveOf_5 : decode cX12_moveOf 5 = .ok (.aload_n 0, 1) := by decide +kernel
theorem dX12_moveOf_6 : decode cX12_moveOf 6 = .ok (.iconst 0, 1) := by decide +kernel
theorem dX12_moveOf_7 : decode cX12_moveOf 7 = .ok (.putfield 63, 3) := by decide +kernel
theorem dX12_moveOf_10 : decode cX12_moveOf 10 = .ok (.iload_n 1, 1) := by decide +kernel
theorem dX12_moveOf_11 : decode cX12_moveOf 11 = .ok (.i2l, 1) := by decide +kernel
theorem dX12_moveOf_12 : decode cX12_moveOf 12 = .ok (.lconst 1, 1) := by decide +kernel
theorem dX12_moveOf_13 : decode cX12_moveOf 13 = .ok (.ldc2_w 333, 3) := by decide +kernel
theorem dX12_moveOf_16 : decode cX12_moveOf 16 = .ok (.invokestatic 95, 3) := by decide +kernel
theorem dX12_moveOf_19 : decode cX12_moveOf 19 = .ok (.ifCond .ne 9, 3) := by decide +kernel
theorem dX12_moveOf_22 : decode cX12_moveOf 22 = .ok (.aload_n 0, 1) := by decide +kernel
theorem dX12_moveOf_23 : decode cX12_moveOf 23 = .ok (.iconst 5, 1) := by decide +kernel
theorem dX12_moveOf_24 : decode cX12_moveOf 24 = .ok (.invokevirtual 321, 3) := by decide +kernel
theorem dX12_moveOf_27 : decode cX12_moveOf 27 = .ok (.ireturn, 1) := by decide +kernel
theorem dX12_moveOf_28 : decode cX12_moveOf 28 = .ok (.aload_n 0, 1) := by decide +kernel
theorem dX12_moveOf_29 : decode cX12_moveOf 29 = .ok (.iconst 0, 1) := by decide +kernel
theorem dX12_moveOf_30 : decode cX12_moveOf 30 = .ok (.iload_n 1, 1) := by decide +kernel
theorem dX12_moveOf_31 : decode cX12_moveOf 31 = .ok (.invokevirtual 433, 3) := by decide +kernel
theorem dX12_moveOf_34 : decode cX12_moveOf 34 = .ok (.pop, 1) := by decide +kernel
theorem dX12_moveOf_35 : decode cX12_moveOf 35 = .ok (.aload_n 0, 1) := by decide +kernel
theorem dX12_moveOf_36 : decode cX12_moveOf 36 = .ok (.getfield 436, 3) := by decide +kernel
theorem dX12_moveOf_39 : decode cX12_moveOf 39 = .ok (.aload_n 0, 1) := by decide +kernel
theorem dX12_moveOf_40 : decode cX12_moveOf 40 = .ok (.getfield 35, 3) := by decide +kernel
theorem dX12_moveOf_43 : decode cX12_moveOf 43 = .ok (.iconst 2, 1) := by decide +kernel
theorem dX12_moveOf_44 : decode cX12_moveOf 44 = .ok (.iaload, 1) := by decide +kernel
theorem dX12_moveOf_45 : decode cX12_moveOf 45 = .ok (.if_icmp .ne 12, 3) := by decide +kernel
theorem dX12_moveOf_48 : decode cX12_moveOf 48 = .ok (.aload_n 0, 1) := by decide +kernel
theorem dX12_moveOf_49 : decode cX12_moveOf 49 = .ok (.bipush 8, 2) := by decide +kernel
theorem dX12_moveOf_51 : decode cX12_moveOf 51 = .ok (.invokevirtual 321, 3) := by decide +kernel
theorem dX12_moveOf_54 : decode cX12_moveOf 54 = .ok (.goto 7, 3) := by decide +kernel
theorem dX12_moveOf_57 : decode cX12_moveOf 57 = .ok (.aload_n 0, 1) := by decide +kernel
theorem dX12_moveOf_58 : decode cX12_moveOf 58 = .ok (.getfield 436, 3) := by decide +kernel
theorem dX12_moveOf_61 : decode cX12_moveOf 61 = .ok (.ireturn, 1) := by decide +kernel
set_option maxRecDepth 100000 in
theorem c_X12_moveOf (l : Launch) (E : xE) (a0 a1 : Nat) {T0 : Nat → Int32} {J0_2 : Int64} {J0_3 : Int64} {J0_19 : Int64} {V1 : Nat → Int32} {u0_4 u0_5 u0_6 u0_7 u0_21 u0_22 u0_27 u0_28 u0_31 u0_32 : Nat} {x1 : Int32} {z : Int32 × (Nat → Int32) × (Nat → Int32)} (hf : f_X12_moveOf T0 V1 x1 = some z) (sz : Nat) : Met l yX12_moveOf (Cond.code yX12_moveOf cX12_moveOf 2 (some .int) :: gw) ({ frames := 25, cells := 0, slots := 0, locals := 672 }) (xPc E [.ref a0, .int x1] [(a0, o12 T0 J0_2 J0_3 J0_19 u0_4 u0_5 u0_6 u0_7 a1 u0_21 u0_22 u0_27 u0_28 u0_31 u0_32), (a1, ai E 1860 V1)] sz) (xQi E z.1 [(a0, o12 T0 J0_2 J0_3 J0_19 u0_4 u0_5 u0_6 u0_7 a1 u0_21 u0_22 u0_27 u0_28 u0_31 u0_32), (a1, ai E 1860 V1)] [(a0, o12 z.2.1 J0_2 J0_3 J0_19 u0_4 u0_5 u0_6 u0_7 a1 u0_21 u0_22 u0_27 u0_28 u0_31 u0_32), (a1, ai E 1860 z.2.2)] sz) 0 0 (va_A [(a0, o12 T0 J0_2 J0_3 J0_19 u0_4 u0_5 u0_6 u0_7 a1 u0_21 u0_22 u0_27 u0_28 u0_31 u0_32), (a1, ai E 1860 V1)] sz) := by
  refine xM_i (by decide +kernel) (Nat.le_of_ble_eq_true rfl) ?_
  intro p e s m args below meth c A Q hx hb hml hown htg hK hG hA ret0 H locs ls hP hD hS hl
  have ret : ∀ (z' : Int32 × (Nat → Int32) × (Nat → Int32)) {H : Heap} {locs : List Loc} {pc : Nat} {ls : Array Slot}, some z' = some z → narrow .int (.int z'.1) = .int z'.1 → va_P E.1 vwCl [(a0, o12 z'.2.1 J0_2 J0_3 J0_19 u0_4 u0_5 u0_6 u0_7 a1 u0_21 u0_22 u0_27 u0_28 u0_31 u0_32), (a1, ai E 1860 z'.2.2)] H → va_S A s.heap H locs → decode cX12_moveOf pc = .ok (.ireturn, 1) → W p l e ({ frames := 25, cells := 0, slots := 0, locals := 672 } : Room) s m args below meth c H locs 0 0 Q (F0 m pc ls [.int z'.1]) := by
    intro z' H locs pc ls h
    cases h
    exact ret0
  replace hl : lv_has ls 2 [(0, .ref a0), (1, .int x1)] := hl
  unfold f_X12_moveOf at hf
  refine lv_aload_n hx hb dX12_moveOf_0 rfl (lv_at hl 0 rfl) ?_
  refine lv_iconst (v := 0) hx hb dX12_moveOf_1 rfl ?_
  refine P12_60 hx hb htg hown hK hP hD hS 0 rfl dX12_moveOf_2 (fun H locs hP hD hS => ?_)
  refine lv_aload_n hx hb dX12_moveOf_5 rfl (lv_at hl 0 rfl) ?_
  refine lv_iconst (v := 0) hx hb dX12_moveOf_6 rfl ?_
  refine P12_63 hx hb htg hown hK hP hD hS 0 rfl dX12_moveOf_7 (fun H locs hP hD hS => ?_)
  refine lv_iload_n hx hb dX12_moveOf_10 rfl (lv_at hl 1 rfl) ?_
  refine lv_i2l hx hb dX12_moveOf_11 rfl ?_
  refine lv_lconst (v := 1) hx hb dX12_moveOf_12 rfl ?_
  refine lv_ldc2 hx hb hown (htg _ (gw_t (tb8 133 rfl) rfl)) dX12_moveOf_13 ?_
  obtain ⟨z16, hz16, hf⟩ := bind_s hf
  refine xS_ir hx hb hml hown htg L12_95 (c_X12_isIn l E hz16 _) ⟨⟨rfl, rfl⟩, Nat.le_of_ble_eq_true rfl, Nat.le_of_ble_eq_true rfl⟩ hK hG hA hP hD hS (is := []) rfl rfl rfl hl.1 rfl (Nat.le_of_ble_eq_true rfl) dX12_moveOf_16 (fun H locs hP hD hS => ?_)
  refine lv_if_ne (tgt := 28) hx hb dX12_moveOf_19 (by decide) (fun c19 => ?_) (fun c19 => ?_)
  · have hf := it_f c19 hf
    refine lv_aload_n hx hb dX12_moveOf_28 rfl (lv_at hl 0 rfl) ?_
    refine lv_iconst (v := 0) hx hb dX12_moveOf_29 rfl ?_
    refine lv_iload_n hx hb dX12_moveOf_30 rfl (lv_at hl 1 rfl) ?_
    obtain ⟨z31, hz31, hf⟩ := bind_s hf
    refine xV_iu hx hb hml hown htg L12_433 (c_X12_playsc l E a0 a1 hz31 _) ⟨⟨rfl, rfl⟩, Nat.le_of_ble_eq_true rfl, Nat.le_of_ble_eq_true rfl⟩ hK hG hA hP hD hS (is := [0, 1]) (sel := [some 0, some 1]) (ws2 := [(a0, o12 z31.2.1 J0_2 J0_3 J0_19 u0_4 u0_5 u0_6 u0_7 a1 u0_21 u0_22 u0_27 u0_28 u0_31 u0_32), (a1, ai E 1860 z31.2.2)]) rfl rfl rfl rfl rfl (xrecv hK hP (q0 := 0) (ci := 12) rfl rfl) rfl hl.1 rfl (Nat.le_of_ble_eq_true rfl) dX12_moveOf_31 (fun H locs hP hD hS => ?_)
    refine lv_pop hx hb dX12_moveOf_34 rfl ?_
    refine lv_aload_n hx hb dX12_moveOf_35 rfl (lv_at hl 0 rfl) ?_
    refine G12_436 hx hb htg hown hK hP 0 rfl dX12_moveOf_36 ?_
    refine lv_aload_n hx hb dX12_moveOf_39 rfl (lv_at hl 0 rfl) ?_
    refine G12_35 hx hb htg hown hK hP 0 rfl dX12_moveOf_40 ?_
    refine lv_iconst (v := 2) hx hb dX12_moveOf_43 rfl ?_
    obtain ⟨g44, hf⟩ := ck_s hf
    refine xiald hx hb hK hP 1 rfl g44 dX12_moveOf_44 ?_
    refine lv_icmp_ne (tgt := 57) hx hb dX12_moveOf_45 (by decide) (fun c45 => ?_) (fun c45 => ?_)
    · have hf := it_f c45 hf
      refine lv_aload_n hx hb dX12_moveOf_57 rfl (lv_at hl 0 rfl) ?_
      refine G12_436 hx hb htg hown hK hP 0 rfl dX12_moveOf_58 ?_
      exact ret (z31.2.1 30, z31.2.1, z31.2.2) hf nzi hP hS dX12_moveOf_61
    · have hf := it_t c45 hf
      refine lv_aload_n hx hb dX12_moveOf_48 rfl (lv_at hl 0 rfl) ?_
      refine lv_bipush (v := 8) hx hb dX12_moveOf_49 rfl ?_
      obtain ⟨z51, hz51, hf⟩ := bind_s hf
      refine xV_iu hx hb hml hown htg L12_321 (c_X12_refuse l E a0 hz51 _) ⟨⟨rfl, rfl⟩, Nat.le_of_ble_eq_true rfl, Nat.le_of_ble_eq_true rfl⟩ hK hG hA hP hD hS (is := [0]) (sel := [some 0, none]) (ws2 := [(a0, o12 z51.2 J0_2 J0_3 J0_19 u0_4 u0_5 u0_6 u0_7 a1 u0_21 u0_22 u0_27 u0_28 u0_31 u0_32), (a1, ai E 1860 z31.2.2)]) rfl rfl rfl rfl rfl (xrecv hK hP (q0 := 0) (ci := 12) rfl rfl) rfl hl.1 rfl (Nat.le_of_ble_eq_true rfl) dX12_moveOf_51 (fun H locs hP hD hS => ?_)
      refine lv_goto (tgt := 61) hx hb dX12_moveOf_54 (by decide) ?_
      exact ret (z51.1, z51.2, z31.2.2) hf nzi hP hS dX12_moveOf_61
  · have hf := it_t c19 hf
    refine lv_aload_n hx hb dX12_moveOf_22 rfl (lv_at hl 0 rfl) ?_
    refine lv_iconst (v := 5) hx hb dX12_moveOf_23 rfl ?_
    obtain ⟨z24, hz24, hf⟩ := bind_s hf
    refine xV_iu hx hb hml hown htg L12_321 (c_X12_refuse l E a0 hz24 _) ⟨⟨rfl, rfl⟩, Nat.le_of_ble_eq_true rfl, Nat.le_of_ble_eq_true rfl⟩ hK hG hA hP hD hS (is := [0]) (sel := [some 0, none]) (ws2 := [(a0, o12 z24.2 J0_2 J0_3 J0_19 u0_4 u0_5 u0_6 u0_7 a1 u0_21 u0_22 u0_27 u0_28 u0_31 u0_32), (a1, ai E 1860 V1)]) rfl rfl rfl rfl rfl (xrecv hK hP (q0 := 0) (ci := 12) rfl rfl) rfl hl.1 rfl (Nat.le_of_ble_eq_true rfl) dX12_moveOf_24 (fun H locs hP hD hS => ?_)
    exact ret (z24.1, z24.2, V1) hf nzi hP hS dX12_moveOf_27
theorem dX12_years_0 : decode cX12_years 0 = .ok (.aload_n 0, 1) := by decide +kernel
theorem dX12_years_1 : decode cX12_years 1 = .ok (.iconst 0, 1) := by decide +kernel
theorem dX12_years_2 : decode cX12_years 2 = .ok (.putfield 60, 3) := by decide +kernel
theorem dX12_years_5 : decode cX12_years 5 = .ok (.aload_n 0, 1) := by decide +kernel
theorem dX12_years_6 : decode cX12_years 6 = .ok (.iconst 0, 1) := by decide +kernel
theorem dX12_years_7 : decode cX12_years 7 = .ok (.putfield 63, 3) := by decide +kernel
theorem dX12_years_10 : decode cX12_years 10 = .ok (.aload_n 0, 1) := by decide +kernel
theorem dX12_years_11 : decode cX12_years 11 = .ok (.iload_n 1, 1) := by decide +kernel
theorem dX12_years_12 : decode cX12_years 12 = .ok (.sipush 300, 3) := by decide +kernel
theorem dX12_years_15 : decode cX12_years 15 = .ok (.invokevirtual 280, 3) := by decide +kernel
theorem dX12_years_18 : decode cX12_years 18 = .ok (.ifCond .ne 5, 3) := by decide +kernel
theorem dX12_years_21 : decode cX12_years 21 = .ok (.iconst (-1), 1) := by decide +kernel
theorem dX12_years_22 : decode cX12_years 22 = .ok (.ireturn, 1) := by decide +kernel
theorem dX12_years_23 : decode cX12_years 23 = .ok (.aload_n 0, 1) := by decide +kernel
theorem dX12_years_24 : decode cX12_years 24 = .ok (.iconst 0, 1) := by decide +kernel
theorem dX12_years_25 : decode cX12_years 25 = .ok (.putfield 301, 3) := by decide +kernel
theorem dX12_years_28 : decode cX12_years 28 = .ok (.aload_n 0, 1) := by decide +kernel
theorem dX12_years_29 : decode cX12_years 29 = .ok (.getfield 191, 3) := by decide +kernel
theorem dX12_years_32 : decode cX12_years 32 = .ok (.ifCond .ne 18, 3) := by decide +kernel
theorem dX12_years_35 : decode cX12_years 35 = .ok (.aload_n 0, 1) := by decide +kernel
theorem dX12_years_36 : decode cX12_years 36 = .ok (.getfield 115, 3) := by decide +kernel
theorem dX12_years_39 : decode cX12_years 39 = .ok (.ifCond .eq 11, 3) := by decide +kernel
theorem dX12_years_42 : decode cX12_years 42 = .ok (.aload_n 0, 1) := by decide +kernel
theorem dX12_years_43 : decode cX12_years 43 = .ok (.iconst 0, 1) := by decide +kernel
theorem dX12_years_44 : decode cX12_years 44 = .ok (.invokevirtual 307, 3) := by decide +kernel
theorem dX12_years_47 : decode cX12_years 47 = .ok (.goto (-19), 3) := by decide +kernel
theorem dX12_years_50 : decode cX12_years 50 = .ok (.aload_n 0, 1) := by decide +kernel
theorem dX12_years_51 : decode cX12_years 51 = .ok (.invokevirtual 289, 3) := by decide +kernel
theorem dX12_years_54 : decode cX12_years 54 = .ok (.ifCond .ne 5, 3) := by decide +kernel
theorem dX12_years_57 : decode cX12_years 57 = .ok (.iconst (-1), 1) := by decide +kernel
theorem dX12_years_58 : decode cX12_years 58 = .ok (.ireturn, 1) := by decide +kernel
theorem dX12_years_59 : decode cX12_years 59 = .ok (.aload_n 0, 1) := by decide +kernel
theorem dX12_years_60 : decode cX12_years 60 = .ok (.getfield 35, 3) := by decide +kernel
theorem dX12_years_63 : decode cX12_years 63 = .ok (.bipush 100, 2) := by decide +kernel
theorem dX12_years_65 : decode cX12_years 65 = .ok (.iconst 1, 1) := by decide +kernel
theorem dX12_years_66 : decode cX12_years 66 = .ok (.iastore, 1) := by decide +kernel
theorem dX12_years_67 : decode cX12_years 67 = .ok (.aload_n 0, 1) := by decide +kernel
theorem dX12_years_68 : decode cX12_years 68 = .ok (.getfield 35, 3) := by decide +kernel
theorem dX12_years_71 : decode cX12_years 71 = .ok (.bipush 101, 2) := by decide +kernel
theorem dX12_years_73 : decode cX12_years 73 = .ok (.aload_n 0, 1) := by decide +kernel
theorem dX12_years_74 : decode cX12_years 74 = .ok (.getfield 301, 3) := by decide +kernel
theorem dX12_years_77 : decode cX12_years 77 = .ok (.iastore, 1) := by decide +kernel
theorem dX12_years_78 : decode cX12_years 78 = .ok (.iconst 0, 1) := by decide +kernel
theorem dX12_years_79 : decode cX12_years 79 = .ok (.istore_n 2, 1) := by decide +kernel
theorem dX12_years_80 : decode cX12_years 80 = .ok (.iload_n 2, 1) := by decide +kernel
theorem dX12_years_81 : decode cX12_years 81 = .ok (.bipush 9, 2) := by decide +kernel
theorem dX12_years_83 : decode cX12_years 83 = .ok (.aload_n 0, 1) := by decide +kernel
theorem dX12_years_84 : decode cX12_years 84 = .ok (.getfield 301, 3) := by decide +kernel
theorem dX12_years_87 : decode cX12_years 87 = .ok (.imul, 1) := by decide +kernel
theorem dX12_years_88 : decode cX12_years 88 = .ok (.if_icmp .ge 28, 3) := by decide +kernel
theorem dX12_years_91 : decode cX12_years 91 = .ok (.aload_n 0, 1) := by decide +kernel
theorem dX12_years_92 : decode cX12_years 92 = .ok (.getfield 35, 3) := by decide +kernel
theorem dX12_years_95 : decode cX12_years 95 = .ok (.bipush 102, 2) := by decide +kernel
theorem dX12_years_97 : decode cX12_years 97 = .ok (.iload_n 2, 1) := by decide +kernel
theorem dX12_years_98 : decode cX12_years 98 = .ok (.iadd, 1) := by decide +kernel
theorem dX12_years_99 : decode cX12_years 99 = .ok (.aload_n 0, 1) := by decide +kernel
theorem dX12_years_100 : decode cX12_years 100 = .ok (.getfield 35, 3) := by decide +kernel
theorem dX12_years_103 : decode cX12_years 103 = .ok (.sipush 1590, 3) := by decide +kernel
theorem dX12_years_106 : decode cX12_years 106 = .ok (.iload_n 2, 1) := by decide +kernel
theorem dX12_years_107 : decode cX12_years 107 = .ok (.iadd, 1) := by decide +kernel
theorem dX12_years_108 : decode cX12_years 108 = .ok (.iaload, 1) := by decide +kernel
theorem dX12_years_109 : decode cX12_years 109 = .ok (.iastore, 1) := by decide +kernel
theorem dX12_years_110 : decode cX12_years 110 = .ok (.iinc 2 1, 3) := by decide +kernel
theorem dX12_years_113 : decode cX12_years 113 = .ok (.goto (-33), 3) := by decide +kernel
theorem dX12_years_116 : decode cX12_years 116 = .ok (.aload_n 0, 1) := by decide +kernel
theorem dX12_years_117 : decode cX12_years 117 = .ok (.getfield 301, 3) := by decide +kernel
theorem dX12_years_120 : decode cX12_years 120 = .ok (.ireturn, 1) := by decide +kernel
set_option maxRecDepth 100000 in
theorem c_X12_years (l : Launch) (E : xE) (a0 a1 a2 a3 : Nat) {T0 : Nat → Int32} {J0_2 : Int64} {J0_3 : Int64} {J0_19 : Int64} {V1 : Nat → Int32} {V2 : Nat → Int32} {V3 : Nat → Int64} {u0_4 u0_5 u0_6 u0_21 u0_27 u0_28 u0_31 u0_32 : Nat} {x1 : Int32} {z : Int32 × (Nat → Int32) × Int64 × (Nat → Int32)} (hf : f_X12_years T0 J0_19 V1 V2 V3 x1 = some z) (sz : Nat) : Met l yX12_years (Cond.code yX12_years cX12_years 3 (some .int) :: gw) ({ frames := 41, cells := 0, slots := 0, locals := 889 }) (xPc E [.ref a0, .int x1] [(a0, o12 T0 J0_2 J0_3 J0_19 u0_4 u0_5 u0_6 a1 a2 u0_21 a3 u0_27 u0_28 u0_31 u0_32), (a1, ab E 900 V1), (a2, ai E 1860 V2), (a3, al E 25 V3)] sz) (xQi E z.1 [(a0, o12 T0 J0_2 J0_3 J0_19 u0_4 u0_5 u0_6 a1 a2 u0_21 a3 u0_27 u0_28 u0_31 u0_32), (a1, ab E 900 V1), (a2, ai E 1860 V2), (a3, al E 25 V3)] [(a0, o12 z.2.1 J0_2 J0_3 z.2.2.1 u0_4 u0_5 u0_6 a1 a2 u0_21 a3 u0_27 u0_28 u0_31 u0_32), (a1, ab E 900 V1), (a2, ai E 1860 z.2.2.2), (a3, al E 25 V3)] sz) 0 0 (va_A [(a0, o12 T0 J0_2 J0_3 J0_19 u0_4 u0_5 u0_6 a1 a2 u0_21 a3 u0_27 u0_28 u0_31 u0_32), (a1, ab E 900 V1), (a2, ai E 1860 V2), (a3, al E 25 V3)] sz) := by
  refine xM_i (by decide +kernel) (Nat.le_of_ble_eq_true rfl) ?_
  intro p e s m args below meth c A Q hx hb hml hown htg hK hG hA ret0 H locs ls hP hD hS hl
  have ret : ∀ (z' : Int32 × (Nat → Int32) × Int64 × (Nat → Int32)) {H : Heap} {locs : List Loc} {pc : Nat} {ls : Array Slot}, some z' = some z → narrow .int (.int z'.1) = .int z'.1 → va_P E.1 vwCl [(a0, o12 z'.2.1 J0_2 J0_3 z'.2.2.1 u0_4 u0_5 u0_6 a1 a2 u0_21 a3 u0_27 u0_28 u0_31 u0_32), (a1, ab E 900 V1), (a2, ai E 1860 z'.2.2.2), (a3, al E 25 V3)] H → va_S A s.heap H locs → decode cX12_years pc = .ok (.ireturn, 1) → W p l e ({ frames := 41, cells := 0, slots := 0, locals := 889 } : Room) s m args below meth c H locs 0 0 Q (F0 m pc ls [.int z'.1]) := by
    intro z' H locs pc ls h
    cases h
    exact ret0
  replace hl : lv_has ls 3 [(0, .ref a0), (1, .int x1)] := hl
  have b80 : ∀ (n : Nat) (x2 : Int32) (T0 : Nat → Int32) (J0_19 : Int64) (V2 : Nat → Int32) (H : Heap) (locs : List Loc) (ls : Array Slot), f_X12_years_80 V1 V3 x1 n x2 T0 J0_19 V2 = some z → va_P E.1 vwCl [(a0, o12 T0 J0_2 J0_3 J0_19 u0_4 u0_5 u0_6 a1 a2 u0_21 a3 u0_27 u0_28 u0_31 u0_32), (a1, ab E 900 V1), (a2, ai E 1860 V2), (a3, al E 25 V3)] H → va_D A [(a0, o12 T0 J0_2 J0_3 J0_19 u0_4 u0_5 u0_6 a1 a2 u0_21 a3 u0_27 u0_28 u0_31 u0_32), (a1, ab E 900 V1), (a2, ai E 1860 V2), (a3, al E 25 V3)] → va_S A s.heap H locs → lv_has ls 3 [(0, .ref a0), (2, .int x2)] → W p l e ({ frames := 41, cells := 0, slots := 0, locals := 889 } : Room) s m args below meth c H locs 0 0 Q (F0 m 80 ls []) := by
    intro n
    induction n with
    | zero => intro x2 T0 J0_19 V2 H locs ls hf; exact (nn_s hf).elim
    | succ n ih80 =>
      obtain ⟨k80, ek80⟩ : ∃ k, k = f_X12_years_80 V1 V3 x1 n := ⟨_, rfl⟩
      rw [← ek80] at ih80
      intro x2 T0 J0_19 V2 H locs ls hf hP hD hS hl
      replace hf : g_X12_years_80 V1 V3 x1 k80 x2 T0 J0_19 V2 = some z := by rw [ek80]; exact hf
      unfold g_X12_years_80 at hf
      refine lv_iload_n hx hb dX12_years_80 rfl (lv_at hl 1 rfl) ?_
      refine lv_bipush (v := 9) hx hb dX12_years_81 rfl ?_
      refine lv_aload_n hx hb dX12_years_83 rfl (lv_at hl 0 rfl) ?_
      refine G12_301 hx hb htg hown hK hP 0 rfl dX12_years_84 ?_
      refine lv_imul hx hb dX12_years_87 ?_
      refine lv_icmp_ge (tgt := 116) hx hb dX12_years_88 (by decide) (fun c88 => ?_) (fun c88 => ?_)
      · have hf := it_t c88 hf
        refine lv_aload_n hx hb dX12_years_116 rfl (lv_at hl 0 rfl) ?_
        refine G12_301 hx hb htg hown hK hP 0 rfl dX12_years_117 ?_
        exact ret (T0 26, T0, J0_19, V2) hf nzi hP hS dX12_years_120
      · have hf := it_f c88 hf
        refine lv_aload_n hx hb dX12_years_91 rfl (lv_at hl 0 rfl) ?_
        refine G12_35 hx hb htg hown hK hP 0 rfl dX12_years_92 ?_
        refine lv_bipush (v := 102) hx hb dX12_years_95 rfl ?_
        refine lv_iload_n hx hb dX12_years_97 rfl (lv_at hl 1 rfl) ?_
        refine lv_iadd hx hb dX12_years_98 ?_
        refine lv_aload_n hx hb dX12_years_99 rfl (lv_at hl 0 rfl) ?_
        refine G12_35 hx hb htg hown hK hP 0 rfl dX12_years_100 ?_
        refine lv_sipush (v := 1590) hx hb dX12_years_103 rfl ?_
        refine lv_iload_n hx hb dX12_years_106 rfl (lv_at hl 1 rfl) ?_
        refine lv_iadd hx hb dX12_years_107 ?_
        obtain ⟨g108, hf⟩ := ck_s hf
        refine xiald hx hb hK hP 2 rfl g108 dX12_years_108 ?_
        obtain ⟨g109, hf⟩ := ck_s hf
        refine xiast hx hb hK hP hD hS 2 rfl g109 dX12_years_109 (fun H locs hP hD hS => ?_)
        refine lv_iinc (v := x2 + 1) (lv' := [(2, .int (x2 + 1)), (0, .ref a0)]) hx hb dX12_years_110 hl (k := 1) rfl rfl (by decide) rfl (fun ls hl => ?_)
        refine lv_goto (tgt := 80) hx hb dX12_years_113 (by decide) ?_
        exact ih80 (x2 + 1) T0 J0_19 (upd V2 (Int32.toNatClampNeg (102 + x2)) (V2 (Int32.toNatClampNeg (1590 + x2)))) _ _ _ hf hP hD hS (lv_sub hl [1, 0] rfl)
  have b50 : ∀ (T0 : Nat → Int32) (J0_19 : Int64) (V2 : Nat → Int32) (H : Heap) (locs : List Loc) (ls : Array Slot), f_X12_years_50 V1 V3 x1 T0 J0_19 V2 = some z → va_P E.1 vwCl [(a0, o12 T0 J0_2 J0_3 J0_19 u0_4 u0_5 u0_6 a1 a2 u0_21 a3 u0_27 u0_28 u0_31 u0_32), (a1, ab E 900 V1), (a2, ai E 1860 V2), (a3, al E 25 V3)] H → va_D A [(a0, o12 T0 J0_2 J0_3 J0_19 u0_4 u0_5 u0_6 a1 a2 u0_21 a3 u0_27 u0_28 u0_31 u0_32), (a1, ab E 900 V1), (a2, ai E 1860 V2), (a3, al E 25 V3)] → va_S A s.heap H locs → lv_has ls 3 [(0, .ref a0)] → W p l e ({ frames := 41, cells := 0, slots := 0, locals := 889 } : Room) s m args below meth c H locs 0 0 Q (F0 m 50 ls []) := by
    intro T0 J0_19 V2 H locs ls hf hP hD hS hl
    unfold f_X12_years_50 at hf
    refine lv_aload_n hx hb dX12_years_50 rfl (lv_at hl 0 rfl) ?_
    obtain ⟨z51, hz51, hf⟩ := bind_s hf
    refine xV_iu hx hb hml hown htg L12_289 (c_X12_isWell l E a0 hz51 _) ⟨⟨rfl, rfl⟩, Nat.le_of_ble_eq_true rfl, Nat.le_of_ble_eq_true rfl⟩ hK hG hA hP hD hS (is := [0]) (sel := [some 0, none, none, none]) (ws2 := [(a0, o12 z51.2 J0_2 J0_3 J0_19 u0_4 u0_5 u0_6 a1 a2 u0_21 a3 u0_27 u0_28 u0_31 u0_32), (a1, ab E 900 V1), (a2, ai E 1860 V2), (a3, al E 25 V3)]) rfl rfl rfl rfl rfl (xrecv hK hP (q0 := 0) (ci := 12) rfl rfl) rfl hl.1 rfl (Nat.le_of_ble_eq_true rfl) dX12_years_51 (fun H locs hP hD hS => ?_)
    refine lv_if_ne (tgt := 59) hx hb dX12_years_54 (by decide) (fun c54 => ?_) (fun c54 => ?_)
    · have hf := it_f c54 hf
      refine lv_aload_n hx hb dX12_years_59 rfl (lv_at hl 0 rfl) ?_
      refine G12_35 hx hb htg hown hK hP 0 rfl dX12_years_60 ?_
      refine lv_bipush (v := 100) hx hb dX12_years_63 rfl ?_
      refine lv_iconst (v := 1) hx hb dX12_years_65 rfl ?_
      obtain ⟨g66, hf⟩ := ck_s hf
      refine xiast hx hb hK hP hD hS 2 rfl g66 dX12_years_66 (fun H locs hP hD hS => ?_)
      refine lv_aload_n hx hb dX12_years_67 rfl (lv_at hl 0 rfl) ?_
      refine G12_35 hx hb htg hown hK hP 0 rfl dX12_years_68 ?_
      refine lv_bipush (v := 101) hx hb dX12_years_71 rfl ?_
      refine lv_aload_n hx hb dX12_years_73 rfl (lv_at hl 0 rfl) ?_
      refine G12_301 hx hb htg hown hK hP 0 rfl dX12_years_74 ?_
      obtain ⟨g77, hf⟩ := ck_s hf
      refine xiast hx hb hK hP hD hS 2 rfl g77 dX12_years_77 (fun H locs hP hD hS => ?_)
      refine lv_iconst (v := 0) hx hb dX12_years_78 rfl ?_
      refine lv_istore_n (lv' := [(2, .int 0), (0, .ref a0)]) hx hb dX12_years_79 rfl hl (by decide) rfl (fun ls hl => ?_)
      exact b80 xF 0 z51.2 J0_19 (upd (upd V2 (Int32.toNatClampNeg 100) 1) (Int32.toNatClampNeg 101) (z51.2 26)) _ _ _ hf hP hD hS (lv_sub hl [1, 0] rfl)
    · have hf := it_t c54 hf
      refine lv_iconst (v := (-1)) hx hb dX12_years_57 rfl ?_
      exact ret ((-1), z51.2, J0_19, V2) hf nzi hP hS dX12_years_58
  have b28 : ∀ (n : Nat) (T0 : Nat → Int32) (J0_19 : Int64) (V2 : Nat → Int32) (H : Heap) (locs : List Loc) (ls : Array Slot), f_X12_years_28 V1 V3 x1 n T0 J0_19 V2 = some z → va_P E.1 vwCl [(a0, o12 T0 J0_2 J0_3 J0_19 u0_4 u0_5 u0_6 a1 a2 u0_21 a3 u0_27 u0_28 u0_31 u0_32), (a1, ab E 900 V1), (a2, ai E 1860 V2), (a3, al E 25 V3)] H → va_D A [(a0, o12 T0 J0_2 J0_3 J0_19 u0_4 u0_5 u0_6 a1 a2 u0_21 a3 u0_27 u0_28 u0_31 u0_32), (a1, ab E 900 V1), (a2, ai E 1860 V2), (a3, al E 25 V3)] → va_S A s.heap H locs → lv_has ls 3 [(0, .ref a0)] → W p l e ({ frames := 41, cells := 0, slots := 0, locals := 889 } : Room) s m args below meth c H locs 0 0 Q (F0 m 28 ls []) := by
    intro n
    induction n with
    | zero => intro T0 J0_19 V2 H locs ls hf; exact (nn_s hf).elim
    | succ n ih28 =>
      obtain ⟨k28, ek28⟩ : ∃ k, k = f_X12_years_28 V1 V3 x1 n := ⟨_, rfl⟩
      rw [← ek28] at ih28
      intro T0 J0_19 V2 H locs ls hf hP hD hS hl
      replace hf : g_X12_years_28 V1 V3 x1 k28 T0 J0_19 V2 = some z := by rw [ek28]; exact hf
      unfold g_X12_years_28 at hf
      refine lv_aload_n hx hb dX12_years_28 rfl (lv_at hl 0 rfl) ?_
      refine G12_191 hx hb htg hown hK hP 0 rfl dX12_years_29 ?_
      refine lv_if_ne (tgt := 50) hx hb dX12_years_32 (by decide) (fun c32 => ?_) (fun c32 => ?_)
      · have hf := it_f c32 hf
        exact b50 T0 J0_19 V2 _ _ _ hf hP hD hS (lv_sub hl [0] rfl)
      · have hf := it_t c32 hf
        refine lv_aload_n hx hb dX12_years_35 rfl (lv_at hl 0 rfl) ?_
        refine G12_115 hx hb htg hown hK hP 0 rfl dX12_years_36 ?_
        refine lv_if_eq (tgt := 50) hx hb dX12_years_39 (by decide) (fun c39 => ?_) (fun c39 => ?_)
        · have hf := it_t c39 hf
          exact b50 T0 J0_19 V2 _ _ _ hf hP hD hS (lv_sub hl [0] rfl)
        · have hf := it_f c39 hf
          refine lv_aload_n hx hb dX12_years_42 rfl (lv_at hl 0 rfl) ?_
          refine lv_iconst (v := 0) hx hb dX12_years_43 rfl ?_
          obtain ⟨z44, hz44, hf⟩ := bind_s hf
          refine xV_vu hx hb hml hown htg L12_307 (c_X12_readStepc l E a0 a1 a2 a3 hz44 _) ⟨⟨rfl, rfl⟩, Nat.le_of_ble_eq_true rfl, Nat.le_of_ble_eq_true rfl⟩ hK hG hA hP hD hS (is := [0, 1, 2, 3]) (sel := [some 0, some 1, some 2, some 3]) (ws2 := [(a0, o12 z44.1 J0_2 J0_3 z44.2.1 u0_4 u0_5 u0_6 a1 a2 u0_21 a3 u0_27 u0_28 u0_31 u0_32), (a1, ab E 900 V1), (a2, ai E 1860 z44.2.2), (a3, al E 25 V3)]) rfl rfl rfl rfl rfl (xrecv hK hP (q0 := 0) (ci := 12) rfl rfl) rfl hl.1 rfl (Nat.le_of_ble_eq_true rfl) dX12_years_44 (fun H locs hP hD hS => ?_)
          refine lv_goto (tgt := 28) hx hb dX12_years_47 (by decide) ?_
          exact ih28 z44.1 z44.2.1 z44.2.2 _ _ _ hf hP hD hS (lv_sub hl [0] rfl)
  unfold f_X12_years at hf
  refine lv_aload_n hx hb dX12_years_0 rfl (lv_at hl 0 rfl) ?_
  refine lv_iconst (v := 0) hx hb dX12_years_1 rfl ?_
  refine P12_60 hx hb htg hown hK hP hD hS 0 rfl dX12_years_2 (fun H locs hP hD hS => ?_)
  refine lv_aload_n hx hb dX12_years_5 rfl (lv_at hl 0 rfl) ?_
  refine lv_iconst (v := 0) hx hb dX12_years_6 rfl ?_
  refine P12_63 hx hb htg hown hK hP hD hS 0 rfl dX12_years_7 (fun H locs hP hD hS => ?_)
  refine lv_aload_n hx hb dX12_years_10 rfl (lv_at hl 0 rfl) ?_
  refine lv_iload_n hx hb dX12_years_11 rfl (lv_at hl 1 rfl) ?_
  refine lv_sipush (v := 300) hx hb dX12_years_12 rfl ?_
  obtain ⟨z15, hz15, hf⟩ := bind_s hf
  refine xV_iu hx hb hml hown htg L12_280 (c_X12_starts l E a0 a1 hz15 _) ⟨⟨rfl, rfl⟩, Nat.le_of_ble_eq_true rfl, Nat.le_of_ble_eq_true rfl⟩ hK hG hA hP hD hS (is := [0, 1]) (sel := [some 0, some 1, none, none]) (ws2 := [(a0, o12 z15.2.1 J0_2 J0_3 z15.2.2 u0_4 u0_5 u0_6 a1 a2 u0_21 a3 u0_27 u0_28 u0_31 u0_32), (a1, ab E 900 V1), (a2, ai E 1860 V2), (a3, al E 25 V3)]) rfl rfl rfl rfl rfl (xrecv hK hP (q0 := 0) (ci := 12) rfl rfl) rfl hl.1 rfl (Nat.le_of_ble_eq_true rfl) dX12_years_15 (fun H locs hP hD hS => ?_)
  refine lv_if_ne (tgt := 23) hx hb dX12_years_18 (by decide) (fun c18 => ?_) (fun c18 => ?_)
  · have hf := it_f c18 hf
    refine lv_aload_n hx hb dX12_years_23 rfl (lv_at hl 0 rfl) ?_
    refine lv_iconst (v := 0) hx hb dX12_years_24 rfl ?_
    refine P12_301 hx hb htg hown hK hP hD hS 0 rfl dX12_years_25 (fun H locs hP hD hS => ?_)
    exact b28 xF (upd z15.2.1 26 0) z15.2.2 V2 _ _ _ hf hP hD hS (lv_sub hl [0] rfl)
  · have hf := it_t c18 hf
    refine lv_iconst (v := (-1)) hx hb dX12_years_21 rfl ?_
    exact ret ((-1), z15.2.1, z15.2.2, V2) hf nzi hP hS dX12_years_22
theorem dX12_runsYears_0 : decode cX12_runsYears 0 = .ok (.aload_n 0, 1) := by decide +kernel
theorem dX12_runsYears_1 : decode cX12_runsYears 1 = .ok (.iload_n 1, 1) := by decide +kernel
theorem dX12_runsYears_2 : decode cX12_runsYears 2 = .ok (.putfield 441, 3) := by decide +kernel
theorem dX12_runsYears_5 : decode cX12_runsYears 5 = .ok (.aload_n 0, 1) := by decide +kernel
theorem dX12_runsYears_6 : decode cX12_runsYears 6 = .ok (.iconst 0, 1) := by decide +kernel
theorem dX12_runsYears_7 : decode cX12_runsYears 7 = .ok (.putfield 470, 3) := by decide +kernel
theorem dX12_runsYears_10 : decode cX12_runsYears 10 = .ok (.aload_n 0, 1) := by decide +kernel
theorem dX12_runsYears_11 : decode cX12_runsYears 11 = .ok (.iconst 0, 1) := by decide +kernel
theorem dX12_runsYears_12 : decode cX12_runsYears 12 = .ok (.putfield 479, 3) := by decide +kernel
theorem dX12_runsYears_15 : decode cX12_runsYears 15 = .ok (.aload_n 0, 1) := by decide +kernel
theorem dX12_runsYears_16 : decode cX12_runsYears 16 = .ok (.iconst 0, 1) := by decide +kernel
theorem dX12_runsYears_17 : decode cX12_runsYears 17 = .ok (.putfield 445, 3) := by decide +kernel
theorem dX12_runsYears_20 : decode cX12_runsYears 20 = .ok (.aload_n 0, 1) := by decide +kernel
theorem dX12_runsYears_21 : decode cX12_runsYears 21 = .ok (.iconst 0, 1) := by decide +kernel
theorem dX12_runsYears_22 : decode cX12_runsYears 22 = .ok (.putfield 448, 3) := by decide +kernel
theorem dX12_runsYears_25 : decode cX12_runsYears 25 = .ok (.aload_n 0, 1) := by decide +kernel
theorem dX12_runsYears_26 : decode cX12_runsYears 26 = .ok (.iconst 0, 1) := by decide +kernel
theorem dX12_runsYears_27 : decode cX12_runsYears 27 = .ok (.putfield 451, 3) := by decide +kernel
theorem dX12_runsYears_30 : decode cX12_runsYears 30 = .ok (.aload_n 0, 1) := by decide +kernel
theorem dX12_runsYears_31 : decode cX12_runsYears 31 = .ok (.iconst 0, 1) := by decide +kernel
theorem dX12_runsYears_32 : decode cX12_runsYears 32 = .ok (.putfield 476, 3) := by decide +kernel
theorem dX12_runsYears_35 : decode cX12_runsYears 35 = .ok (.aload_n 0, 1) := by decide +kernel
theorem dX12_runsYears_36 : decode cX12_runsYears 36 = .ok (.iconst 0, 1) := by decide +kernel
theorem dX12_runsYears_37 : decode cX12_runsYears 37 = .ok (.putfield 473, 3) := by decide +kernel
theorem dX12_runsYears_40 : decode cX12_runsYears 40 = .ok (.aload_n 0, 1) := by decide +kernel
theorem dX12_runsYears_41 : decode cX12_runsYears 41 = .ok (.iconst 0, 1) := by decide +kernel
theorem dX12_runsYears_42 : decode cX12_runsYears 42 = .ok (.aload_n 0, 1) := by decide +kernel
theorem dX12_runsYears_43 : decode cX12_runsYears 43 = .ok (.getfield 35, 3) := by decide +kernel
theorem dX12_runsYears_46 : decode cX12_runsYears 46 = .ok (.bipush 101, 2) := by decide +kernel
theorem dX12_runsYears_48 : decode cX12_runsYears 48 = .ok (.iaload, 1) := by decide +kernel
theorem dX12_runsYears_49 : decode cX12_runsYears 49 = .ok (.invokevirtual 488, 3) := by decide +kernel
theorem dX12_runsYears_52 : decode cX12_runsYears 52 = .ok (.return_, 1) := by decide +kernel
set_option maxRecDepth 100000 in
theorem c_X12_runsYears (l : Launch) (E : xE) (a0 a1 a2 a3 : Nat) {T0 : Nat → Int32} {J0_2 : Int64} {J0_3 : Int64} {J0_19 : Int64} {V1 : Nat → Int32} {V2 : Nat → Int32} {V3 : Nat → Int32} {u0_4 u0_5 u0_6 u0_7 u0_21 u0_22 u0_31 u0_32 : Nat} {x1 : Int32} {z : (Nat → Int32) × (Nat → Int32) × (Nat → Int32) × (Nat → Int32)} (hf : f_X12_runsYears T0 V1 V2 V3 x1 = some z) (sz : Nat) : Met l yX12_runsYears (Cond.code yX12_runsYears cX12_runsYears 2 none :: gw) ({ frames := 46, cells := 0, slots := 0, locals := 1163 }) (xPc E [.ref a0, .int x1] [(a0, o12 T0 J0_2 J0_3 J0_19 u0_4 u0_5 u0_6 u0_7 a1 u0_21 u0_22 a3 a2 u0_31 u0_32), (a1, ai E 1860 V1), (a2, ai E 36 V2), (a3, ai E 36 V3)] sz) (xQv E [(a0, o12 T0 J0_2 J0_3 J0_19 u0_4 u0_5 u0_6 u0_7 a1 u0_21 u0_22 a3 a2 u0_31 u0_32), (a1, ai E 1860 V1), (a2, ai E 36 V2), (a3, ai E 36 V3)] [(a0, o12 z.1 J0_2 J0_3 J0_19 u0_4 u0_5 u0_6 u0_7 a1 u0_21 u0_22 a3 a2 u0_31 u0_32), (a1, ai E 1860 z.2.1), (a2, ai E 36 z.2.2.1), (a3, ai E 36 z.2.2.2)] sz) 0 0 (va_A [(a0, o12 T0 J0_2 J0_3 J0_19 u0_4 u0_5 u0_6 u0_7 a1 u0_21 u0_22 a3 a2 u0_31 u0_32), (a1, ai E 1860 V1), (a2, ai E 36 V2), (a3, ai E 36 V3)] sz) := by
  refine xM_v (by decide +kernel) (Nat.le_of_ble_eq_true rfl) ?_
  intro p e s m args below meth c A Q hx hb hml hown htg hK hG hA ret0 H locs ls hP hD hS hl
  have ret : ∀ (z' : (Nat → Int32) × (Nat → Int32) × (Nat → Int32) × (Nat → Int32)) {H : Heap} {locs : List Loc} {pc : Nat} {ls : Array Slot}, some z' = some z → va_P E.1 vwCl [(a0, o12 z'.1 J0_2 J0_3 J0_19 u0_4 u0_5 u0_6 u0_7 a1 u0_21 u0_22 a3 a2 u0_31 u0_32), (a1, ai E 1860 z'.2.1), (a2, ai E 36 z'.2.2.1), (a3, ai E 36 z'.2.2.2)] H → va_S A s.heap H locs → decode cX12_runsYears pc = .ok (.return_, 1) → W p l e ({ frames := 46, cells := 0, slots := 0, locals := 1163 } : Room) s m args below meth c H locs 0 0 Q (F0 m pc ls []) := by
    intro z' H locs pc ls h
    cases h
    exact ret0
  replace hl : lv_has ls 2 [(0, .ref a0), (1, .int x1)] := hl
  unfold f_X12_runsYears at hf
  refine lv_aload_n hx hb dX12_runsYears_0 rfl (lv_at hl 0 rfl) ?_
  refine lv_iload_n hx hb dX12_runsYears_1 rfl (lv_at hl 1 rfl) ?_
  refine P12_441 hx hb htg hown hK hP hD hS 0 rfl dX12_runsYears_2 (fun H locs hP hD hS => ?_)
  refine lv_aload_n hx hb dX12_runsYears_5 rfl (lv_at hl 0 rfl) ?_
  refine lv_iconst (v := 0) hx hb dX12_runsYears_6 rfl ?_
  refine P12_470 hx hb htg hown hK hP hD hS 0 rfl dX12_runsYears_7 (fun H locs hP hD hS => ?_)
  refine lv_aload_n hx hb dX12_runsYears_10 rfl (lv_at hl 0 rfl) ?_
  refine lv_iconst (v := 0) hx hb dX12_runsYears_11 rfl ?_
  refine P12_479 hx hb htg hown hK hP hD hS 0 rfl dX12_runsYears_12 (fun H locs hP hD hS => ?_)
  replace hP : va_P E.1 vwCl [(a0, o12 (upd (upd (upd T0 35 x1) 36 0) 37 0) J0_2 J0_3 J0_19 u0_4 u0_5 u0_6 u0_7 a1 u0_21 u0_22 a3 a2 u0_31 u0_32), (a1, ai E 1860 V1), (a2, ai E 36 V2), (a3, ai E 36 V3)] H := hP
  replace hD : va_D A [(a0, o12 (upd (upd (upd T0 35 x1) 36 0) 37 0) J0_2 J0_3 J0_19 u0_4 u0_5 u0_6 u0_7 a1 u0_21 u0_22 a3 a2 u0_31 u0_32), (a1, ai E 1860 V1), (a2, ai E 36 V2), (a3, ai E 36 V3)] := hD
  refine lv_aload_n hx hb dX12_runsYears_15 rfl (lv_at hl 0 rfl) ?_
  refine lv_iconst (v := 0) hx hb dX12_runsYears_16 rfl ?_
  refine P12_445 hx hb htg hown hK hP hD hS 0 rfl dX12_runsYears_17 (fun H locs hP hD hS => ?_)
  refine lv_aload_n hx hb dX12_runsYears_20 rfl (lv_at hl 0 rfl) ?_
  refine lv_iconst (v := 0) hx hb dX12_runsYears_21 rfl ?_
  refine P12_448 hx hb htg hown hK hP hD hS 0 rfl dX12_runsYears_22 (fun H locs hP hD hS => ?_)
  refine lv_aload_n hx hb dX12_runsYears_25 rfl (lv_at hl 0 rfl) ?_
  refine lv_iconst (v := 0) hx hb dX12_runsYears_26 rfl ?_
  refine P12_451 hx hb htg hown hK hP hD hS 0 rfl dX12_runsYears_27 (fun H locs hP hD hS => ?_)
  replace hP : va_P E.1 vwCl [(a0, o12 (upd (upd (upd (upd (upd (upd T0 35 x1) 36 0) 37 0) 38 0) 39 0) 40 0) J0_2 J0_3 J0_19 u0_4 u0_5 u0_6 u0_7 a1 u0_21 u0_22 a3 a2 u0_31 u0_32), (a1, ai E 1860 V1), (a2, ai E 36 V2), (a3, ai E 36 V3)] H := hP
  replace hD : va_D A [(a0, o12 (upd (upd (upd (upd (upd (upd T0 35 x1) 36 0) 37 0) 38 0) 39 0) 40 0) J0_2 J0_3 J0_19 u0_4 u0_5 u0_6 u0_7 a1 u0_21 u0_22 a3 a2 u0_31 u0_32), (a1, ai E 1860 V1), (a2, ai E 36 V2), (a3, ai E 36 V3)] := hD
  refine lv_aload_n hx hb dX12_runsYears_30 rfl (lv_at hl 0 rfl) ?_
  refine lv_iconst (v := 0) hx hb dX12_runsYears_31 rfl ?_
  refine P12_476 hx hb htg hown hK hP hD hS 0 rfl dX12_runsYears_32 (fun H locs hP hD hS => ?_)
  refine lv_aload_n hx hb dX12_runsYears_35 rfl (lv_at hl 0 rfl) ?_
  refine lv_iconst (v := 0) hx hb dX12_runsYears_36 rfl ?_
  refine P12_473 hx hb htg hown hK hP hD hS 0 rfl rfl dX12_runsYears_37 (fun H locs hP hD hS => ?_)
  refine lv_aload_n hx hb dX12_runsYears_40 rfl (lv_at hl 0 rfl) ?_
  refine lv_iconst (v := 0) hx hb dX12_runsYears_41 rfl ?_
  refine lv_aload_n hx hb dX12_runsYears_42 rfl (lv_at hl 0 rfl) ?_
  refine G12_35 hx hb htg hown hK hP 0 rfl dX12_runsYears_43 ?_
  refine lv_bipush (v := 101) hx hb dX12_runsYears_46 rfl ?_
  obtain ⟨g48, hf⟩ := ck_s hf
  refine xiald hx hb hK hP 1 rfl g48 dX12_runsYears_48 ?_
  obtain ⟨z49, hz49, hf⟩ := bind_s hf
  refine xV_vu hx hb hml hown htg L12_488 (c_X12_doAllc l E a0 a1 a2 a3 hz49 _) ⟨⟨rfl, rfl⟩, Nat.le_of_ble_eq_true rfl, Nat.le_of_ble_eq_true rfl⟩ hK hG hA hP hD hS (is := [0, 1, 2, 3]) (sel := [some 0, some 1, some 2, some 3]) (ws2 := [(a0, o12 z49.1 J0_2 J0_3 J0_19 u0_4 u0_5 u0_6 u0_7 a1 u0_21 u0_22 a3 a2 u0_31 u0_32), (a1, ai E 1860 z49.2.1), (a2, ai E 36 z49.2.2.1), (a3, ai E 36 z49.2.2.2)]) rfl rfl rfl rfl rfl (xrecv hK hP (q0 := 0) (ci := 12) rfl rfl) rfl hl.1 rfl (Nat.le_of_ble_eq_true rfl) dX12_runsYears_49 (fun H locs hP hD hS => ?_)
  exact ret (z49.1, z49.2.1, z49.2.2.1, z49.2.2.2) hf hP hS dX12_runsYears_52
theorem dX12_live_0 : decode cX12_live 0 = .ok (.aload_n 0, 1) := by decide +kernel
theorem dX12_live_1 : decode cX12_live 1 = .ok (.iconst 0, 1) := by decide +kernel
theorem dX12_live_2 : decode cX12_live 2 = .ok (.putfield 60, 3) := by decide +kernel
theorem dX12_live_5 : decode cX12_live 5 = .ok (.aload_n 0, 1) := by decide +kernel
theorem dX12_live_6 : decode cX12_live 6 = .ok (.iconst 0, 1) := by decide +kernel
theorem dX12_live_7 : decode cX12_live 7 = .ok (.putfield 63, 3) := by decide +kernel
theorem dX12_live_10 : decode cX12_live 10 = .ok (.iload_n 1, 1) := by decide +kernel
theorem dX12_live_11 : decode cX12_live 11 = .ok (.i2l, 1) := by decide +kernel
theorem dX12_live_12 : decode cX12_live 12 = .ok (.lconst 0, 1) := by decide +kernel
theorem dX12_live_13 : decode cX12_live 13 = .ok (.ldc2_w 494, 3) := by decide +kernel
theorem dX12_live_16 : decode cX12_live 16 = .ok (.invokestatic 95, 3) := by decide +kernel
theorem dX12_live_19 : decode cX12_live 19 = .ok (.ifCond .ne 9, 3) := by decide +kernel
theorem dX12_live_22 : decode cX12_live 22 = .ok (.aload_n 0, 1) := by decide +kernel
theorem dX12_live_23 : decode cX12_live 23 = .ok (.iconst 5, 1) := by decide +kernel
theorem dX12_live_24 : decode cX12_live 24 = .ok (.invokevirtual 321, 3) := by decide +kernel
theorem dX12_live_27 : decode cX12_live 27 = .ok (.ireturn, 1) := by decide +kernel
theorem dX12_live_28 : decode cX12_live 28 = .ok (.aload_n 0, 1) := by decide +kernel
theorem dX12_live_29 : decode cX12_live 29 = .ok (.getfield 35, 3) := by decide +kernel
theorem dX12_live_32 : decode cX12_live 32 = .ok (.bipush 100, 2) := by decide +kernel
theorem dX12_live_34 : decode cX12_live 34 = .ok (.iaload, 1) := by decide +kernel
theorem dX12_live_35 : decode cX12_live 35 = .ok (.ifCond .ne 10, 3) := by decide +kernel
theorem dX12_live_38 : decode cX12_live 38 = .ok (.aload_n 0, 1) := by decide +kernel
theorem dX12_live_39 : decode cX12_live 39 = .ok (.bipush 8, 2) := by decide +kernel
theorem dX12_live_41 : decode cX12_live 41 = .ok (.invokevirtual 321, 3) := by decide +kernel
theorem dX12_live_44 : decode cX12_live 44 = .ok (.ireturn, 1) := by decide +kernel
theorem dX12_live_45 : decode cX12_live 45 = .ok (.aload_n 0, 1) := by decide +kernel
theorem dX12_live_46 : decode cX12_live 46 = .ok (.iload_n 1, 1) := by decide +kernel
theorem dX12_live_47 : decode cX12_live 47 = .ok (.invokevirtual 496, 3) := by decide +kernel
theorem dX12_live_50 : decode cX12_live 50 = .ok (.aload_n 0, 1) := by decide +kernel
theorem dX12_live_51 : decode cX12_live 51 = .ok (.getfield 53, 3) := by decide +kernel
theorem dX12_live_54 : decode cX12_live 54 = .ok (.iconst 0, 1) := by decide +kernel
theorem dX12_live_55 : decode cX12_live 55 = .ok (.aload_n 0, 1) := by decide +kernel
theorem dX12_live_56 : decode cX12_live 56 = .ok (.getfield 479, 3) := by decide +kernel
theorem dX12_live_59 : decode cX12_live 59 = .ok (.iastore, 1) := by decide +kernel
theorem dX12_live_60 : decode cX12_live 60 = .ok (.aload_n 0, 1) := by decide +kernel
theorem dX12_live_61 : decode cX12_live 61 = .ok (.getfield 53, 3) := by decide +kernel
theorem dX12_live_64 : decode cX12_live 64 = .ok (.iconst 1, 1) := by decide +kernel
theorem dX12_live_65 : decode cX12_live 65 = .ok (.aload_n 0, 1) := by decide +kernel
theorem dX12_live_66 : decode cX12_live 66 = .ok (.getfield 445, 3) := by decide +kernel
theorem dX12_live_69 : decode cX12_live 69 = .ok (.iastore, 1) := by decide +kernel
theorem dX12_live_70 : decode cX12_live 70 = .ok (.aload_n 0, 1) := by decide +kernel
theorem dX12_live_71 : decode cX12_live 71 = .ok (.getfield 53, 3) := by decide +kernel
theorem dX12_live_74 : decode cX12_live 74 = .ok (.iconst 2, 1) := by decide +kernel
theorem dX12_live_75 : decode cX12_live 75 = .ok (.aload_n 0, 1) := by decide +kernel
theorem dX12_live_76 : decode cX12_live 76 = .ok (.getfield 448, 3) := by decide +kernel
theorem dX12_live_79 : decode cX12_live 79 = .ok (.iastore, 1) := by decide +kernel
theorem dX12_live_80 : decode cX12_live 80 = .ok (.aload_n 0, 1) := by decide +kernel
theorem dX12_live_81 : decode cX12_live 81 = .ok (.getfield 53, 3) := by decide +kernel
theorem dX12_live_84 : decode cX12_live 84 = .ok (.iconst 3, 1) := by decide +kernel
theorem dX12_live_85 : decode cX12_live 85 = .ok (.aload_n 0, 1) := by decide +kernel
theorem dX12_live_86 : decode cX12_live 86 = .ok (.getfield 451, 3) := by decide +kernel
theorem dX12_live_89 : decode cX12_live 89 = .ok (.iastore, 1) := by decide +kernel
theorem dX12_live_90 : decode cX12_live 90 = .ok (.aload_n 0, 1) := by decide +kernel
theorem dX12_live_91 : decode cX12_live 91 = .ok (.getfield 53, 3) := by decide +kernel
theorem dX12_live_94 : decode cX12_live 94 = .ok (.iconst 4, 1) := by decide +kernel
theorem dX12_live_95 : decode cX12_live 95 = .ok (.aload_n 0, 1) := by decide +kernel
theorem dX12_live_96 : decode cX12_live 96 = .ok (.getfield 476, 3) := by decide +kernel
theorem dX12_live_99 : decode cX12_live 99 = .ok (.iastore, 1) := by decide +kernel
theorem dX12_live_100 : decode cX12_live 100 = .ok (.aload_n 0, 1) := by decide +kernel
theorem dX12_live_101 : decode cX12_live 101 = .ok (.iconst 1, 1) := by decide +kernel
theorem dX12_live_102 : decode cX12_live 102 = .ok (.putfield 499, 3) := by decide +kernel
theorem dX12_live_105 : decode cX12_live 105 = .ok (.aload_n 0, 1) := by decide +kernel
theorem dX12_live_106 : decode cX12_live 106 = .ok (.getfield 470, 3) := by decide +kernel
theorem dX12_live_109 : decode cX12_live 109 = .ok (.ireturn, 1) := by decide +kernel
set_option maxRecDepth 100000 in
theorem c_X12_live (l : Launch) (E : xE) (a0 a1 a2 a3 a4 : Nat) {T0 : Nat → Int32} {J0_2 : Int64} {J0_3 : Int64} {J0_19 : Int64} {V1 : Nat → Int32} {V2 : Nat → Int32} {V3 : Nat → Int32} {V4 : Nat → Int32} {u0_4 u0_5 u0_6 u0_7 u0_21 u0_22 u0_31 : Nat} {x1 : Int32} {z : Int32 × (Nat → Int32) × (Nat → Int32) × (Nat → Int32) × (Nat → Int32) × (Nat → Int32)} (hf : f_X12_live T0 V1 V2 V3 V4 x1 = some z) (sz : Nat) : Met l yX12_live (Cond.code yX12_live cX12_live 2 (some .int) :: gw) ({ frames := 47, cells := 0, slots := 0, locals := 1184 }) (xPc E [.ref a0, .int x1] [(a0, o12 T0 J0_2 J0_3 J0_19 u0_4 u0_5 u0_6 u0_7 a1 u0_21 u0_22 a3 a2 u0_31 a4), (a1, ai E 1860 V1), (a2, ai E 36 V2), (a3, ai E 36 V3), (a4, ai E 5 V4)] sz) (xQi E z.1 [(a0, o12 T0 J0_2 J0_3 J0_19 u0_4 u0_5 u0_6 u0_7 a1 u0_21 u0_22 a3 a2 u0_31 a4), (a1, ai E 1860 V1), (a2, ai E 36 V2), (a3, ai E 36 V3), (a4, ai E 5 V4)] [(a0, o12 z.2.1 J0_2 J0_3 J0_19 u0_4 u0_5 u0_6 u0_7 a1 u0_21 u0_22 a3 a2 u0_31 a4), (a1, ai E 1860 z.2.2.1), (a2, ai E 36 z.2.2.2.1), (a3, ai E 36 z.2.2.2.2.1), (a4, ai E 5 z.2.2.2.2.2)] sz) 0 0 (va_A [(a0, o12 T0 J0_2 J0_3 J0_19 u0_4 u0_5 u0_6 u0_7 a1 u0_21 u0_22 a3 a2 u0_31 a4), (a1, ai E 1860 V1), (a2, ai E 36 V2), (a3, ai E 36 V3), (a4, ai E 5 V4)] sz) := by
  refine xM_i (by decide +kernel) (Nat.le_of_ble_eq_true rfl) ?_
  intro p e s m args below meth c A Q hx hb hml hown htg hK hG hA ret0 H locs ls hP hD hS hl
  have ret : ∀ (z' : Int32 × (Nat → Int32) × (Nat → Int32) × (Nat → Int32) × (Nat → Int32) × (Nat → Int32)) {H : Heap} {locs : List Loc} {pc : Nat} {ls : Array Slot}, some z' = some z → narrow .int (.int z'.1) = .int z'.1 → va_P E.1 vwCl [(a0, o12 z'.2.1 J0_2 J0_3 J0_19 u0_4 u0_5 u0_6 u0_7 a1 u0_21 u0_22 a3 a2 u0_31 a4), (a1, ai E 1860 z'.2.2.1), (a2, ai E 36 z'.2.2.2.1), (a3, ai E 36 z'.2.2.2.2.1), (a4, ai E 5 z'.2.2.2.2.2)] H → va_S A s.heap H locs → decode cX12_live pc = .ok (.ireturn, 1) → W p l e ({ frames := 47, cells := 0, slots := 0, locals := 1184 } : Room) s m args below meth c H locs 0 0 Q (F0 m pc ls [.int z'.1]) := by
    intro z' H locs pc ls h
    cases h
    exact ret0
  replace hl : lv_has ls 2 [(0, .ref a0), (1, .int x1)] := hl
  unfold f_X12_live at hf
  refine lv_aload_n hx hb dX12_live_0 rfl (lv_at hl 0 rfl) ?_
  refine lv_iconst (v := 0) hx hb dX12_live_1 rfl ?_
  refine P12_60 hx hb htg hown hK hP hD hS 0 rfl dX12_live_2 (fun H locs hP hD hS => ?_)
  refine lv_aload_n hx hb dX12_live_5 rfl (lv_at hl 0 rfl) ?_
  refine lv_iconst (v := 0) hx hb dX12_live_6 rfl ?_
  refine P12_63 hx hb htg hown hK hP hD hS 0 rfl dX12_live_7 (fun H locs hP hD hS => ?_)
  refine lv_iload_n hx hb dX12_live_10 rfl (lv_at hl 1 rfl) ?_
  refine lv_i2l hx hb dX12_live_11 rfl ?_
  refine lv_lconst (v := 0) hx hb dX12_live_12 rfl ?_
  refine lv_ldc2 hx hb hown (htg _ (gw_t (tb9 137 rfl) rfl)) dX12_live_13 ?_
  obtain ⟨z16, hz16, hf⟩ := bind_s hf
  refine xS_ir hx hb hml hown htg L12_95 (c_X12_isIn l E hz16 _) ⟨⟨rfl, rfl⟩, Nat.le_of_ble_eq_true rfl, Nat.le_of_ble_eq_true rfl⟩ hK hG hA hP hD hS (is := []) rfl rfl rfl hl.1 rfl (Nat.le_of_ble_eq_true rfl) dX12_live_16 (fun H locs hP hD hS => ?_)
  refine lv_if_ne (tgt := 28) hx hb dX12_live_19 (by decide) (fun c19 => ?_) (fun c19 => ?_)
  · have hf := it_f c19 hf
    refine lv_aload_n hx hb dX12_live_28 rfl (lv_at hl 0 rfl) ?_
    refine G12_35 hx hb htg hown hK hP 0 rfl dX12_live_29 ?_
    refine lv_bipush (v := 100) hx hb dX12_live_32 rfl ?_
    obtain ⟨g34, hf⟩ := ck_s hf
    refine xiald hx hb hK hP 1 rfl g34 dX12_live_34 ?_
    refine lv_if_ne (tgt := 45) hx hb dX12_live_35 (by decide) (fun c35 => ?_) (fun c35 => ?_)
    · have hf := it_f c35 hf
      refine lv_aload_n hx hb dX12_live_45 rfl (lv_at hl 0 rfl) ?_
      refine lv_iload_n hx hb dX12_live_46 rfl (lv_at hl 1 rfl) ?_
      obtain ⟨z47, hz47, hf⟩ := bind_s hf
      refine xV_vu hx hb hml hown htg L12_496 (c_X12_runsYears l E a0 a1 a2 a3 hz47 _) ⟨⟨rfl, rfl⟩, Nat.le_of_ble_eq_true rfl, Nat.le_of_ble_eq_true rfl⟩ hK hG hA hP hD hS (is := [0, 1, 2, 3]) (sel := [some 0, some 1, some 2, some 3, none]) (ws2 := [(a0, o12 z47.1 J0_2 J0_3 J0_19 u0_4 u0_5 u0_6 u0_7 a1 u0_21 u0_22 a3 a2 u0_31 a4), (a1, ai E 1860 z47.2.1), (a2, ai E 36 z47.2.2.1), (a3, ai E 36 z47.2.2.2), (a4, ai E 5 V4)]) rfl rfl rfl rfl rfl (xrecv hK hP (q0 := 0) (ci := 12) rfl rfl) rfl hl.1 rfl (Nat.le_of_ble_eq_true rfl) dX12_live_47 (fun H locs hP hD hS => ?_)
      refine lv_aload_n hx hb dX12_live_50 rfl (lv_at hl 0 rfl) ?_
      refine G12_53 hx hb htg hown hK hP 0 rfl dX12_live_51 ?_
      refine lv_iconst (v := 0) hx hb dX12_live_54 rfl ?_
      refine lv_aload_n hx hb dX12_live_55 rfl (lv_at hl 0 rfl) ?_
      refine G12_479 hx hb htg hown hK hP 0 rfl dX12_live_56 ?_
      obtain ⟨g59, hf⟩ := ck_s hf
      refine xiast hx hb hK hP hD hS 4 rfl g59 dX12_live_59 (fun H locs hP hD hS => ?_)
      refine lv_aload_n hx hb dX12_live_60 rfl (lv_at hl 0 rfl) ?_
      refine G12_53 hx hb htg hown hK hP 0 rfl dX12_live_61 ?_
      refine lv_iconst (v := 1) hx hb dX12_live_64 rfl ?_
      refine lv_aload_n hx hb dX12_live_65 rfl (lv_at hl 0 rfl) ?_
      refine G12_445 hx hb htg hown hK hP 0 rfl dX12_live_66 ?_
      obtain ⟨g69, hf⟩ := ck_s hf
      refine xiast hx hb hK hP hD hS 4 rfl g69 dX12_live_69 (fun H locs hP hD hS => ?_)
      refine lv_aload_n hx hb dX12_live_70 rfl (lv_at hl 0 rfl) ?_
      refine G12_53 hx hb htg hown hK hP 0 rfl dX12_live_71 ?_
      refine lv_iconst (v := 2) hx hb dX12_live_74 rfl ?_
      refine lv_aload_n hx hb dX12_live_75 rfl (lv_at hl 0 rfl) ?_
      refine G12_448 hx hb htg hown hK hP 0 rfl dX12_live_76 ?_
      obtain ⟨g79, hf⟩ := ck_s hf
      refine xiast hx hb hK hP hD hS 4 rfl g79 dX12_live_79 (fun H locs hP hD hS => ?_)
      replace hP : va_P E.1 vwCl [(a0, o12 z47.1 J0_2 J0_3 J0_19 u0_4 u0_5 u0_6 u0_7 a1 u0_21 u0_22 a3 a2 u0_31 a4), (a1, ai E 1860 z47.2.1), (a2, ai E 36 z47.2.2.1), (a3, ai E 36 z47.2.2.2), (a4, ai E 5 (upd (upd (upd V4 (Int32.toNatClampNeg 0) (z47.1 37)) (Int32.toNatClampNeg 1) (z47.1 38)) (Int32.toNatClampNeg 2) (z47.1 39)))] H := hP
      replace hD : va_D A [(a0, o12 z47.1 J0_2 J0_3 J0_19 u0_4 u0_5 u0_6 u0_7 a1 u0_21 u0_22 a3 a2 u0_31 a4), (a1, ai E 1860 z47.2.1), (a2, ai E 36 z47.2.2.1), (a3, ai E 36 z47.2.2.2), (a4, ai E 5 (upd (upd (upd V4 (Int32.toNatClampNeg 0) (z47.1 37)) (Int32.toNatClampNeg 1) (z47.1 38)) (Int32.toNatClampNeg 2) (z47.1 39)))] := hD
      refine lv_aload_n hx hb dX12_live_80 rfl (lv_at hl 0 rfl) ?_
      refine G12_53 hx hb htg hown hK hP 0 rfl dX12_live_81 ?_
      refine lv_iconst (v := 3) hx hb dX12_live_84 rfl ?_
      refine lv_aload_n hx hb dX12_live_85 rfl (lv_at hl 0 rfl) ?_
      refine G12_451 hx hb htg hown hK hP 0 rfl dX12_live_86 ?_
      obtain ⟨g89, hf⟩ := ck_s hf
      refine xiast hx hb hK hP hD hS 4 rfl g89 dX12_live_89 (fun H locs hP hD hS => ?_)
      refine lv_aload_n hx hb dX12_live_90 rfl (lv_at hl 0 rfl) ?_
      refine G12_53 hx hb htg hown hK hP 0 rfl dX12_live_91 ?_
      refine lv_iconst (v := 4) hx hb dX12_live_94 rfl ?_
      refine lv_aload_n hx hb dX12_live_95 rfl (lv_at hl 0 rfl) ?_
      refine G12_476 hx hb htg hown hK hP 0 rfl dX12_live_96 ?_
      obtain ⟨g99, hf⟩ := ck_s hf
      refine xiast hx hb hK hP hD hS 4 rfl g99 dX12_live_99 (fun H locs hP hD hS => ?_)
      refine lv_aload_n hx hb dX12_live_100 rfl (lv_at hl 0 rfl) ?_
      refine lv_iconst (v := 1) hx hb dX12_live_101 rfl ?_
      refine P12_499 hx hb htg hown hK hP hD hS 0 rfl rfl dX12_live_102 (fun H locs hP hD hS => ?_)
      replace hP : va_P E.1 vwCl [(a0, o12 (upd z47.1 33 1) J0_2 J0_3 J0_19 u0_4 u0_5 u0_6 u0_7 a1 u0_21 u0_22 a3 a2 u0_31 a4), (a1, ai E 1860 z47.2.1), (a2, ai E 36 z47.2.2.1), (a3, ai E 36 z47.2.2.2), (a4, ai E 5 (upd (upd (upd (upd (upd V4 (Int32.toNatClampNeg 0) (z47.1 37)) (Int32.toNatClampNeg 1) (z47.1 38)) (Int32.toNatClampNeg 2) (z47.1 39)) (Int32.toNatClampNeg 3) (z47.1 40)) (Int32.toNatClampNeg 4) (z47.1 41)))] H := hP
      replace hD : va_D A [(a0, o12 (upd z47.1 33 1) J0_2 J0_3 J0_19 u0_4 u0_5 u0_6 u0_7 a1 u0_21 u0_22 a3 a2 u0_31 a4), (a1, ai E 1860 z47.2.1), (a2, ai E 36 z47.2.2.1), (a3, ai E 36 z47.2.2.2), (a4, ai E 5 (upd (upd (upd (upd (upd V4 (Int32.toNatClampNeg 0) (z47.1 37)) (Int32.toNatClampNeg 1) (z47.1 38)) (Int32.toNatClampNeg 2) (z47.1 39)) (Int32.toNatClampNeg 3) (z47.1 40)) (Int32.toNatClampNeg 4) (z47.1 41)))] := hD
      refine lv_aload_n hx hb dX12_live_105 rfl (lv_at hl 0 rfl) ?_
      refine G12_470 hx hb htg hown hK hP 0 rfl dX12_live_106 ?_
      exact ret ((upd z47.1 33 1) 36, upd z47.1 33 1, z47.2.1, z47.2.2.1, z47.2.2.2, upd (upd (upd (upd (upd V4 (Int32.toNatClampNeg 0) (z47.1 37)) (Int32.toNatClampNeg 1) (z47.1 38)) (Int32.toNatClampNeg 2) (z47.1 39)) (Int32.toNatClampNeg 3) (z47.1 40)) (Int32.toNatClampNeg 4) (z47.1 41)) hf nzi hP hS dX12_live_109
    · have hf := it_t c35 hf
      refine lv_aload_n hx hb dX12_live_38 rfl (lv_at hl 0 rfl) ?_
      refine lv_bipush (v := 8) hx hb dX12_live_39 rfl ?_
      obtain ⟨z41, hz41, hf⟩ := bind_s hf
      refine xV_iu hx hb hml hown htg L12_321 (c_X12_refuse l E a0 hz41 _) ⟨⟨rfl, rfl⟩, Nat.le_of_ble_eq_true rfl, Nat.le_of_ble_eq_true rfl⟩ hK hG hA hP hD hS (is := [0]) (sel := [some 0, none, none, none, none]) (ws2 := [(a0, o12 z41.2 J0_2 J0_3 J0_19 u0_4 u0_5 u0_6 u0_7 a1 u0_21 u0_22 a3 a2 u0_31 a4), (a1, ai E 1860 V1), (a2, ai E 36 V2), (a3, ai E 36 V3), (a4, ai E 5 V4)]) rfl rfl rfl rfl rfl (xrecv hK hP (q0 := 0) (ci := 12) rfl rfl) rfl hl.1 rfl (Nat.le_of_ble_eq_true rfl) dX12_live_41 (fun H locs hP hD hS => ?_)
      exact ret (z41.1, z41.2, V1, V2, V3, V4) hf nzi hP hS dX12_live_44
  · have hf := it_t c19 hf
    refine lv_aload_n hx hb dX12_live_22 rfl (lv_at hl 0 rfl) ?_
    refine lv_iconst (v := 5) hx hb dX12_live_23 rfl ?_
    obtain ⟨z24, hz24, hf⟩ := bind_s hf
    refine xV_iu hx hb hml hown htg L12_321 (c_X12_refuse l E a0 hz24 _) ⟨⟨rfl, rfl⟩, Nat.le_of_ble_eq_true rfl, Nat.le_of_ble_eq_true rfl⟩ hK hG hA hP hD hS (is := [0]) (sel := [some 0, none, none, none, none]) (ws2 := [(a0, o12 z24.2 J0_2 J0_3 J0_19 u0_4 u0_5 u0_6 u0_7 a1 u0_21 u0_22 a3 a2 u0_31 a4), (a1, ai E 1860 V1), (a2, ai E 36 V2), (a3, ai E 36 V3), (a4, ai E 5 V4)]) rfl rfl rfl rfl rfl (xrecv hK hP (q0 := 0) (ci := 12) rfl rfl) rfl hl.1 rfl (Nat.le_of_ble_eq_true rfl) dX12_live_24 (fun H locs hP hD hS => ?_)
    exact ret (z24.1, z24.2, V1, V2, V3, V4) hf nzi hP hS dX12_live_27
theorem dX12_mean_0 : decode cX12_mean 0 = .ok (.aload_n 0, 1) := by decide +kernel
theorem dX12_mean_1 : decode cX12_mean 1 = .ok (.iconst 0, 1) := by decide +kernel
theorem dX12_mean_2 : decode cX12_mean 2 = .ok (.putfield 60, 3) := by decide +kernel
theorem dX12_mean_5 : decode cX12_mean 5 = .ok (.aload_n 0, 1) := by decide +kernel
theorem dX12_mean_6 : decode cX12_mean 6 = .ok (.iconst 0, 1) := by decide +kernel
theorem dX12_mean_7 : decode cX12_mean 7 = .ok (.putfield 63, 3) := by decide +kernel
theorem dX12_mean_10 : decode cX12_mean 10 = .ok (.iload_n 2, 1) := by decide +kernel
theorem dX12_mean_11 : decode cX12_mean 11 = .ok (.i2l, 1) := by decide +kernel
theorem dX12_mean_12 : decode cX12_mean 12 = .ok (.lconst 1, 1) := by decide +kernel
theorem dX12_mean_13 : decode cX12_mean 13 = .ok (.ldc2_w 502, 3) := by decide +kernel
theorem dX12_mean_16 : decode cX12_mean 16 = .ok (.invokestatic 95, 3) := by decide +kernel
theorem dX12_mean_19 : decode cX12_mean 19 = .ok (.ifCond .eq 18, 3) := by decide +kernel
theorem dX12_mean_22 : decode cX12_mean 22 = .ok (.iload_n 1, 1) := by decide +kernel
theorem dX12_mean_23 : decode cX12_mean 23 = .ok (.i2l, 1) := by decide +kernel
theorem dX12_mean_24 : decode cX12_mean 24 = .ok (.lconst 0, 1) := by decide +kernel
theorem dX12_mean_25 : decode cX12_mean 25 = .ok (.sipush 10000, 3) := by decide +kernel
theorem dX12_mean_28 : decode cX12_mean 28 = .ok (.iload_n 2, 1) := by decide +kernel
theorem dX12_mean_29 : decode cX12_mean 29 = .ok (.isub, 1) := by decide +kernel
theorem dX12_mean_30 : decode cX12_mean 30 = .ok (.i2l, 1) := by decide +kernel
theorem dX12_mean_31 : decode cX12_mean 31 = .ok (.invokestatic 95, 3) := by decide +kernel
theorem dX12_mean_34 : decode cX12_mean 34 = .ok (.ifCond .ne 9, 3) := by decide +kernel
theorem dX12_mean_37 : decode cX12_mean 37 = .ok (.aload_n 0, 1) := by decide +kernel
theorem dX12_mean_38 : decode cX12_mean 38 = .ok (.iconst 5, 1) := by decide +kernel
theorem dX12_mean_39 : decode cX12_mean 39 = .ok (.invokevirtual 75, 3) := by decide +kernel
theorem dX12_mean_42 : decode cX12_mean 42 = .ok (.ireturn, 1) := by decide +kernel
theorem dX12_mean_43 : decode cX12_mean 43 = .ok (.aload_n 0, 1) := by decide +kernel
theorem dX12_mean_44 : decode cX12_mean 44 = .ok (.getfield 35, 3) := by decide +kernel
theorem dX12_mean_47 : decode cX12_mean 47 = .ok (.bipush 100, 2) := by decide +kernel
theorem dX12_mean_49 : decode cX12_mean 49 = .ok (.iaload, 1) := by decide +kernel
theorem dX12_mean_50 : decode cX12_mean 50 = .ok (.ifCond .ne 10, 3) := by decide +kernel
theorem dX12_mean_53 : decode cX12_mean 53 = .ok (.aload_n 0, 1) := by decide +kernel
theorem dX12_mean_54 : decode cX12_mean 54 = .ok (.bipush 8, 2) := by decide +kernel
theorem dX12_mean_56 : decode cX12_mean 56 = .ok (.invokevirtual 75, 3) := by decide +kernel
theorem dX12_mean_59 : decode cX12_mean 59 = .ok (.ireturn, 1) := by decide +kernel
theorem dX12_mean_60 : decode cX12_mean 60 = .ok (.iconst 0, 1) := by decide +kernel
theorem dX12_mean_61 : decode cX12_mean 61 = .ok (.istore_n 3, 1) := by decide +kernel
theorem dX12_mean_62 : decode cX12_mean 62 = .ok (.iload_n 3, 1) := by decide +kernel
theorem dX12_mean_63 : decode cX12_mean 63 = .ok (.bipush 100, 2) := by decide +kernel
theorem dX12_mean_65 : decode cX12_mean 65 = .ok (.if_icmp .ge 21, 3) := by decide +kernel
theorem dX12_mean_68 : decode cX12_mean 68 = .ok (.aload_n 0, 1) := by decide +kernel
theorem dX12_mean_69 : decode cX12_mean 69 = .ok (.getfield 38, 3) := by decide +kernel
theorem dX12_mean_72 : decode cX12_mean 72 = .ok (.iload_n 3, 1) := by decide +kernel
theorem dX12_mean_73 : decode cX12_mean 73 = .ok (.aload_n 0, 1) := by decide +kernel
theorem dX12_mean_74 : decode cX12_mean 74 = .ok (.getfield 35, 3) := by decide +kernel
theorem dX12_mean_77 : decode cX12_mean 77 = .ok (.iload_n 3, 1) := by decide +kernel
theorem dX12_mean_78 : decode cX12_mean 78 = .ok (.iaload, 1) := by decide +kernel
theorem dX12_mean_79 : decode cX12_mean 79 = .ok (.iastore, 1) := by decide +kernel
theorem dX12_mean_80 : decode cX12_mean 80 = .ok (.iinc 3 1, 3) := by decide +kernel
theorem dX12_mean_83 : decode cX12_mean 83 = .ok (.goto (-21), 3) := by decide +kernel
theorem dX12_mean_86 : decode cX12_mean 86 = .ok (.lconst 0, 1) := by decide +kernel
theorem dX12_mean_87 : decode cX12_mean 87 = .ok (.lstore_n 3, 1) := by decide +kernel
theorem dX12_mean_88 : decode cX12_mean 88 = .ok (.iconst 0, 1) := by decide +kernel
theorem dX12_mean_89 : decode cX12_mean 89 = .ok (.istore 5, 2) := by decide +kernel
theorem dX12_mean_91 : decode cX12_mean 91 = .ok (.iload 5, 2) := by decide +kernel
theorem dX12_mean_93 : decode cX12_mean 93 = .ok (.iload_n 2, 1) := by decide +kernel
theorem dX12_mean_94 : decode cX12_mean 94 = .ok (.if_icmp .ge 55, 3) := by decide +kernel
theorem dX12_mean_97 : decode cX12_mean 97 = .ok (.aload_n 0, 1) := by decide +kernel
theorem dX12_mean_98 : decode cX12_mean 98 = .ok (.iload_n 1, 1) := by decide +kernel
theorem dX12_mean_99 : decode cX12_mean 99 = .ok (.iload 5, 2) := by decide +kernel
theorem dX12_mean_101 : decode cX12_mean 101 = .ok (.iadd, 1) := by decide +kernel
theorem dX12_mean_102 : decode cX12_mean 102 = .ok (.invokevirtual 496, 3) := by decide +kernel
theorem dX12_mean_105 : decode cX12_mean 105 = .ok (.lload_n 3, 1) := by decide +kernel
theorem dX12_mean_106 : decode cX12_mean 106 = .ok (.aload_n 0, 1) := by decide +kernel
theorem dX12_mean_107 : decode cX12_mean 107 = .ok (.invokevirtual 327, 3) := by decide +kernel
theorem dX12_mean_110 : decode cX12_mean 110 = .ok (.i2l, 1) := by decide +kernel
theorem dX12_mean_111 : decode cX12_mean 111 = .ok (.ladd, 1) := by decide +kernel
theorem dX12_mean_112 : decode cX12_mean 112 = .ok (.lstore_n 3, 1) := by decide +kernel
theorem dX12_mean_113 : decode cX12_mean 113 = .ok (.iconst 0, 1) := by decide +kernel
theorem dX12_mean_114 : decode cX12_mean 114 = .ok (.istore 6, 2) := by decide +kernel
theorem dX12_mean_116 : decode cX12_mean 116 = .ok (.iload 6, 2) := by decide +kernel
theorem dX12_mean_118 : decode cX12_mean 118 = .ok (.bipush 100, 2) := by decide +kernel
theorem dX12_mean_120 : decode cX12_mean 120 = .ok (.if_icmp .ge 23, 3) := by decide +kernel
theorem dX12_mean_123 : decode cX12_mean 123 = .ok (.aload_n 0, 1) := by decide +kernel
theorem dX12_mean_124 : decode cX12_mean 124 = .ok (.getfield 35, 3) := by decide +kernel
theorem dX12_mean_127 : decode cX12_mean 127 = .ok (.iload 6, 2) := by decide +kernel
theorem dX12_mean_129 : decode cX12_mean 129 = .ok (.aload_n 0, 1) := by decide +kernel
theorem dX12_mean_130 : decode cX12_mean 130 = .ok (.getfield 38, 3) := by decide +kernel
theorem dX12_mean_133 : decode cX12_mean 133 = .ok (.iload 6, 2) := by decide +kernel
theorem dX12_mean_135 : decode cX12_mean 135 = .ok (.iaload, 1) := by decide +kernel
theorem dX12_mean_136 : decode cX12_mean 136 = .ok (.iastore, 1) := by decide +kernel
theorem dX12_mean_137 : decode cX12_mean 137 = .ok (.iinc 6 1, 3) := by decide +kernel
theorem dX12_mean_140 : decode cX12_mean 140 = .ok (.goto (-24), 3) := by decide +kernel
theorem dX12_mean_143 : decode cX12_mean 143 = .ok (.iinc 5 1, 3) := by decide +kernel
theorem dX12_mean_146 : decode cX12_mean 146 = .ok (.goto (-55), 3) := by decide +kernel
theorem dX12_mean_149 : decode cX12_mean 149 = .ok (.aload_n 0, 1) := by decide +kernel
theorem dX12_mean_150 : decode cX12_mean 150 = .ok (.lload_n 3, 1) := by decide +kernel
theorem dX12_mean_151 : decode cX12_mean 151 = .ok (.iload_n 2, 1) := by decide +kernel
theorem dX12_mean_152 : decode cX12_mean 152 = .ok (.i2l, 1) := by decide +kernel
theorem dX12_mean_153 : decode cX12_mean 153 = .ok (.invokevirtual 385, 3) := by decide +kernel
theorem dX12_mean_156 : decode cX12_mean 156 = .ok (.ireturn, 1) := by decide +kernel
set_option maxRecDepth 100000 in
theorem c_X12_mean (l : Launch) (E : xE) (a0 a1 a2 a3 a4 : Nat) {T0 : Nat → Int32} {J0_2 : Int64} {J0_3 : Int64} {J0_19 : Int64} {V1 : Nat → Int32} {V2 : Nat → Int32} {V3 : Nat → Int32} {V4 : Nat → Int32} {u0_4 u0_5 u0_6 u0_7 u0_22 u0_31 u0_32 : Nat} {x1 : Int32} {x2 : Int32} {z : Int32 × (Nat → Int32) × Int64 × Int64 × (Nat → Int32) × (Nat → Int32) × (Nat → Int32) × (Nat → Int32)} (hf : f_X12_mean T0 J0_2 J0_3 V1 V2 V3 V4 x1 x2 = some z) (sz : Nat) : Met l yX12_mean (Cond.code yX12_mean cX12_mean 7 (some .boolean) :: gw) ({ frames := 47, cells := 0, slots := 0, locals := 1184 }) (xPc E [.ref a0, .int x1, .int x2] [(a0, o12 T0 J0_2 J0_3 J0_19 u0_4 u0_5 u0_6 u0_7 a1 a2 u0_22 a4 a3 u0_31 u0_32), (a1, ai E 1860 V1), (a2, ai E 100 V2), (a3, ai E 36 V3), (a4, ai E 36 V4)] sz) (xQi E z.1 [(a0, o12 T0 J0_2 J0_3 J0_19 u0_4 u0_5 u0_6 u0_7 a1 a2 u0_22 a4 a3 u0_31 u0_32), (a1, ai E 1860 V1), (a2, ai E 100 V2), (a3, ai E 36 V3), (a4, ai E 36 V4)] [(a0, o12 z.2.1 z.2.2.1 z.2.2.2.1 J0_19 u0_4 u0_5 u0_6 u0_7 a1 a2 u0_22 a4 a3 u0_31 u0_32), (a1, ai E 1860 z.2.2.2.2.1), (a2, ai E 100 z.2.2.2.2.2.1), (a3, ai E 36 z.2.2.2.2.2.2.1), (a4, ai E 36 z.2.2.2.2.2.2.2)] sz) 0 0 (va_A [(a0, o12 T0 J0_2 J0_3 J0_19 u0_4 u0_5 u0_6 u0_7 a1 a2 u0_22 a4 a3 u0_31 u0_32), (a1, ai E 1860 V1), (a2, ai E 100 V2), (a3, ai E 36 V3), (a4, ai E 36 V4)] sz) := by
  refine xM_i (by decide +kernel) (Nat.le_of_ble_eq_true rfl) ?_
  intro p e s m args below meth c A Q hx hb hml hown htg hK hG hA ret0 H locs ls hP hD hS hl
  have ret : ∀ (z' : Int32 × (Nat → Int32) × Int64 × Int64 × (Nat → Int32) × (Nat → Int32) × (Nat → Int32) × (Nat → Int32)) {H : Heap} {locs : List Loc} {pc : Nat} {ls : Array Slot}, some z' = some z → narrow .boolean (.int z'.1) = .int z'.1 → va_P E.1 vwCl [(a0, o12 z'.2.1 z'.2.2.1 z'.2.2.2.1 J0_19 u0_4 u0_5 u0_6 u0_7 a1 a2 u0_22 a4 a3 u0_31 u0_32), (a1, ai E 1860 z'.2.2.2.2.1), (a2, ai E 100 z'.2.2.2.2.2.1), (a3, ai E 36 z'.2.2.2.2.2.2.1), (a4, ai E 36 z'.2.2.2.2.2.2.2)] H → va_S A s.heap H locs → decode cX12_mean pc = .ok (.ireturn, 1) → W p l e ({ frames := 47, cells := 0, slots := 0, locals := 1184 } : Room) s m args below meth c H locs 0 0 Q (F0 m pc ls [.int z'.1]) := by
    intro z' H locs pc ls h
    cases h
    exact ret0
  replace hl : lv_has ls 7 [(0, .ref a0), (1, .int x1), (2, .int x2)] := hl
  have b37 : ∀ (T0 : Nat → Int32) (J0_2 : Int64) (J0_3 : Int64) (V1 : Nat → Int32) (V2 : Nat → Int32) (V3 : Nat → Int32) (V4 : Nat → Int32) (H : Heap) (locs : List Loc) (ls : Array Slot), f_X12_mean_37 x1 x2 T0 J0_2 J0_3 V1 V2 V3 V4 = some z → va_P E.1 vwCl [(a0, o12 T0 J0_2 J0_3 J0_19 u0_4 u0_5 u0_6 u0_7 a1 a2 u0_22 a4 a3 u0_31 u0_32), (a1, ai E 1860 V1), (a2, ai E 100 V2), (a3, ai E 36 V3), (a4, ai E 36 V4)] H → va_D A [(a0, o12 T0 J0_2 J0_3 J0_19 u0_4 u0_5 u0_6 u0_7 a1 a2 u0_22 a4 a3 u0_31 u0_32), (a1, ai E 1860 V1), (a2, ai E 100 V2), (a3, ai E 36 V3), (a4, ai E 36 V4)] → va_S A s.heap H locs → lv_has ls 7 [(0, .ref a0)] → W p l e ({ frames := 47, cells := 0, slots := 0, locals := 1184 } : Room) s m args below meth c H locs 0 0 Q (F0 m 37 ls []) := by
    intro T0 J0_2 J0_3 V1 V2 V3 V4 H locs ls hf hP hD hS hl
    unfold f_X12_mean_37 at hf
    refine lv_aload_n hx hb dX12_mean_37 rfl (lv_at hl 0 rfl) ?_
    refine lv_iconst (v := 5) hx hb dX12_mean_38 rfl ?_
    obtain ⟨z39, hz39, hf⟩ := bind_s hf
    refine xV_iu hx hb hml hown htg L12_75 (c_X12_no l E a0 hz39 _) ⟨⟨rfl, rfl⟩, Nat.le_of_ble_eq_true rfl, Nat.le_of_ble_eq_true rfl⟩ hK hG hA hP hD hS (is := [0]) (sel := [some 0, none, none, none, none]) (ws2 := [(a0, o12 z39.2 J0_2 J0_3 J0_19 u0_4 u0_5 u0_6 u0_7 a1 a2 u0_22 a4 a3 u0_31 u0_32), (a1, ai E 1860 V1), (a2, ai E 100 V2), (a3, ai E 36 V3), (a4, ai E 36 V4)]) rfl rfl rfl rfl rfl (xrecv hK hP (q0 := 0) (ci := 12) rfl rfl) rfl hl.1 rfl (Nat.le_of_ble_eq_true rfl) dX12_mean_39 (fun H locs hP hD hS => ?_)
    obtain ⟨g42, hf⟩ := ck_s hf
    exact ret (z39.1, z39.2, J0_2, J0_3, V1, V2, V3, V4) hf (bz_n g42).1 hP hS dX12_mean_42
  have b91 : ∀ (n : Nat) (x3 : Int64) (x5 : Int32) (T0 : Nat → Int32) (J0_2 : Int64) (J0_3 : Int64) (V1 : Nat → Int32) (V2 : Nat → Int32) (V3 : Nat → Int32) (V4 : Nat → Int32) (H : Heap) (locs : List Loc) (ls : Array Slot), f_X12_mean_91 x1 x2 n x3 x5 T0 J0_2 J0_3 V1 V2 V3 V4 = some z → va_P E.1 vwCl [(a0, o12 T0 J0_2 J0_3 J0_19 u0_4 u0_5 u0_6 u0_7 a1 a2 u0_22 a4 a3 u0_31 u0_32), (a1, ai E 1860 V1), (a2, ai E 100 V2), (a3, ai E 36 V3), (a4, ai E 36 V4)] H → va_D A [(a0, o12 T0 J0_2 J0_3 J0_19 u0_4 u0_5 u0_6 u0_7 a1 a2 u0_22 a4 a3 u0_31 u0_32), (a1, ai E 1860 V1), (a2, ai E 100 V2), (a3, ai E 36 V3), (a4, ai E 36 V4)] → va_S A s.heap H locs → lv_has ls 7 [(0, .ref a0), (1, .int x1), (2, .int x2), (3, .long x3), (5, .int x5)] → W p l e ({ frames := 47, cells := 0, slots := 0, locals := 1184 } : Room) s m args below meth c H locs 0 0 Q (F0 m 91 ls []) := by
    intro n
    induction n with
    | zero => intro x3 x5 T0 J0_2 J0_3 V1 V2 V3 V4 H locs ls hf; exact (nn_s hf).elim
    | succ n ih91 =>
      obtain ⟨k91, ek91⟩ : ∃ k, k = f_X12_mean_91 x1 x2 n := ⟨_, rfl⟩
      rw [← ek91] at ih91
      have b116 : ∀ (n : Nat) (x3 : Int64) (x5 : Int32) (x6 : Int32) (T0 : Nat → Int32) (J0_2 : Int64) (J0_3 : Int64) (V1 : Nat → Int32) (V2 : Nat → Int32) (V3 : Nat → Int32) (V4 : Nat → Int32) (H : Heap) (locs : List Loc) (ls : Array Slot), f_X12_mean_116 x1 x2 k91 n x3 x5 x6 T0 J0_2 J0_3 V1 V2 V3 V4 = some z → va_P E.1 vwCl [(a0, o12 T0 J0_2 J0_3 J0_19 u0_4 u0_5 u0_6 u0_7 a1 a2 u0_22 a4 a3 u0_31 u0_32), (a1, ai E 1860 V1), (a2, ai E 100 V2), (a3, ai E 36 V3), (a4, ai E 36 V4)] H → va_D A [(a0, o12 T0 J0_2 J0_3 J0_19 u0_4 u0_5 u0_6 u0_7 a1 a2 u0_22 a4 a3 u0_31 u0_32), (a1, ai E 1860 V1), (a2, ai E 100 V2), (a3, ai E 36 V3), (a4, ai E 36 V4)] → va_S A s.heap H locs → lv_has ls 7 [(0, .ref a0), (1, .int x1), (2, .int x2), (3, .long x3), (5, .int x5), (6, .int x6)] → W p l e ({ frames := 47, cells := 0, slots := 0, locals := 1184 } : Room) s m args below meth c H locs 0 0 Q (F0 m 116 ls []) := by
        intro n
        induction n with
        | zero => intro x3 x5 x6 T0 J0_2 J0_3 V1 V2 V3 V4 H locs ls hf; exact (nn_s hf).elim
        | succ n ih116 =>
          obtain ⟨k116, ek116⟩ : ∃ k, k = f_X12_mean_116 x1 x2 k91 n := ⟨_, rfl⟩
          rw [← ek116] at ih116
          intro x3 x5 x6 T0 J0_2 J0_3 V1 V2 V3 V4 H locs ls hf hP hD hS hl
          replace hf : g_X12_mean_116 x1 x2 k91 k116 x3 x5 x6 T0 J0_2 J0_3 V1 V2 V3 V4 = some z := by rw [ek116]; exact hf
          unfold g_X12_mean_116 at hf
          refine lv_iload hx hb dX12_mean_116 (lv_at hl 5 rfl) ?_
          refine lv_bipush (v := 100) hx hb dX12_mean_118 rfl ?_
          refine lv_icmp_ge (tgt := 143) hx hb dX12_mean_120 (by decide) (fun c120 => ?_) (fun c120 => ?_)
          · have hf := it_t c120 hf
            refine lv_iinc (v := x5 + 1) (lv' := [(5, .int (x5 + 1)), (0, .ref a0), (1, .int x1), (2, .int x2), (3, .long x3), (6, .int x6)]) hx hb dX12_mean_143 hl (k := 4) rfl rfl (by decide) rfl (fun ls hl => ?_)
            refine lv_goto (tgt := 91) hx hb dX12_mean_146 (by decide) ?_
            exact ih91 x3 (x5 + 1) T0 J0_2 J0_3 V1 V2 V3 V4 _ _ _ hf hP hD hS (lv_sub hl [1, 2, 3, 4, 0] rfl)
          · have hf := it_f c120 hf
            refine lv_aload_n hx hb dX12_mean_123 rfl (lv_at hl 0 rfl) ?_
            refine G12_35 hx hb htg hown hK hP 0 rfl dX12_mean_124 ?_
            refine lv_iload hx hb dX12_mean_127 (lv_at hl 5 rfl) ?_
            refine lv_aload_n hx hb dX12_mean_129 rfl (lv_at hl 0 rfl) ?_
            refine G12_38 hx hb htg hown hK hP 0 rfl dX12_mean_130 ?_
            refine lv_iload hx hb dX12_mean_133 (lv_at hl 5 rfl) ?_
            obtain ⟨g135, hf⟩ := ck_s hf
            refine xiald hx hb hK hP 2 rfl g135 dX12_mean_135 ?_
            obtain ⟨g136, hf⟩ := ck_s hf
            refine xiast hx hb hK hP hD hS 1 rfl g136 dX12_mean_136 (fun H locs hP hD hS => ?_)
            refine lv_iinc (v := x6 + 1) (lv' := [(6, .int (x6 + 1)), (0, .ref a0), (1, .int x1), (2, .int x2), (3, .long x3), (5, .int x5)]) hx hb dX12_mean_137 hl (k := 5) rfl rfl (by decide) rfl (fun ls hl => ?_)
            refine lv_goto (tgt := 116) hx hb dX12_mean_140 (by decide) ?_
            exact ih116 x3 x5 (x6 + 1) T0 J0_2 J0_3 (upd V1 (Int32.toNatClampNeg x6) (V2 (Int32.toNatClampNeg x6))) V2 V3 V4 _ _ _ hf hP hD hS (lv_sub hl [1, 2, 3, 4, 5, 0] rfl)
      intro x3 x5 T0 J0_2 J0_3 V1 V2 V3 V4 H locs ls hf hP hD hS hl
      replace hf : g_X12_mean_91 x1 x2 k91 x3 x5 T0 J0_2 J0_3 V1 V2 V3 V4 = some z := by rw [ek91]; exact hf
      unfold g_X12_mean_91 at hf
      refine lv_iload hx hb dX12_mean_91 (lv_at hl 4 rfl) ?_
      refine lv_iload_n hx hb dX12_mean_93 rfl (lv_at hl 2 rfl) ?_
      refine lv_icmp_ge (tgt := 149) hx hb dX12_mean_94 (by decide) (fun c94 => ?_) (fun c94 => ?_)
      · have hf := it_t c94 hf
        refine lv_aload_n hx hb dX12_mean_149 rfl (lv_at hl 0 rfl) ?_
        refine lv_lload_n hx hb dX12_mean_150 rfl (lv_at hl 3 rfl) ?_
        refine lv_iload_n hx hb dX12_mean_151 rfl (lv_at hl 2 rfl) ?_
        refine lv_i2l hx hb dX12_mean_152 rfl ?_
        obtain ⟨z153, hz153, hf⟩ := bind_s hf
        refine xV_iu hx hb hml hown htg L12_385 (c_X12_fraction l E a0 hz153 _) ⟨⟨rfl, rfl⟩, Nat.le_of_ble_eq_true rfl, Nat.le_of_ble_eq_true rfl⟩ hK hG hA hP hD hS (is := [0]) (sel := [some 0, none, none, none, none]) (ws2 := [(a0, o12 T0 z153.2.1 z153.2.2 J0_19 u0_4 u0_5 u0_6 u0_7 a1 a2 u0_22 a4 a3 u0_31 u0_32), (a1, ai E 1860 V1), (a2, ai E 100 V2), (a3, ai E 36 V3), (a4, ai E 36 V4)]) rfl rfl rfl rfl rfl (xrecv hK hP (q0 := 0) (ci := 12) rfl rfl) rfl hl.1 rfl (Nat.le_of_ble_eq_true rfl) dX12_mean_153 (fun H locs hP hD hS => ?_)
        obtain ⟨g156, hf⟩ := ck_s hf
        exact ret (z153.1, T0, z153.2.1, z153.2.2, V1, V2, V3, V4) hf (bz_n g156).1 hP hS dX12_mean_156
      · have hf := it_f c94 hf
        refine lv_aload_n hx hb dX12_mean_97 rfl (lv_at hl 0 rfl) ?_
        refine lv_iload_n hx hb dX12_mean_98 rfl (lv_at hl 1 rfl) ?_
        refine lv_iload hx hb dX12_mean_99 (lv_at hl 4 rfl) ?_
        refine lv_iadd hx hb dX12_mean_101 ?_
        obtain ⟨z102, hz102, hf⟩ := bind_s hf
        refine xV_vu hx hb hml hown htg L12_496 (c_X12_runsYears l E a0 a1 a3 a4 hz102 _) ⟨⟨rfl, rfl⟩, Nat.le_of_ble_eq_true rfl, Nat.le_of_ble_eq_true rfl⟩ hK hG hA hP hD hS (is := [0, 1, 3, 4]) (sel := [some 0, some 1, none, some 2, some 3]) (ws2 := [(a0, o12 z102.1 J0_2 J0_3 J0_19 u0_4 u0_5 u0_6 u0_7 a1 a2 u0_22 a4 a3 u0_31 u0_32), (a1, ai E 1860 z102.2.1), (a2, ai E 100 V2), (a3, ai E 36 z102.2.2.1), (a4, ai E 36 z102.2.2.2)]) rfl rfl rfl rfl rfl (xrecv hK hP (q0 := 0) (ci := 12) rfl rfl) rfl hl.1 rfl (Nat.le_of_ble_eq_true rfl) dX12_mean_102 (fun H locs hP hD hS => ?_)
        refine lv_lload_n hx hb dX12_mean_105 rfl (lv_at hl 3 rfl) ?_
        refine lv_aload_n hx hb dX12_mean_106 rfl (lv_at hl 0 rfl) ?_
        obtain ⟨z107, hz107, hf⟩ := bind_s hf
        refine xV_ir hx hb hml hown htg L12_327 (c_X12_rights l E a0 a1 hz107 _) ⟨⟨rfl, rfl⟩, Nat.le_of_ble_eq_true rfl, Nat.le_of_ble_eq_true rfl⟩ hK hG hA hP hD hS (is := [0, 1]) rfl rfl (xrecv hK hP (q0 := 0) (ci := 12) rfl rfl) rfl hl.1 rfl (Nat.le_of_ble_eq_true rfl) dX12_mean_107 (fun H locs hP hD hS => ?_)
        refine lv_i2l hx hb dX12_mean_110 rfl ?_
        refine lv_ladd hx hb dX12_mean_111 ?_
        refine lv_lstore_n (lv' := [(3, .long (x3 + (Int32.toInt64 z107))), (0, .ref a0), (1, .int x1), (2, .int x2), (5, .int x5)]) hx hb dX12_mean_112 rfl hl (by decide) rfl (fun ls hl => ?_)
        refine lv_iconst (v := 0) hx hb dX12_mean_113 rfl ?_
        refine lv_istore (lv' := [(6, .int 0), (3, .long (x3 + (Int32.toInt64 z107))), (0, .ref a0), (1, .int x1), (2, .int x2), (5, .int x5)]) hx hb dX12_mean_114 hl (by decide) rfl (fun ls hl => ?_)
        exact b116 xF (x3 + (Int32.toInt64 z107)) x5 0 z102.1 J0_2 J0_3 z102.2.1 V2 z102.2.2.1 z102.2.2.2 _ _ _ hf hP hD hS (lv_sub hl [2, 3, 4, 1, 5, 0] rfl)
  have b62 : ∀ (n : Nat) (x3 : Int32) (T0 : Nat → Int32) (J0_2 : Int64) (J0_3 : Int64) (V1 : Nat → Int32) (V2 : Nat → Int32) (V3 : Nat → Int32) (V4 : Nat → Int32) (H : Heap) (locs : List Loc) (ls : Array Slot), f_X12_mean_62 x1 x2 n x3 T0 J0_2 J0_3 V1 V2 V3 V4 = some z → va_P E.1 vwCl [(a0, o12 T0 J0_2 J0_3 J0_19 u0_4 u0_5 u0_6 u0_7 a1 a2 u0_22 a4 a3 u0_31 u0_32), (a1, ai E 1860 V1), (a2, ai E 100 V2), (a3, ai E 36 V3), (a4, ai E 36 V4)] H → va_D A [(a0, o12 T0 J0_2 J0_3 J0_19 u0_4 u0_5 u0_6 u0_7 a1 a2 u0_22 a4 a3 u0_31 u0_32), (a1, ai E 1860 V1), (a2, ai E 100 V2), (a3, ai E 36 V3), (a4, ai E 36 V4)] → va_S A s.heap H locs → lv_has ls 7 [(0, .ref a0), (1, .int x1), (2, .int x2), (3, .int x3)] → W p l e ({ frames := 47, cells := 0, slots := 0, locals := 1184 } : Room) s m args below meth c H locs 0 0 Q (F0 m 62 ls []) := by
    intro n
    induction n with
    | zero => intro x3 T0 J0_2 J0_3 V1 V2 V3 V4 H locs ls hf; exact (nn_s hf).elim
    | succ n ih62 =>
      obtain ⟨k62, ek62⟩ : ∃ k, k = f_X12_mean_62 x1 x2 n := ⟨_, rfl⟩
      rw [← ek62] at ih62
      intro x3 T0 J0_2 J0_3 V1 V2 V3 V4 H locs ls hf hP hD hS hl
      replace hf : g_X12_mean_62 x1 x2 k62 x3 T0 J0_2 J0_3 V1 V2 V3 V4 = some z := by rw [ek62]; exact hf
      unfold g_X12_mean_62 at hf
      refine lv_iload_n hx hb dX12_mean_62 rfl (lv_at hl 3 rfl) ?_
      refine lv_bipush (v := 100) hx hb dX12_mean_63 rfl ?_
      refine lv_icmp_ge (tgt := 86) hx hb dX12_mean_65 (by decide) (fun c65 => ?_) (fun c65 => ?_)
      · have hf := it_t c65 hf
        refine lv_lconst (v := 0) hx hb dX12_mean_86 rfl ?_
        refine lv_lstore_n (lv' := [(3, .long 0), (0, .ref a0), (1, .int x1), (2, .int x2)]) hx hb dX12_mean_87 rfl hl (by decide) rfl (fun ls hl => ?_)
        refine lv_iconst (v := 0) hx hb dX12_mean_88 rfl ?_
        refine lv_istore (lv' := [(5, .int 0), (3, .long 0), (0, .ref a0), (1, .int x1), (2, .int x2)]) hx hb dX12_mean_89 hl (by decide) rfl (fun ls hl => ?_)
        exact b91 xF 0 0 T0 J0_2 J0_3 V1 V2 V3 V4 _ _ _ hf hP hD hS (lv_sub hl [2, 3, 4, 1, 0] rfl)
      · have hf := it_f c65 hf
        refine lv_aload_n hx hb dX12_mean_68 rfl (lv_at hl 0 rfl) ?_
        refine G12_38 hx hb htg hown hK hP 0 rfl dX12_mean_69 ?_
        refine lv_iload_n hx hb dX12_mean_72 rfl (lv_at hl 3 rfl) ?_
        refine lv_aload_n hx hb dX12_mean_73 rfl (lv_at hl 0 rfl) ?_
        refine G12_35 hx hb htg hown hK hP 0 rfl dX12_mean_74 ?_
        refine lv_iload_n hx hb dX12_mean_77 rfl (lv_at hl 3 rfl) ?_
        obtain ⟨g78, hf⟩ := ck_s hf
        refine xiald hx hb hK hP 1 rfl g78 dX12_mean_78 ?_
        obtain ⟨g79, hf⟩ := ck_s hf
        refine xiast hx hb hK hP hD hS 2 rfl g79 dX12_mean_79 (fun H locs hP hD hS => ?_)
        refine lv_iinc (v := x3 + 1) (lv' := [(3, .int (x3 + 1)), (0, .ref a0), (1, .int x1), (2, .int x2)]) hx hb dX12_mean_80 hl (k := 3) rfl rfl (by decide) rfl (fun ls hl => ?_)
        refine lv_goto (tgt := 62) hx hb dX12_mean_83 (by decide) ?_
        exact ih62 (x3 + 1) T0 J0_2 J0_3 V1 (upd V2 (Int32.toNatClampNeg x3) (V1 (Int32.toNatClampNeg x3))) V3 V4 _ _ _ hf hP hD hS (lv_sub hl [1, 2, 3, 0] rfl)
  unfold f_X12_mean at hf
  refine lv_aload_n hx hb dX12_mean_0 rfl (lv_at hl 0 rfl) ?_
  refine lv_iconst (v := 0) hx hb dX12_mean_1 rfl ?_
  refine P12_60 hx hb htg hown hK hP hD hS 0 rfl dX12_mean_2 (fun H locs hP hD hS => ?_)
  refine lv_aload_n hx hb dX12_mean_5 rfl (lv_at hl 0 rfl) ?_
  refine lv_iconst (v := 0) hx hb dX12_mean_6 rfl ?_
  refine P12_63 hx hb htg hown hK hP hD hS 0 rfl dX12_mean_7 (fun H locs hP hD hS => ?_)
  refine lv_iload_n hx hb dX12_mean_10 rfl (lv_at hl 2 rfl) ?_
  refine lv_i2l hx hb dX12_mean_11 rfl ?_
  refine lv_lconst (v := 1) hx hb dX12_mean_12 rfl ?_
  refine lv_ldc2 hx hb hown (htg _ (gw_t (tb9 187 rfl) rfl)) dX12_mean_13 ?_
  obtain ⟨z16, hz16, hf⟩ := bind_s hf
  refine xS_ir hx hb hml hown htg L12_95 (c_X12_isIn l E hz16 _) ⟨⟨rfl, rfl⟩, Nat.le_of_ble_eq_true rfl, Nat.le_of_ble_eq_true rfl⟩ hK hG hA hP hD hS (is := []) rfl rfl rfl hl.1 rfl (Nat.le_of_ble_eq_true rfl) dX12_mean_16 (fun H locs hP hD hS => ?_)
  refine lv_if_eq (tgt := 37) hx hb dX12_mean_19 (by decide) (fun c19 => ?_) (fun c19 => ?_)
  · have hf := it_t c19 hf
    exact b37 (upd (upd T0 1 0) 0 0) J0_2 J0_3 V1 V2 V3 V4 _ _ _ hf hP hD hS (lv_sub hl [0] rfl)
  · have hf := it_f c19 hf
    refine lv_iload_n hx hb dX12_mean_22 rfl (lv_at hl 1 rfl) ?_
    refine lv_i2l hx hb dX12_mean_23 rfl ?_
    refine lv_lconst (v := 0) hx hb dX12_mean_24 rfl ?_
    refine lv_sipush (v := 10000) hx hb dX12_mean_25 rfl ?_
    refine lv_iload_n hx hb dX12_mean_28 rfl (lv_at hl 2 rfl) ?_
    refine lv_isub hx hb dX12_mean_29 ?_
    refine lv_i2l hx hb dX12_mean_30 rfl ?_
    obtain ⟨z31, hz31, hf⟩ := bind_s hf
    refine xS_ir hx hb hml hown htg L12_95 (c_X12_isIn l E hz31 _) ⟨⟨rfl, rfl⟩, Nat.le_of_ble_eq_true rfl, Nat.le_of_ble_eq_true rfl⟩ hK hG hA hP hD hS (is := []) rfl rfl rfl hl.1 rfl (Nat.le_of_ble_eq_true rfl) dX12_mean_31 (fun H locs hP hD hS => ?_)
    refine lv_if_ne (tgt := 43) hx hb dX12_mean_34 (by decide) (fun c34 => ?_) (fun c34 => ?_)
    · have hf := it_f c34 hf
      refine lv_aload_n hx hb dX12_mean_43 rfl (lv_at hl 0 rfl) ?_
      refine G12_35 hx hb htg hown hK hP 0 rfl dX12_mean_44 ?_
      refine lv_bipush (v := 100) hx hb dX12_mean_47 rfl ?_
      obtain ⟨g49, hf⟩ := ck_s hf
      refine xiald hx hb hK hP 1 rfl g49 dX12_mean_49 ?_
      refine lv_if_ne (tgt := 60) hx hb dX12_mean_50 (by decide) (fun c50 => ?_) (fun c50 => ?_)
      · have hf := it_f c50 hf
        refine lv_iconst (v := 0) hx hb dX12_mean_60 rfl ?_
        refine lv_istore_n (lv' := [(3, .int 0), (0, .ref a0), (1, .int x1), (2, .int x2)]) hx hb dX12_mean_61 rfl hl (by decide) rfl (fun ls hl => ?_)
        exact b62 xF 0 (upd (upd T0 1 0) 0 0) J0_2 J0_3 V1 V2 V3 V4 _ _ _ hf hP hD hS (lv_sub hl [1, 2, 3, 0] rfl)
      · have hf := it_t c50 hf
        refine lv_aload_n hx hb dX12_mean_53 rfl (lv_at hl 0 rfl) ?_
        refine lv_bipush (v := 8) hx hb dX12_mean_54 rfl ?_
        obtain ⟨z56, hz56, hf⟩ := bind_s hf
        refine xV_iu hx hb hml hown htg L12_75 (c_X12_no l E a0 hz56 _) ⟨⟨rfl, rfl⟩, Nat.le_of_ble_eq_true rfl, Nat.le_of_ble_eq_true rfl⟩ hK hG hA hP hD hS (is := [0]) (sel := [some 0, none, none, none, none]) (ws2 := [(a0, o12 z56.2 J0_2 J0_3 J0_19 u0_4 u0_5 u0_6 u0_7 a1 a2 u0_22 a4 a3 u0_31 u0_32), (a1, ai E 1860 V1), (a2, ai E 100 V2), (a3, ai E 36 V3), (a4, ai E 36 V4)]) rfl rfl rfl rfl rfl (xrecv hK hP (q0 := 0) (ci := 12) rfl rfl) rfl hl.1 rfl (Nat.le_of_ble_eq_true rfl) dX12_mean_56 (fun H locs hP hD hS => ?_)
        obtain ⟨g59, hf⟩ := ck_s hf
        exact ret (z56.1, z56.2, J0_2, J0_3, V1, V2, V3, V4) hf (bz_n g59).1 hP hS dX12_mean_59
    · have hf := it_t c34 hf
      exact b37 (upd (upd T0 1 0) 0 0) J0_2 J0_3 V1 V2 V3 V4 _ _ _ hf hP hD hS (lv_sub hl [0] rfl)
