theorem dX6_neighbour_0 : decode cX6_neighbour 0 = .ok (.aload_n 0, 1) := by decide +kernel
theorem dX6_neighbour_1 : decode cX6_neighbour 1 = .ok (.getfield 27, 3) := by decide +kernel
theorem dX6_neighbour_4 : decode cX6_neighbour 4 = .ok (.ifCond .le 12, 3) := by decide +kernel
theorem dX6_neighbour_7 : decode cX6_neighbour 7 = .ok (.iload_n 1, 1) := by decide +kernel
theorem dX6_neighbour_8 : decode cX6_neighbour 8 = .ok (.aload_n 0, 1) := by decide +kernel
theorem dX6_neighbour_9 : decode cX6_neighbour 9 = .ok (.getfield 27, 3) := by decide +kernel
theorem dX6_neighbour_12 : decode cX6_neighbour 12 = .ok (.irem, 1) := by decide +kernel
theorem dX6_neighbour_13 : decode cX6_neighbour 13 = .ok (.goto 4, 3) := by decide +kernel
theorem dX6_neighbour_16 : decode cX6_neighbour 16 = .ok (.iconst 0, 1) := by decide +kernel
theorem dX6_neighbour_17 : decode cX6_neighbour 17 = .ok (.istore_n 3, 1) := by decide +kernel
theorem dX6_neighbour_18 : decode cX6_neighbour 18 = .ok (.iload_n 2, 1) := by decide +kernel
theorem dX6_neighbour_19 : decode cX6_neighbour 19 = .ok (.tableswitch 74 0 2 #[25, 36, 52], 25) := by decide +kernel
theorem dX6_neighbour_44 : decode cX6_neighbour 44 = .ok (.iload_n 1, 1) := by decide +kernel
theorem dX6_neighbour_45 : decode cX6_neighbour 45 = .ok (.aload_n 0, 1) := by decide +kernel
theorem dX6_neighbour_46 : decode cX6_neighbour 46 = .ok (.getfield 27, 3) := by decide +kernel
theorem dX6_neighbour_49 : decode cX6_neighbour 49 = .ok (.isub, 1) := by decide +kernel
theorem dX6_neighbour_50 : decode cX6_neighbour 50 = .ok (.istore 4, 2) := by decide +kernel
theorem dX6_neighbour_52 : decode cX6_neighbour 52 = .ok (.goto 49, 3) := by decide +kernel
theorem dX6_neighbour_55 : decode cX6_neighbour 55 = .ok (.iload_n 3, 1) := by decide +kernel
theorem dX6_neighbour_56 : decode cX6_neighbour 56 = .ok (.ifCond .le 9, 3) := by decide +kernel
theorem dX6_neighbour_59 : decode cX6_neighbour 59 = .ok (.iload_n 1, 1) := by decide +kernel
theorem dX6_neighbour_60 : decode cX6_neighbour 60 = .ok (.iconst 1, 1) := by decide +kernel
theorem dX6_neighbour_61 : decode cX6_neighbour 61 = .ok (.isub, 1) := by decide +kernel
theorem dX6_neighbour_62 : decode cX6_neighbour 62 = .ok (.goto 4, 3) := by decide +kernel
theorem dX6_neighbour_65 : decode cX6_neighbour 65 = .ok (.iconst (-1), 1) := by decide +kernel
theorem dX6_neighbour_66 : decode cX6_neighbour 66 = .ok (.istore 4, 2) := by decide +kernel
theorem dX6_neighbour_68 : decode cX6_neighbour 68 = .ok (.goto 33, 3) := by decide +kernel
theorem dX6_neighbour_71 : decode cX6_neighbour 71 = .ok (.iload_n 3, 1) := by decide +kernel
theorem dX6_neighbour_72 : decode cX6_neighbour 72 = .ok (.iconst 1, 1) := by decide +kernel
theorem dX6_neighbour_73 : decode cX6_neighbour 73 = .ok (.iadd, 1) := by decide +kernel
theorem dX6_neighbour_74 : decode cX6_neighbour 74 = .ok (.aload_n 0, 1) := by decide +kernel
theorem dX6_neighbour_75 : decode cX6_neighbour 75 = .ok (.getfield 27, 3) := by decide +kernel
theorem dX6_neighbour_78 : decode cX6_neighbour 78 = .ok (.if_icmp .ge 9, 3) := by decide +kernel
theorem dX6_neighbour_81 : decode cX6_neighbour 81 = .ok (.iload_n 1, 1) := by decide +kernel
theorem dX6_neighbour_82 : decode cX6_neighbour 82 = .ok (.iconst 1, 1) := by decide +kernel
theorem dX6_neighbour_83 : decode cX6_neighbour 83 = .ok (.iadd, 1) := by decide +kernel
theorem dX6_neighbour_84 : decode cX6_neighbour 84 = .ok (.goto 4, 3) := by decide +kernel
theorem dX6_neighbour_87 : decode cX6_neighbour 87 = .ok (.iconst (-1), 1) := by decide +kernel
theorem dX6_neighbour_88 : decode cX6_neighbour 88 = .ok (.istore 4, 2) := by decide +kernel
theorem dX6_neighbour_90 : decode cX6_neighbour 90 = .ok (.goto 11, 3) := by decide +kernel
theorem dX6_neighbour_93 : decode cX6_neighbour 93 = .ok (.iload_n 1, 1) := by decide +kernel
theorem dX6_neighbour_94 : decode cX6_neighbour 94 = .ok (.aload_n 0, 1) := by decide +kernel
theorem dX6_neighbour_95 : decode cX6_neighbour 95 = .ok (.getfield 27, 3) := by decide +kernel
theorem dX6_neighbour_98 : decode cX6_neighbour 98 = .ok (.iadd, 1) := by decide +kernel
theorem dX6_neighbour_99 : decode cX6_neighbour 99 = .ok (.istore 4, 2) := by decide +kernel
theorem dX6_neighbour_101 : decode cX6_neighbour 101 = .ok (.iload 4, 2) := by decide +kernel
theorem dX6_neighbour_103 : decode cX6_neighbour 103 = .ok (.ifCond .lt 17, 3) := by decide +kernel
theorem dX6_neighbour_106 : decode cX6_neighbour 106 = .ok (.iload 4, 2) := by decide +kernel
theorem dX6_neighbour_108 : decode cX6_neighbour 108 = .ok (.aload_n 0, 1) := by decide +kernel
theorem dX6_neighbour_109 : decode cX6_neighbour 109 = .ok (.getfield 32, 3) := by decide +kernel
theorem dX6_neighbour_112 : decode cX6_neighbour 112 = .ok (.if_icmp .ge 8, 3) := by decide +kernel
theorem dX6_neighbour_115 : decode cX6_neighbour 115 = .ok (.iload 4, 2) := by decide +kernel
theorem dX6_neighbour_117 : decode cX6_neighbour 117 = .ok (.goto 4, 3) := by decide +kernel
theorem dX6_neighbour_120 : decode cX6_neighbour 120 = .ok (.iconst (-1), 1) := by decide +kernel
theorem dX6_neighbour_121 : decode cX6_neighbour 121 = .ok (.ireturn, 1) := by decide +kernel
set_option maxRecDepth 100000 in
theorem c_X6_neighbour (l : Launch) (E : xE) (a0 : Nat) {T0 : Nat → Int32} {u0_0 u0_1 u0_2 : Nat} {x1 : Int32} {x2 : Int32} {z : Int32} (hf : f_X6_neighbour T0 x1 x2 = some z) (sz : Nat) : Met l yX6_neighbour (Cond.code yX6_neighbour cX6_neighbour 5 (some .int) :: gw) ({ frames := 0, cells := 0, slots := 0, locals := 0 }) (xPc E [.ref a0, .int x1, .int x2] [(a0, o6 T0 u0_0 u0_1 u0_2)] sz) (xQi E z [(a0, o6 T0 u0_0 u0_1 u0_2)] [(a0, o6 T0 u0_0 u0_1 u0_2)] sz) 0 0 (va_A [(a0, o6 T0 u0_0 u0_1 u0_2)] sz) := by
  refine xM_i (by decide +kernel) (Nat.le_of_ble_eq_true rfl) ?_
  intro p e s m args below meth c A Q hx hb hml hown htg hK hG hA ret0 H locs ls hP hD hS hl
  have ret : ∀ (z' : Int32) {H : Heap} {locs : List Loc} {pc : Nat} {ls : Array Slot}, some z' = some z → narrow .int (.int z') = .int z' → va_P E.1 vwCl [(a0, o6 T0 u0_0 u0_1 u0_2)] H → va_S A s.heap H locs → decode cX6_neighbour pc = .ok (.ireturn, 1) → W p l e ({ frames := 0, cells := 0, slots := 0, locals := 0 } : Room) s m args below meth c H locs 0 0 Q (F0 m pc ls [.int z']) := by
    intro z' H locs pc ls h
    cases h
    exact ret0
  replace hl : lv_has ls 5 [(0, .ref a0), (1, .int x1), (2, .int x2)] := hl
  have b101 : ∀ (x4 : Int32) (H : Heap) (locs : List Loc) (ls : Array Slot), f_X6_neighbour_101 T0 x1 x2 x4 = some z → va_P E.1 vwCl [(a0, o6 T0 u0_0 u0_1 u0_2)] H → va_D A [(a0, o6 T0 u0_0 u0_1 u0_2)] → va_S A s.heap H locs → lv_has ls 5 [(0, .ref a0), (4, .int x4)] → W p l e ({ frames := 0, cells := 0, slots := 0, locals := 0 } : Room) s m args below meth c H locs 0 0 Q (F0 m 101 ls []) := by
    intro x4 H locs ls hf hP hD hS hl
    unfold f_X6_neighbour_101 at hf
    refine lv_iload hx hb dX6_neighbour_101 (lv_at hl 1 rfl) ?_
    refine lv_if_lt (tgt := 120) hx hb dX6_neighbour_103 (by decide) (fun c103 => ?_) (fun c103 => ?_)
    · have hf := it_t c103 hf
      refine lv_iconst (v := (-1)) hx hb dX6_neighbour_120 rfl ?_
      exact ret (-1) hf nzi hP hS dX6_neighbour_121
    · have hf := it_f c103 hf
      refine lv_iload hx hb dX6_neighbour_106 (lv_at hl 1 rfl) ?_
      refine lv_aload_n hx hb dX6_neighbour_108 rfl (lv_at hl 0 rfl) ?_
      refine G6_32 hx hb htg hown hK hP 0 rfl dX6_neighbour_109 ?_
      refine lv_icmp_ge (tgt := 120) hx hb dX6_neighbour_112 (by decide) (fun c112 => ?_) (fun c112 => ?_)
      · have hf := it_t c112 hf
        refine lv_iconst (v := (-1)) hx hb dX6_neighbour_120 rfl ?_
        exact ret (-1) hf nzi hP hS dX6_neighbour_121
      · have hf := it_f c112 hf
        refine lv_iload hx hb dX6_neighbour_115 (lv_at hl 1 rfl) ?_
        refine lv_goto (tgt := 121) hx hb dX6_neighbour_117 (by decide) ?_
        exact ret x4 hf nzi hP hS dX6_neighbour_121
  have b66 : ∀ (s0 : Int32) (H : Heap) (locs : List Loc) (ls : Array Slot), f_X6_neighbour_66 T0 x1 x2 s0 = some z → va_P E.1 vwCl [(a0, o6 T0 u0_0 u0_1 u0_2)] H → va_D A [(a0, o6 T0 u0_0 u0_1 u0_2)] → va_S A s.heap H locs → lv_has ls 5 [(0, .ref a0)] → W p l e ({ frames := 0, cells := 0, slots := 0, locals := 0 } : Room) s m args below meth c H locs 0 0 Q (F0 m 66 ls [.int s0]) := by
    intro s0 H locs ls hf hP hD hS hl
    unfold f_X6_neighbour_66 at hf
    refine lv_istore (lv' := [(4, .int s0), (0, .ref a0)]) hx hb dX6_neighbour_66 hl (by decide) rfl (fun ls hl => ?_)
    refine lv_goto (tgt := 101) hx hb dX6_neighbour_68 (by decide) ?_
    exact b101 s0 _ _ _ hf hP hD hS (lv_sub hl [1, 0] rfl)
  have b88 : ∀ (s0 : Int32) (H : Heap) (locs : List Loc) (ls : Array Slot), f_X6_neighbour_88 T0 x1 x2 s0 = some z → va_P E.1 vwCl [(a0, o6 T0 u0_0 u0_1 u0_2)] H → va_D A [(a0, o6 T0 u0_0 u0_1 u0_2)] → va_S A s.heap H locs → lv_has ls 5 [(0, .ref a0)] → W p l e ({ frames := 0, cells := 0, slots := 0, locals := 0 } : Room) s m args below meth c H locs 0 0 Q (F0 m 88 ls [.int s0]) := by
    intro s0 H locs ls hf hP hD hS hl
    unfold f_X6_neighbour_88 at hf
    refine lv_istore (lv' := [(4, .int s0), (0, .ref a0)]) hx hb dX6_neighbour_88 hl (by decide) rfl (fun ls hl => ?_)
    refine lv_goto (tgt := 101) hx hb dX6_neighbour_90 (by decide) ?_
    exact b101 s0 _ _ _ hf hP hD hS (lv_sub hl [1, 0] rfl)
  have b17 : ∀ (s0 : Int32) (H : Heap) (locs : List Loc) (ls : Array Slot), f_X6_neighbour_17 T0 x1 x2 s0 = some z → va_P E.1 vwCl [(a0, o6 T0 u0_0 u0_1 u0_2)] H → va_D A [(a0, o6 T0 u0_0 u0_1 u0_2)] → va_S A s.heap H locs → lv_has ls 5 [(0, .ref a0), (1, .int x1), (2, .int x2)] → W p l e ({ frames := 0, cells := 0, slots := 0, locals := 0 } : Room) s m args below meth c H locs 0 0 Q (F0 m 17 ls [.int s0]) := by
    intro s0 H locs ls hf hP hD hS hl
    unfold f_X6_neighbour_17 at hf
    refine lv_istore_n (lv' := [(3, .int s0), (0, .ref a0), (1, .int x1), (2, .int x2)]) hx hb dX6_neighbour_17 rfl hl (by decide) rfl (fun ls hl => ?_)
    refine lv_iload_n hx hb dX6_neighbour_18 rfl (lv_at hl 3 rfl) ?_
    by_cases c19_0 : x2 = 0
    · have hf := it_t c19_0 hf
      refine xtabI (off := 25) (tgt := 44) hx hb c19_0 dX6_neighbour_19 rfl (by decide) ?_
      refine lv_iload_n hx hb dX6_neighbour_44 rfl (lv_at hl 2 rfl) ?_
      refine lv_aload_n hx hb dX6_neighbour_45 rfl (lv_at hl 1 rfl) ?_
      refine G6_27 hx hb htg hown hK hP 0 rfl dX6_neighbour_46 ?_
      refine lv_isub hx hb dX6_neighbour_49 ?_
      refine lv_istore (lv' := [(4, .int (x1 - (T0 3))), (3, .int s0), (0, .ref a0), (1, .int x1), (2, .int x2)]) hx hb dX6_neighbour_50 hl (by decide) rfl (fun ls hl => ?_)
      refine lv_goto (tgt := 101) hx hb dX6_neighbour_52 (by decide) ?_
      exact b101 (x1 - (T0 3)) _ _ _ hf hP hD hS (lv_sub hl [2, 0] rfl)
    have hf := it_f c19_0 hf
    by_cases c19_1 : x2 = 1
    · have hf := it_t c19_1 hf
      refine xtabI (off := 36) (tgt := 55) hx hb c19_1 dX6_neighbour_19 rfl (by decide) ?_
      refine lv_iload_n hx hb dX6_neighbour_55 rfl (lv_at hl 0 rfl) ?_
      refine lv_if_le (tgt := 65) hx hb dX6_neighbour_56 (by decide) (fun c56 => ?_) (fun c56 => ?_)
      · have hf := it_t c56 hf
        refine lv_iconst (v := (-1)) hx hb dX6_neighbour_65 rfl ?_
        exact b66 (-1) _ _ _ hf hP hD hS (lv_sub hl [1] rfl)
      · have hf := it_f c56 hf
        refine lv_iload_n hx hb dX6_neighbour_59 rfl (lv_at hl 2 rfl) ?_
        refine lv_iconst (v := 1) hx hb dX6_neighbour_60 rfl ?_
        refine lv_isub hx hb dX6_neighbour_61 ?_
        refine lv_goto (tgt := 66) hx hb dX6_neighbour_62 (by decide) ?_
        exact b66 (x1 - 1) _ _ _ hf hP hD hS (lv_sub hl [1] rfl)
    have hf := it_f c19_1 hf
    by_cases c19_2 : x2 = 2
    · have hf := it_t c19_2 hf
      refine xtabI (off := 52) (tgt := 71) hx hb c19_2 dX6_neighbour_19 rfl (by decide) ?_
      refine lv_iload_n hx hb dX6_neighbour_71 rfl (lv_at hl 0 rfl) ?_
      refine lv_iconst (v := 1) hx hb dX6_neighbour_72 rfl ?_
      refine lv_iadd hx hb dX6_neighbour_73 ?_
      refine lv_aload_n hx hb dX6_neighbour_74 rfl (lv_at hl 1 rfl) ?_
      refine G6_27 hx hb htg hown hK hP 0 rfl dX6_neighbour_75 ?_
      refine lv_icmp_ge (tgt := 87) hx hb dX6_neighbour_78 (by decide) (fun c78 => ?_) (fun c78 => ?_)
      · have hf := it_t c78 hf
        refine lv_iconst (v := (-1)) hx hb dX6_neighbour_87 rfl ?_
        exact b88 (-1) _ _ _ hf hP hD hS (lv_sub hl [1] rfl)
      · have hf := it_f c78 hf
        refine lv_iload_n hx hb dX6_neighbour_81 rfl (lv_at hl 2 rfl) ?_
        refine lv_iconst (v := 1) hx hb dX6_neighbour_82 rfl ?_
        refine lv_iadd hx hb dX6_neighbour_83 ?_
        refine lv_goto (tgt := 88) hx hb dX6_neighbour_84 (by decide) ?_
        exact b88 (x1 + 1) _ _ _ hf hP hD hS (lv_sub hl [1] rfl)
    have hf := it_f c19_2 hf
    refine xtabD (tgt := 93) (cs := [0, 1, 2]) hx hb (by simp only [List.forall_mem_cons]; exact ⟨c19_0, c19_1, c19_2, fun _ h => absurd h List.not_mem_nil⟩) rfl dX6_neighbour_19 (by decide) ?_
    refine lv_iload_n hx hb dX6_neighbour_93 rfl (lv_at hl 2 rfl) ?_
    refine lv_aload_n hx hb dX6_neighbour_94 rfl (lv_at hl 1 rfl) ?_
    refine G6_27 hx hb htg hown hK hP 0 rfl dX6_neighbour_95 ?_
    refine lv_iadd hx hb dX6_neighbour_98 ?_
    refine lv_istore (lv' := [(4, .int (x1 + (T0 3))), (3, .int s0), (0, .ref a0), (1, .int x1), (2, .int x2)]) hx hb dX6_neighbour_99 hl (by decide) rfl (fun ls hl => ?_)
    exact b101 (x1 + (T0 3)) _ _ _ hf hP hD hS (lv_sub hl [2, 0] rfl)
  unfold f_X6_neighbour at hf
  refine lv_aload_n hx hb dX6_neighbour_0 rfl (lv_at hl 0 rfl) ?_
  refine G6_27 hx hb htg hown hK hP 0 rfl dX6_neighbour_1 ?_
  refine lv_if_le (tgt := 16) hx hb dX6_neighbour_4 (by decide) (fun c4 => ?_) (fun c4 => ?_)
  · have hf := it_t c4 hf
    refine lv_iconst (v := 0) hx hb dX6_neighbour_16 rfl ?_
    exact b17 0 _ _ _ hf hP hD hS (lv_sub hl [0, 1, 2] rfl)
  · have hf := it_f c4 hf
    refine lv_iload_n hx hb dX6_neighbour_7 rfl (lv_at hl 1 rfl) ?_
    refine lv_aload_n hx hb dX6_neighbour_8 rfl (lv_at hl 0 rfl) ?_
    refine G6_27 hx hb htg hown hK hP 0 rfl dX6_neighbour_9 ?_
    obtain ⟨g12, hf⟩ := ck_s hf
    refine lv_irem hx hb dX6_neighbour_12 (of_decide_eq_true g12) ?_
    refine lv_goto (tgt := 17) hx hb dX6_neighbour_13 (by decide) ?_
    exact b17 (x1 - x1 / (T0 3) * (T0 3)) _ _ _ hf hP hD hS (lv_sub hl [0, 1, 2] rfl)
theorem dX6_lowerCosts_0 : decode cX6_lowerCosts 0 = .ok (.iconst 0, 1) := by decide +kernel
theorem dX6_lowerCosts_1 : decode cX6_lowerCosts 1 = .ok (.istore_n 1, 1) := by decide +kernel
theorem dX6_lowerCosts_2 : decode cX6_lowerCosts 2 = .ok (.iconst 0, 1) := by decide +kernel
theorem dX6_lowerCosts_3 : decode cX6_lowerCosts 3 = .ok (.istore_n 2, 1) := by decide +kernel
theorem dX6_lowerCosts_4 : decode cX6_lowerCosts 4 = .ok (.iload_n 2, 1) := by decide +kernel
theorem dX6_lowerCosts_5 : decode cX6_lowerCosts 5 = .ok (.aload_n 0, 1) := by decide +kernel
theorem dX6_lowerCosts_6 : decode cX6_lowerCosts 6 = .ok (.getfield 32, 3) := by decide +kernel
theorem dX6_lowerCosts_9 : decode cX6_lowerCosts 9 = .ok (.if_icmp .ge 83, 3) := by decide +kernel
theorem dX6_lowerCosts_12 : decode cX6_lowerCosts 12 = .ok (.iconst 0, 1) := by decide +kernel
theorem dX6_lowerCosts_13 : decode cX6_lowerCosts 13 = .ok (.istore_n 3, 1) := by decide +kernel
theorem dX6_lowerCosts_14 : decode cX6_lowerCosts 14 = .ok (.iload_n 3, 1) := by decide +kernel
theorem dX6_lowerCosts_15 : decode cX6_lowerCosts 15 = .ok (.iconst 4, 1) := by decide +kernel
theorem dX6_lowerCosts_16 : decode cX6_lowerCosts 16 = .ok (.if_icmp .ge 70, 3) := by decide +kernel
theorem dX6_lowerCosts_19 : decode cX6_lowerCosts 19 = .ok (.aload_n 0, 1) := by decide +kernel
theorem dX6_lowerCosts_20 : decode cX6_lowerCosts 20 = .ok (.iload_n 2, 1) := by decide +kernel
theorem dX6_lowerCosts_21 : decode cX6_lowerCosts 21 = .ok (.iload_n 3, 1) := by decide +kernel
theorem dX6_lowerCosts_22 : decode cX6_lowerCosts 22 = .ok (.invokevirtual 63, 3) := by decide +kernel
theorem dX6_lowerCosts_25 : decode cX6_lowerCosts 25 = .ok (.istore 4, 2) := by decide +kernel
theorem dX6_lowerCosts_27 : decode cX6_lowerCosts 27 = .ok (.iload 4, 2) := by decide +kernel
theorem dX6_lowerCosts_29 : decode cX6_lowerCosts 29 = .ok (.iconst (-1), 1) := by decide +kernel
theorem dX6_lowerCosts_30 : decode cX6_lowerCosts 30 = .ok (.if_icmp .eq 50, 3) := by decide +kernel
theorem dX6_lowerCosts_33 : decode cX6_lowerCosts 33 = .ok (.aload_n 0, 1) := by decide +kernel
theorem dX6_lowerCosts_34 : decode cX6_lowerCosts 34 = .ok (.getfield 9, 3) := by decide +kernel
theorem dX6_lowerCosts_37 : decode cX6_lowerCosts 37 = .ok (.iload 4, 2) := by decide +kernel
theorem dX6_lowerCosts_39 : decode cX6_lowerCosts 39 = .ok (.iaload, 1) := by decide +kernel
theorem dX6_lowerCosts_40 : decode cX6_lowerCosts 40 = .ok (.aload_n 0, 1) := by decide +kernel
theorem dX6_lowerCosts_41 : decode cX6_lowerCosts 41 = .ok (.getfield 15, 3) := by decide +kernel
theorem dX6_lowerCosts_44 : decode cX6_lowerCosts 44 = .ok (.iload 4, 2) := by decide +kernel
theorem dX6_lowerCosts_46 : decode cX6_lowerCosts 46 = .ok (.iaload, 1) := by decide +kernel
theorem dX6_lowerCosts_47 : decode cX6_lowerCosts 47 = .ok (.iadd, 1) := by decide +kernel
theorem dX6_lowerCosts_48 : decode cX6_lowerCosts 48 = .ok (.aload_n 0, 1) := by decide +kernel
theorem dX6_lowerCosts_49 : decode cX6_lowerCosts 49 = .ok (.getfield 15, 3) := by decide +kernel
theorem dX6_lowerCosts_52 : decode cX6_lowerCosts 52 = .ok (.iload_n 2, 1) := by decide +kernel
theorem dX6_lowerCosts_53 : decode cX6_lowerCosts 53 = .ok (.iaload, 1) := by decide +kernel
theorem dX6_lowerCosts_54 : decode cX6_lowerCosts 54 = .ok (.if_icmp .ge 26, 3) := by decide +kernel
theorem dX6_lowerCosts_57 : decode cX6_lowerCosts 57 = .ok (.aload_n 0, 1) := by decide +kernel
theorem dX6_lowerCosts_58 : decode cX6_lowerCosts 58 = .ok (.getfield 15, 3) := by decide +kernel
theorem dX6_lowerCosts_61 : decode cX6_lowerCosts 61 = .ok (.iload_n 2, 1) := by decide +kernel
theorem dX6_lowerCosts_62 : decode cX6_lowerCosts 62 = .ok (.aload_n 0, 1) := by decide +kernel
theorem dX6_lowerCosts_63 : decode cX6_lowerCosts 63 = .ok (.getfield 9, 3) := by decide +kernel
theorem dX6_lowerCosts_66 : decode cX6_lowerCosts 66 = .ok (.iload 4, 2) := by decide +kernel
theorem dX6_lowerCosts_68 : decode cX6_lowerCosts 68 = .ok (.iaload, 1) := by decide +kernel
theorem dX6_lowerCosts_69 : decode cX6_lowerCosts 69 = .ok (.aload_n 0, 1) := by decide +kernel
theorem dX6_lowerCosts_70 : decode cX6_lowerCosts 70 = .ok (.getfield 15, 3) := by decide +kernel
theorem dX6_lowerCosts_73 : decode cX6_lowerCosts 73 = .ok (.iload 4, 2) := by decide +kernel
theorem dX6_lowerCosts_75 : decode cX6_lowerCosts 75 = .ok (.iaload, 1) := by decide +kernel
theorem dX6_lowerCosts_76 : decode cX6_lowerCosts 76 = .ok (.iadd, 1) := by decide +kernel
theorem dX6_lowerCosts_77 : decode cX6_lowerCosts 77 = .ok (.iastore, 1) := by decide +kernel
theorem dX6_lowerCosts_78 : decode cX6_lowerCosts 78 = .ok (.iconst 1, 1) := by decide +kernel
theorem dX6_lowerCosts_79 : decode cX6_lowerCosts 79 = .ok (.istore_n 1, 1) := by decide +kernel
theorem dX6_lowerCosts_80 : decode cX6_lowerCosts 80 = .ok (.iinc 3 1, 3) := by decide +kernel
theorem dX6_lowerCosts_83 : decode cX6_lowerCosts 83 = .ok (.goto (-69), 3) := by decide +kernel
theorem dX6_lowerCosts_86 : decode cX6_lowerCosts 86 = .ok (.iinc 2 1, 3) := by decide +kernel
theorem dX6_lowerCosts_89 : decode cX6_lowerCosts 89 = .ok (.goto (-85), 3) := by decide +kernel
theorem dX6_lowerCosts_92 : decode cX6_lowerCosts 92 = .ok (.iload_n 1, 1) := by decide +kernel
theorem dX6_lowerCosts_93 : decode cX6_lowerCosts 93 = .ok (.ireturn, 1) := by decide +kernel
set_option maxRecDepth 100000 in
theorem c_X6_lowerCosts (l : Launch) (E : xE) (a0 a1 a2 : Nat) {T0 : Nat → Int32} {V1 : Nat → Int32} {V2 : Nat → Int32} {u0_2 : Nat} {z : Int32 × (Nat → Int32)} (hf : f_X6_lowerCosts T0 V1 V2 = some z) (sz : Nat) : Met l yX6_lowerCosts (Cond.code yX6_lowerCosts cX6_lowerCosts 5 (some .boolean) :: gw) ({ frames := 1, cells := 0, slots := 0, locals := 24 }) (xPc E [.ref a0] [(a0, o6 T0 a1 a2 u0_2), (a1, ai E 36 V1), (a2, ai E 36 V2)] sz) (xQi E z.1 [(a0, o6 T0 a1 a2 u0_2), (a1, ai E 36 V1), (a2, ai E 36 V2)] [(a0, o6 T0 a1 a2 u0_2), (a1, ai E 36 V1), (a2, ai E 36 z.2)] sz) 0 0 (va_A [(a0, o6 T0 a1 a2 u0_2), (a1, ai E 36 V1), (a2, ai E 36 V2)] sz) := by
  refine xM_i (by decide +kernel) (Nat.le_of_ble_eq_true rfl) ?_
  intro p e s m args below meth c A Q hx hb hml hown htg hK hG hA ret0 H locs ls hP hD hS hl
  have ret : ∀ (z' : Int32 × (Nat → Int32)) {H : Heap} {locs : List Loc} {pc : Nat} {ls : Array Slot}, some z' = some z → narrow .boolean (.int z'.1) = .int z'.1 → va_P E.1 vwCl [(a0, o6 T0 a1 a2 u0_2), (a1, ai E 36 V1), (a2, ai E 36 z'.2)] H → va_S A s.heap H locs → decode cX6_lowerCosts pc = .ok (.ireturn, 1) → W p l e ({ frames := 1, cells := 0, slots := 0, locals := 24 } : Room) s m args below meth c H locs 0 0 Q (F0 m pc ls [.int z'.1]) := by
    intro z' H locs pc ls h
    cases h
    exact ret0
  replace hl : lv_has ls 5 [(0, .ref a0)] := hl
  have b4 : ∀ (n : Nat) (x1 : Int32) (x2 : Int32) (V2 : Nat → Int32) (H : Heap) (locs : List Loc) (ls : Array Slot), f_X6_lowerCosts_4 T0 V1 n x1 x2 V2 = some z → va_P E.1 vwCl [(a0, o6 T0 a1 a2 u0_2), (a1, ai E 36 V1), (a2, ai E 36 V2)] H → va_D A [(a0, o6 T0 a1 a2 u0_2), (a1, ai E 36 V1), (a2, ai E 36 V2)] → va_S A s.heap H locs → lv_has ls 5 [(0, .ref a0), (1, .int x1), (2, .int x2)] → W p l e ({ frames := 1, cells := 0, slots := 0, locals := 24 } : Room) s m args below meth c H locs 0 0 Q (F0 m 4 ls []) := by
    intro n
    induction n with
    | zero => intro x1 x2 V2 H locs ls hf; exact (nn_s hf).elim
    | succ n ih4 =>
      obtain ⟨k4, ek4⟩ : ∃ k, k = f_X6_lowerCosts_4 T0 V1 n := ⟨_, rfl⟩
      rw [← ek4] at ih4
      have b14 : ∀ (n : Nat) (x1 : Int32) (x2 : Int32) (x3 : Int32) (V2 : Nat → Int32) (H : Heap) (locs : List Loc) (ls : Array Slot), f_X6_lowerCosts_14 T0 V1 k4 n x1 x2 x3 V2 = some z → va_P E.1 vwCl [(a0, o6 T0 a1 a2 u0_2), (a1, ai E 36 V1), (a2, ai E 36 V2)] H → va_D A [(a0, o6 T0 a1 a2 u0_2), (a1, ai E 36 V1), (a2, ai E 36 V2)] → va_S A s.heap H locs → lv_has ls 5 [(0, .ref a0), (1, .int x1), (2, .int x2), (3, .int x3)] → W p l e ({ frames := 1, cells := 0, slots := 0, locals := 24 } : Room) s m args below meth c H locs 0 0 Q (F0 m 14 ls []) := by
        intro n
        induction n with
        | zero => intro x1 x2 x3 V2 H locs ls hf; exact (nn_s hf).elim
        | succ n ih14 =>
          obtain ⟨k14, ek14⟩ : ∃ k, k = f_X6_lowerCosts_14 T0 V1 k4 n := ⟨_, rfl⟩
          rw [← ek14] at ih14
          intro x1 x2 x3 V2 H locs ls hf hP hD hS hl
          replace hf : g_X6_lowerCosts_14 T0 V1 k4 k14 x1 x2 x3 V2 = some z := by rw [ek14]; exact hf
          unfold g_X6_lowerCosts_14 at hf
          refine lv_iload_n hx hb dX6_lowerCosts_14 rfl (lv_at hl 3 rfl) ?_
          refine lv_iconst (v := 4) hx hb dX6_lowerCosts_15 rfl ?_
          refine lv_icmp_ge (tgt := 86) hx hb dX6_lowerCosts_16 (by decide) (fun c16 => ?_) (fun c16 => ?_)
          · have hf := it_t c16 hf
            refine lv_iinc (v := x2 + 1) (lv' := [(2, .int (x2 + 1)), (0, .ref a0), (1, .int x1), (3, .int x3)]) hx hb dX6_lowerCosts_86 hl (k := 2) rfl rfl (by decide) rfl (fun ls hl => ?_)
            refine lv_goto (tgt := 4) hx hb dX6_lowerCosts_89 (by decide) ?_
            exact ih4 x1 (x2 + 1) V2 _ _ _ hf hP hD hS (lv_sub hl [1, 2, 0] rfl)
          · have hf := it_f c16 hf
            refine lv_aload_n hx hb dX6_lowerCosts_19 rfl (lv_at hl 0 rfl) ?_
            refine lv_iload_n hx hb dX6_lowerCosts_20 rfl (lv_at hl 2 rfl) ?_
            refine lv_iload_n hx hb dX6_lowerCosts_21 rfl (lv_at hl 3 rfl) ?_
            obtain ⟨z22, hz22, hf⟩ := bind_s hf
            refine xV_ir hx hb hml hown htg L6_63 (c_X6_neighbour l E a0 hz22 _) ⟨⟨rfl, rfl⟩, Nat.le_of_ble_eq_true rfl, Nat.le_of_ble_eq_true rfl⟩ hK hG hA hP hD hS (is := [0]) rfl rfl (xrecv hK hP (q0 := 0) (ci := 6) rfl rfl) rfl hl.1 rfl (Nat.le_of_ble_eq_true rfl) dX6_lowerCosts_22 (fun H locs hP hD hS => ?_)
            refine lv_istore (lv' := [(4, .int z22), (0, .ref a0), (1, .int x1), (2, .int x2), (3, .int x3)]) hx hb dX6_lowerCosts_25 hl (by decide) rfl (fun ls hl => ?_)
            refine lv_iload hx hb dX6_lowerCosts_27 (lv_at hl 0 rfl) ?_
            refine lv_iconst (v := (-1)) hx hb dX6_lowerCosts_29 rfl ?_
            refine lv_icmp_eq (tgt := 80) hx hb dX6_lowerCosts_30 (by decide) (fun c30 => ?_) (fun c30 => ?_)
            · have hf := it_t c30 hf
              refine lv_iinc (v := x3 + 1) (lv' := [(3, .int (x3 + 1)), (4, .int z22), (0, .ref a0), (1, .int x1), (2, .int x2)]) hx hb dX6_lowerCosts_80 hl (k := 4) rfl rfl (by decide) rfl (fun ls hl => ?_)
              refine lv_goto (tgt := 14) hx hb dX6_lowerCosts_83 (by decide) ?_
              exact ih14 x1 x2 (x3 + 1) V2 _ _ _ hf hP hD hS (lv_sub hl [2, 3, 4, 0] rfl)
            · have hf := it_f c30 hf
              refine lv_aload_n hx hb dX6_lowerCosts_33 rfl (lv_at hl 1 rfl) ?_
              refine G6_9 hx hb htg hown hK hP 0 rfl dX6_lowerCosts_34 ?_
              refine lv_iload hx hb dX6_lowerCosts_37 (lv_at hl 0 rfl) ?_
              obtain ⟨g39, hf⟩ := ck_s hf
              refine xiald hx hb hK hP 1 rfl g39 dX6_lowerCosts_39 ?_
              refine lv_aload_n hx hb dX6_lowerCosts_40 rfl (lv_at hl 1 rfl) ?_
              refine G6_15 hx hb htg hown hK hP 0 rfl dX6_lowerCosts_41 ?_
              refine lv_iload hx hb dX6_lowerCosts_44 (lv_at hl 0 rfl) ?_
              obtain ⟨g46, hf⟩ := ck_s hf
              refine xiald hx hb hK hP 2 rfl g46 dX6_lowerCosts_46 ?_
              refine lv_iadd hx hb dX6_lowerCosts_47 ?_
              refine lv_aload_n hx hb dX6_lowerCosts_48 rfl (lv_at hl 1 rfl) ?_
              refine G6_15 hx hb htg hown hK hP 0 rfl dX6_lowerCosts_49 ?_
              refine lv_iload_n hx hb dX6_lowerCosts_52 rfl (lv_at hl 3 rfl) ?_
              obtain ⟨g53, hf⟩ := ck_s hf
              refine xiald hx hb hK hP 2 rfl g53 dX6_lowerCosts_53 ?_
              refine lv_icmp_ge (tgt := 80) hx hb dX6_lowerCosts_54 (by decide) (fun c54 => ?_) (fun c54 => ?_)
              · have hf := it_t c54 hf
                refine lv_iinc (v := x3 + 1) (lv' := [(3, .int (x3 + 1)), (4, .int z22), (0, .ref a0), (1, .int x1), (2, .int x2)]) hx hb dX6_lowerCosts_80 hl (k := 4) rfl rfl (by decide) rfl (fun ls hl => ?_)
                refine lv_goto (tgt := 14) hx hb dX6_lowerCosts_83 (by decide) ?_
                exact ih14 x1 x2 (x3 + 1) V2 _ _ _ hf hP hD hS (lv_sub hl [2, 3, 4, 0] rfl)
              · have hf := it_f c54 hf
                refine lv_aload_n hx hb dX6_lowerCosts_57 rfl (lv_at hl 1 rfl) ?_
                refine G6_15 hx hb htg hown hK hP 0 rfl dX6_lowerCosts_58 ?_
                refine lv_iload_n hx hb dX6_lowerCosts_61 rfl (lv_at hl 3 rfl) ?_
                refine lv_aload_n hx hb dX6_lowerCosts_62 rfl (lv_at hl 1 rfl) ?_
                refine G6_9 hx hb htg hown hK hP 0 rfl dX6_lowerCosts_63 ?_
                refine lv_iload hx hb dX6_lowerCosts_66 (lv_at hl 0 rfl) ?_
                obtain ⟨g68, hf⟩ := ck_s hf
                refine xiald hx hb hK hP 1 rfl g68 dX6_lowerCosts_68 ?_
                refine lv_aload_n hx hb dX6_lowerCosts_69 rfl (lv_at hl 1 rfl) ?_
                refine G6_15 hx hb htg hown hK hP 0 rfl dX6_lowerCosts_70 ?_
                refine lv_iload hx hb dX6_lowerCosts_73 (lv_at hl 0 rfl) ?_
                obtain ⟨g75, hf⟩ := ck_s hf
                refine xiald hx hb hK hP 2 rfl g75 dX6_lowerCosts_75 ?_
                refine lv_iadd hx hb dX6_lowerCosts_76 ?_
                obtain ⟨g77, hf⟩ := ck_s hf
                refine xiast hx hb hK hP hD hS 2 rfl g77 dX6_lowerCosts_77 (fun H locs hP hD hS => ?_)
                refine lv_iconst (v := 1) hx hb dX6_lowerCosts_78 rfl ?_
                refine lv_istore_n (lv' := [(1, .int 1), (4, .int z22), (0, .ref a0), (2, .int x2), (3, .int x3)]) hx hb dX6_lowerCosts_79 rfl hl (by decide) rfl (fun ls hl => ?_)
                refine lv_iinc (v := x3 + 1) (lv' := [(3, .int (x3 + 1)), (1, .int 1), (4, .int z22), (0, .ref a0), (2, .int x2)]) hx hb dX6_lowerCosts_80 hl (k := 4) rfl rfl (by decide) rfl (fun ls hl => ?_)
                refine lv_goto (tgt := 14) hx hb dX6_lowerCosts_83 (by decide) ?_
                exact ih14 1 x2 (x3 + 1) (upd V2 (Int32.toNatClampNeg x2) ((V1 (Int32.toNatClampNeg z22)) + (V2 (Int32.toNatClampNeg z22)))) _ _ _ hf hP hD hS (lv_sub hl [3, 1, 4, 0] rfl)
      intro x1 x2 V2 H locs ls hf hP hD hS hl
      replace hf : g_X6_lowerCosts_4 T0 V1 k4 x1 x2 V2 = some z := by rw [ek4]; exact hf
      unfold g_X6_lowerCosts_4 at hf
      refine lv_iload_n hx hb dX6_lowerCosts_4 rfl (lv_at hl 2 rfl) ?_
      refine lv_aload_n hx hb dX6_lowerCosts_5 rfl (lv_at hl 0 rfl) ?_
      refine G6_32 hx hb htg hown hK hP 0 rfl dX6_lowerCosts_6 ?_
      refine lv_icmp_ge (tgt := 92) hx hb dX6_lowerCosts_9 (by decide) (fun c9 => ?_) (fun c9 => ?_)
      · have hf := it_t c9 hf
        refine lv_iload_n hx hb dX6_lowerCosts_92 rfl (lv_at hl 1 rfl) ?_
        obtain ⟨g93, hf⟩ := ck_s hf
        exact ret (x1, V2) hf (bz_n g93).1 hP hS dX6_lowerCosts_93
      · have hf := it_f c9 hf
        refine lv_iconst (v := 0) hx hb dX6_lowerCosts_12 rfl ?_
        refine lv_istore_n (lv' := [(3, .int 0), (0, .ref a0), (1, .int x1), (2, .int x2)]) hx hb dX6_lowerCosts_13 rfl hl (by decide) rfl (fun ls hl => ?_)
        exact b14 xF x1 x2 0 V2 _ _ _ hf hP hD hS (lv_sub hl [1, 2, 3, 0] rfl)
  unfold f_X6_lowerCosts at hf
  refine lv_iconst (v := 0) hx hb dX6_lowerCosts_0 rfl ?_
  refine lv_istore_n (lv' := [(1, .int 0), (0, .ref a0)]) hx hb dX6_lowerCosts_1 rfl hl (by decide) rfl (fun ls hl => ?_)
  refine lv_iconst (v := 0) hx hb dX6_lowerCosts_2 rfl ?_
  refine lv_istore_n (lv' := [(2, .int 0), (1, .int 0), (0, .ref a0)]) hx hb dX6_lowerCosts_3 rfl hl (by decide) rfl (fun ls hl => ?_)
  exact b4 xF 0 0 V2 _ _ _ hf hP hD hS (lv_sub hl [2, 1, 0] rfl)
theorem dX6_follow_0 : decode cX6_follow 0 = .ok (.iload_n 1, 1) := by decide +kernel
theorem dX6_follow_1 : decode cX6_follow 1 = .ok (.istore_n 3, 1) := by decide +kernel
theorem dX6_follow_2 : decode cX6_follow 2 = .ok (.iconst 1, 1) := by decide +kernel
theorem dX6_follow_3 : decode cX6_follow 3 = .ok (.istore 4, 2) := by decide +kernel
theorem dX6_follow_5 : decode cX6_follow 5 = .ok (.iload 4, 2) := by decide +kernel
theorem dX6_follow_7 : decode cX6_follow 7 = .ok (.aload_n 0, 1) := by decide +kernel
theorem dX6_follow_8 : decode cX6_follow 8 = .ok (.getfield 18, 3) := by decide +kernel
theorem dX6_follow_11 : decode cX6_follow 11 = .ok (.arraylength, 1) := by decide +kernel
theorem dX6_follow_12 : decode cX6_follow 12 = .ok (.if_icmp .ge 106, 3) := by decide +kernel
theorem dX6_follow_15 : decode cX6_follow 15 = .ok (.iload_n 3, 1) := by decide +kernel
theorem dX6_follow_16 : decode cX6_follow 16 = .ok (.iload_n 2, 1) := by decide +kernel
theorem dX6_follow_17 : decode cX6_follow 17 = .ok (.if_icmp .eq 101, 3) := by decide +kernel
theorem dX6_follow_20 : decode cX6_follow 20 = .ok (.iconst (-1), 1) := by decide +kernel
theorem dX6_follow_21 : decode cX6_follow 21 = .ok (.istore 5, 2) := by decide +kernel
theorem dX6_follow_23 : decode cX6_follow 23 = .ok (.iconst 0, 1) := by decide +kernel
theorem dX6_follow_24 : decode cX6_follow 24 = .ok (.istore 6, 2) := by decide +kernel
theorem dX6_follow_26 : decode cX6_follow 26 = .ok (.iload 6, 2) := by decide +kernel
theorem dX6_follow_28 : decode cX6_follow 28 = .ok (.iconst 4, 1) := by decide +kernel
theorem dX6_follow_29 : decode cX6_follow 29 = .ok (.if_icmp .ge 58, 3) := by decide +kernel
theorem dX6_follow_32 : decode cX6_follow 32 = .ok (.iload 5, 2) := by decide +kernel
theorem dX6_follow_34 : decode cX6_follow 34 = .ok (.iconst (-1), 1) := by decide +kernel
theorem dX6_follow_35 : decode cX6_follow 35 = .ok (.if_icmp .ne 52, 3) := by decide +kernel
theorem dX6_follow_38 : decode cX6_follow 38 = .ok (.aload_n 0, 1) := by decide +kernel
theorem dX6_follow_39 : decode cX6_follow 39 = .ok (.iload_n 3, 1) := by decide +kernel
theorem dX6_follow_40 : decode cX6_follow 40 = .ok (.iload 6, 2) := by decide +kernel
theorem dX6_follow_42 : decode cX6_follow 42 = .ok (.invokevirtual 63, 3) := by decide +kernel
theorem dX6_follow_45 : decode cX6_follow 45 = .ok (.istore 7, 2) := by decide +kernel
theorem dX6_follow_47 : decode cX6_follow 47 = .ok (.iload 7, 2) := by decide +kernel
theorem dX6_follow_49 : decode cX6_follow 49 = .ok (.iconst (-1), 1) := by decide +kernel
theorem dX6_follow_50 : decode cX6_follow 50 = .ok (.if_icmp .eq 31, 3) := by decide +kernel
theorem dX6_follow_53 : decode cX6_follow 53 = .ok (.aload_n 0, 1) := by decide +kernel
theorem dX6_follow_54 : decode cX6_follow 54 = .ok (.getfield 9, 3) := by decide +kernel
theorem dX6_follow_57 : decode cX6_follow 57 = .ok (.iload 7, 2) := by decide +kernel
theorem dX6_follow_59 : decode cX6_follow 59 = .ok (.iaload, 1) := by decide +kernel
theorem dX6_follow_60 : decode cX6_follow 60 = .ok (.aload_n 0, 1) := by decide +kernel
theorem dX6_follow_61 : decode cX6_follow 61 = .ok (.getfield 15, 3) := by decide +kernel
theorem dX6_follow_64 : decode cX6_follow 64 = .ok (.iload 7, 2) := by decide +kernel
theorem dX6_follow_66 : decode cX6_follow 66 = .ok (.iaload, 1) := by decide +kernel
theorem dX6_follow_67 : decode cX6_follow 67 = .ok (.iadd, 1) := by decide +kernel
theorem dX6_follow_68 : decode cX6_follow 68 = .ok (.aload_n 0, 1) := by decide +kernel
theorem dX6_follow_69 : decode cX6_follow 69 = .ok (.getfield 15, 3) := by decide +kernel
theorem dX6_follow_72 : decode cX6_follow 72 = .ok (.iload_n 3, 1) := by decide +kernel
theorem dX6_follow_73 : decode cX6_follow 73 = .ok (.iaload, 1) := by decide +kernel
theorem dX6_follow_74 : decode cX6_follow 74 = .ok (.if_icmp .ne 7, 3) := by decide +kernel
theorem dX6_follow_77 : decode cX6_follow 77 = .ok (.iload 7, 2) := by decide +kernel
theorem dX6_follow_79 : decode cX6_follow 79 = .ok (.istore 5, 2) := by decide +kernel
theorem dX6_follow_81 : decode cX6_follow 81 = .ok (.iinc 6 1, 3) := by decide +kernel
theorem dX6_follow_84 : decode cX6_follow 84 = .ok (.goto (-58), 3) := by decide +kernel
theorem dX6_follow_87 : decode cX6_follow 87 = .ok (.iload 5, 2) := by decide +kernel
theorem dX6_follow_89 : decode cX6_follow 89 = .ok (.iconst (-1), 1) := by decide +kernel
theorem dX6_follow_90 : decode cX6_follow 90 = .ok (.if_icmp .ne 5, 3) := by decide +kernel
theorem dX6_follow_93 : decode cX6_follow 93 = .ok (.iconst 0, 1) := by decide +kernel
theorem dX6_follow_94 : decode cX6_follow 94 = .ok (.ireturn, 1) := by decide +kernel
theorem dX6_follow_95 : decode cX6_follow 95 = .ok (.iload 5, 2) := by decide +kernel
theorem dX6_follow_97 : decode cX6_follow 97 = .ok (.istore_n 3, 1) := by decide +kernel
theorem dX6_follow_98 : decode cX6_follow 98 = .ok (.aload_n 0, 1) := by decide +kernel
theorem dX6_follow_99 : decode cX6_follow 99 = .ok (.getfield 18, 3) := by decide +kernel
theorem dX6_follow_102 : decode cX6_follow 102 = .ok (.iload 4, 2) := by decide +kernel
theorem dX6_follow_104 : decode cX6_follow 104 = .ok (.iload_n 3, 1) := by decide +kernel
theorem dX6_follow_105 : decode cX6_follow 105 = .ok (.iastore, 1) := by decide +kernel
theorem dX6_follow_106 : decode cX6_follow 106 = .ok (.aload_n 0, 1) := by decide +kernel
theorem dX6_follow_107 : decode cX6_follow 107 = .ok (.iload 4, 2) := by decide +kernel
theorem dX6_follow_109 : decode cX6_follow 109 = .ok (.putfield 35, 3) := by decide +kernel
theorem dX6_follow_112 : decode cX6_follow 112 = .ok (.iinc 4 1, 3) := by decide +kernel
theorem dX6_follow_115 : decode cX6_follow 115 = .ok (.goto (-110), 3) := by decide +kernel
theorem dX6_follow_118 : decode cX6_follow 118 = .ok (.iload_n 3, 1) := by decide +kernel
theorem dX6_follow_119 : decode cX6_follow 119 = .ok (.iload_n 2, 1) := by decide +kernel
theorem dX6_follow_120 : decode cX6_follow 120 = .ok (.if_icmp .ne 7, 3) := by decide +kernel
theorem dX6_follow_123 : decode cX6_follow 123 = .ok (.iconst 1, 1) := by decide +kernel
theorem dX6_follow_124 : decode cX6_follow 124 = .ok (.goto 4, 3) := by decide +kernel
theorem dX6_follow_127 : decode cX6_follow 127 = .ok (.iconst 0, 1) := by decide +kernel
theorem dX6_follow_128 : decode cX6_follow 128 = .ok (.ireturn, 1) := by decide +kernel
set_option maxRecDepth 100000 in
theorem c_X6_follow (l : Launch) (E : xE) (a0 a1 a2 a3 : Nat) {T0 : Nat → Int32} {V1 : Nat → Int32} {V2 : Nat → Int32} {V3 : Nat → Int32} {x1 : Int32} {x2 : Int32} {z : Int32 × (Nat → Int32) × (Nat → Int32)} (hf : f_X6_follow T0 V1 V2 V3 x1 x2 = some z) (sz : Nat) : Met l yX6_follow (Cond.code yX6_follow cX6_follow 8 (some .boolean) :: gw) ({ frames := 1, cells := 0, slots := 0, locals := 24 }) (xPc E [.ref a0, .int x1, .int x2] [(a0, o6 T0 a2 a3 a1), (a1, ai E 37 V1), (a2, ai E 36 V2), (a3, ai E 36 V3)] sz) (xQi E z.1 [(a0, o6 T0 a2 a3 a1), (a1, ai E 37 V1), (a2, ai E 36 V2), (a3, ai E 36 V3)] [(a0, o6 z.2.1 a2 a3 a1), (a1, ai E 37 z.2.2), (a2, ai E 36 V2), (a3, ai E 36 V3)] sz) 0 0 (va_A [(a0, o6 T0 a2 a3 a1), (a1, ai E 37 V1), (a2, ai E 36 V2), (a3, ai E 36 V3)] sz) := by
  refine xM_i (by decide +kernel) (Nat.le_of_ble_eq_true rfl) ?_
  intro p e s m args below meth c A Q hx hb hml hown htg hK hG hA ret0 H locs ls hP hD hS hl
  have ret : ∀ (z' : Int32 × (Nat → Int32) × (Nat → Int32)) {H : Heap} {locs : List Loc} {pc : Nat} {ls : Array Slot}, some z' = some z → narrow .boolean (.int z'.1) = .int z'.1 → va_P E.1 vwCl [(a0, o6 z'.2.1 a2 a3 a1), (a1, ai E 37 z'.2.2), (a2, ai E 36 V2), (a3, ai E 36 V3)] H → va_S A s.heap H locs → decode cX6_follow pc = .ok (.ireturn, 1) → W p l e ({ frames := 1, cells := 0, slots := 0, locals := 24 } : Room) s m args below meth c H locs 0 0 Q (F0 m pc ls [.int z'.1]) := by
    intro z' H locs pc ls h
    cases h
    exact ret0
  replace hl : lv_has ls 8 [(0, .ref a0), (1, .int x1), (2, .int x2)] := hl
  have b118 : ∀ (x3 : Int32) (T0 : Nat → Int32) (V1 : Nat → Int32) (H : Heap) (locs : List Loc) (ls : Array Slot), f_X6_follow_118 V2 V3 x1 x2 x3 T0 V1 = some z → va_P E.1 vwCl [(a0, o6 T0 a2 a3 a1), (a1, ai E 37 V1), (a2, ai E 36 V2), (a3, ai E 36 V3)] H → va_D A [(a0, o6 T0 a2 a3 a1), (a1, ai E 37 V1), (a2, ai E 36 V2), (a3, ai E 36 V3)] → va_S A s.heap H locs → lv_has ls 8 [(2, .int x2), (3, .int x3)] → W p l e ({ frames := 1, cells := 0, slots := 0, locals := 24 } : Room) s m args below meth c H locs 0 0 Q (F0 m 118 ls []) := by
    intro x3 T0 V1 H locs ls hf hP hD hS hl
    unfold f_X6_follow_118 at hf
    refine lv_iload_n hx hb dX6_follow_118 rfl (lv_at hl 1 rfl) ?_
    refine lv_iload_n hx hb dX6_follow_119 rfl (lv_at hl 0 rfl) ?_
    refine lv_icmp_ne (tgt := 127) hx hb dX6_follow_120 (by decide) (fun c120 => ?_) (fun c120 => ?_)
    · have hf := it_f c120 hf
      refine lv_iconst (v := 0) hx hb dX6_follow_127 rfl ?_
      exact ret (0, T0, V1) hf nz0 hP hS dX6_follow_128
    · have hf := it_t c120 hf
      refine lv_iconst (v := 1) hx hb dX6_follow_123 rfl ?_
      refine lv_goto (tgt := 128) hx hb dX6_follow_124 (by decide) ?_
      exact ret (1, T0, V1) hf nz1 hP hS dX6_follow_128
  have b5 : ∀ (n : Nat) (x3 : Int32) (x4 : Int32) (T0 : Nat → Int32) (V1 : Nat → Int32) (H : Heap) (locs : List Loc) (ls : Array Slot), f_X6_follow_5 V2 V3 x1 x2 n x3 x4 T0 V1 = some z → va_P E.1 vwCl [(a0, o6 T0 a2 a3 a1), (a1, ai E 37 V1), (a2, ai E 36 V2), (a3, ai E 36 V3)] H → va_D A [(a0, o6 T0 a2 a3 a1), (a1, ai E 37 V1), (a2, ai E 36 V2), (a3, ai E 36 V3)] → va_S A s.heap H locs → lv_has ls 8 [(0, .ref a0), (2, .int x2), (3, .int x3), (4, .int x4)] → W p l e ({ frames := 1, cells := 0, slots := 0, locals := 24 } : Room) s m args below meth c H locs 0 0 Q (F0 m 5 ls []) := by
    intro n
    induction n with
    | zero => intro x3 x4 T0 V1 H locs ls hf; exact (nn_s hf).elim
    | succ n ih5 =>
      obtain ⟨k5, ek5⟩ : ∃ k, k = f_X6_follow_5 V2 V3 x1 x2 n := ⟨_, rfl⟩
      rw [← ek5] at ih5
      have b87 : ∀ (x4 : Int32) (x5 : Int32) (T0 : Nat → Int32) (V1 : Nat → Int32) (H : Heap) (locs : List Loc) (ls : Array Slot), f_X6_follow_87 V2 V3 x1 x2 k5 x4 x5 T0 V1 = some z → va_P E.1 vwCl [(a0, o6 T0 a2 a3 a1), (a1, ai E 37 V1), (a2, ai E 36 V2), (a3, ai E 36 V3)] H → va_D A [(a0, o6 T0 a2 a3 a1), (a1, ai E 37 V1), (a2, ai E 36 V2), (a3, ai E 36 V3)] → va_S A s.heap H locs → lv_has ls 8 [(0, .ref a0), (2, .int x2), (4, .int x4), (5, .int x5)] → W p l e ({ frames := 1, cells := 0, slots := 0, locals := 24 } : Room) s m args below meth c H locs 0 0 Q (F0 m 87 ls []) := by
        intro x4 x5 T0 V1 H locs ls hf hP hD hS hl
        unfold f_X6_follow_87 at hf
        refine lv_iload hx hb dX6_follow_87 (lv_at hl 3 rfl) ?_
        refine lv_iconst (v := (-1)) hx hb dX6_follow_89 rfl ?_
        refine lv_icmp_ne (tgt := 95) hx hb dX6_follow_90 (by decide) (fun c90 => ?_) (fun c90 => ?_)
        · have hf := it_f c90 hf
          refine lv_iload hx hb dX6_follow_95 (lv_at hl 3 rfl) ?_
          refine lv_istore_n (lv' := [(3, .int x5), (0, .ref a0), (2, .int x2), (4, .int x4), (5, .int x5)]) hx hb dX6_follow_97 rfl hl (by decide) rfl (fun ls hl => ?_)
          refine lv_aload_n hx hb dX6_follow_98 rfl (lv_at hl 1 rfl) ?_
          refine G6_18 hx hb htg hown hK hP 0 rfl dX6_follow_99 ?_
          refine lv_iload hx hb dX6_follow_102 (lv_at hl 3 rfl) ?_
          refine lv_iload_n hx hb dX6_follow_104 rfl (lv_at hl 0 rfl) ?_
          obtain ⟨g105, hf⟩ := ck_s hf
          refine xiast hx hb hK hP hD hS 1 rfl g105 dX6_follow_105 (fun H locs hP hD hS => ?_)
          refine lv_aload_n hx hb dX6_follow_106 rfl (lv_at hl 1 rfl) ?_
          refine lv_iload hx hb dX6_follow_107 (lv_at hl 3 rfl) ?_
          refine P6_35 hx hb htg hown hK hP hD hS 0 rfl dX6_follow_109 (fun H locs hP hD hS => ?_)
          refine lv_iinc (v := x4 + 1) (lv' := [(4, .int (x4 + 1)), (3, .int x5), (0, .ref a0), (2, .int x2), (5, .int x5)]) hx hb dX6_follow_112 hl (k := 3) rfl rfl (by decide) rfl (fun ls hl => ?_)
          refine lv_goto (tgt := 5) hx hb dX6_follow_115 (by decide) ?_
          exact ih5 x5 (x4 + 1) (upd T0 5 x4) (upd V1 (Int32.toNatClampNeg x4) x5) _ _ _ hf hP hD hS (lv_sub hl [2, 3, 1, 0] rfl)
        · have hf := it_t c90 hf
          refine lv_iconst (v := 0) hx hb dX6_follow_93 rfl ?_
          exact ret (0, T0, V1) hf nz0 hP hS dX6_follow_94
      have b26 : ∀ (n : Nat) (x3 : Int32) (x4 : Int32) (x5 : Int32) (x6 : Int32) (T0 : Nat → Int32) (V1 : Nat → Int32) (H : Heap) (locs : List Loc) (ls : Array Slot), f_X6_follow_26 V2 V3 x1 x2 k5 n x3 x4 x5 x6 T0 V1 = some z → va_P E.1 vwCl [(a0, o6 T0 a2 a3 a1), (a1, ai E 37 V1), (a2, ai E 36 V2), (a3, ai E 36 V3)] H → va_D A [(a0, o6 T0 a2 a3 a1), (a1, ai E 37 V1), (a2, ai E 36 V2), (a3, ai E 36 V3)] → va_S A s.heap H locs → lv_has ls 8 [(0, .ref a0), (2, .int x2), (3, .int x3), (4, .int x4), (5, .int x5), (6, .int x6)] → W p l e ({ frames := 1, cells := 0, slots := 0, locals := 24 } : Room) s m args below meth c H locs 0 0 Q (F0 m 26 ls []) := by
        intro n
        induction n with
        | zero => intro x3 x4 x5 x6 T0 V1 H locs ls hf; exact (nn_s hf).elim
        | succ n ih26 =>
          obtain ⟨k26, ek26⟩ : ∃ k, k = f_X6_follow_26 V2 V3 x1 x2 k5 n := ⟨_, rfl⟩
          rw [← ek26] at ih26
          intro x3 x4 x5 x6 T0 V1 H locs ls hf hP hD hS hl
          replace hf : g_X6_follow_26 V2 V3 x1 x2 k5 k26 x3 x4 x5 x6 T0 V1 = some z := by rw [ek26]; exact hf
          unfold g_X6_follow_26 at hf
          refine lv_iload hx hb dX6_follow_26 (lv_at hl 5 rfl) ?_
          refine lv_iconst (v := 4) hx hb dX6_follow_28 rfl ?_
          refine lv_icmp_ge (tgt := 87) hx hb dX6_follow_29 (by decide) (fun c29 => ?_) (fun c29 => ?_)
          · have hf := it_t c29 hf
            exact b87 x4 x5 T0 V1 _ _ _ hf hP hD hS (lv_sub hl [0, 1, 3, 4] rfl)
          · have hf := it_f c29 hf
            refine lv_iload hx hb dX6_follow_32 (lv_at hl 4 rfl) ?_
            refine lv_iconst (v := (-1)) hx hb dX6_follow_34 rfl ?_
            refine lv_icmp_ne (tgt := 87) hx hb dX6_follow_35 (by decide) (fun c35 => ?_) (fun c35 => ?_)
            · have hf := it_f c35 hf
              exact b87 x4 x5 T0 V1 _ _ _ hf hP hD hS (lv_sub hl [0, 1, 3, 4] rfl)
            · have hf := it_t c35 hf
              refine lv_aload_n hx hb dX6_follow_38 rfl (lv_at hl 0 rfl) ?_
              refine lv_iload_n hx hb dX6_follow_39 rfl (lv_at hl 2 rfl) ?_
              refine lv_iload hx hb dX6_follow_40 (lv_at hl 5 rfl) ?_
              obtain ⟨z42, hz42, hf⟩ := bind_s hf
              refine xV_ir hx hb hml hown htg L6_63 (c_X6_neighbour l E a0 hz42 _) ⟨⟨rfl, rfl⟩, Nat.le_of_ble_eq_true rfl, Nat.le_of_ble_eq_true rfl⟩ hK hG hA hP hD hS (is := [0]) rfl rfl (xrecv hK hP (q0 := 0) (ci := 6) rfl rfl) rfl hl.1 rfl (Nat.le_of_ble_eq_true rfl) dX6_follow_42 (fun H locs hP hD hS => ?_)
              refine lv_istore (lv' := [(7, .int z42), (0, .ref a0), (2, .int x2), (3, .int x3), (4, .int x4), (5, .int x5), (6, .int x6)]) hx hb dX6_follow_45 hl (by decide) rfl (fun ls hl => ?_)
              refine lv_iload hx hb dX6_follow_47 (lv_at hl 0 rfl) ?_
              refine lv_iconst (v := (-1)) hx hb dX6_follow_49 rfl ?_
              refine lv_icmp_eq (tgt := 81) hx hb dX6_follow_50 (by decide) (fun c50 => ?_) (fun c50 => ?_)
              · have hf := it_t c50 hf
                refine lv_iinc (v := x6 + 1) (lv' := [(6, .int (x6 + 1)), (7, .int z42), (0, .ref a0), (2, .int x2), (3, .int x3), (4, .int x4), (5, .int x5)]) hx hb dX6_follow_81 hl (k := 6) rfl rfl (by decide) rfl (fun ls hl => ?_)
                refine lv_goto (tgt := 26) hx hb dX6_follow_84 (by decide) ?_
                exact ih26 x3 x4 x5 (x6 + 1) T0 V1 _ _ _ hf hP hD hS (lv_sub hl [2, 3, 4, 5, 6, 0] rfl)
              · have hf := it_f c50 hf
                refine lv_aload_n hx hb dX6_follow_53 rfl (lv_at hl 1 rfl) ?_
                refine G6_9 hx hb htg hown hK hP 0 rfl dX6_follow_54 ?_
                refine lv_iload hx hb dX6_follow_57 (lv_at hl 0 rfl) ?_
                obtain ⟨g59, hf⟩ := ck_s hf
                refine xiald hx hb hK hP 2 rfl g59 dX6_follow_59 ?_
                refine lv_aload_n hx hb dX6_follow_60 rfl (lv_at hl 1 rfl) ?_
                refine G6_15 hx hb htg hown hK hP 0 rfl dX6_follow_61 ?_
                refine lv_iload hx hb dX6_follow_64 (lv_at hl 0 rfl) ?_
                obtain ⟨g66, hf⟩ := ck_s hf
                refine xiald hx hb hK hP 3 rfl g66 dX6_follow_66 ?_
                refine lv_iadd hx hb dX6_follow_67 ?_
                refine lv_aload_n hx hb dX6_follow_68 rfl (lv_at hl 1 rfl) ?_
                refine G6_15 hx hb htg hown hK hP 0 rfl dX6_follow_69 ?_
                refine lv_iload_n hx hb dX6_follow_72 rfl (lv_at hl 3 rfl) ?_
                obtain ⟨g73, hf⟩ := ck_s hf
                refine xiald hx hb hK hP 3 rfl g73 dX6_follow_73 ?_
                refine lv_icmp_ne (tgt := 81) hx hb dX6_follow_74 (by decide) (fun c74 => ?_) (fun c74 => ?_)
                · have hf := it_f c74 hf
                  refine lv_iinc (v := x6 + 1) (lv' := [(6, .int (x6 + 1)), (7, .int z42), (0, .ref a0), (2, .int x2), (3, .int x3), (4, .int x4), (5, .int x5)]) hx hb dX6_follow_81 hl (k := 6) rfl rfl (by decide) rfl (fun ls hl => ?_)
                  refine lv_goto (tgt := 26) hx hb dX6_follow_84 (by decide) ?_
                  exact ih26 x3 x4 x5 (x6 + 1) T0 V1 _ _ _ hf hP hD hS (lv_sub hl [2, 3, 4, 5, 6, 0] rfl)
                · have hf := it_t c74 hf
                  refine lv_iload hx hb dX6_follow_77 (lv_at hl 0 rfl) ?_
                  refine lv_istore (lv' := [(5, .int z42), (7, .int z42), (0, .ref a0), (2, .int x2), (3, .int x3), (4, .int x4), (6, .int x6)]) hx hb dX6_follow_79 hl (by decide) rfl (fun ls hl => ?_)
                  refine lv_iinc (v := x6 + 1) (lv' := [(6, .int (x6 + 1)), (5, .int z42), (7, .int z42), (0, .ref a0), (2, .int x2), (3, .int x3), (4, .int x4)]) hx hb dX6_follow_81 hl (k := 6) rfl rfl (by decide) rfl (fun ls hl => ?_)
                  refine lv_goto (tgt := 26) hx hb dX6_follow_84 (by decide) ?_
                  exact ih26 x3 x4 z42 (x6 + 1) T0 V1 _ _ _ hf hP hD hS (lv_sub hl [3, 4, 5, 6, 1, 0] rfl)
      intro x3 x4 T0 V1 H locs ls hf hP hD hS hl
      replace hf : g_X6_follow_5 V2 V3 x1 x2 k5 x3 x4 T0 V1 = some z := by rw [ek5]; exact hf
      unfold g_X6_follow_5 at hf
      refine lv_iload hx hb dX6_follow_5 (lv_at hl 3 rfl) ?_
      refine lv_aload_n hx hb dX6_follow_7 rfl (lv_at hl 0 rfl) ?_
      refine G6_18 hx hb htg hown hK hP 0 rfl dX6_follow_8 ?_
      refine va_alen (v := 37) hx hb hK hP 1 1 rfl rfl rfl dX6_follow_11 ?_
      refine lv_icmp_ge (tgt := 118) hx hb dX6_follow_12 (by decide) (fun c12 => ?_) (fun c12 => ?_)
      · have hf := it_t c12 hf
        exact b118 x3 T0 V1 _ _ _ hf hP hD hS (lv_sub hl [1, 2] rfl)
      · have hf := it_f c12 hf
        refine lv_iload_n hx hb dX6_follow_15 rfl (lv_at hl 2 rfl) ?_
        refine lv_iload_n hx hb dX6_follow_16 rfl (lv_at hl 1 rfl) ?_
        refine lv_icmp_eq (tgt := 118) hx hb dX6_follow_17 (by decide) (fun c17 => ?_) (fun c17 => ?_)
        · have hf := it_t c17 hf
          exact b118 x3 T0 V1 _ _ _ hf hP hD hS (lv_sub hl [1, 2] rfl)
        · have hf := it_f c17 hf
          refine lv_iconst (v := (-1)) hx hb dX6_follow_20 rfl ?_
          refine lv_istore (lv' := [(5, .int (-1)), (0, .ref a0), (2, .int x2), (3, .int x3), (4, .int x4)]) hx hb dX6_follow_21 hl (by decide) rfl (fun ls hl => ?_)
          refine lv_iconst (v := 0) hx hb dX6_follow_23 rfl ?_
          refine lv_istore (lv' := [(6, .int 0), (5, .int (-1)), (0, .ref a0), (2, .int x2), (3, .int x3), (4, .int x4)]) hx hb dX6_follow_24 hl (by decide) rfl (fun ls hl => ?_)
          exact b26 xF x3 x4 (-1) 0 T0 V1 _ _ _ hf hP hD hS (lv_sub hl [2, 3, 4, 5, 1, 0] rfl)
  unfold f_X6_follow at hf
  refine lv_iload_n hx hb dX6_follow_0 rfl (lv_at hl 1 rfl) ?_
  refine lv_istore_n (lv' := [(3, .int x1), (0, .ref a0), (1, .int x1), (2, .int x2)]) hx hb dX6_follow_1 rfl hl (by decide) rfl (fun ls hl => ?_)
  refine lv_iconst (v := 1) hx hb dX6_follow_2 rfl ?_
  refine lv_istore (lv' := [(4, .int 1), (3, .int x1), (0, .ref a0), (1, .int x1), (2, .int x2)]) hx hb dX6_follow_3 hl (by decide) rfl (fun ls hl => ?_)
  exact b5 xF x1 1 T0 V1 _ _ _ hf hP hD hS (lv_sub hl [2, 4, 1, 0] rfl)
theorem dX6_find_0 : decode cX6_find 0 = .ok (.aload_n 0, 1) := by decide +kernel
theorem dX6_find_1 : decode cX6_find 1 = .ok (.aload_n 1, 1) := by decide +kernel
theorem dX6_find_2 : decode cX6_find 2 = .ok (.getfield 21, 3) := by decide +kernel
theorem dX6_find_5 : decode cX6_find 5 = .ok (.putfield 27, 3) := by decide +kernel
theorem dX6_find_8 : decode cX6_find 8 = .ok (.aload_n 0, 1) := by decide +kernel
theorem dX6_find_9 : decode cX6_find 9 = .ok (.aload_n 1, 1) := by decide +kernel
theorem dX6_find_10 : decode cX6_find 10 = .ok (.invokevirtual 28, 3) := by decide +kernel
theorem dX6_find_13 : decode cX6_find 13 = .ok (.putfield 32, 3) := by decide +kernel
theorem dX6_find_16 : decode cX6_find 16 = .ok (.aload_n 0, 1) := by decide +kernel
theorem dX6_find_17 : decode cX6_find 17 = .ok (.iconst 0, 1) := by decide +kernel
theorem dX6_find_18 : decode cX6_find 18 = .ok (.putfield 35, 3) := by decide +kernel
theorem dX6_find_21 : decode cX6_find 21 = .ok (.aload_n 0, 1) := by decide +kernel
theorem dX6_find_22 : decode cX6_find 22 = .ok (.getfield 18, 3) := by decide +kernel
theorem dX6_find_25 : decode cX6_find 25 = .ok (.iconst 0, 1) := by decide +kernel
theorem dX6_find_26 : decode cX6_find 26 = .ok (.aload_n 1, 1) := by decide +kernel
theorem dX6_find_27 : decode cX6_find 27 = .ok (.getfield 38, 3) := by decide +kernel
theorem dX6_find_30 : decode cX6_find 30 = .ok (.iastore, 1) := by decide +kernel
theorem dX6_find_31 : decode cX6_find 31 = .ok (.aload_n 1, 1) := by decide +kernel
theorem dX6_find_32 : decode cX6_find 32 = .ok (.iload_n 3, 1) := by decide +kernel
theorem dX6_find_33 : decode cX6_find 33 = .ok (.invokevirtual 41, 3) := by decide +kernel
theorem dX6_find_36 : decode cX6_find 36 = .ok (.ifCond .eq 14, 3) := by decide +kernel
theorem dX6_find_39 : decode cX6_find 39 = .ok (.aload_n 1, 1) := by decide +kernel
theorem dX6_find_40 : decode cX6_find 40 = .ok (.aload_n 1, 1) := by decide +kernel
theorem dX6_find_41 : decode cX6_find 41 = .ok (.getfield 38, 3) := by decide +kernel
theorem dX6_find_44 : decode cX6_find 44 = .ok (.invokevirtual 41, 3) := by decide +kernel
theorem dX6_find_47 : decode cX6_find 47 = .ok (.ifCond .ne 5, 3) := by decide +kernel
theorem dX6_find_50 : decode cX6_find 50 = .ok (.iconst 0, 1) := by decide +kernel
theorem dX6_find_51 : decode cX6_find 51 = .ok (.ireturn, 1) := by decide +kernel
theorem dX6_find_52 : decode cX6_find 52 = .ok (.iconst 0, 1) := by decide +kernel
theorem dX6_find_53 : decode cX6_find 53 = .ok (.istore 4, 2) := by decide +kernel
theorem dX6_find_55 : decode cX6_find 55 = .ok (.iload 4, 2) := by decide +kernel
theorem dX6_find_57 : decode cX6_find 57 = .ok (.aload_n 0, 1) := by decide +kernel
theorem dX6_find_58 : decode cX6_find 58 = .ok (.getfield 32, 3) := by decide +kernel
theorem dX6_find_61 : decode cX6_find 61 = .ok (.if_icmp .ge 63, 3) := by decide +kernel
theorem dX6_find_64 : decode cX6_find 64 = .ok (.aload_n 2, 1) := by decide +kernel
theorem dX6_find_65 : decode cX6_find 65 = .ok (.iload 4, 2) := by decide +kernel
theorem dX6_find_67 : decode cX6_find 67 = .ok (.invokevirtual 45, 3) := by decide +kernel
theorem dX6_find_70 : decode cX6_find 70 = .ok (.iconst 1, 1) := by decide +kernel
theorem dX6_find_71 : decode cX6_find 71 = .ok (.if_icmp .ne 7, 3) := by decide +kernel
theorem dX6_find_74 : decode cX6_find 74 = .ok (.iconst 1, 1) := by decide +kernel
theorem dX6_find_75 : decode cX6_find 75 = .ok (.goto 4, 3) := by decide +kernel
theorem dX6_find_78 : decode cX6_find 78 = .ok (.iconst 0, 1) := by decide +kernel
theorem dX6_find_79 : decode cX6_find 79 = .ok (.istore 5, 2) := by decide +kernel
theorem dX6_find_81 : decode cX6_find 81 = .ok (.aload_n 0, 1) := by decide +kernel
theorem dX6_find_82 : decode cX6_find 82 = .ok (.getfield 9, 3) := by decide +kernel
theorem dX6_find_85 : decode cX6_find 85 = .ok (.iload 4, 2) := by decide +kernel
theorem dX6_find_87 : decode cX6_find 87 = .ok (.iload 5, 2) := by decide +kernel
theorem dX6_find_89 : decode cX6_find 89 = .ok (.ifCond .eq 8, 3) := by decide +kernel
theorem dX6_find_92 : decode cX6_find 92 = .ok (.ldc 51, 2) := by decide +kernel
theorem dX6_find_94 : decode cX6_find 94 = .ok (.goto 14, 3) := by decide +kernel
theorem dX6_find_97 : decode cX6_find 97 = .ok (.aload_n 2, 1) := by decide +kernel
theorem dX6_find_98 : decode cX6_find 98 = .ok (.iload 4, 2) := by decide +kernel
theorem dX6_find_100 : decode cX6_find 100 = .ok (.invokevirtual 52, 3) := by decide +kernel
theorem dX6_find_103 : decode cX6_find 103 = .ok (.bipush 64, 2) := by decide +kernel
theorem dX6_find_105 : decode cX6_find 105 = .ok (.imul, 1) := by decide +kernel
theorem dX6_find_106 : decode cX6_find 106 = .ok (.iconst 1, 1) := by decide +kernel
theorem dX6_find_107 : decode cX6_find 107 = .ok (.iadd, 1) := by decide +kernel
theorem dX6_find_108 : decode cX6_find 108 = .ok (.iastore, 1) := by decide +kernel
theorem dX6_find_109 : decode cX6_find 109 = .ok (.aload_n 0, 1) := by decide +kernel
theorem dX6_find_110 : decode cX6_find 110 = .ok (.getfield 15, 3) := by decide +kernel
theorem dX6_find_113 : decode cX6_find 113 = .ok (.iload 4, 2) := by decide +kernel
theorem dX6_find_115 : decode cX6_find 115 = .ok (.ldc 51, 2) := by decide +kernel
theorem dX6_find_117 : decode cX6_find 117 = .ok (.iastore, 1) := by decide +kernel
theorem dX6_find_118 : decode cX6_find 118 = .ok (.iinc 4 1, 3) := by decide +kernel
theorem dX6_find_121 : decode cX6_find 121 = .ok (.goto (-66), 3) := by decide +kernel
theorem dX6_find_124 : decode cX6_find 124 = .ok (.aload_n 0, 1) := by decide +kernel
theorem dX6_find_125 : decode cX6_find 125 = .ok (.getfield 15, 3) := by decide +kernel
theorem dX6_find_128 : decode cX6_find 128 = .ok (.iload_n 3, 1) := by decide +kernel
theorem dX6_find_129 : decode cX6_find 129 = .ok (.iconst 0, 1) := by decide +kernel
theorem dX6_find_130 : decode cX6_find 130 = .ok (.iastore, 1) := by decide +kernel
theorem dX6_find_131 : decode cX6_find 131 = .ok (.iconst 1, 1) := by decide +kernel
theorem dX6_find_132 : decode cX6_find 132 = .ok (.istore 4, 2) := by decide +kernel
theorem dX6_find_134 : decode cX6_find 134 = .ok (.iconst 0, 1) := by decide +kernel
theorem dX6_find_135 : decode cX6_find 135 = .ok (.istore 5, 2) := by decide +kernel
theorem dX6_find_137 : decode cX6_find 137 = .ok (.iload 5, 2) := by decide +kernel
theorem dX6_find_139 : decode cX6_find 139 = .ok (.aload_n 0, 1) := by decide +kernel
theorem dX6_find_140 : decode cX6_find 140 = .ok (.getfield 32, 3) := by decide +kernel
theorem dX6_find_143 : decode cX6_find 143 = .ok (.if_icmp .gt 20, 3) := by decide +kernel
theorem dX6_find_146 : decode cX6_find 146 = .ok (.iload 4, 2) := by decide +kernel
theorem dX6_find_148 : decode cX6_find 148 = .ok (.ifCond .eq 15, 3) := by decide +kernel
theorem dX6_find_151 : decode cX6_find 151 = .ok (.aload_n 0, 1) := by decide +kernel
theorem dX6_find_152 : decode cX6_find 152 = .ok (.invokevirtual 55, 3) := by decide +kernel
theorem dX6_find_155 : decode cX6_find 155 = .ok (.istore 4, 2) := by decide +kernel
theorem dX6_find_157 : decode cX6_find 157 = .ok (.iinc 5 1, 3) := by decide +kernel
theorem dX6_find_160 : decode cX6_find 160 = .ok (.goto (-23), 3) := by decide +kernel
theorem dX6_find_163 : decode cX6_find 163 = .ok (.aload_n 0, 1) := by decide +kernel
theorem dX6_find_164 : decode cX6_find 164 = .ok (.getfield 15, 3) := by decide +kernel
theorem dX6_find_167 : decode cX6_find 167 = .ok (.aload_n 1, 1) := by decide +kernel
theorem dX6_find_168 : decode cX6_find 168 = .ok (.getfield 38, 3) := by decide +kernel
theorem dX6_find_171 : decode cX6_find 171 = .ok (.iaload, 1) := by decide +kernel
theorem dX6_find_172 : decode cX6_find 172 = .ok (.ldc 51, 2) := by decide +kernel
theorem dX6_find_174 : decode cX6_find 174 = .ok (.if_icmp .ge 19, 3) := by decide +kernel
theorem dX6_find_177 : decode cX6_find 177 = .ok (.aload_n 0, 1) := by decide +kernel
theorem dX6_find_178 : decode cX6_find 178 = .ok (.aload_n 1, 1) := by decide +kernel
theorem dX6_find_179 : decode cX6_find 179 = .ok (.getfield 38, 3) := by decide +kernel
theorem dX6_find_182 : decode cX6_find 182 = .ok (.iload_n 3, 1) := by decide +kernel
theorem dX6_find_183 : decode cX6_find 183 = .ok (.invokevirtual 59, 3) := by decide +kernel
theorem dX6_find_186 : decode cX6_find 186 = .ok (.ifCond .eq 7, 3) := by decide +kernel
theorem dX6_find_189 : decode cX6_find 189 = .ok (.iconst 1, 1) := by decide +kernel
theorem dX6_find_190 : decode cX6_find 190 = .ok (.goto 4, 3) := by decide +kernel
theorem dX6_find_193 : decode cX6_find 193 = .ok (.iconst 0, 1) := by decide +kernel
theorem dX6_find_194 : decode cX6_find 194 = .ok (.ireturn, 1) := by decide +kernel
set_option maxRecDepth 100000 in
theorem c_X6_find (l : Launch) (E : xE) (a0 a1 a2 a3 a4 a5 a6 : Nat) {T0 : Nat → Int32} {T1 : Nat → Int32} {V3 : Nat → Int32} {V4 : Nat → Int32} {V5 : Nat → Int32} {V6 : Nat → Int32} {u1_7 u1_8 u1_9 u1_10 u1_11 u1_12 u1_13 u1_14 : Nat} {x3 : Int32} {z : Int32 × (Nat → Int32) × (Nat → Int32) × (Nat → Int32) × (Nat → Int32)} (hf : f_X6_find T0 T1 V3 V4 V5 V6 x3 = some z) (sz : Nat) : Met l yX6_find (Cond.code yX6_find cX6_find 6 (some .boolean) :: gw) ({ frames := 2, cells := 0, slots := 0, locals := 51 }) (xPc E [.ref a0, .ref a1, .ref a2, .int x3] [(a0, o6 T0 a6 a4 a3), (a1, o3 T1 u1_7 u1_8 u1_9 u1_10 u1_11 u1_12 u1_13 u1_14), (a2, o7 a5), (a3, ai E 37 V3), (a4, ai E 36 V4), (a5, ai E 144 V5), (a6, ai E 36 V6)] sz) (xQi E z.1 [(a0, o6 T0 a6 a4 a3), (a1, o3 T1 u1_7 u1_8 u1_9 u1_10 u1_11 u1_12 u1_13 u1_14), (a2, o7 a5), (a3, ai E 37 V3), (a4, ai E 36 V4), (a5, ai E 144 V5), (a6, ai E 36 V6)] [(a0, o6 z.2.1 a6 a4 a3), (a1, o3 T1 u1_7 u1_8 u1_9 u1_10 u1_11 u1_12 u1_13 u1_14), (a2, o7 a5), (a3, ai E 37 z.2.2.1), (a4, ai E 36 z.2.2.2.1), (a5, ai E 144 V5), (a6, ai E 36 z.2.2.2.2)] sz) 0 0 (va_A [(a0, o6 T0 a6 a4 a3), (a1, o3 T1 u1_7 u1_8 u1_9 u1_10 u1_11 u1_12 u1_13 u1_14), (a2, o7 a5), (a3, ai E 37 V3), (a4, ai E 36 V4), (a5, ai E 144 V5), (a6, ai E 36 V6)] sz) := by
  refine xM_i (by decide +kernel) (Nat.le_of_ble_eq_true rfl) ?_
  intro p e s m args below meth c A Q hx hb hml hown htg hK hG hA ret0 H locs ls hP hD hS hl
  have ret : ∀ (z' : Int32 × (Nat → Int32) × (Nat → Int32) × (Nat → Int32) × (Nat → Int32)) {H : Heap} {locs : List Loc} {pc : Nat} {ls : Array Slot}, some z' = some z → narrow .boolean (.int z'.1) = .int z'.1 → va_P E.1 vwCl [(a0, o6 z'.2.1 a6 a4 a3), (a1, o3 T1 u1_7 u1_8 u1_9 u1_10 u1_11 u1_12 u1_13 u1_14), (a2, o7 a5), (a3, ai E 37 z'.2.2.1), (a4, ai E 36 z'.2.2.2.1), (a5, ai E 144 V5), (a6, ai E 36 z'.2.2.2.2)] H → va_S A s.heap H locs → decode cX6_find pc = .ok (.ireturn, 1) → W p l e ({ frames := 2, cells := 0, slots := 0, locals := 51 } : Room) s m args below meth c H locs 0 0 Q (F0 m pc ls [.int z'.1]) := by
    intro z' H locs pc ls h
    cases h
    exact ret0
  replace hl : lv_has ls 6 [(0, .ref a0), (1, .ref a1), (2, .ref a2), (3, .int x3)] := hl
  have b163 : ∀ (T0 : Nat → Int32) (V3 : Nat → Int32) (V4 : Nat → Int32) (V6 : Nat → Int32) (H : Heap) (locs : List Loc) (ls : Array Slot), f_X6_find_163 T1 V5 x3 T0 V3 V4 V6 = some z → va_P E.1 vwCl [(a0, o6 T0 a6 a4 a3), (a1, o3 T1 u1_7 u1_8 u1_9 u1_10 u1_11 u1_12 u1_13 u1_14), (a2, o7 a5), (a3, ai E 37 V3), (a4, ai E 36 V4), (a5, ai E 144 V5), (a6, ai E 36 V6)] H → va_D A [(a0, o6 T0 a6 a4 a3), (a1, o3 T1 u1_7 u1_8 u1_9 u1_10 u1_11 u1_12 u1_13 u1_14), (a2, o7 a5), (a3, ai E 37 V3), (a4, ai E 36 V4), (a5, ai E 144 V5), (a6, ai E 36 V6)] → va_S A s.heap H locs → lv_has ls 6 [(0, .ref a0), (1, .ref a1), (3, .int x3)] → W p l e ({ frames := 2, cells := 0, slots := 0, locals := 51 } : Room) s m args below meth c H locs 0 0 Q (F0 m 163 ls []) := by
    intro T0 V3 V4 V6 H locs ls hf hP hD hS hl
    unfold f_X6_find_163 at hf
    refine lv_aload_n hx hb dX6_find_163 rfl (lv_at hl 0 rfl) ?_
    refine G6_15 hx hb htg hown hK hP 0 rfl dX6_find_164 ?_
    refine lv_aload_n hx hb dX6_find_167 rfl (lv_at hl 1 rfl) ?_
    refine G6_38 hx hb htg hown hK hP 1 rfl dX6_find_168 ?_
    obtain ⟨g171, hf⟩ := ck_s hf
    refine xiald hx hb hK hP 4 rfl g171 dX6_find_171 ?_
    refine lv_ldc hx hb hown (htg _ (gw_t (tb5 170 rfl) rfl)) dX6_find_172 ?_
    refine lv_icmp_ge (tgt := 193) hx hb dX6_find_174 (by decide) (fun c174 => ?_) (fun c174 => ?_)
    · have hf := it_t c174 hf
      refine lv_iconst (v := 0) hx hb dX6_find_193 rfl ?_
      exact ret (0, T0, V3, V4, V6) hf nz0 hP hS dX6_find_194
    · have hf := it_f c174 hf
      refine lv_aload_n hx hb dX6_find_177 rfl (lv_at hl 0 rfl) ?_
      refine lv_aload_n hx hb dX6_find_178 rfl (lv_at hl 1 rfl) ?_
      refine G6_38 hx hb htg hown hK hP 1 rfl dX6_find_179 ?_
      refine lv_iload_n hx hb dX6_find_182 rfl (lv_at hl 2 rfl) ?_
      obtain ⟨z183, hz183, hf⟩ := bind_s hf
      refine xV_iu hx hb hml hown htg L6_59 (c_X6_follow l E a0 a3 a6 a4 hz183 _) ⟨⟨rfl, rfl⟩, Nat.le_of_ble_eq_true rfl, Nat.le_of_ble_eq_true rfl⟩ hK hG hA hP hD hS (is := [0, 3, 6, 4]) (sel := [some 0, none, none, some 1, some 3, none, some 2]) (ws2 := [(a0, o6 z183.2.1 a6 a4 a3), (a1, o3 T1 u1_7 u1_8 u1_9 u1_10 u1_11 u1_12 u1_13 u1_14), (a2, o7 a5), (a3, ai E 37 z183.2.2), (a4, ai E 36 V4), (a5, ai E 144 V5), (a6, ai E 36 V6)]) rfl rfl rfl rfl rfl (xrecv hK hP (q0 := 0) (ci := 6) rfl rfl) rfl hl.1 rfl (Nat.le_of_ble_eq_true rfl) dX6_find_183 (fun H locs hP hD hS => ?_)
      refine lv_if_eq (tgt := 193) hx hb dX6_find_186 (by decide) (fun c186 => ?_) (fun c186 => ?_)
      · have hf := it_t c186 hf
        refine lv_iconst (v := 0) hx hb dX6_find_193 rfl ?_
        exact ret (0, z183.2.1, z183.2.2, V4, V6) hf nz0 hP hS dX6_find_194
      · have hf := it_f c186 hf
        refine lv_iconst (v := 1) hx hb dX6_find_189 rfl ?_
        refine lv_goto (tgt := 194) hx hb dX6_find_190 (by decide) ?_
        exact ret (1, z183.2.1, z183.2.2, V4, V6) hf nz1 hP hS dX6_find_194
  have b137 : ∀ (n : Nat) (x4 : Int32) (x5 : Int32) (T0 : Nat → Int32) (V3 : Nat → Int32) (V4 : Nat → Int32) (V6 : Nat → Int32) (H : Heap) (locs : List Loc) (ls : Array Slot), f_X6_find_137 T1 V5 x3 n x4 x5 T0 V3 V4 V6 = some z → va_P E.1 vwCl [(a0, o6 T0 a6 a4 a3), (a1, o3 T1 u1_7 u1_8 u1_9 u1_10 u1_11 u1_12 u1_13 u1_14), (a2, o7 a5), (a3, ai E 37 V3), (a4, ai E 36 V4), (a5, ai E 144 V5), (a6, ai E 36 V6)] H → va_D A [(a0, o6 T0 a6 a4 a3), (a1, o3 T1 u1_7 u1_8 u1_9 u1_10 u1_11 u1_12 u1_13 u1_14), (a2, o7 a5), (a3, ai E 37 V3), (a4, ai E 36 V4), (a5, ai E 144 V5), (a6, ai E 36 V6)] → va_S A s.heap H locs → lv_has ls 6 [(0, .ref a0), (1, .ref a1), (3, .int x3), (4, .int x4), (5, .int x5)] → W p l e ({ frames := 2, cells := 0, slots := 0, locals := 51 } : Room) s m args below meth c H locs 0 0 Q (F0 m 137 ls []) := by
    intro n
    induction n with
    | zero => intro x4 x5 T0 V3 V4 V6 H locs ls hf; exact (nn_s hf).elim
    | succ n ih137 =>
      obtain ⟨k137, ek137⟩ : ∃ k, k = f_X6_find_137 T1 V5 x3 n := ⟨_, rfl⟩
      rw [← ek137] at ih137
      intro x4 x5 T0 V3 V4 V6 H locs ls hf hP hD hS hl
      replace hf : g_X6_find_137 T1 V5 x3 k137 x4 x5 T0 V3 V4 V6 = some z := by rw [ek137]; exact hf
      unfold g_X6_find_137 at hf
      refine lv_iload hx hb dX6_find_137 (lv_at hl 4 rfl) ?_
      refine lv_aload_n hx hb dX6_find_139 rfl (lv_at hl 0 rfl) ?_
      refine G6_32 hx hb htg hown hK hP 0 rfl dX6_find_140 ?_
      refine lv_icmp_gt (tgt := 163) hx hb dX6_find_143 (by decide) (fun c143 => ?_) (fun c143 => ?_)
      · have hf := it_t c143 hf
        exact b163 T0 V3 V4 V6 _ _ _ hf hP hD hS (lv_sub hl [0, 1, 2] rfl)
      · have hf := it_f c143 hf
        refine lv_iload hx hb dX6_find_146 (lv_at hl 3 rfl) ?_
        refine lv_if_eq (tgt := 163) hx hb dX6_find_148 (by decide) (fun c148 => ?_) (fun c148 => ?_)
        · have hf := it_t c148 hf
          exact b163 T0 V3 V4 V6 _ _ _ hf hP hD hS (lv_sub hl [0, 1, 2] rfl)
        · have hf := it_f c148 hf
          refine lv_aload_n hx hb dX6_find_151 rfl (lv_at hl 0 rfl) ?_
          obtain ⟨z152, hz152, hf⟩ := bind_s hf
          refine xV_iu hx hb hml hown htg L6_55 (c_X6_lowerCosts l E a0 a6 a4 hz152 _) ⟨⟨rfl, rfl⟩, Nat.le_of_ble_eq_true rfl, Nat.le_of_ble_eq_true rfl⟩ hK hG hA hP hD hS (is := [0, 6, 4]) (sel := [some 0, none, none, none, some 2, none, some 1]) (ws2 := [(a0, o6 T0 a6 a4 a3), (a1, o3 T1 u1_7 u1_8 u1_9 u1_10 u1_11 u1_12 u1_13 u1_14), (a2, o7 a5), (a3, ai E 37 V3), (a4, ai E 36 z152.2), (a5, ai E 144 V5), (a6, ai E 36 V6)]) rfl rfl rfl rfl rfl (xrecv hK hP (q0 := 0) (ci := 6) rfl rfl) rfl hl.1 rfl (Nat.le_of_ble_eq_true rfl) dX6_find_152 (fun H locs hP hD hS => ?_)
          refine lv_istore (lv' := [(4, .int z152.1), (0, .ref a0), (1, .ref a1), (3, .int x3), (5, .int x5)]) hx hb dX6_find_155 hl (by decide) rfl (fun ls hl => ?_)
          refine lv_iinc (v := x5 + 1) (lv' := [(5, .int (x5 + 1)), (4, .int z152.1), (0, .ref a0), (1, .ref a1), (3, .int x3)]) hx hb dX6_find_157 hl (k := 4) rfl rfl (by decide) rfl (fun ls hl => ?_)
          refine lv_goto (tgt := 137) hx hb dX6_find_160 (by decide) ?_
          exact ih137 z152.1 (x5 + 1) T0 V3 z152.2 V6 _ _ _ hf hP hD hS (lv_sub hl [2, 3, 4, 1, 0] rfl)
  have b55 : ∀ (n : Nat) (x4 : Int32) (T0 : Nat → Int32) (V3 : Nat → Int32) (V4 : Nat → Int32) (V6 : Nat → Int32) (H : Heap) (locs : List Loc) (ls : Array Slot), f_X6_find_55 T1 V5 x3 n x4 T0 V3 V4 V6 = some z → va_P E.1 vwCl [(a0, o6 T0 a6 a4 a3), (a1, o3 T1 u1_7 u1_8 u1_9 u1_10 u1_11 u1_12 u1_13 u1_14), (a2, o7 a5), (a3, ai E 37 V3), (a4, ai E 36 V4), (a5, ai E 144 V5), (a6, ai E 36 V6)] H → va_D A [(a0, o6 T0 a6 a4 a3), (a1, o3 T1 u1_7 u1_8 u1_9 u1_10 u1_11 u1_12 u1_13 u1_14), (a2, o7 a5), (a3, ai E 37 V3), (a4, ai E 36 V4), (a5, ai E 144 V5), (a6, ai E 36 V6)] → va_S A s.heap H locs → lv_has ls 6 [(0, .ref a0), (1, .ref a1), (2, .ref a2), (3, .int x3), (4, .int x4)] → W p l e ({ frames := 2, cells := 0, slots := 0, locals := 51 } : Room) s m args below meth c H locs 0 0 Q (F0 m 55 ls []) := by
    intro n
    induction n with
    | zero => intro x4 T0 V3 V4 V6 H locs ls hf; exact (nn_s hf).elim
    | succ n ih55 =>
      obtain ⟨k55, ek55⟩ : ∃ k, k = f_X6_find_55 T1 V5 x3 n := ⟨_, rfl⟩
      rw [← ek55] at ih55
      have b108 : ∀ (x4 : Int32) (s1 : Int32) (s2 : Int32) (T0 : Nat → Int32) (V3 : Nat → Int32) (V4 : Nat → Int32) (V6 : Nat → Int32) (H : Heap) (locs : List Loc) (ls : Array Slot), f_X6_find_108 T1 V5 x3 k55 x4 s1 s2 T0 V3 V4 V6 = some z → va_P E.1 vwCl [(a0, o6 T0 a6 a4 a3), (a1, o3 T1 u1_7 u1_8 u1_9 u1_10 u1_11 u1_12 u1_13 u1_14), (a2, o7 a5), (a3, ai E 37 V3), (a4, ai E 36 V4), (a5, ai E 144 V5), (a6, ai E 36 V6)] H → va_D A [(a0, o6 T0 a6 a4 a3), (a1, o3 T1 u1_7 u1_8 u1_9 u1_10 u1_11 u1_12 u1_13 u1_14), (a2, o7 a5), (a3, ai E 37 V3), (a4, ai E 36 V4), (a5, ai E 144 V5), (a6, ai E 36 V6)] → va_S A s.heap H locs → lv_has ls 6 [(0, .ref a0), (1, .ref a1), (2, .ref a2), (3, .int x3), (4, .int x4)] → W p l e ({ frames := 2, cells := 0, slots := 0, locals := 51 } : Room) s m args below meth c H locs 0 0 Q (F0 m 108 ls [.int s2, .int s1, .ref a6]) := by
        intro x4 s1 s2 T0 V3 V4 V6 H locs ls hf hP hD hS hl
        unfold f_X6_find_108 at hf
        obtain ⟨g108, hf⟩ := ck_s hf
        refine xiast hx hb hK hP hD hS 6 rfl g108 dX6_find_108 (fun H locs hP hD hS => ?_)
        refine lv_aload_n hx hb dX6_find_109 rfl (lv_at hl 0 rfl) ?_
        refine G6_15 hx hb htg hown hK hP 0 rfl dX6_find_110 ?_
        refine lv_iload hx hb dX6_find_113 (lv_at hl 4 rfl) ?_
        refine lv_ldc hx hb hown (htg _ (gw_t (tb5 170 rfl) rfl)) dX6_find_115 ?_
        obtain ⟨g117, hf⟩ := ck_s hf
        refine xiast hx hb hK hP hD hS 4 rfl g117 dX6_find_117 (fun H locs hP hD hS => ?_)
        refine lv_iinc (v := x4 + 1) (lv' := [(4, .int (x4 + 1)), (0, .ref a0), (1, .ref a1), (2, .ref a2), (3, .int x3)]) hx hb dX6_find_118 hl (k := 4) rfl rfl (by decide) rfl (fun ls hl => ?_)
        refine lv_goto (tgt := 55) hx hb dX6_find_121 (by decide) ?_
        exact ih55 (x4 + 1) T0 V3 (upd V4 (Int32.toNatClampNeg x4) 1000000) (upd V6 (Int32.toNatClampNeg s1) s2) _ _ _ hf hP hD hS (lv_sub hl [1, 2, 3, 4, 0] rfl)
      have b79 : ∀ (x4 : Int32) (s0 : Int32) (T0 : Nat → Int32) (V3 : Nat → Int32) (V4 : Nat → Int32) (V6 : Nat → Int32) (H : Heap) (locs : List Loc) (ls : Array Slot), f_X6_find_79 T1 V5 x3 k55 x4 s0 T0 V3 V4 V6 = some z → va_P E.1 vwCl [(a0, o6 T0 a6 a4 a3), (a1, o3 T1 u1_7 u1_8 u1_9 u1_10 u1_11 u1_12 u1_13 u1_14), (a2, o7 a5), (a3, ai E 37 V3), (a4, ai E 36 V4), (a5, ai E 144 V5), (a6, ai E 36 V6)] H → va_D A [(a0, o6 T0 a6 a4 a3), (a1, o3 T1 u1_7 u1_8 u1_9 u1_10 u1_11 u1_12 u1_13 u1_14), (a2, o7 a5), (a3, ai E 37 V3), (a4, ai E 36 V4), (a5, ai E 144 V5), (a6, ai E 36 V6)] → va_S A s.heap H locs → lv_has ls 6 [(0, .ref a0), (1, .ref a1), (2, .ref a2), (3, .int x3), (4, .int x4)] → W p l e ({ frames := 2, cells := 0, slots := 0, locals := 51 } : Room) s m args below meth c H locs 0 0 Q (F0 m 79 ls [.int s0]) := by
        intro x4 s0 T0 V3 V4 V6 H locs ls hf hP hD hS hl
        unfold f_X6_find_79 at hf
        refine lv_istore (lv' := [(5, .int s0), (0, .ref a0), (1, .ref a1), (2, .ref a2), (3, .int x3), (4, .int x4)]) hx hb dX6_find_79 hl (by decide) rfl (fun ls hl => ?_)
        refine lv_aload_n hx hb dX6_find_81 rfl (lv_at hl 1 rfl) ?_
        refine G6_9 hx hb htg hown hK hP 0 rfl dX6_find_82 ?_
        refine lv_iload hx hb dX6_find_85 (lv_at hl 5 rfl) ?_
        refine lv_iload hx hb dX6_find_87 (lv_at hl 0 rfl) ?_
        refine lv_if_eq (tgt := 97) hx hb dX6_find_89 (by decide) (fun c89 => ?_) (fun c89 => ?_)
        · have hf := it_t c89 hf
          refine lv_aload_n hx hb dX6_find_97 rfl (lv_at hl 3 rfl) ?_
          refine lv_iload hx hb dX6_find_98 (lv_at hl 5 rfl) ?_
          obtain ⟨z100, hz100, hf⟩ := bind_s hf
          refine xV_ir hx hb hml hown htg L6_52 (c_X7_riskOf l E a2 a5 hz100 _) ⟨⟨rfl, rfl⟩, Nat.le_of_ble_eq_true rfl, Nat.le_of_ble_eq_true rfl⟩ hK hG hA hP hD hS (is := [2, 5]) rfl rfl (xrecv hK hP (q0 := 2) (ci := 7) rfl rfl) rfl hl.1 rfl (Nat.le_of_ble_eq_true rfl) dX6_find_100 (fun H locs hP hD hS => ?_)
          refine lv_bipush (v := 64) hx hb dX6_find_103 rfl ?_
          refine lv_imul hx hb dX6_find_105 ?_
          refine lv_iconst (v := 1) hx hb dX6_find_106 rfl ?_
          refine lv_iadd hx hb dX6_find_107 ?_
          exact b108 x4 x4 ((z100 * 64) + 1) T0 V3 V4 V6 _ _ _ hf hP hD hS (lv_sub hl [1, 2, 3, 4, 5] rfl)
        · have hf := it_f c89 hf
          refine lv_ldc hx hb hown (htg _ (gw_t (tb5 170 rfl) rfl)) dX6_find_92 ?_
          refine lv_goto (tgt := 108) hx hb dX6_find_94 (by decide) ?_
          exact b108 x4 x4 1000000 T0 V3 V4 V6 _ _ _ hf hP hD hS (lv_sub hl [1, 2, 3, 4, 5] rfl)
      intro x4 T0 V3 V4 V6 H locs ls hf hP hD hS hl
      replace hf : g_X6_find_55 T1 V5 x3 k55 x4 T0 V3 V4 V6 = some z := by rw [ek55]; exact hf
      unfold g_X6_find_55 at hf
      refine lv_iload hx hb dX6_find_55 (lv_at hl 4 rfl) ?_
      refine lv_aload_n hx hb dX6_find_57 rfl (lv_at hl 0 rfl) ?_
      refine G6_32 hx hb htg hown hK hP 0 rfl dX6_find_58 ?_
      refine lv_icmp_ge (tgt := 124) hx hb dX6_find_61 (by decide) (fun c61 => ?_) (fun c61 => ?_)
      · have hf := it_t c61 hf
        refine lv_aload_n hx hb dX6_find_124 rfl (lv_at hl 0 rfl) ?_
        refine G6_15 hx hb htg hown hK hP 0 rfl dX6_find_125 ?_
        refine lv_iload_n hx hb dX6_find_128 rfl (lv_at hl 3 rfl) ?_
        refine lv_iconst (v := 0) hx hb dX6_find_129 rfl ?_
        obtain ⟨g130, hf⟩ := ck_s hf
        refine xiast hx hb hK hP hD hS 4 rfl g130 dX6_find_130 (fun H locs hP hD hS => ?_)
        refine lv_iconst (v := 1) hx hb dX6_find_131 rfl ?_
        refine lv_istore (lv' := [(4, .int 1), (0, .ref a0), (1, .ref a1), (2, .ref a2), (3, .int x3)]) hx hb dX6_find_132 hl (by decide) rfl (fun ls hl => ?_)
        refine lv_iconst (v := 0) hx hb dX6_find_134 rfl ?_
        refine lv_istore (lv' := [(5, .int 0), (4, .int 1), (0, .ref a0), (1, .ref a1), (2, .ref a2), (3, .int x3)]) hx hb dX6_find_135 hl (by decide) rfl (fun ls hl => ?_)
        exact b137 xF 1 0 T0 V3 (upd V4 (Int32.toNatClampNeg x3) 0) V6 _ _ _ hf hP hD hS (lv_sub hl [2, 3, 5, 1, 0] rfl)
      · have hf := it_f c61 hf
        refine lv_aload_n hx hb dX6_find_64 rfl (lv_at hl 2 rfl) ?_
        refine lv_iload hx hb dX6_find_65 (lv_at hl 4 rfl) ?_
        obtain ⟨z67, hz67, hf⟩ := bind_s hf
        refine xV_ir hx hb hml hown htg L6_45 (c_X7_drawnAs l E a2 a5 hz67 _) ⟨⟨rfl, rfl⟩, Nat.le_of_ble_eq_true rfl, Nat.le_of_ble_eq_true rfl⟩ hK hG hA hP hD hS (is := [2, 5]) rfl rfl (xrecv hK hP (q0 := 2) (ci := 7) rfl rfl) rfl hl.1 rfl (Nat.le_of_ble_eq_true rfl) dX6_find_67 (fun H locs hP hD hS => ?_)
        refine lv_iconst (v := 1) hx hb dX6_find_70 rfl ?_
        refine lv_icmp_ne (tgt := 78) hx hb dX6_find_71 (by decide) (fun c71 => ?_) (fun c71 => ?_)
        · have hf := it_f c71 hf
          refine lv_iconst (v := 0) hx hb dX6_find_78 rfl ?_
          exact b79 x4 0 T0 V3 V4 V6 _ _ _ hf hP hD hS (lv_sub hl [0, 1, 2, 3, 4] rfl)
        · have hf := it_t c71 hf
          refine lv_iconst (v := 1) hx hb dX6_find_74 rfl ?_
          refine lv_goto (tgt := 79) hx hb dX6_find_75 (by decide) ?_
          exact b79 x4 1 T0 V3 V4 V6 _ _ _ hf hP hD hS (lv_sub hl [0, 1, 2, 3, 4] rfl)
  unfold f_X6_find at hf
  refine lv_aload_n hx hb dX6_find_0 rfl (lv_at hl 0 rfl) ?_
  refine lv_aload_n hx hb dX6_find_1 rfl (lv_at hl 1 rfl) ?_
  refine G6_21 hx hb htg hown hK hP 1 rfl dX6_find_2 ?_
  refine P6_27 hx hb htg hown hK hP hD hS 0 rfl dX6_find_5 (fun H locs hP hD hS => ?_)
  refine lv_aload_n hx hb dX6_find_8 rfl (lv_at hl 0 rfl) ?_
  refine lv_aload_n hx hb dX6_find_9 rfl (lv_at hl 1 rfl) ?_
  obtain ⟨z10, hz10, hf⟩ := bind_s hf
  refine xV_ir hx hb hml hown htg L6_28 (c_X3_cellCount l E a1 hz10 _) ⟨⟨rfl, rfl⟩, Nat.le_of_ble_eq_true rfl, Nat.le_of_ble_eq_true rfl⟩ hK hG hA hP hD hS (is := [1]) rfl rfl (xrecv hK hP (q0 := 1) (ci := 3) rfl rfl) rfl hl.1 rfl (Nat.le_of_ble_eq_true rfl) dX6_find_10 (fun H locs hP hD hS => ?_)
  refine P6_32 hx hb htg hown hK hP hD hS 0 rfl dX6_find_13 (fun H locs hP hD hS => ?_)
  refine lv_aload_n hx hb dX6_find_16 rfl (lv_at hl 0 rfl) ?_
  refine lv_iconst (v := 0) hx hb dX6_find_17 rfl ?_
  refine P6_35 hx hb htg hown hK hP hD hS 0 rfl dX6_find_18 (fun H locs hP hD hS => ?_)
  replace hP : va_P E.1 vwCl [(a0, o6 (upd (upd (upd T0 3 (T1 1)) 4 z10) 5 0) a6 a4 a3), (a1, o3 T1 u1_7 u1_8 u1_9 u1_10 u1_11 u1_12 u1_13 u1_14), (a2, o7 a5), (a3, ai E 37 V3), (a4, ai E 36 V4), (a5, ai E 144 V5), (a6, ai E 36 V6)] H := hP
  replace hD : va_D A [(a0, o6 (upd (upd (upd T0 3 (T1 1)) 4 z10) 5 0) a6 a4 a3), (a1, o3 T1 u1_7 u1_8 u1_9 u1_10 u1_11 u1_12 u1_13 u1_14), (a2, o7 a5), (a3, ai E 37 V3), (a4, ai E 36 V4), (a5, ai E 144 V5), (a6, ai E 36 V6)] := hD
  refine lv_aload_n hx hb dX6_find_21 rfl (lv_at hl 0 rfl) ?_
  refine G6_18 hx hb htg hown hK hP 0 rfl dX6_find_22 ?_
  refine lv_iconst (v := 0) hx hb dX6_find_25 rfl ?_
  refine lv_aload_n hx hb dX6_find_26 rfl (lv_at hl 1 rfl) ?_
  refine G6_38 hx hb htg hown hK hP 1 rfl dX6_find_27 ?_
  obtain ⟨g30, hf⟩ := ck_s hf
  refine xiast hx hb hK hP hD hS 3 rfl g30 dX6_find_30 (fun H locs hP hD hS => ?_)
  refine lv_aload_n hx hb dX6_find_31 rfl (lv_at hl 1 rfl) ?_
  refine lv_iload_n hx hb dX6_find_32 rfl (lv_at hl 3 rfl) ?_
  obtain ⟨z33, hz33, hf⟩ := bind_s hf
  refine xV_ir hx hb hml hown htg L6_41 (c_X3_hasCell l E a1 hz33 _) ⟨⟨rfl, rfl⟩, Nat.le_of_ble_eq_true rfl, Nat.le_of_ble_eq_true rfl⟩ hK hG hA hP hD hS (is := [1]) rfl rfl (xrecv hK hP (q0 := 1) (ci := 3) rfl rfl) rfl hl.1 rfl (Nat.le_of_ble_eq_true rfl) dX6_find_33 (fun H locs hP hD hS => ?_)
  refine lv_if_eq (tgt := 50) hx hb dX6_find_36 (by decide) (fun c36 => ?_) (fun c36 => ?_)
  · have hf := it_t c36 hf
    refine lv_iconst (v := 0) hx hb dX6_find_50 rfl ?_
    exact ret (0, upd (upd (upd T0 3 (T1 1)) 4 z10) 5 0, upd V3 (Int32.toNatClampNeg 0) (T1 3), V4, V6) hf nz0 hP hS dX6_find_51
  · have hf := it_f c36 hf
    refine lv_aload_n hx hb dX6_find_39 rfl (lv_at hl 1 rfl) ?_
    refine lv_aload_n hx hb dX6_find_40 rfl (lv_at hl 1 rfl) ?_
    refine G6_38 hx hb htg hown hK hP 1 rfl dX6_find_41 ?_
    obtain ⟨z44, hz44, hf⟩ := bind_s hf
    refine xV_ir hx hb hml hown htg L6_41 (c_X3_hasCell l E a1 hz44 _) ⟨⟨rfl, rfl⟩, Nat.le_of_ble_eq_true rfl, Nat.le_of_ble_eq_true rfl⟩ hK hG hA hP hD hS (is := [1]) rfl rfl (xrecv hK hP (q0 := 1) (ci := 3) rfl rfl) rfl hl.1 rfl (Nat.le_of_ble_eq_true rfl) dX6_find_44 (fun H locs hP hD hS => ?_)
    refine lv_if_ne (tgt := 52) hx hb dX6_find_47 (by decide) (fun c47 => ?_) (fun c47 => ?_)
    · have hf := it_f c47 hf
      refine lv_iconst (v := 0) hx hb dX6_find_52 rfl ?_
      refine lv_istore (lv' := [(4, .int 0), (0, .ref a0), (1, .ref a1), (2, .ref a2), (3, .int x3)]) hx hb dX6_find_53 hl (by decide) rfl (fun ls hl => ?_)
      exact b55 xF 0 (upd (upd (upd T0 3 (T1 1)) 4 z10) 5 0) (upd V3 (Int32.toNatClampNeg 0) (T1 3)) V4 V6 _ _ _ hf hP hD hS (lv_sub hl [1, 2, 3, 4, 0] rfl)
    · have hf := it_t c47 hf
      refine lv_iconst (v := 0) hx hb dX6_find_50 rfl ?_
      exact ret (0, upd (upd (upd T0 3 (T1 1)) 4 z10) 5 0, upd V3 (Int32.toNatClampNeg 0) (T1 3), V4, V6) hf nz0 hP hS dX6_find_51
theorem dX6_cells_0 : decode cX6_cells 0 = .ok (.aload_n 0, 1) := by decide +kernel
theorem dX6_cells_1 : decode cX6_cells 1 = .ok (.getfield 35, 3) := by decide +kernel
theorem dX6_cells_4 : decode cX6_cells 4 = .ok (.ireturn, 1) := by decide +kernel
set_option maxRecDepth 100000 in
theorem c_X6_cells (l : Launch) (E : xE) (a0 : Nat) {T0 : Nat → Int32} {u0_0 u0_1 u0_2 : Nat} {z : Int32} (hf : f_X6_cells T0 = some z) (sz : Nat) : Met l yX6_cells (Cond.code yX6_cells cX6_cells 1 (some .int) :: gw) ({ frames := 0, cells := 0, slots := 0, locals := 0 }) (xPc E [.ref a0] [(a0, o6 T0 u0_0 u0_1 u0_2)] sz) (xQi E z [(a0, o6 T0 u0_0 u0_1 u0_2)] [(a0, o6 T0 u0_0 u0_1 u0_2)] sz) 0 0 (va_A [(a0, o6 T0 u0_0 u0_1 u0_2)] sz) := by
  refine xM_i (by decide +kernel) (Nat.le_of_ble_eq_true rfl) ?_
  intro p e s m args below meth c A Q hx hb hml hown htg hK hG hA ret0 H locs ls hP hD hS hl
  have ret : ∀ (z' : Int32) {H : Heap} {locs : List Loc} {pc : Nat} {ls : Array Slot}, some z' = some z → narrow .int (.int z') = .int z' → va_P E.1 vwCl [(a0, o6 T0 u0_0 u0_1 u0_2)] H → va_S A s.heap H locs → decode cX6_cells pc = .ok (.ireturn, 1) → W p l e ({ frames := 0, cells := 0, slots := 0, locals := 0 } : Room) s m args below meth c H locs 0 0 Q (F0 m pc ls [.int z']) := by
    intro z' H locs pc ls h
    cases h
    exact ret0
  replace hl : lv_has ls 1 [(0, .ref a0)] := hl
  unfold f_X6_cells at hf
  refine lv_aload_n hx hb dX6_cells_0 rfl (lv_at hl 0 rfl) ?_
  refine G6_35 hx hb htg hown hK hP 0 rfl dX6_cells_1 ?_
  exact ret (T0 5) hf nzi hP hS dX6_cells_4
theorem dX6_cellAt_0 : decode cX6_cellAt 0 = .ok (.iload_n 1, 1) := by decide +kernel
theorem dX6_cellAt_1 : decode cX6_cellAt 1 = .ok (.iconst 0, 1) := by decide +kernel
theorem dX6_cellAt_2 : decode cX6_cellAt 2 = .ok (.aload_n 0, 1) := by decide +kernel
theorem dX6_cellAt_3 : decode cX6_cellAt 3 = .ok (.getfield 35, 3) := by decide +kernel
theorem dX6_cellAt_6 : decode cX6_cellAt 6 = .ok (.invokestatic 67, 3) := by decide +kernel
theorem dX6_cellAt_9 : decode cX6_cellAt 9 = .ok (.ifCond .eq 12, 3) := by decide +kernel
theorem dX6_cellAt_12 : decode cX6_cellAt 12 = .ok (.aload_n 0, 1) := by decide +kernel
theorem dX6_cellAt_13 : decode cX6_cellAt 13 = .ok (.getfield 18, 3) := by decide +kernel
theorem dX6_cellAt_16 : decode cX6_cellAt 16 = .ok (.iload_n 1, 1) := by decide +kernel
theorem dX6_cellAt_17 : decode cX6_cellAt 17 = .ok (.iaload, 1) := by decide +kernel
theorem dX6_cellAt_18 : decode cX6_cellAt 18 = .ok (.goto 4, 3) := by decide +kernel
theorem dX6_cellAt_21 : decode cX6_cellAt 21 = .ok (.iconst (-1), 1) := by decide +kernel
theorem dX6_cellAt_22 : decode cX6_cellAt 22 = .ok (.ireturn, 1) := by decide +kernel
set_option maxRecDepth 100000 in
theorem c_X6_cellAt (l : Launch) (E : xE) (a0 a1 : Nat) {T0 : Nat → Int32} {V1 : Nat → Int32} {u0_0 u0_1 : Nat} {x1 : Int32} {z : Int32} (hf : f_X6_cellAt T0 V1 x1 = some z) (sz : Nat) : Met l yX6_cellAt (Cond.code yX6_cellAt cX6_cellAt 2 (some .int) :: gw) ({ frames := 1, cells := 0, slots := 0, locals := 22 }) (xPc E [.ref a0, .int x1] [(a0, o6 T0 u0_0 u0_1 a1), (a1, ai E 37 V1)] sz) (xQi E z [(a0, o6 T0 u0_0 u0_1 a1), (a1, ai E 37 V1)] [(a0, o6 T0 u0_0 u0_1 a1), (a1, ai E 37 V1)] sz) 0 0 (va_A [(a0, o6 T0 u0_0 u0_1 a1), (a1, ai E 37 V1)] sz) := by
  refine xM_i (by decide +kernel) (Nat.le_of_ble_eq_true rfl) ?_
  intro p e s m args below meth c A Q hx hb hml hown htg hK hG hA ret0 H locs ls hP hD hS hl
  have ret : ∀ (z' : Int32) {H : Heap} {locs : List Loc} {pc : Nat} {ls : Array Slot}, some z' = some z → narrow .int (.int z') = .int z' → va_P E.1 vwCl [(a0, o6 T0 u0_0 u0_1 a1), (a1, ai E 37 V1)] H → va_S A s.heap H locs → decode cX6_cellAt pc = .ok (.ireturn, 1) → W p l e ({ frames := 1, cells := 0, slots := 0, locals := 22 } : Room) s m args below meth c H locs 0 0 Q (F0 m pc ls [.int z']) := by
    intro z' H locs pc ls h
    cases h
    exact ret0
  replace hl : lv_has ls 2 [(0, .ref a0), (1, .int x1)] := hl
  unfold f_X6_cellAt at hf
  refine lv_iload_n hx hb dX6_cellAt_0 rfl (lv_at hl 1 rfl) ?_
  refine lv_iconst (v := 0) hx hb dX6_cellAt_1 rfl ?_
  refine lv_aload_n hx hb dX6_cellAt_2 rfl (lv_at hl 0 rfl) ?_
  refine G6_35 hx hb htg hown hK hP 0 rfl dX6_cellAt_3 ?_
  obtain ⟨z6, hz6, hf⟩ := bind_s hf
  refine xN_ir hx hb hml hown htg L6_67 21 rfl (c_X11_within l E hz6 _) ⟨⟨rfl, rfl⟩, Nat.le_of_ble_eq_true rfl, Nat.le_of_ble_eq_true rfl⟩ hK hG hA hP hD hS (is := []) rfl rfl rfl hl.1 rfl (Nat.le_of_ble_eq_true rfl) dX6_cellAt_6 (fun H locs hP hD hS => ?_)
  refine lv_if_eq (tgt := 21) hx hb dX6_cellAt_9 (by decide) (fun c9 => ?_) (fun c9 => ?_)
  · have hf := it_t c9 hf
    refine lv_iconst (v := (-1)) hx hb dX6_cellAt_21 rfl ?_
    exact ret (-1) hf nzi hP hS dX6_cellAt_22
  · have hf := it_f c9 hf
    refine lv_aload_n hx hb dX6_cellAt_12 rfl (lv_at hl 0 rfl) ?_
    refine G6_18 hx hb htg hown hK hP 0 rfl dX6_cellAt_13 ?_
    refine lv_iload_n hx hb dX6_cellAt_16 rfl (lv_at hl 1 rfl) ?_
    obtain ⟨g17, hf⟩ := ck_s hf
    refine xiald hx hb hK hP 1 rfl g17 dX6_cellAt_17 ?_
    refine lv_goto (tgt := 22) hx hb dX6_cellAt_18 (by decide) ?_
    exact ret (V1 (Int32.toNatClampNeg x1)) hf nzi hP hS dX6_cellAt_22
theorem dX6_sailedTo_0 : decode cX6_sailedTo 0 = .ok (.iconst 1, 1) := by decide +kernel
theorem dX6_sailedTo_1 : decode cX6_sailedTo 1 = .ok (.istore_n 2, 1) := by decide +kernel
theorem dX6_sailedTo_2 : decode cX6_sailedTo 2 = .ok (.iload_n 2, 1) := by decide +kernel
theorem dX6_sailedTo_3 : decode cX6_sailedTo 3 = .ok (.aload_n 0, 1) := by decide +kernel
theorem dX6_sailedTo_4 : decode cX6_sailedTo 4 = .ok (.getfield 35, 3) := by decide +kernel
theorem dX6_sailedTo_7 : decode cX6_sailedTo 7 = .ok (.if_icmp .gt 28, 3) := by decide +kernel
theorem dX6_sailedTo_10 : decode cX6_sailedTo 10 = .ok (.aload_n 1, 1) := by decide +kernel
theorem dX6_sailedTo_11 : decode cX6_sailedTo 11 = .ok (.aload_n 0, 1) := by decide +kernel
theorem dX6_sailedTo_12 : decode cX6_sailedTo 12 = .ok (.iload_n 2, 1) := by decide +kernel
theorem dX6_sailedTo_13 : decode cX6_sailedTo 13 = .ok (.invokevirtual 71, 3) := by decide +kernel
theorem dX6_sailedTo_16 : decode cX6_sailedTo 16 = .ok (.invokevirtual 74, 3) := by decide +kernel
theorem dX6_sailedTo_19 : decode cX6_sailedTo 19 = .ok (.iconst 1, 1) := by decide +kernel
theorem dX6_sailedTo_20 : decode cX6_sailedTo 20 = .ok (.if_icmp .ne 9, 3) := by decide +kernel
theorem dX6_sailedTo_23 : decode cX6_sailedTo 23 = .ok (.aload_n 0, 1) := by decide +kernel
theorem dX6_sailedTo_24 : decode cX6_sailedTo 24 = .ok (.iload_n 2, 1) := by decide +kernel
theorem dX6_sailedTo_25 : decode cX6_sailedTo 25 = .ok (.invokevirtual 71, 3) := by decide +kernel
theorem dX6_sailedTo_28 : decode cX6_sailedTo 28 = .ok (.ireturn, 1) := by decide +kernel
theorem dX6_sailedTo_29 : decode cX6_sailedTo 29 = .ok (.iinc 2 1, 3) := by decide +kernel
theorem dX6_sailedTo_32 : decode cX6_sailedTo 32 = .ok (.goto (-30), 3) := by decide +kernel
theorem dX6_sailedTo_35 : decode cX6_sailedTo 35 = .ok (.aload_n 0, 1) := by decide +kernel
theorem dX6_sailedTo_36 : decode cX6_sailedTo 36 = .ok (.aload_n 0, 1) := by decide +kernel
theorem dX6_sailedTo_37 : decode cX6_sailedTo 37 = .ok (.getfield 35, 3) := by decide +kernel
theorem dX6_sailedTo_40 : decode cX6_sailedTo 40 = .ok (.invokevirtual 71, 3) := by decide +kernel
theorem dX6_sailedTo_43 : decode cX6_sailedTo 43 = .ok (.ireturn, 1) := by decide +kernel
set_option maxRecDepth 100000 in
theorem c_X6_sailedTo (l : Launch) (E : xE) (a0 a1 a2 a3 : Nat) {T0 : Nat → Int32} {T1 : Nat → Int32} {V2 : Nat → Int32} {V3 : Nat → Int32} {u0_0 u0_1 u1_8 u1_9 u1_10 u1_11 u1_12 u1_13 u1_14 : Nat} {z : Int32} (hf : f_X6_sailedTo T0 V2 V3 = some z) (sz : Nat) : Met l yX6_sailedTo (Cond.code yX6_sailedTo cX6_sailedTo 3 (some .int) :: gw) ({ frames := 2, cells := 0, slots := 0, locals := 43 }) (xPc E [.ref a0, .ref a1] [(a0, o6 T0 u0_0 u0_1 a2), (a1, o3 T1 a3 u1_8 u1_9 u1_10 u1_11 u1_12 u1_13 u1_14), (a2, ai E 37 V2), (a3, ai E 36 V3)] sz) (xQi E z [(a0, o6 T0 u0_0 u0_1 a2), (a1, o3 T1 a3 u1_8 u1_9 u1_10 u1_11 u1_12 u1_13 u1_14), (a2, ai E 37 V2), (a3, ai E 36 V3)] [(a0, o6 T0 u0_0 u0_1 a2), (a1, o3 T1 a3 u1_8 u1_9 u1_10 u1_11 u1_12 u1_13 u1_14), (a2, ai E 37 V2), (a3, ai E 36 V3)] sz) 0 0 (va_A [(a0, o6 T0 u0_0 u0_1 a2), (a1, o3 T1 a3 u1_8 u1_9 u1_10 u1_11 u1_12 u1_13 u1_14), (a2, ai E 37 V2), (a3, ai E 36 V3)] sz) := by
  refine xM_i (by decide +kernel) (Nat.le_of_ble_eq_true rfl) ?_
  intro p e s m args below meth c A Q hx hb hml hown htg hK hG hA ret0 H locs ls hP hD hS hl
  have ret : ∀ (z' : Int32) {H : Heap} {locs : List Loc} {pc : Nat} {ls : Array Slot}, some z' = some z → narrow .int (.int z') = .int z' → va_P E.1 vwCl [(a0, o6 T0 u0_0 u0_1 a2), (a1, o3 T1 a3 u1_8 u1_9 u1_10 u1_11 u1_12 u1_13 u1_14), (a2, ai E 37 V2), (a3, ai E 36 V3)] H → va_S A s.heap H locs → decode cX6_sailedTo pc = .ok (.ireturn, 1) → W p l e ({ frames := 2, cells := 0, slots := 0, locals := 43 } : Room) s m args below meth c H locs 0 0 Q (F0 m pc ls [.int z']) := by
    intro z' H locs pc ls h
    cases h
    exact ret0
  replace hl : lv_has ls 3 [(0, .ref a0), (1, .ref a1)] := hl
  have b2 : ∀ (n : Nat) (x2 : Int32) (H : Heap) (locs : List Loc) (ls : Array Slot), f_X6_sailedTo_2 T0 V2 V3 n x2 = some z → va_P E.1 vwCl [(a0, o6 T0 u0_0 u0_1 a2), (a1, o3 T1 a3 u1_8 u1_9 u1_10 u1_11 u1_12 u1_13 u1_14), (a2, ai E 37 V2), (a3, ai E 36 V3)] H → va_D A [(a0, o6 T0 u0_0 u0_1 a2), (a1, o3 T1 a3 u1_8 u1_9 u1_10 u1_11 u1_12 u1_13 u1_14), (a2, ai E 37 V2), (a3, ai E 36 V3)] → va_S A s.heap H locs → lv_has ls 3 [(0, .ref a0), (1, .ref a1), (2, .int x2)] → W p l e ({ frames := 2, cells := 0, slots := 0, locals := 43 } : Room) s m args below meth c H locs 0 0 Q (F0 m 2 ls []) := by
    intro n
    induction n with
    | zero => intro x2 H locs ls hf; exact (nn_s hf).elim
    | succ n ih2 =>
      obtain ⟨k2, ek2⟩ : ∃ k, k = f_X6_sailedTo_2 T0 V2 V3 n := ⟨_, rfl⟩
      rw [← ek2] at ih2
      intro x2 H locs ls hf hP hD hS hl
      replace hf : g_X6_sailedTo_2 T0 V2 V3 k2 x2 = some z := by rw [ek2]; exact hf
      unfold g_X6_sailedTo_2 at hf
      refine lv_iload_n hx hb dX6_sailedTo_2 rfl (lv_at hl 2 rfl) ?_
      refine lv_aload_n hx hb dX6_sailedTo_3 rfl (lv_at hl 0 rfl) ?_
      refine G6_35 hx hb htg hown hK hP 0 rfl dX6_sailedTo_4 ?_
      refine lv_icmp_gt (tgt := 35) hx hb dX6_sailedTo_7 (by decide) (fun c7 => ?_) (fun c7 => ?_)
      · have hf := it_t c7 hf
        refine lv_aload_n hx hb dX6_sailedTo_35 rfl (lv_at hl 0 rfl) ?_
        refine lv_aload_n hx hb dX6_sailedTo_36 rfl (lv_at hl 0 rfl) ?_
        refine G6_35 hx hb htg hown hK hP 0 rfl dX6_sailedTo_37 ?_
        obtain ⟨z40, hz40, hf⟩ := bind_s hf
        refine xV_ir hx hb hml hown htg L6_71 (c_X6_cellAt l E a0 a2 hz40 _) ⟨⟨rfl, rfl⟩, Nat.le_of_ble_eq_true rfl, Nat.le_of_ble_eq_true rfl⟩ hK hG hA hP hD hS (is := [0, 2]) rfl rfl (xrecv hK hP (q0 := 0) (ci := 6) rfl rfl) rfl hl.1 rfl (Nat.le_of_ble_eq_true rfl) dX6_sailedTo_40 (fun H locs hP hD hS => ?_)
        exact ret z40 hf nzi hP hS dX6_sailedTo_43
      · have hf := it_f c7 hf
        refine lv_aload_n hx hb dX6_sailedTo_10 rfl (lv_at hl 1 rfl) ?_
        refine lv_aload_n hx hb dX6_sailedTo_11 rfl (lv_at hl 0 rfl) ?_
        refine lv_iload_n hx hb dX6_sailedTo_12 rfl (lv_at hl 2 rfl) ?_
        obtain ⟨z13, hz13, hf⟩ := bind_s hf
        refine xV_ir hx hb hml hown htg L6_71 (c_X6_cellAt l E a0 a2 hz13 _) ⟨⟨rfl, rfl⟩, Nat.le_of_ble_eq_true rfl, Nat.le_of_ble_eq_true rfl⟩ hK hG hA hP hD hS (is := [0, 2]) rfl rfl (xrecv hK hP (q0 := 0) (ci := 6) rfl rfl) rfl hl.1 rfl (Nat.le_of_ble_eq_true rfl) dX6_sailedTo_13 (fun H locs hP hD hS => ?_)
        obtain ⟨z16, hz16, hf⟩ := bind_s hf
        refine xV_ir hx hb hml hown htg L6_74 (c_X3_kindAt l E a1 a3 hz16 _) ⟨⟨rfl, rfl⟩, Nat.le_of_ble_eq_true rfl, Nat.le_of_ble_eq_true rfl⟩ hK hG hA hP hD hS (is := [1, 3]) rfl rfl (xrecv hK hP (q0 := 1) (ci := 3) rfl rfl) rfl hl.1 rfl (Nat.le_of_ble_eq_true rfl) dX6_sailedTo_16 (fun H locs hP hD hS => ?_)
        refine lv_iconst (v := 1) hx hb dX6_sailedTo_19 rfl ?_
        refine lv_icmp_ne (tgt := 29) hx hb dX6_sailedTo_20 (by decide) (fun c20 => ?_) (fun c20 => ?_)
        · have hf := it_f c20 hf
          refine lv_iinc (v := x2 + 1) (lv' := [(2, .int (x2 + 1)), (0, .ref a0), (1, .ref a1)]) hx hb dX6_sailedTo_29 hl (k := 2) rfl rfl (by decide) rfl (fun ls hl => ?_)
          refine lv_goto (tgt := 2) hx hb dX6_sailedTo_32 (by decide) ?_
          exact ih2 (x2 + 1) _ _ _ hf hP hD hS (lv_sub hl [1, 2, 0] rfl)
        · have hf := it_t c20 hf
          refine lv_aload_n hx hb dX6_sailedTo_23 rfl (lv_at hl 0 rfl) ?_
          refine lv_iload_n hx hb dX6_sailedTo_24 rfl (lv_at hl 2 rfl) ?_
          obtain ⟨z25, hz25, hf⟩ := bind_s hf
          refine xV_ir hx hb hml hown htg L6_71 (c_X6_cellAt l E a0 a2 hz25 _) ⟨⟨rfl, rfl⟩, Nat.le_of_ble_eq_true rfl, Nat.le_of_ble_eq_true rfl⟩ hK hG hA hP hD hS (is := [0, 2]) rfl rfl (xrecv hK hP (q0 := 0) (ci := 6) rfl rfl) rfl hl.1 rfl (Nat.le_of_ble_eq_true rfl) dX6_sailedTo_25 (fun H locs hP hD hS => ?_)
          exact ret z25 hf nzi hP hS dX6_sailedTo_28
  unfold f_X6_sailedTo at hf
  refine lv_iconst (v := 1) hx hb dX6_sailedTo_0 rfl ?_
  refine lv_istore_n (lv' := [(2, .int 1), (0, .ref a0), (1, .ref a1)]) hx hb dX6_sailedTo_1 rfl hl (by decide) rfl (fun ls hl => ?_)
  exact b2 xF 1 _ _ _ hf hP hD hS (lv_sub hl [1, 2, 0] rfl)
theorem dX6_risk_0 : decode cX6_risk 0 = .ok (.aload_n 0, 1) := by decide +kernel
theorem dX6_risk_1 : decode cX6_risk 1 = .ok (.getfield 18, 3) := by decide +kernel
theorem dX6_risk_4 : decode cX6_risk 4 = .ok (.iconst 0, 1) := by decide +kernel
theorem dX6_risk_5 : decode cX6_risk 5 = .ok (.iaload, 1) := by decide +kernel
theorem dX6_risk_6 : decode cX6_risk 6 = .ok (.iconst 0, 1) := by decide +kernel
theorem dX6_risk_7 : decode cX6_risk 7 = .ok (.aload_n 0, 1) := by decide +kernel
theorem dX6_risk_8 : decode cX6_risk 8 = .ok (.getfield 32, 3) := by decide +kernel
theorem dX6_risk_11 : decode cX6_risk 11 = .ok (.iconst 1, 1) := by decide +kernel
theorem dX6_risk_12 : decode cX6_risk 12 = .ok (.isub, 1) := by decide +kernel
theorem dX6_risk_13 : decode cX6_risk 13 = .ok (.invokestatic 67, 3) := by decide +kernel
theorem dX6_risk_16 : decode cX6_risk 16 = .ok (.ifCond .eq 20, 3) := by decide +kernel
theorem dX6_risk_19 : decode cX6_risk 19 = .ok (.aload_n 0, 1) := by decide +kernel
theorem dX6_risk_20 : decode cX6_risk 20 = .ok (.getfield 15, 3) := by decide +kernel
theorem dX6_risk_23 : decode cX6_risk 23 = .ok (.aload_n 0, 1) := by decide +kernel
theorem dX6_risk_24 : decode cX6_risk 24 = .ok (.getfield 18, 3) := by decide +kernel
theorem dX6_risk_27 : decode cX6_risk 27 = .ok (.iconst 0, 1) := by decide +kernel
theorem dX6_risk_28 : decode cX6_risk 28 = .ok (.iaload, 1) := by decide +kernel
theorem dX6_risk_29 : decode cX6_risk 29 = .ok (.iaload, 1) := by decide +kernel
theorem dX6_risk_30 : decode cX6_risk 30 = .ok (.bipush 64, 2) := by decide +kernel
theorem dX6_risk_32 : decode cX6_risk 32 = .ok (.idiv, 1) := by decide +kernel
theorem dX6_risk_33 : decode cX6_risk 33 = .ok (.goto 4, 3) := by decide +kernel
theorem dX6_risk_36 : decode cX6_risk 36 = .ok (.iconst 0, 1) := by decide +kernel
theorem dX6_risk_37 : decode cX6_risk 37 = .ok (.ireturn, 1) := by decide +kernel
set_option maxRecDepth 100000 in
theorem c_X6_risk (l : Launch) (E : xE) (a0 a1 a2 : Nat) {T0 : Nat → Int32} {V1 : Nat → Int32} {V2 : Nat → Int32} {u0_0 : Nat} {z : Int32} (hf : f_X6_risk T0 V1 V2 = some z) (sz : Nat) : Met l yX6_risk (Cond.code yX6_risk cX6_risk 1 (some .int) :: gw) ({ frames := 1, cells := 0, slots := 0, locals := 22 }) (xPc E [.ref a0] [(a0, o6 T0 u0_0 a2 a1), (a1, ai E 37 V1), (a2, ai E 36 V2)] sz) (xQi E z [(a0, o6 T0 u0_0 a2 a1), (a1, ai E 37 V1), (a2, ai E 36 V2)] [(a0, o6 T0 u0_0 a2 a1), (a1, ai E 37 V1), (a2, ai E 36 V2)] sz) 0 0 (va_A [(a0, o6 T0 u0_0 a2 a1), (a1, ai E 37 V1), (a2, ai E 36 V2)] sz) := by
  refine xM_i (by decide +kernel) (Nat.le_of_ble_eq_true rfl) ?_
  intro p e s m args below meth c A Q hx hb hml hown htg hK hG hA ret0 H locs ls hP hD hS hl
  have ret : ∀ (z' : Int32) {H : Heap} {locs : List Loc} {pc : Nat} {ls : Array Slot}, some z' = some z → narrow .int (.int z') = .int z' → va_P E.1 vwCl [(a0, o6 T0 u0_0 a2 a1), (a1, ai E 37 V1), (a2, ai E 36 V2)] H → va_S A s.heap H locs → decode cX6_risk pc = .ok (.ireturn, 1) → W p l e ({ frames := 1, cells := 0, slots := 0, locals := 22 } : Room) s m args below meth c H locs 0 0 Q (F0 m pc ls [.int z']) := by
    intro z' H locs pc ls h
    cases h
    exact ret0
  replace hl : lv_has ls 1 [(0, .ref a0)] := hl
  unfold f_X6_risk at hf
  refine lv_aload_n hx hb dX6_risk_0 rfl (lv_at hl 0 rfl) ?_
  refine G6_18 hx hb htg hown hK hP 0 rfl dX6_risk_1 ?_
  refine lv_iconst (v := 0) hx hb dX6_risk_4 rfl ?_
  obtain ⟨g5, hf⟩ := ck_s hf
  refine xiald hx hb hK hP 1 rfl g5 dX6_risk_5 ?_
  refine lv_iconst (v := 0) hx hb dX6_risk_6 rfl ?_
  refine lv_aload_n hx hb dX6_risk_7 rfl (lv_at hl 0 rfl) ?_
  refine G6_32 hx hb htg hown hK hP 0 rfl dX6_risk_8 ?_
  refine lv_iconst (v := 1) hx hb dX6_risk_11 rfl ?_
  refine lv_isub hx hb dX6_risk_12 ?_
  obtain ⟨z13, hz13, hf⟩ := bind_s hf
  refine xN_ir hx hb hml hown htg L6_67 21 rfl (c_X11_within l E hz13 _) ⟨⟨rfl, rfl⟩, Nat.le_of_ble_eq_true rfl, Nat.le_of_ble_eq_true rfl⟩ hK hG hA hP hD hS (is := []) rfl rfl rfl hl.1 rfl (Nat.le_of_ble_eq_true rfl) dX6_risk_13 (fun H locs hP hD hS => ?_)
  refine lv_if_eq (tgt := 36) hx hb dX6_risk_16 (by decide) (fun c16 => ?_) (fun c16 => ?_)
  · have hf := it_t c16 hf
    refine lv_iconst (v := 0) hx hb dX6_risk_36 rfl ?_
    exact ret 0 hf nzi hP hS dX6_risk_37
  · have hf := it_f c16 hf
    refine lv_aload_n hx hb dX6_risk_19 rfl (lv_at hl 0 rfl) ?_
    refine G6_15 hx hb htg hown hK hP 0 rfl dX6_risk_20 ?_
    refine lv_aload_n hx hb dX6_risk_23 rfl (lv_at hl 0 rfl) ?_
    refine G6_18 hx hb htg hown hK hP 0 rfl dX6_risk_24 ?_
    refine lv_iconst (v := 0) hx hb dX6_risk_27 rfl ?_
    obtain ⟨g28, hf⟩ := ck_s hf
    refine xiald hx hb hK hP 1 rfl g28 dX6_risk_28 ?_
    obtain ⟨g29, hf⟩ := ck_s hf
    refine xiald hx hb hK hP 2 rfl g29 dX6_risk_29 ?_
    refine lv_bipush (v := 64) hx hb dX6_risk_30 rfl ?_
    obtain ⟨g32, hf⟩ := ck_s hf
    refine lv_idiv hx hb dX6_risk_32 (of_decide_eq_true g32) ?_
    refine lv_goto (tgt := 37) hx hb dX6_risk_33 (by decide) ?_
    exact ret ((V2 (Int32.toNatClampNeg (V1 (Int32.toNatClampNeg 0)))) / 64) hf nzi hP hS dX6_risk_37
