theorem dX5_keepDeeds_0 : decode cX5_keepDeeds 0 = .ok (.aload_n 0, 1) := by decide +kernel
theorem dX5_keepDeeds_1 : decode cX5_keepDeeds 1 = .ok (.getfield 11, 3) := by decide +kernel
theorem dX5_keepDeeds_4 : decode cX5_keepDeeds 4 = .ok (.iconst 0, 1) := by decide +kernel
theorem dX5_keepDeeds_5 : decode cX5_keepDeeds 5 = .ok (.aload_n 0, 1) := by decide +kernel
theorem dX5_keepDeeds_6 : decode cX5_keepDeeds 6 = .ok (.getfield 15, 3) := by decide +kernel
theorem dX5_keepDeeds_9 : decode cX5_keepDeeds 9 = .ok (.iconst 0, 1) := by decide +kernel
theorem dX5_keepDeeds_10 : decode cX5_keepDeeds 10 = .ok (.iconst 5, 1) := by decide +kernel
theorem dX5_keepDeeds_11 : decode cX5_keepDeeds 11 = .ok (.invokestatic 37, 3) := by decide +kernel
theorem dX5_keepDeeds_14 : decode cX5_keepDeeds 14 = .ok (.aload_n 0, 1) := by decide +kernel
theorem dX5_keepDeeds_15 : decode cX5_keepDeeds 15 = .ok (.iconst 1, 1) := by decide +kernel
theorem dX5_keepDeeds_16 : decode cX5_keepDeeds 16 = .ok (.putfield 43, 3) := by decide +kernel
theorem dX5_keepDeeds_19 : decode cX5_keepDeeds 19 = .ok (.return_, 1) := by decide +kernel
set_option maxRecDepth 100000 in
theorem c_X5_keepDeeds (l : Launch) (E : xE) (a0 a1 a2 : Nat) {T0 : Nat → Int32} {V1 : Nat → Int32} {V2 : Nat → Int32} {u0_3 u0_4 u0_5 : Nat} {z : (Nat → Int32) × (Nat → Int32)} (hf : f_X5_keepDeeds T0 V1 V2 = some z) (sz : Nat) : Met l yX5_keepDeeds (Cond.code yX5_keepDeeds cX5_keepDeeds 1 none :: gw) ({ frames := 1, cells := 0, slots := 0, locals := 80 }) (xPc E [.ref a0] [(a0, o5 T0 a1 a2 u0_3 u0_4 u0_5), (a1, ai E 5 V1), (a2, ai E 5 V2)] sz) (xQv E [(a0, o5 T0 a1 a2 u0_3 u0_4 u0_5), (a1, ai E 5 V1), (a2, ai E 5 V2)] [(a0, o5 z.1 a1 a2 u0_3 u0_4 u0_5), (a1, ai E 5 V1), (a2, ai E 5 z.2)] sz) 0 0 (va_A [(a0, o5 T0 a1 a2 u0_3 u0_4 u0_5), (a1, ai E 5 V1), (a2, ai E 5 V2)] sz) := by
  refine xM_v (by decide +kernel) (Nat.le_of_ble_eq_true rfl) ?_
  intro p e s m args below meth c A Q hx hb hml hown htg hK hG hA ret0 H locs ls hP hD hS hl
  have ret : ∀ (z' : (Nat → Int32) × (Nat → Int32)) {H : Heap} {locs : List Loc} {pc : Nat} {ls : Array Slot}, some z' = some z → va_P E.1 vwCl [(a0, o5 z'.1 a1 a2 u0_3 u0_4 u0_5), (a1, ai E 5 V1), (a2, ai E 5 z'.2)] H → va_S A s.heap H locs → decode cX5_keepDeeds pc = .ok (.return_, 1) → W p l e ({ frames := 1, cells := 0, slots := 0, locals := 80 } : Room) s m args below meth c H locs 0 0 Q (F0 m pc ls []) := by
    intro z' H locs pc ls h
    cases h
    exact ret0
  replace hl : lv_has ls 1 [(0, .ref a0)] := hl
  unfold f_X5_keepDeeds at hf
  refine lv_aload_n hx hb dX5_keepDeeds_0 rfl (lv_at hl 0 rfl) ?_
  refine G5_11 hx hb htg hown hK hP 0 rfl dX5_keepDeeds_1 ?_
  refine lv_iconst (v := 0) hx hb dX5_keepDeeds_4 rfl ?_
  refine lv_aload_n hx hb dX5_keepDeeds_5 rfl (lv_at hl 0 rfl) ?_
  refine G5_15 hx hb htg hown hK hP 0 rfl dX5_keepDeeds_6 ?_
  refine lv_iconst (v := 0) hx hb dX5_keepDeeds_9 rfl ?_
  refine lv_iconst (v := 5) hx hb dX5_keepDeeds_10 rfl ?_
  obtain ⟨g11, hf⟩ := ck_s hf
  refine xcopyi hx hb hml hl.1 hown mlC5_37 htg hK hP hD hS 1 2 rfl rfl g11 (Nat.le_of_ble_eq_true rfl) (Nat.le_of_ble_eq_true rfl) dX5_keepDeeds_11 (fun H locs hP hD hS => ?_)
  replace hP : va_P E.1 vwCl [(a0, o5 T0 a1 a2 u0_3 u0_4 u0_5), (a1, ai E 5 V1), (a2, ai E 5 (va_cpy V1 V2 (Int32.toNatClampNeg 0) (Int32.toNatClampNeg 0) (Int32.toNatClampNeg 5)))] H := hP
  replace hD : va_D A [(a0, o5 T0 a1 a2 u0_3 u0_4 u0_5), (a1, ai E 5 V1), (a2, ai E 5 (va_cpy V1 V2 (Int32.toNatClampNeg 0) (Int32.toNatClampNeg 0) (Int32.toNatClampNeg 5)))] := hD
  refine lv_aload_n hx hb dX5_keepDeeds_14 rfl (lv_at hl 0 rfl) ?_
  refine lv_iconst (v := 1) hx hb dX5_keepDeeds_15 rfl ?_
  refine P5_43 hx hb htg hown hK hP hD hS 0 rfl rfl dX5_keepDeeds_16 (fun H locs hP hD hS => ?_)
  exact ret (upd T0 2 1, va_cpy V1 V2 (Int32.toNatClampNeg 0) (Int32.toNatClampNeg 0) (Int32.toNatClampNeg 5)) hf hP hS dX5_keepDeeds_19
theorem dX5_hasKept_0 : decode cX5_hasKept 0 = .ok (.aload_n 0, 1) := by decide +kernel
theorem dX5_hasKept_1 : decode cX5_hasKept 1 = .ok (.getfield 43, 3) := by decide +kernel
theorem dX5_hasKept_4 : decode cX5_hasKept 4 = .ok (.ireturn, 1) := by decide +kernel
set_option maxRecDepth 100000 in
theorem c_X5_hasKept (l : Launch) (E : xE) (a0 : Nat) {T0 : Nat → Int32} {u0_0 u0_1 u0_3 u0_4 u0_5 : Nat} {z : Int32} (hf : f_X5_hasKept T0 = some z) (sz : Nat) : Met l yX5_hasKept (Cond.code yX5_hasKept cX5_hasKept 1 (some .boolean) :: gw) ({ frames := 0, cells := 0, slots := 0, locals := 0 }) (xPc E [.ref a0] [(a0, o5 T0 u0_0 u0_1 u0_3 u0_4 u0_5)] sz) (xQi E z [(a0, o5 T0 u0_0 u0_1 u0_3 u0_4 u0_5)] [(a0, o5 T0 u0_0 u0_1 u0_3 u0_4 u0_5)] sz) 0 0 (va_A [(a0, o5 T0 u0_0 u0_1 u0_3 u0_4 u0_5)] sz) := by
  refine xM_i (by decide +kernel) (Nat.le_of_ble_eq_true rfl) ?_
  intro p e s m args below meth c A Q hx hb hml hown htg hK hG hA ret0 H locs ls hP hD hS hl
  have ret : ∀ (z' : Int32) {H : Heap} {locs : List Loc} {pc : Nat} {ls : Array Slot}, some z' = some z → narrow .boolean (.int z') = .int z' → va_P E.1 vwCl [(a0, o5 T0 u0_0 u0_1 u0_3 u0_4 u0_5)] H → va_S A s.heap H locs → decode cX5_hasKept pc = .ok (.ireturn, 1) → W p l e ({ frames := 0, cells := 0, slots := 0, locals := 0 } : Room) s m args below meth c H locs 0 0 Q (F0 m pc ls [.int z']) := by
    intro z' H locs pc ls h
    cases h
    exact ret0
  replace hl : lv_has ls 1 [(0, .ref a0)] := hl
  unfold f_X5_hasKept at hf
  refine lv_aload_n hx hb dX5_hasKept_0 rfl (lv_at hl 0 rfl) ?_
  refine G5_43 hx hb htg hown hK hP 0 rfl dX5_hasKept_1 ?_
  obtain ⟨g4, hf⟩ := ck_s hf
  exact ret (T0 2) hf (bz_n g4).1 hP hS dX5_hasKept_4
theorem dX5_keptDeed_0 : decode cX5_keptDeed 0 = .ok (.iload_n 1, 1) := by decide +kernel
theorem dX5_keptDeed_1 : decode cX5_keptDeed 1 = .ok (.iconst 0, 1) := by decide +kernel
theorem dX5_keptDeed_2 : decode cX5_keptDeed 2 = .ok (.iconst 4, 1) := by decide +kernel
theorem dX5_keptDeed_3 : decode cX5_keptDeed 3 = .ok (.invokestatic 47, 3) := by decide +kernel
theorem dX5_keptDeed_6 : decode cX5_keptDeed 6 = .ok (.ifCond .eq 12, 3) := by decide +kernel
theorem dX5_keptDeed_9 : decode cX5_keptDeed 9 = .ok (.aload_n 0, 1) := by decide +kernel
theorem dX5_keptDeed_10 : decode cX5_keptDeed 10 = .ok (.getfield 15, 3) := by decide +kernel
theorem dX5_keptDeed_13 : decode cX5_keptDeed 13 = .ok (.iload_n 1, 1) := by decide +kernel
theorem dX5_keptDeed_14 : decode cX5_keptDeed 14 = .ok (.iaload, 1) := by decide +kernel
theorem dX5_keptDeed_15 : decode cX5_keptDeed 15 = .ok (.goto 4, 3) := by decide +kernel
theorem dX5_keptDeed_18 : decode cX5_keptDeed 18 = .ok (.iconst 0, 1) := by decide +kernel
theorem dX5_keptDeed_19 : decode cX5_keptDeed 19 = .ok (.ireturn, 1) := by decide +kernel
set_option maxRecDepth 100000 in
theorem c_X5_keptDeed (l : Launch) (E : xE) (a0 a1 : Nat) {T0 : Nat → Int32} {V1 : Nat → Int32} {u0_0 u0_3 u0_4 u0_5 : Nat} {x1 : Int32} {z : Int32} (hf : f_X5_keptDeed V1 x1 = some z) (sz : Nat) : Met l yX5_keptDeed (Cond.code yX5_keptDeed cX5_keptDeed 2 (some .int) :: gw) ({ frames := 1, cells := 0, slots := 0, locals := 22 }) (xPc E [.ref a0, .int x1] [(a0, o5 T0 u0_0 a1 u0_3 u0_4 u0_5), (a1, ai E 5 V1)] sz) (xQi E z [(a0, o5 T0 u0_0 a1 u0_3 u0_4 u0_5), (a1, ai E 5 V1)] [(a0, o5 T0 u0_0 a1 u0_3 u0_4 u0_5), (a1, ai E 5 V1)] sz) 0 0 (va_A [(a0, o5 T0 u0_0 a1 u0_3 u0_4 u0_5), (a1, ai E 5 V1)] sz) := by
  refine xM_i (by decide +kernel) (Nat.le_of_ble_eq_true rfl) ?_
  intro p e s m args below meth c A Q hx hb hml hown htg hK hG hA ret0 H locs ls hP hD hS hl
  have ret : ∀ (z' : Int32) {H : Heap} {locs : List Loc} {pc : Nat} {ls : Array Slot}, some z' = some z → narrow .int (.int z') = .int z' → va_P E.1 vwCl [(a0, o5 T0 u0_0 a1 u0_3 u0_4 u0_5), (a1, ai E 5 V1)] H → va_S A s.heap H locs → decode cX5_keptDeed pc = .ok (.ireturn, 1) → W p l e ({ frames := 1, cells := 0, slots := 0, locals := 22 } : Room) s m args below meth c H locs 0 0 Q (F0 m pc ls [.int z']) := by
    intro z' H locs pc ls h
    cases h
    exact ret0
  replace hl : lv_has ls 2 [(0, .ref a0), (1, .int x1)] := hl
  unfold f_X5_keptDeed at hf
  refine lv_iload_n hx hb dX5_keptDeed_0 rfl (lv_at hl 1 rfl) ?_
  refine lv_iconst (v := 0) hx hb dX5_keptDeed_1 rfl ?_
  refine lv_iconst (v := 4) hx hb dX5_keptDeed_2 rfl ?_
  obtain ⟨z3, hz3, hf⟩ := bind_s hf
  refine xN_ir hx hb hml hown htg L5_47 24 rfl (c_X11_within l E hz3 _) ⟨⟨rfl, rfl⟩, Nat.le_of_ble_eq_true rfl, Nat.le_of_ble_eq_true rfl⟩ hK hG hA hP hD hS (is := []) rfl rfl rfl hl.1 rfl (Nat.le_of_ble_eq_true rfl) dX5_keptDeed_3 (fun H locs hP hD hS => ?_)
  refine lv_if_eq (tgt := 18) hx hb dX5_keptDeed_6 (by decide) (fun c6 => ?_) (fun c6 => ?_)
  · have hf := it_t c6 hf
    refine lv_iconst (v := 0) hx hb dX5_keptDeed_18 rfl ?_
    exact ret 0 hf nzi hP hS dX5_keptDeed_19
  · have hf := it_f c6 hf
    refine lv_aload_n hx hb dX5_keptDeed_9 rfl (lv_at hl 0 rfl) ?_
    refine G5_15 hx hb htg hown hK hP 0 rfl dX5_keptDeed_10 ?_
    refine lv_iload_n hx hb dX5_keptDeed_13 rfl (lv_at hl 1 rfl) ?_
    obtain ⟨g14, hf⟩ := ck_s hf
    refine xiald hx hb hK hP 1 rfl g14 dX5_keptDeed_14 ?_
    refine lv_goto (tgt := 19) hx hb dX5_keptDeed_15 (by decide) ?_
    exact ret (V1 (Int32.toNatClampNeg x1)) hf nzi hP hS dX5_keptDeed_19
theorem dX5_behindEnd_0 : decode cX5_behindEnd 0 = .ok (.aload_n 1, 1) := by decide +kernel
theorem dX5_behindEnd_1 : decode cX5_behindEnd 1 = .ok (.iload_n 2, 1) := by decide +kernel
theorem dX5_behindEnd_2 : decode cX5_behindEnd 2 = .ok (.invokevirtual 86, 3) := by decide +kernel
theorem dX5_behindEnd_5 : decode cX5_behindEnd 5 = .ok (.istore_n 3, 1) := by decide +kernel
theorem dX5_behindEnd_6 : decode cX5_behindEnd 6 = .ok (.aload_n 1, 1) := by decide +kernel
theorem dX5_behindEnd_7 : decode cX5_behindEnd 7 = .ok (.iload_n 3, 1) := by decide +kernel
theorem dX5_behindEnd_8 : decode cX5_behindEnd 8 = .ok (.invokevirtual 72, 3) := by decide +kernel
theorem dX5_behindEnd_11 : decode cX5_behindEnd 11 = .ok (.bipush 20, 2) := by decide +kernel
theorem dX5_behindEnd_13 : decode cX5_behindEnd 13 = .ok (.if_icmp .ne 22, 3) := by decide +kernel
theorem dX5_behindEnd_16 : decode cX5_behindEnd 16 = .ok (.iload_n 3, 1) := by decide +kernel
theorem dX5_behindEnd_17 : decode cX5_behindEnd 17 = .ok (.iconst 0, 1) := by decide +kernel
theorem dX5_behindEnd_18 : decode cX5_behindEnd 18 = .ok (.aload_n 0, 1) := by decide +kernel
theorem dX5_behindEnd_19 : decode cX5_behindEnd 19 = .ok (.getfield 20, 3) := by decide +kernel
theorem dX5_behindEnd_22 : decode cX5_behindEnd 22 = .ok (.arraylength, 1) := by decide +kernel
theorem dX5_behindEnd_23 : decode cX5_behindEnd 23 = .ok (.iconst 1, 1) := by decide +kernel
theorem dX5_behindEnd_24 : decode cX5_behindEnd 24 = .ok (.isub, 1) := by decide +kernel
theorem dX5_behindEnd_25 : decode cX5_behindEnd 25 = .ok (.invokestatic 47, 3) := by decide +kernel
theorem dX5_behindEnd_28 : decode cX5_behindEnd 28 = .ok (.ifCond .eq 7, 3) := by decide +kernel
theorem dX5_behindEnd_31 : decode cX5_behindEnd 31 = .ok (.iconst 1, 1) := by decide +kernel
theorem dX5_behindEnd_32 : decode cX5_behindEnd 32 = .ok (.goto 4, 3) := by decide +kernel
theorem dX5_behindEnd_35 : decode cX5_behindEnd 35 = .ok (.iconst 0, 1) := by decide +kernel
theorem dX5_behindEnd_36 : decode cX5_behindEnd 36 = .ok (.istore 4, 2) := by decide +kernel
theorem dX5_behindEnd_38 : decode cX5_behindEnd 38 = .ok (.iload 4, 2) := by decide +kernel
theorem dX5_behindEnd_40 : decode cX5_behindEnd 40 = .ok (.ifCond .eq 26, 3) := by decide +kernel
theorem dX5_behindEnd_43 : decode cX5_behindEnd 43 = .ok (.aload_n 0, 1) := by decide +kernel
theorem dX5_behindEnd_44 : decode cX5_behindEnd 44 = .ok (.getfield 20, 3) := by decide +kernel
theorem dX5_behindEnd_47 : decode cX5_behindEnd 47 = .ok (.iload_n 3, 1) := by decide +kernel
theorem dX5_behindEnd_48 : decode cX5_behindEnd 48 = .ok (.iaload, 1) := by decide +kernel
theorem dX5_behindEnd_49 : decode cX5_behindEnd 49 = .ok (.ifCond .le 17, 3) := by decide +kernel
theorem dX5_behindEnd_52 : decode cX5_behindEnd 52 = .ok (.aload_n 0, 1) := by decide +kernel
theorem dX5_behindEnd_53 : decode cX5_behindEnd 53 = .ok (.getfield 20, 3) := by decide +kernel
theorem dX5_behindEnd_56 : decode cX5_behindEnd 56 = .ok (.iload_n 3, 1) := by decide +kernel
theorem dX5_behindEnd_57 : decode cX5_behindEnd 57 = .ok (.dup2, 1) := by decide +kernel
theorem dX5_behindEnd_58 : decode cX5_behindEnd 58 = .ok (.iaload, 1) := by decide +kernel
theorem dX5_behindEnd_59 : decode cX5_behindEnd 59 = .ok (.iconst 1, 1) := by decide +kernel
theorem dX5_behindEnd_60 : decode cX5_behindEnd 60 = .ok (.isub, 1) := by decide +kernel
theorem dX5_behindEnd_61 : decode cX5_behindEnd 61 = .ok (.iastore, 1) := by decide +kernel
theorem dX5_behindEnd_62 : decode cX5_behindEnd 62 = .ok (.iload_n 3, 1) := by decide +kernel
theorem dX5_behindEnd_63 : decode cX5_behindEnd 63 = .ok (.iconst 1, 1) := by decide +kernel
theorem dX5_behindEnd_64 : decode cX5_behindEnd 64 = .ok (.iadd, 1) := by decide +kernel
theorem dX5_behindEnd_65 : decode cX5_behindEnd 65 = .ok (.ireturn, 1) := by decide +kernel
theorem dX5_behindEnd_66 : decode cX5_behindEnd 66 = .ok (.iload_n 2, 1) := by decide +kernel
theorem dX5_behindEnd_67 : decode cX5_behindEnd 67 = .ok (.iconst 1, 1) := by decide +kernel
theorem dX5_behindEnd_68 : decode cX5_behindEnd 68 = .ok (.iadd, 1) := by decide +kernel
theorem dX5_behindEnd_69 : decode cX5_behindEnd 69 = .ok (.ireturn, 1) := by decide +kernel
set_option maxRecDepth 100000 in
theorem c_X5_behindEnd (l : Launch) (E : xE) (a0 a1 a2 a3 a4 : Nat) {T0 : Nat → Int32} {T1 : Nat → Int32} {V2 : Nat → Int32} {V3 : Nat → Int32} {V4 : Nat → Int32} {u0_0 u0_1 u0_4 u0_5 u1_4 u1_5 u1_6 : Nat} {x2 : Int32} {z : Int32 × (Nat → Int32)} (hf : f_X5_behindEnd T1 V2 V3 V4 x2 = some z) (sz : Nat) : Met l yX5_behindEnd (Cond.code yX5_behindEnd cX5_behindEnd 5 (some .int) :: gw) ({ frames := 3, cells := 0, slots := 0, locals := 64 }) (xPc E [.ref a0, .ref a1, .int x2] [(a0, o5 T0 u0_0 u0_1 a4 u0_4 u0_5), (a1, o0 T1 a3 u1_4 u1_5 u1_6 a2), (a2, ai E 60 V2), (a3, ai E 60 V3), (a4, ai E 60 V4)] sz) (xQi E z.1 [(a0, o5 T0 u0_0 u0_1 a4 u0_4 u0_5), (a1, o0 T1 a3 u1_4 u1_5 u1_6 a2), (a2, ai E 60 V2), (a3, ai E 60 V3), (a4, ai E 60 V4)] [(a0, o5 T0 u0_0 u0_1 a4 u0_4 u0_5), (a1, o0 T1 a3 u1_4 u1_5 u1_6 a2), (a2, ai E 60 V2), (a3, ai E 60 V3), (a4, ai E 60 z.2)] sz) 0 0 (va_A [(a0, o5 T0 u0_0 u0_1 a4 u0_4 u0_5), (a1, o0 T1 a3 u1_4 u1_5 u1_6 a2), (a2, ai E 60 V2), (a3, ai E 60 V3), (a4, ai E 60 V4)] sz) := by
  refine xM_i (by decide +kernel) (Nat.le_of_ble_eq_true rfl) ?_
  intro p e s m args below meth c A Q hx hb hml hown htg hK hG hA ret0 H locs ls hP hD hS hl
  have ret : ∀ (z' : Int32 × (Nat → Int32)) {H : Heap} {locs : List Loc} {pc : Nat} {ls : Array Slot}, some z' = some z → narrow .int (.int z'.1) = .int z'.1 → va_P E.1 vwCl [(a0, o5 T0 u0_0 u0_1 a4 u0_4 u0_5), (a1, o0 T1 a3 u1_4 u1_5 u1_6 a2), (a2, ai E 60 V2), (a3, ai E 60 V3), (a4, ai E 60 z'.2)] H → va_S A s.heap H locs → decode cX5_behindEnd pc = .ok (.ireturn, 1) → W p l e ({ frames := 3, cells := 0, slots := 0, locals := 64 } : Room) s m args below meth c H locs 0 0 Q (F0 m pc ls [.int z'.1]) := by
    intro z' H locs pc ls h
    cases h
    exact ret0
  replace hl : lv_has ls 5 [(0, .ref a0), (1, .ref a1), (2, .int x2)] := hl
  have b66 : ∀ (V4 : Nat → Int32) (H : Heap) (locs : List Loc) (ls : Array Slot), f_X5_behindEnd_66 T1 V2 V3 x2 V4 = some z → va_P E.1 vwCl [(a0, o5 T0 u0_0 u0_1 a4 u0_4 u0_5), (a1, o0 T1 a3 u1_4 u1_5 u1_6 a2), (a2, ai E 60 V2), (a3, ai E 60 V3), (a4, ai E 60 V4)] H → va_D A [(a0, o5 T0 u0_0 u0_1 a4 u0_4 u0_5), (a1, o0 T1 a3 u1_4 u1_5 u1_6 a2), (a2, ai E 60 V2), (a3, ai E 60 V3), (a4, ai E 60 V4)] → va_S A s.heap H locs → lv_has ls 5 [(2, .int x2)] → W p l e ({ frames := 3, cells := 0, slots := 0, locals := 64 } : Room) s m args below meth c H locs 0 0 Q (F0 m 66 ls []) := by
    intro V4 H locs ls hf hP hD hS hl
    unfold f_X5_behindEnd_66 at hf
    refine lv_iload_n hx hb dX5_behindEnd_66 rfl (lv_at hl 0 rfl) ?_
    refine lv_iconst (v := 1) hx hb dX5_behindEnd_67 rfl ?_
    refine lv_iadd hx hb dX5_behindEnd_68 ?_
    exact ret (x2 + 1, V4) hf nzi hP hS dX5_behindEnd_69
  have b36 : ∀ (x3 : Int32) (s0 : Int32) (V4 : Nat → Int32) (H : Heap) (locs : List Loc) (ls : Array Slot), f_X5_behindEnd_36 T1 V2 V3 x2 x3 s0 V4 = some z → va_P E.1 vwCl [(a0, o5 T0 u0_0 u0_1 a4 u0_4 u0_5), (a1, o0 T1 a3 u1_4 u1_5 u1_6 a2), (a2, ai E 60 V2), (a3, ai E 60 V3), (a4, ai E 60 V4)] H → va_D A [(a0, o5 T0 u0_0 u0_1 a4 u0_4 u0_5), (a1, o0 T1 a3 u1_4 u1_5 u1_6 a2), (a2, ai E 60 V2), (a3, ai E 60 V3), (a4, ai E 60 V4)] → va_S A s.heap H locs → lv_has ls 5 [(0, .ref a0), (2, .int x2), (3, .int x3)] → W p l e ({ frames := 3, cells := 0, slots := 0, locals := 64 } : Room) s m args below meth c H locs 0 0 Q (F0 m 36 ls [.int s0]) := by
    intro x3 s0 V4 H locs ls hf hP hD hS hl
    unfold f_X5_behindEnd_36 at hf
    refine lv_istore (lv' := [(4, .int s0), (0, .ref a0), (2, .int x2), (3, .int x3)]) hx hb dX5_behindEnd_36 hl (by decide) rfl (fun ls hl => ?_)
    refine lv_iload hx hb dX5_behindEnd_38 (lv_at hl 0 rfl) ?_
    refine lv_if_eq (tgt := 66) hx hb dX5_behindEnd_40 (by decide) (fun c40 => ?_) (fun c40 => ?_)
    · have hf := it_t c40 hf
      exact b66 V4 _ _ _ hf hP hD hS (lv_sub hl [2] rfl)
    · have hf := it_f c40 hf
      refine lv_aload_n hx hb dX5_behindEnd_43 rfl (lv_at hl 1 rfl) ?_
      refine G5_20 hx hb htg hown hK hP 0 rfl dX5_behindEnd_44 ?_
      refine lv_iload_n hx hb dX5_behindEnd_47 rfl (lv_at hl 3 rfl) ?_
      obtain ⟨g48, hf⟩ := ck_s hf
      refine xiald hx hb hK hP 4 rfl g48 dX5_behindEnd_48 ?_
      refine lv_if_le (tgt := 66) hx hb dX5_behindEnd_49 (by decide) (fun c49 => ?_) (fun c49 => ?_)
      · have hf := it_t c49 hf
        exact b66 V4 _ _ _ hf hP hD hS (lv_sub hl [2] rfl)
      · have hf := it_f c49 hf
        refine lv_aload_n hx hb dX5_behindEnd_52 rfl (lv_at hl 1 rfl) ?_
        refine G5_20 hx hb htg hown hK hP 0 rfl dX5_behindEnd_53 ?_
        refine lv_iload_n hx hb dX5_behindEnd_56 rfl (lv_at hl 3 rfl) ?_
        refine lv_dup2_11 hx hb dX5_behindEnd_57 rfl rfl ?_
        obtain ⟨g58, hf⟩ := ck_s hf
        refine xiald hx hb hK hP 4 rfl g58 dX5_behindEnd_58 ?_
        refine lv_iconst (v := 1) hx hb dX5_behindEnd_59 rfl ?_
        refine lv_isub hx hb dX5_behindEnd_60 ?_
        obtain ⟨g61, hf⟩ := ck_s hf
        refine xiast hx hb hK hP hD hS 4 rfl g61 dX5_behindEnd_61 (fun H locs hP hD hS => ?_)
        refine lv_iload_n hx hb dX5_behindEnd_62 rfl (lv_at hl 3 rfl) ?_
        refine lv_iconst (v := 1) hx hb dX5_behindEnd_63 rfl ?_
        refine lv_iadd hx hb dX5_behindEnd_64 ?_
        exact ret (x3 + 1, upd V4 (Int32.toNatClampNeg x3) ((V4 (Int32.toNatClampNeg x3)) - 1)) hf nzi hP hS dX5_behindEnd_65
  have b35 : ∀ (x3 : Int32) (V4 : Nat → Int32) (H : Heap) (locs : List Loc) (ls : Array Slot), f_X5_behindEnd_35 T1 V2 V3 x2 x3 V4 = some z → va_P E.1 vwCl [(a0, o5 T0 u0_0 u0_1 a4 u0_4 u0_5), (a1, o0 T1 a3 u1_4 u1_5 u1_6 a2), (a2, ai E 60 V2), (a3, ai E 60 V3), (a4, ai E 60 V4)] H → va_D A [(a0, o5 T0 u0_0 u0_1 a4 u0_4 u0_5), (a1, o0 T1 a3 u1_4 u1_5 u1_6 a2), (a2, ai E 60 V2), (a3, ai E 60 V3), (a4, ai E 60 V4)] → va_S A s.heap H locs → lv_has ls 5 [(0, .ref a0), (2, .int x2), (3, .int x3)] → W p l e ({ frames := 3, cells := 0, slots := 0, locals := 64 } : Room) s m args below meth c H locs 0 0 Q (F0 m 35 ls []) := by
    intro x3 V4 H locs ls hf hP hD hS hl
    unfold f_X5_behindEnd_35 at hf
    refine lv_iconst (v := 0) hx hb dX5_behindEnd_35 rfl ?_
    exact b36 x3 0 V4 _ _ _ hf hP hD hS (lv_sub hl [0, 1, 2] rfl)
  unfold f_X5_behindEnd at hf
  refine lv_aload_n hx hb dX5_behindEnd_0 rfl (lv_at hl 1 rfl) ?_
  refine lv_iload_n hx hb dX5_behindEnd_1 rfl (lv_at hl 2 rfl) ?_
  obtain ⟨z2, hz2, hf⟩ := bind_s hf
  refine xV_ir hx hb hml hown htg L5_86 (c_X0_partner l E a1 a2 hz2 _) ⟨⟨rfl, rfl⟩, Nat.le_of_ble_eq_true rfl, Nat.le_of_ble_eq_true rfl⟩ hK hG hA hP hD hS (is := [1, 2]) rfl rfl (xrecv hK hP (q0 := 1) (ci := 0) rfl rfl) rfl hl.1 rfl (Nat.le_of_ble_eq_true rfl) dX5_behindEnd_2 (fun H locs hP hD hS => ?_)
  refine lv_istore_n (lv' := [(3, .int z2), (0, .ref a0), (1, .ref a1), (2, .int x2)]) hx hb dX5_behindEnd_5 rfl hl (by decide) rfl (fun ls hl => ?_)
  refine lv_aload_n hx hb dX5_behindEnd_6 rfl (lv_at hl 2 rfl) ?_
  refine lv_iload_n hx hb dX5_behindEnd_7 rfl (lv_at hl 0 rfl) ?_
  obtain ⟨z8, hz8, hf⟩ := bind_s hf
  refine xV_ir hx hb hml hown htg L5_72 (c_X0_deed l E a1 a3 hz8 _) ⟨⟨rfl, rfl⟩, Nat.le_of_ble_eq_true rfl, Nat.le_of_ble_eq_true rfl⟩ hK hG hA hP hD hS (is := [1, 3]) rfl rfl (xrecv hK hP (q0 := 1) (ci := 0) rfl rfl) rfl hl.1 rfl (Nat.le_of_ble_eq_true rfl) dX5_behindEnd_8 (fun H locs hP hD hS => ?_)
  refine lv_bipush (v := 20) hx hb dX5_behindEnd_11 rfl ?_
  refine lv_icmp_ne (tgt := 35) hx hb dX5_behindEnd_13 (by decide) (fun c13 => ?_) (fun c13 => ?_)
  · have hf := it_f c13 hf
    exact b35 z2 V4 _ _ _ hf hP hD hS (lv_sub hl [1, 3, 0] rfl)
  · have hf := it_t c13 hf
    refine lv_iload_n hx hb dX5_behindEnd_16 rfl (lv_at hl 0 rfl) ?_
    refine lv_iconst (v := 0) hx hb dX5_behindEnd_17 rfl ?_
    refine lv_aload_n hx hb dX5_behindEnd_18 rfl (lv_at hl 1 rfl) ?_
    refine G5_20 hx hb htg hown hK hP 0 rfl dX5_behindEnd_19 ?_
    refine va_alen (v := 60) hx hb hK hP 4 1 rfl rfl rfl dX5_behindEnd_22 ?_
    refine lv_iconst (v := 1) hx hb dX5_behindEnd_23 rfl ?_
    refine lv_isub hx hb dX5_behindEnd_24 ?_
    obtain ⟨z25, hz25, hf⟩ := bind_s hf
    refine xN_ir hx hb hml hown htg L5_47 24 rfl (c_X11_within l E hz25 _) ⟨⟨rfl, rfl⟩, Nat.le_of_ble_eq_true rfl, Nat.le_of_ble_eq_true rfl⟩ hK hG hA hP hD hS (is := []) rfl rfl rfl hl.1 rfl (Nat.le_of_ble_eq_true rfl) dX5_behindEnd_25 (fun H locs hP hD hS => ?_)
    refine lv_if_eq (tgt := 35) hx hb dX5_behindEnd_28 (by decide) (fun c28 => ?_) (fun c28 => ?_)
    · have hf := it_t c28 hf
      exact b35 z2 V4 _ _ _ hf hP hD hS (lv_sub hl [1, 3, 0] rfl)
    · have hf := it_f c28 hf
      refine lv_iconst (v := 1) hx hb dX5_behindEnd_31 rfl ?_
      refine lv_goto (tgt := 36) hx hb dX5_behindEnd_32 (by decide) ?_
      exact b36 z2 1 V4 _ _ _ hf hP hD hS (lv_sub hl [1, 3, 0] rfl)
theorem dX5_count_0 : decode cX5_count 0 = .ok (.iload_n 1, 1) := by decide +kernel
theorem dX5_count_1 : decode cX5_count 1 = .ok (.ifCond .ne 13, 3) := by decide +kernel
theorem dX5_count_4 : decode cX5_count 4 = .ok (.aload_n 0, 1) := by decide +kernel
theorem dX5_count_5 : decode cX5_count 5 = .ok (.getfield 11, 3) := by decide +kernel
theorem dX5_count_8 : decode cX5_count 8 = .ok (.iconst 0, 1) := by decide +kernel
theorem dX5_count_9 : decode cX5_count 9 = .ok (.dup2, 1) := by decide +kernel
theorem dX5_count_10 : decode cX5_count 10 = .ok (.iaload, 1) := by decide +kernel
theorem dX5_count_11 : decode cX5_count 11 = .ok (.iconst 1, 1) := by decide +kernel
theorem dX5_count_12 : decode cX5_count 12 = .ok (.iadd, 1) := by decide +kernel
theorem dX5_count_13 : decode cX5_count 13 = .ok (.iastore, 1) := by decide +kernel
theorem dX5_count_14 : decode cX5_count 14 = .ok (.return_, 1) := by decide +kernel
set_option maxRecDepth 100000 in
theorem c_X5_count (l : Launch) (E : xE) (a0 a1 : Nat) {T0 : Nat → Int32} {V1 : Nat → Int32} {u0_1 u0_3 u0_4 u0_5 : Nat} {x1 : Int32} {z : (Nat → Int32)} (hf : f_X5_count V1 x1 = some z) (sz : Nat) : Met l yX5_count (Cond.code yX5_count cX5_count 2 none :: gw) ({ frames := 0, cells := 0, slots := 0, locals := 0 }) (xPc E [.ref a0, .int x1] [(a0, o5 T0 a1 u0_1 u0_3 u0_4 u0_5), (a1, ai E 5 V1)] sz) (xQv E [(a0, o5 T0 a1 u0_1 u0_3 u0_4 u0_5), (a1, ai E 5 V1)] [(a0, o5 T0 a1 u0_1 u0_3 u0_4 u0_5), (a1, ai E 5 z)] sz) 0 0 (va_A [(a0, o5 T0 a1 u0_1 u0_3 u0_4 u0_5), (a1, ai E 5 V1)] sz) := by
  refine xM_v (by decide +kernel) (Nat.le_of_ble_eq_true rfl) ?_
  intro p e s m args below meth c A Q hx hb hml hown htg hK hG hA ret0 H locs ls hP hD hS hl
  have ret : ∀ (z' : (Nat → Int32)) {H : Heap} {locs : List Loc} {pc : Nat} {ls : Array Slot}, some z' = some z → va_P E.1 vwCl [(a0, o5 T0 a1 u0_1 u0_3 u0_4 u0_5), (a1, ai E 5 z')] H → va_S A s.heap H locs → decode cX5_count pc = .ok (.return_, 1) → W p l e ({ frames := 0, cells := 0, slots := 0, locals := 0 } : Room) s m args below meth c H locs 0 0 Q (F0 m pc ls []) := by
    intro z' H locs pc ls h
    cases h
    exact ret0
  replace hl : lv_has ls 2 [(0, .ref a0), (1, .int x1)] := hl
  unfold f_X5_count at hf
  refine lv_iload_n hx hb dX5_count_0 rfl (lv_at hl 1 rfl) ?_
  refine lv_if_ne (tgt := 14) hx hb dX5_count_1 (by decide) (fun c1 => ?_) (fun c1 => ?_)
  · have hf := it_f c1 hf
    exact ret V1 hf hP hS dX5_count_14
  · have hf := it_t c1 hf
    refine lv_aload_n hx hb dX5_count_4 rfl (lv_at hl 0 rfl) ?_
    refine G5_11 hx hb htg hown hK hP 0 rfl dX5_count_5 ?_
    refine lv_iconst (v := 0) hx hb dX5_count_8 rfl ?_
    refine lv_dup2_11 hx hb dX5_count_9 rfl rfl ?_
    obtain ⟨g10, hf⟩ := ck_s hf
    refine xiald hx hb hK hP 1 rfl g10 dX5_count_10 ?_
    refine lv_iconst (v := 1) hx hb dX5_count_11 rfl ?_
    refine lv_iadd hx hb dX5_count_12 ?_
    obtain ⟨g13, hf⟩ := ck_s hf
    refine xiast hx hb hK hP hD hS 1 rfl g13 dX5_count_13 (fun H locs hP hD hS => ?_)
    exact ret (upd V1 (Int32.toNatClampNeg 0) ((V1 (Int32.toNatClampNeg 0)) + 1)) hf hP hS dX5_count_14
theorem dX5_countTelling_0 : decode cX5_countTelling 0 = .ok (.aload_n 0, 1) := by decide +kernel
theorem dX5_countTelling_1 : decode cX5_countTelling 1 = .ok (.iload_n 1, 1) := by decide +kernel
theorem dX5_countTelling_2 : decode cX5_countTelling 2 = .ok (.invokevirtual 96, 3) := by decide +kernel
theorem dX5_countTelling_5 : decode cX5_countTelling 5 = .ok (.iload_n 1, 1) := by decide +kernel
theorem dX5_countTelling_6 : decode cX5_countTelling 6 = .ok (.ifCond .eq 13, 3) := by decide +kernel
theorem dX5_countTelling_9 : decode cX5_countTelling 9 = .ok (.aload_n 0, 1) := by decide +kernel
theorem dX5_countTelling_10 : decode cX5_countTelling 10 = .ok (.getfield 11, 3) := by decide +kernel
theorem dX5_countTelling_13 : decode cX5_countTelling 13 = .ok (.iconst 1, 1) := by decide +kernel
theorem dX5_countTelling_14 : decode cX5_countTelling 14 = .ok (.dup2, 1) := by decide +kernel
theorem dX5_countTelling_15 : decode cX5_countTelling 15 = .ok (.iaload, 1) := by decide +kernel
theorem dX5_countTelling_16 : decode cX5_countTelling 16 = .ok (.iconst 1, 1) := by decide +kernel
theorem dX5_countTelling_17 : decode cX5_countTelling 17 = .ok (.iadd, 1) := by decide +kernel
theorem dX5_countTelling_18 : decode cX5_countTelling 18 = .ok (.iastore, 1) := by decide +kernel
theorem dX5_countTelling_19 : decode cX5_countTelling 19 = .ok (.return_, 1) := by decide +kernel
set_option maxRecDepth 100000 in
theorem c_X5_countTelling (l : Launch) (E : xE) (a0 a1 : Nat) {T0 : Nat → Int32} {V1 : Nat → Int32} {u0_1 u0_3 u0_4 u0_5 : Nat} {x1 : Int32} {z : (Nat → Int32)} (hf : f_X5_countTelling V1 x1 = some z) (sz : Nat) : Met l yX5_countTelling (Cond.code yX5_countTelling cX5_countTelling 2 none :: gw) ({ frames := 1, cells := 0, slots := 0, locals := 21 }) (xPc E [.ref a0, .int x1] [(a0, o5 T0 a1 u0_1 u0_3 u0_4 u0_5), (a1, ai E 5 V1)] sz) (xQv E [(a0, o5 T0 a1 u0_1 u0_3 u0_4 u0_5), (a1, ai E 5 V1)] [(a0, o5 T0 a1 u0_1 u0_3 u0_4 u0_5), (a1, ai E 5 z)] sz) 0 0 (va_A [(a0, o5 T0 a1 u0_1 u0_3 u0_4 u0_5), (a1, ai E 5 V1)] sz) := by
  refine xM_v (by decide +kernel) (Nat.le_of_ble_eq_true rfl) ?_
  intro p e s m args below meth c A Q hx hb hml hown htg hK hG hA ret0 H locs ls hP hD hS hl
  have ret : ∀ (z' : (Nat → Int32)) {H : Heap} {locs : List Loc} {pc : Nat} {ls : Array Slot}, some z' = some z → va_P E.1 vwCl [(a0, o5 T0 a1 u0_1 u0_3 u0_4 u0_5), (a1, ai E 5 z')] H → va_S A s.heap H locs → decode cX5_countTelling pc = .ok (.return_, 1) → W p l e ({ frames := 1, cells := 0, slots := 0, locals := 21 } : Room) s m args below meth c H locs 0 0 Q (F0 m pc ls []) := by
    intro z' H locs pc ls h
    cases h
    exact ret0
  replace hl : lv_has ls 2 [(0, .ref a0), (1, .int x1)] := hl
  unfold f_X5_countTelling at hf
  refine lv_aload_n hx hb dX5_countTelling_0 rfl (lv_at hl 0 rfl) ?_
  refine lv_iload_n hx hb dX5_countTelling_1 rfl (lv_at hl 1 rfl) ?_
  obtain ⟨z2, hz2, hf⟩ := bind_s hf
  refine xV_vu hx hb hml hown htg L5_96 (c_X5_count l E a0 a1 hz2 _) ⟨⟨rfl, rfl⟩, Nat.le_of_ble_eq_true rfl, Nat.le_of_ble_eq_true rfl⟩ hK hG hA hP hD hS (is := [0, 1]) (sel := [some 0, some 1]) (ws2 := [(a0, o5 T0 a1 u0_1 u0_3 u0_4 u0_5), (a1, ai E 5 z2)]) rfl rfl rfl rfl rfl (xrecv hK hP (q0 := 0) (ci := 5) rfl rfl) rfl hl.1 rfl (Nat.le_of_ble_eq_true rfl) dX5_countTelling_2 (fun H locs hP hD hS => ?_)
  refine lv_iload_n hx hb dX5_countTelling_5 rfl (lv_at hl 1 rfl) ?_
  refine lv_if_eq (tgt := 19) hx hb dX5_countTelling_6 (by decide) (fun c6 => ?_) (fun c6 => ?_)
  · have hf := it_t c6 hf
    exact ret z2 hf hP hS dX5_countTelling_19
  · have hf := it_f c6 hf
    refine lv_aload_n hx hb dX5_countTelling_9 rfl (lv_at hl 0 rfl) ?_
    refine G5_11 hx hb htg hown hK hP 0 rfl dX5_countTelling_10 ?_
    refine lv_iconst (v := 1) hx hb dX5_countTelling_13 rfl ?_
    refine lv_dup2_11 hx hb dX5_countTelling_14 rfl rfl ?_
    obtain ⟨g15, hf⟩ := ck_s hf
    refine xiald hx hb hK hP 1 rfl g15 dX5_countTelling_15 ?_
    refine lv_iconst (v := 1) hx hb dX5_countTelling_16 rfl ?_
    refine lv_iadd hx hb dX5_countTelling_17 ?_
    obtain ⟨g18, hf⟩ := ck_s hf
    refine xiast hx hb hK hP hD hS 1 rfl g18 dX5_countTelling_18 (fun H locs hP hD hS => ?_)
    exact ret (upd z2 (Int32.toNatClampNeg 1) ((z2 (Int32.toNatClampNeg 1)) + 1)) hf hP hS dX5_countTelling_19
theorem dX5_sailTo_0 : decode cX5_sailTo 0 = .ok (.aload_n 0, 1) := by decide +kernel
theorem dX5_sailTo_1 : decode cX5_sailTo 1 = .ok (.getfield 26, 3) := by decide +kernel
theorem dX5_sailTo_4 : decode cX5_sailTo 4 = .ok (.aload_n 1, 1) := by decide +kernel
theorem dX5_sailTo_5 : decode cX5_sailTo 5 = .ok (.aload_n 1, 1) := by decide +kernel
theorem dX5_sailTo_6 : decode cX5_sailTo 6 = .ok (.getfield 128, 3) := by decide +kernel
theorem dX5_sailTo_9 : decode cX5_sailTo 9 = .ok (.invokevirtual 131, 3) := by decide +kernel
theorem dX5_sailTo_12 : decode cX5_sailTo 12 = .ok (.aload_n 0, 1) := by decide +kernel
theorem dX5_sailTo_13 : decode cX5_sailTo 13 = .ok (.getfield 33, 3) := by decide +kernel
theorem dX5_sailTo_16 : decode cX5_sailTo 16 = .ok (.aload_n 1, 1) := by decide +kernel
theorem dX5_sailTo_17 : decode cX5_sailTo 17 = .ok (.aload_n 0, 1) := by decide +kernel
theorem dX5_sailTo_18 : decode cX5_sailTo 18 = .ok (.getfield 26, 3) := by decide +kernel
theorem dX5_sailTo_21 : decode cX5_sailTo 21 = .ok (.iload_n 2, 1) := by decide +kernel
theorem dX5_sailTo_22 : decode cX5_sailTo 22 = .ok (.invokevirtual 134, 3) := by decide +kernel
theorem dX5_sailTo_25 : decode cX5_sailTo 25 = .ok (.istore_n 3, 1) := by decide +kernel
theorem dX5_sailTo_26 : decode cX5_sailTo 26 = .ok (.aload_n 0, 1) := by decide +kernel
theorem dX5_sailTo_27 : decode cX5_sailTo 27 = .ok (.iload_n 3, 1) := by decide +kernel
theorem dX5_sailTo_28 : decode cX5_sailTo 28 = .ok (.invokevirtual 96, 3) := by decide +kernel
theorem dX5_sailTo_31 : decode cX5_sailTo 31 = .ok (.iload_n 3, 1) := by decide +kernel
theorem dX5_sailTo_32 : decode cX5_sailTo 32 = .ok (.ifCond .eq 65, 3) := by decide +kernel
theorem dX5_sailTo_35 : decode cX5_sailTo 35 = .ok (.aload_n 0, 1) := by decide +kernel
theorem dX5_sailTo_36 : decode cX5_sailTo 36 = .ok (.getfield 11, 3) := by decide +kernel
theorem dX5_sailTo_39 : decode cX5_sailTo 39 = .ok (.iconst 2, 1) := by decide +kernel
theorem dX5_sailTo_40 : decode cX5_sailTo 40 = .ok (.dup2, 1) := by decide +kernel
theorem dX5_sailTo_41 : decode cX5_sailTo 41 = .ok (.iaload, 1) := by decide +kernel
theorem dX5_sailTo_42 : decode cX5_sailTo 42 = .ok (.iconst 1, 1) := by decide +kernel
theorem dX5_sailTo_43 : decode cX5_sailTo 43 = .ok (.iadd, 1) := by decide +kernel
theorem dX5_sailTo_44 : decode cX5_sailTo 44 = .ok (.iastore, 1) := by decide +kernel
theorem dX5_sailTo_45 : decode cX5_sailTo 45 = .ok (.aload_n 0, 1) := by decide +kernel
theorem dX5_sailTo_46 : decode cX5_sailTo 46 = .ok (.getfield 33, 3) := by decide +kernel
theorem dX5_sailTo_49 : decode cX5_sailTo 49 = .ok (.invokevirtual 138, 3) := by decide +kernel
theorem dX5_sailTo_52 : decode cX5_sailTo 52 = .ok (.ifCond .le 23, 3) := by decide +kernel
theorem dX5_sailTo_55 : decode cX5_sailTo 55 = .ok (.aload_n 1, 1) := by decide +kernel
theorem dX5_sailTo_56 : decode cX5_sailTo 56 = .ok (.aload_n 0, 1) := by decide +kernel
theorem dX5_sailTo_57 : decode cX5_sailTo 57 = .ok (.getfield 33, 3) := by decide +kernel
theorem dX5_sailTo_60 : decode cX5_sailTo 60 = .ok (.aload_n 1, 1) := by decide +kernel
theorem dX5_sailTo_61 : decode cX5_sailTo 61 = .ok (.invokevirtual 142, 3) := by decide +kernel
theorem dX5_sailTo_64 : decode cX5_sailTo 64 = .ok (.invokevirtual 146, 3) := by decide +kernel
theorem dX5_sailTo_67 : decode cX5_sailTo 67 = .ok (.iconst 1, 1) := by decide +kernel
theorem dX5_sailTo_68 : decode cX5_sailTo 68 = .ok (.if_icmp .ne 7, 3) := by decide +kernel
theorem dX5_sailTo_71 : decode cX5_sailTo 71 = .ok (.iconst 1, 1) := by decide +kernel
theorem dX5_sailTo_72 : decode cX5_sailTo 72 = .ok (.goto 4, 3) := by decide +kernel
theorem dX5_sailTo_75 : decode cX5_sailTo 75 = .ok (.iconst 0, 1) := by decide +kernel
theorem dX5_sailTo_76 : decode cX5_sailTo 76 = .ok (.istore 4, 2) := by decide +kernel
theorem dX5_sailTo_78 : decode cX5_sailTo 78 = .ok (.aload_n 0, 1) := by decide +kernel
theorem dX5_sailTo_79 : decode cX5_sailTo 79 = .ok (.getfield 11, 3) := by decide +kernel
theorem dX5_sailTo_82 : decode cX5_sailTo 82 = .ok (.iconst 3, 1) := by decide +kernel
theorem dX5_sailTo_83 : decode cX5_sailTo 83 = .ok (.dup2, 1) := by decide +kernel
theorem dX5_sailTo_84 : decode cX5_sailTo 84 = .ok (.iaload, 1) := by decide +kernel
theorem dX5_sailTo_85 : decode cX5_sailTo 85 = .ok (.iload 4, 2) := by decide +kernel
theorem dX5_sailTo_87 : decode cX5_sailTo 87 = .ok (.ifCond .eq 7, 3) := by decide +kernel
theorem dX5_sailTo_90 : decode cX5_sailTo 90 = .ok (.iconst 1, 1) := by decide +kernel
theorem dX5_sailTo_91 : decode cX5_sailTo 91 = .ok (.goto 4, 3) := by decide +kernel
theorem dX5_sailTo_94 : decode cX5_sailTo 94 = .ok (.iconst 0, 1) := by decide +kernel
theorem dX5_sailTo_95 : decode cX5_sailTo 95 = .ok (.iadd, 1) := by decide +kernel
theorem dX5_sailTo_96 : decode cX5_sailTo 96 = .ok (.iastore, 1) := by decide +kernel
theorem dX5_sailTo_97 : decode cX5_sailTo 97 = .ok (.return_, 1) := by decide +kernel
set_option maxRecDepth 100000 in
theorem c_X5_sailTo (l : Launch) (E : xE) (a0 a1 a2 a3 a4 a5 a6 a7 a8 a9 a10 a11 a12 : Nat) {T0 : Nat → Int32} {T1 : Nat → Int32} {V3 : Nat → Int32} {V4 : Nat → Int32} {V5 : Nat → Int32} {V6 : Nat → Int32} {T7 : Nat → Int32} {V8 : Nat → Int32} {V9 : Nat → Int32} {V10 : Nat → Int32} {V11 : Nat → Int32} {V12 : Nat → Int32} {u0_1 u0_3 u1_8 u1_9 u1_13 u1_14 : Nat} {x2 : Int32} {z : (Nat → Int32) × (Nat → Int32) × (Nat → Int32) × (Nat → Int32) × (Nat → Int32) × (Nat → Int32)} (hf : f_X5_sailTo T1 V3 V4 V5 V6 T7 V8 V9 V10 V11 V12 x2 = some z) (sz : Nat) : Met l yX5_sailTo (Cond.code yX5_sailTo cX5_sailTo 5 none :: gw) ({ frames := 3, cells := 0, slots := 0, locals := 76 }) (xPc E [.ref a0, .ref a1, .int x2] [(a0, o5 T0 a11 u0_1 u0_3 a2 a7), (a1, o3 T1 a12 u1_8 u1_9 a6 a4 a5 u1_13 u1_14), (a2, o7 a3), (a3, ai E 144 V3), (a4, ai E 12 V4), (a5, ai E 12 V5), (a6, ai E 12 V6), (a7, o6 T7 a10 a9 a8), (a8, ai E 37 V8), (a9, ai E 36 V9), (a10, ai E 36 V10), (a11, ai E 5 V11), (a12, ai E 36 V12)] sz) (xQv E [(a0, o5 T0 a11 u0_1 u0_3 a2 a7), (a1, o3 T1 a12 u1_8 u1_9 a6 a4 a5 u1_13 u1_14), (a2, o7 a3), (a3, ai E 144 V3), (a4, ai E 12 V4), (a5, ai E 12 V5), (a6, ai E 12 V6), (a7, o6 T7 a10 a9 a8), (a8, ai E 37 V8), (a9, ai E 36 V9), (a10, ai E 36 V10), (a11, ai E 5 V11), (a12, ai E 36 V12)] [(a0, o5 T0 a11 u0_1 u0_3 a2 a7), (a1, o3 T1 a12 u1_8 u1_9 a6 a4 a5 u1_13 u1_14), (a2, o7 a3), (a3, ai E 144 z.1), (a4, ai E 12 V4), (a5, ai E 12 V5), (a6, ai E 12 V6), (a7, o6 z.2.1 a10 a9 a8), (a8, ai E 37 z.2.2.1), (a9, ai E 36 z.2.2.2.1), (a10, ai E 36 z.2.2.2.2.1), (a11, ai E 5 z.2.2.2.2.2), (a12, ai E 36 V12)] sz) 0 0 (va_A [(a0, o5 T0 a11 u0_1 u0_3 a2 a7), (a1, o3 T1 a12 u1_8 u1_9 a6 a4 a5 u1_13 u1_14), (a2, o7 a3), (a3, ai E 144 V3), (a4, ai E 12 V4), (a5, ai E 12 V5), (a6, ai E 12 V6), (a7, o6 T7 a10 a9 a8), (a8, ai E 37 V8), (a9, ai E 36 V9), (a10, ai E 36 V10), (a11, ai E 5 V11), (a12, ai E 36 V12)] sz) := by
  refine xM_v (by decide +kernel) (Nat.le_of_ble_eq_true rfl) ?_
  intro p e s m args below meth c A Q hx hb hml hown htg hK hG hA ret0 H locs ls hP hD hS hl
  have ret : ∀ (z' : (Nat → Int32) × (Nat → Int32) × (Nat → Int32) × (Nat → Int32) × (Nat → Int32) × (Nat → Int32)) {H : Heap} {locs : List Loc} {pc : Nat} {ls : Array Slot}, some z' = some z → va_P E.1 vwCl [(a0, o5 T0 a11 u0_1 u0_3 a2 a7), (a1, o3 T1 a12 u1_8 u1_9 a6 a4 a5 u1_13 u1_14), (a2, o7 a3), (a3, ai E 144 z'.1), (a4, ai E 12 V4), (a5, ai E 12 V5), (a6, ai E 12 V6), (a7, o6 z'.2.1 a10 a9 a8), (a8, ai E 37 z'.2.2.1), (a9, ai E 36 z'.2.2.2.1), (a10, ai E 36 z'.2.2.2.2.1), (a11, ai E 5 z'.2.2.2.2.2), (a12, ai E 36 V12)] H → va_S A s.heap H locs → decode cX5_sailTo pc = .ok (.return_, 1) → W p l e ({ frames := 3, cells := 0, slots := 0, locals := 76 } : Room) s m args below meth c H locs 0 0 Q (F0 m pc ls []) := by
    intro z' H locs pc ls h
    cases h
    exact ret0
  replace hl : lv_has ls 5 [(0, .ref a0), (1, .ref a1), (2, .int x2)] := hl
  have b95 : ∀ (s1 : Int32) (s2 : Int32) (s3 : Int32) (V3 : Nat → Int32) (T7 : Nat → Int32) (V8 : Nat → Int32) (V9 : Nat → Int32) (V10 : Nat → Int32) (V11 : Nat → Int32) (H : Heap) (locs : List Loc) (ls : Array Slot), f_X5_sailTo_95 T1 V4 V5 V6 V12 x2 s1 s2 s3 V3 T7 V8 V9 V10 V11 = some z → va_P E.1 vwCl [(a0, o5 T0 a11 u0_1 u0_3 a2 a7), (a1, o3 T1 a12 u1_8 u1_9 a6 a4 a5 u1_13 u1_14), (a2, o7 a3), (a3, ai E 144 V3), (a4, ai E 12 V4), (a5, ai E 12 V5), (a6, ai E 12 V6), (a7, o6 T7 a10 a9 a8), (a8, ai E 37 V8), (a9, ai E 36 V9), (a10, ai E 36 V10), (a11, ai E 5 V11), (a12, ai E 36 V12)] H → va_D A [(a0, o5 T0 a11 u0_1 u0_3 a2 a7), (a1, o3 T1 a12 u1_8 u1_9 a6 a4 a5 u1_13 u1_14), (a2, o7 a3), (a3, ai E 144 V3), (a4, ai E 12 V4), (a5, ai E 12 V5), (a6, ai E 12 V6), (a7, o6 T7 a10 a9 a8), (a8, ai E 37 V8), (a9, ai E 36 V9), (a10, ai E 36 V10), (a11, ai E 5 V11), (a12, ai E 36 V12)] → va_S A s.heap H locs → lv_has ls 5 [] → W p l e ({ frames := 3, cells := 0, slots := 0, locals := 76 } : Room) s m args below meth c H locs 0 0 Q (F0 m 95 ls [.int s3, .int s2, .int s1, .ref a11]) := by
    intro s1 s2 s3 V3 T7 V8 V9 V10 V11 H locs ls hf hP hD hS hl
    unfold f_X5_sailTo_95 at hf
    refine lv_iadd hx hb dX5_sailTo_95 ?_
    obtain ⟨g96, hf⟩ := ck_s hf
    refine xiast hx hb hK hP hD hS 11 rfl g96 dX5_sailTo_96 (fun H locs hP hD hS => ?_)
    exact ret (V3, T7, V8, V9, V10, upd V11 (Int32.toNatClampNeg s1) (s2 + s3)) hf hP hS dX5_sailTo_97
  have b76 : ∀ (s0 : Int32) (V3 : Nat → Int32) (T7 : Nat → Int32) (V8 : Nat → Int32) (V9 : Nat → Int32) (V10 : Nat → Int32) (V11 : Nat → Int32) (H : Heap) (locs : List Loc) (ls : Array Slot), f_X5_sailTo_76 T1 V4 V5 V6 V12 x2 s0 V3 T7 V8 V9 V10 V11 = some z → va_P E.1 vwCl [(a0, o5 T0 a11 u0_1 u0_3 a2 a7), (a1, o3 T1 a12 u1_8 u1_9 a6 a4 a5 u1_13 u1_14), (a2, o7 a3), (a3, ai E 144 V3), (a4, ai E 12 V4), (a5, ai E 12 V5), (a6, ai E 12 V6), (a7, o6 T7 a10 a9 a8), (a8, ai E 37 V8), (a9, ai E 36 V9), (a10, ai E 36 V10), (a11, ai E 5 V11), (a12, ai E 36 V12)] H → va_D A [(a0, o5 T0 a11 u0_1 u0_3 a2 a7), (a1, o3 T1 a12 u1_8 u1_9 a6 a4 a5 u1_13 u1_14), (a2, o7 a3), (a3, ai E 144 V3), (a4, ai E 12 V4), (a5, ai E 12 V5), (a6, ai E 12 V6), (a7, o6 T7 a10 a9 a8), (a8, ai E 37 V8), (a9, ai E 36 V9), (a10, ai E 36 V10), (a11, ai E 5 V11), (a12, ai E 36 V12)] → va_S A s.heap H locs → lv_has ls 5 [(0, .ref a0)] → W p l e ({ frames := 3, cells := 0, slots := 0, locals := 76 } : Room) s m args below meth c H locs 0 0 Q (F0 m 76 ls [.int s0]) := by
    intro s0 V3 T7 V8 V9 V10 V11 H locs ls hf hP hD hS hl
    unfold f_X5_sailTo_76 at hf
    refine lv_istore (lv' := [(4, .int s0), (0, .ref a0)]) hx hb dX5_sailTo_76 hl (by decide) rfl (fun ls hl => ?_)
    refine lv_aload_n hx hb dX5_sailTo_78 rfl (lv_at hl 1 rfl) ?_
    refine G5_11 hx hb htg hown hK hP 0 rfl dX5_sailTo_79 ?_
    refine lv_iconst (v := 3) hx hb dX5_sailTo_82 rfl ?_
    refine lv_dup2_11 hx hb dX5_sailTo_83 rfl rfl ?_
    obtain ⟨g84, hf⟩ := ck_s hf
    refine xiald hx hb hK hP 11 rfl g84 dX5_sailTo_84 ?_
    refine lv_iload hx hb dX5_sailTo_85 (lv_at hl 0 rfl) ?_
    refine lv_if_eq (tgt := 94) hx hb dX5_sailTo_87 (by decide) (fun c87 => ?_) (fun c87 => ?_)
    · have hf := it_t c87 hf
      refine lv_iconst (v := 0) hx hb dX5_sailTo_94 rfl ?_
      exact b95 3 (V11 (Int32.toNatClampNeg 3)) 0 V3 T7 V8 V9 V10 V11 _ _ _ hf hP hD hS (lv_sub hl [] rfl)
    · have hf := it_f c87 hf
      refine lv_iconst (v := 1) hx hb dX5_sailTo_90 rfl ?_
      refine lv_goto (tgt := 95) hx hb dX5_sailTo_91 (by decide) ?_
      exact b95 3 (V11 (Int32.toNatClampNeg 3)) 1 V3 T7 V8 V9 V10 V11 _ _ _ hf hP hD hS (lv_sub hl [] rfl)
  have b75 : ∀ (V3 : Nat → Int32) (T7 : Nat → Int32) (V8 : Nat → Int32) (V9 : Nat → Int32) (V10 : Nat → Int32) (V11 : Nat → Int32) (H : Heap) (locs : List Loc) (ls : Array Slot), f_X5_sailTo_75 T1 V4 V5 V6 V12 x2 V3 T7 V8 V9 V10 V11 = some z → va_P E.1 vwCl [(a0, o5 T0 a11 u0_1 u0_3 a2 a7), (a1, o3 T1 a12 u1_8 u1_9 a6 a4 a5 u1_13 u1_14), (a2, o7 a3), (a3, ai E 144 V3), (a4, ai E 12 V4), (a5, ai E 12 V5), (a6, ai E 12 V6), (a7, o6 T7 a10 a9 a8), (a8, ai E 37 V8), (a9, ai E 36 V9), (a10, ai E 36 V10), (a11, ai E 5 V11), (a12, ai E 36 V12)] H → va_D A [(a0, o5 T0 a11 u0_1 u0_3 a2 a7), (a1, o3 T1 a12 u1_8 u1_9 a6 a4 a5 u1_13 u1_14), (a2, o7 a3), (a3, ai E 144 V3), (a4, ai E 12 V4), (a5, ai E 12 V5), (a6, ai E 12 V6), (a7, o6 T7 a10 a9 a8), (a8, ai E 37 V8), (a9, ai E 36 V9), (a10, ai E 36 V10), (a11, ai E 5 V11), (a12, ai E 36 V12)] → va_S A s.heap H locs → lv_has ls 5 [(0, .ref a0)] → W p l e ({ frames := 3, cells := 0, slots := 0, locals := 76 } : Room) s m args below meth c H locs 0 0 Q (F0 m 75 ls []) := by
    intro V3 T7 V8 V9 V10 V11 H locs ls hf hP hD hS hl
    unfold f_X5_sailTo_75 at hf
    refine lv_iconst (v := 0) hx hb dX5_sailTo_75 rfl ?_
    exact b76 0 V3 T7 V8 V9 V10 V11 _ _ _ hf hP hD hS (lv_sub hl [0] rfl)
  unfold f_X5_sailTo at hf
  refine lv_aload_n hx hb dX5_sailTo_0 rfl (lv_at hl 0 rfl) ?_
  refine G5_26 hx hb htg hown hK hP 0 rfl dX5_sailTo_1 ?_
  refine lv_aload_n hx hb dX5_sailTo_4 rfl (lv_at hl 1 rfl) ?_
  refine lv_aload_n hx hb dX5_sailTo_5 rfl (lv_at hl 1 rfl) ?_
  refine G5_128 hx hb htg hown hK hP 1 rfl dX5_sailTo_6 ?_
  obtain ⟨z9, hz9, hf⟩ := bind_s hf
  refine xV_vu hx hb hml hown htg L5_131 (c_X7_take l E a2 a1 a3 a4 a5 a6 hz9 _) ⟨⟨rfl, rfl⟩, Nat.le_of_ble_eq_true rfl, Nat.le_of_ble_eq_true rfl⟩ hK hG hA hP hD hS (is := [2, 1, 3, 4, 5, 6]) (sel := [none, some 1, some 0, some 2, some 3, some 4, some 5, none, none, none, none, none, none]) (ws2 := [(a0, o5 T0 a11 u0_1 u0_3 a2 a7), (a1, o3 T1 a12 u1_8 u1_9 a6 a4 a5 u1_13 u1_14), (a2, o7 a3), (a3, ai E 144 z9), (a4, ai E 12 V4), (a5, ai E 12 V5), (a6, ai E 12 V6), (a7, o6 T7 a10 a9 a8), (a8, ai E 37 V8), (a9, ai E 36 V9), (a10, ai E 36 V10), (a11, ai E 5 V11), (a12, ai E 36 V12)]) rfl rfl rfl rfl rfl (xrecv hK hP (q0 := 2) (ci := 7) rfl rfl) rfl hl.1 rfl (Nat.le_of_ble_eq_true rfl) dX5_sailTo_9 (fun H locs hP hD hS => ?_)
  refine lv_aload_n hx hb dX5_sailTo_12 rfl (lv_at hl 0 rfl) ?_
  refine G5_33 hx hb htg hown hK hP 0 rfl dX5_sailTo_13 ?_
  refine lv_aload_n hx hb dX5_sailTo_16 rfl (lv_at hl 1 rfl) ?_
  refine lv_aload_n hx hb dX5_sailTo_17 rfl (lv_at hl 0 rfl) ?_
  refine G5_26 hx hb htg hown hK hP 0 rfl dX5_sailTo_18 ?_
  refine lv_iload_n hx hb dX5_sailTo_21 rfl (lv_at hl 2 rfl) ?_
  obtain ⟨z22, hz22, hf⟩ := bind_s hf
  refine xV_iu hx hb hml hown htg L5_134 (c_X6_find l E a7 a1 a2 a8 a9 a3 a10 hz22 _) ⟨⟨rfl, rfl⟩, Nat.le_of_ble_eq_true rfl, Nat.le_of_ble_eq_true rfl⟩ hK hG hA hP hD hS (is := [7, 1, 2, 8, 9, 3, 10]) (sel := [none, some 1, some 2, some 5, none, none, none, some 0, some 3, some 4, some 6, none, none]) (ws2 := [(a0, o5 T0 a11 u0_1 u0_3 a2 a7), (a1, o3 T1 a12 u1_8 u1_9 a6 a4 a5 u1_13 u1_14), (a2, o7 a3), (a3, ai E 144 z9), (a4, ai E 12 V4), (a5, ai E 12 V5), (a6, ai E 12 V6), (a7, o6 z22.2.1 a10 a9 a8), (a8, ai E 37 z22.2.2.1), (a9, ai E 36 z22.2.2.2.1), (a10, ai E 36 z22.2.2.2.2), (a11, ai E 5 V11), (a12, ai E 36 V12)]) rfl rfl rfl rfl rfl (xrecv hK hP (q0 := 7) (ci := 6) rfl rfl) rfl hl.1 rfl (Nat.le_of_ble_eq_true rfl) dX5_sailTo_22 (fun H locs hP hD hS => ?_)
  refine lv_istore_n (lv' := [(3, .int z22.1), (0, .ref a0), (1, .ref a1), (2, .int x2)]) hx hb dX5_sailTo_25 rfl hl (by decide) rfl (fun ls hl => ?_)
  refine lv_aload_n hx hb dX5_sailTo_26 rfl (lv_at hl 1 rfl) ?_
  refine lv_iload_n hx hb dX5_sailTo_27 rfl (lv_at hl 0 rfl) ?_
  obtain ⟨z28, hz28, hf⟩ := bind_s hf
  refine xV_vu hx hb hml hown htg L5_96 (c_X5_count l E a0 a11 hz28 _) ⟨⟨rfl, rfl⟩, Nat.le_of_ble_eq_true rfl, Nat.le_of_ble_eq_true rfl⟩ hK hG hA hP hD hS (is := [0, 11]) (sel := [some 0, none, none, none, none, none, none, none, none, none, none, some 1, none]) (ws2 := [(a0, o5 T0 a11 u0_1 u0_3 a2 a7), (a1, o3 T1 a12 u1_8 u1_9 a6 a4 a5 u1_13 u1_14), (a2, o7 a3), (a3, ai E 144 z9), (a4, ai E 12 V4), (a5, ai E 12 V5), (a6, ai E 12 V6), (a7, o6 z22.2.1 a10 a9 a8), (a8, ai E 37 z22.2.2.1), (a9, ai E 36 z22.2.2.2.1), (a10, ai E 36 z22.2.2.2.2), (a11, ai E 5 z28), (a12, ai E 36 V12)]) rfl rfl rfl rfl rfl (xrecv hK hP (q0 := 0) (ci := 5) rfl rfl) rfl hl.1 rfl (Nat.le_of_ble_eq_true rfl) dX5_sailTo_28 (fun H locs hP hD hS => ?_)
  refine lv_iload_n hx hb dX5_sailTo_31 rfl (lv_at hl 0 rfl) ?_
  refine lv_if_eq (tgt := 97) hx hb dX5_sailTo_32 (by decide) (fun c32 => ?_) (fun c32 => ?_)
  · have hf := it_t c32 hf
    exact ret (z9, z22.2.1, z22.2.2.1, z22.2.2.2.1, z22.2.2.2.2, z28) hf hP hS dX5_sailTo_97
  · have hf := it_f c32 hf
    refine lv_aload_n hx hb dX5_sailTo_35 rfl (lv_at hl 1 rfl) ?_
    refine G5_11 hx hb htg hown hK hP 0 rfl dX5_sailTo_36 ?_
    refine lv_iconst (v := 2) hx hb dX5_sailTo_39 rfl ?_
    refine lv_dup2_11 hx hb dX5_sailTo_40 rfl rfl ?_
    obtain ⟨g41, hf⟩ := ck_s hf
    refine xiald hx hb hK hP 11 rfl g41 dX5_sailTo_41 ?_
    refine lv_iconst (v := 1) hx hb dX5_sailTo_42 rfl ?_
    refine lv_iadd hx hb dX5_sailTo_43 ?_
    obtain ⟨g44, hf⟩ := ck_s hf
    refine xiast hx hb hK hP hD hS 11 rfl g44 dX5_sailTo_44 (fun H locs hP hD hS => ?_)
    refine lv_aload_n hx hb dX5_sailTo_45 rfl (lv_at hl 1 rfl) ?_
    refine G5_33 hx hb htg hown hK hP 0 rfl dX5_sailTo_46 ?_
    obtain ⟨z49, hz49, hf⟩ := bind_s hf
    refine xV_ir hx hb hml hown htg L5_138 (c_X6_cells l E a7 hz49 _) ⟨⟨rfl, rfl⟩, Nat.le_of_ble_eq_true rfl, Nat.le_of_ble_eq_true rfl⟩ hK hG hA hP hD hS (is := [7]) rfl rfl (xrecv hK hP (q0 := 7) (ci := 6) rfl rfl) rfl hl.1 rfl (Nat.le_of_ble_eq_true rfl) dX5_sailTo_49 (fun H locs hP hD hS => ?_)
    refine lv_if_le (tgt := 75) hx hb dX5_sailTo_52 (by decide) (fun c52 => ?_) (fun c52 => ?_)
    · have hf := it_t c52 hf
      exact b75 z9 z22.2.1 z22.2.2.1 z22.2.2.2.1 z22.2.2.2.2 (upd z28 (Int32.toNatClampNeg 2) ((z28 (Int32.toNatClampNeg 2)) + 1)) _ _ _ hf hP hD hS (lv_sub hl [1] rfl)
    · have hf := it_f c52 hf
      refine lv_aload_n hx hb dX5_sailTo_55 rfl (lv_at hl 2 rfl) ?_
      refine lv_aload_n hx hb dX5_sailTo_56 rfl (lv_at hl 1 rfl) ?_
      refine G5_33 hx hb htg hown hK hP 0 rfl dX5_sailTo_57 ?_
      refine lv_aload_n hx hb dX5_sailTo_60 rfl (lv_at hl 2 rfl) ?_
      obtain ⟨z61, hz61, hf⟩ := bind_s hf
      refine xV_ir hx hb hml hown htg L5_142 (c_X6_sailedTo l E a7 a1 a8 a12 hz61 _) ⟨⟨rfl, rfl⟩, Nat.le_of_ble_eq_true rfl, Nat.le_of_ble_eq_true rfl⟩ hK hG hA hP hD hS (is := [7, 1, 8, 12]) rfl rfl (xrecv hK hP (q0 := 7) (ci := 6) rfl rfl) rfl hl.1 rfl (Nat.le_of_ble_eq_true rfl) dX5_sailTo_61 (fun H locs hP hD hS => ?_)
      obtain ⟨z64, hz64, hf⟩ := bind_s hf
      refine xV_ir hx hb hml hown htg L5_146 (c_X3_kindAt l E a1 a12 hz64 _) ⟨⟨rfl, rfl⟩, Nat.le_of_ble_eq_true rfl, Nat.le_of_ble_eq_true rfl⟩ hK hG hA hP hD hS (is := [1, 12]) rfl rfl (xrecv hK hP (q0 := 1) (ci := 3) rfl rfl) rfl hl.1 rfl (Nat.le_of_ble_eq_true rfl) dX5_sailTo_64 (fun H locs hP hD hS => ?_)
      refine lv_iconst (v := 1) hx hb dX5_sailTo_67 rfl ?_
      refine lv_icmp_ne (tgt := 75) hx hb dX5_sailTo_68 (by decide) (fun c68 => ?_) (fun c68 => ?_)
      · have hf := it_f c68 hf
        exact b75 z9 z22.2.1 z22.2.2.1 z22.2.2.2.1 z22.2.2.2.2 (upd z28 (Int32.toNatClampNeg 2) ((z28 (Int32.toNatClampNeg 2)) + 1)) _ _ _ hf hP hD hS (lv_sub hl [1] rfl)
      · have hf := it_t c68 hf
        refine lv_iconst (v := 1) hx hb dX5_sailTo_71 rfl ?_
        refine lv_goto (tgt := 76) hx hb dX5_sailTo_72 (by decide) ?_
        exact b76 1 z9 z22.2.1 z22.2.2.1 z22.2.2.2.1 z22.2.2.2.2 (upd z28 (Int32.toNatClampNeg 2) ((z28 (Int32.toNatClampNeg 2)) + 1)) _ _ _ hf hP hD hS (lv_sub hl [1] rfl)
theorem dX5_draw_0 : decode cX5_draw 0 = .ok (.aload_n 0, 1) := by decide +kernel
theorem dX5_draw_1 : decode cX5_draw 1 = .ok (.aload_n 0, 1) := by decide +kernel
theorem dX5_draw_2 : decode cX5_draw 2 = .ok (.getfield 57, 3) := by decide +kernel
theorem dX5_draw_5 : decode cX5_draw 5 = .ok (.sipush 2971, 3) := by decide +kernel
theorem dX5_draw_8 : decode cX5_draw 8 = .ok (.imul, 1) := by decide +kernel
theorem dX5_draw_9 : decode cX5_draw 9 = .ok (.sipush 11003, 3) := by decide +kernel
theorem dX5_draw_12 : decode cX5_draw 12 = .ok (.iadd, 1) := by decide +kernel
theorem dX5_draw_13 : decode cX5_draw 13 = .ok (.ldc 179, 2) := by decide +kernel
theorem dX5_draw_15 : decode cX5_draw 15 = .ok (.irem, 1) := by decide +kernel
theorem dX5_draw_16 : decode cX5_draw 16 = .ok (.putfield 57, 3) := by decide +kernel
theorem dX5_draw_19 : decode cX5_draw 19 = .ok (.iload_n 1, 1) := by decide +kernel
theorem dX5_draw_20 : decode cX5_draw 20 = .ok (.ifCond .le 15, 3) := by decide +kernel
theorem dX5_draw_23 : decode cX5_draw 23 = .ok (.aload_n 0, 1) := by decide +kernel
theorem dX5_draw_24 : decode cX5_draw 24 = .ok (.getfield 57, 3) := by decide +kernel
theorem dX5_draw_27 : decode cX5_draw 27 = .ok (.bipush 8, 2) := by decide +kernel
theorem dX5_draw_29 : decode cX5_draw 29 = .ok (.idiv, 1) := by decide +kernel
theorem dX5_draw_30 : decode cX5_draw 30 = .ok (.iload_n 1, 1) := by decide +kernel
theorem dX5_draw_31 : decode cX5_draw 31 = .ok (.irem, 1) := by decide +kernel
theorem dX5_draw_32 : decode cX5_draw 32 = .ok (.goto 4, 3) := by decide +kernel
theorem dX5_draw_35 : decode cX5_draw 35 = .ok (.iconst 0, 1) := by decide +kernel
theorem dX5_draw_36 : decode cX5_draw 36 = .ok (.ireturn, 1) := by decide +kernel
set_option maxRecDepth 100000 in
theorem c_X5_draw (l : Launch) (E : xE) (a0 : Nat) {T0 : Nat → Int32} {u0_0 u0_1 u0_3 u0_4 u0_5 : Nat} {x1 : Int32} {z : Int32 × (Nat → Int32)} (hf : f_X5_draw T0 x1 = some z) (sz : Nat) : Met l yX5_draw (Cond.code yX5_draw cX5_draw 2 (some .int) :: gw) ({ frames := 0, cells := 0, slots := 0, locals := 0 }) (xPc E [.ref a0, .int x1] [(a0, o5 T0 u0_0 u0_1 u0_3 u0_4 u0_5)] sz) (xQi E z.1 [(a0, o5 T0 u0_0 u0_1 u0_3 u0_4 u0_5)] [(a0, o5 z.2 u0_0 u0_1 u0_3 u0_4 u0_5)] sz) 0 0 (va_A [(a0, o5 T0 u0_0 u0_1 u0_3 u0_4 u0_5)] sz) := by
  refine xM_i (by decide +kernel) (Nat.le_of_ble_eq_true rfl) ?_
  intro p e s m args below meth c A Q hx hb hml hown htg hK hG hA ret0 H locs ls hP hD hS hl
  have ret : ∀ (z' : Int32 × (Nat → Int32)) {H : Heap} {locs : List Loc} {pc : Nat} {ls : Array Slot}, some z' = some z → narrow .int (.int z'.1) = .int z'.1 → va_P E.1 vwCl [(a0, o5 z'.2 u0_0 u0_1 u0_3 u0_4 u0_5)] H → va_S A s.heap H locs → decode cX5_draw pc = .ok (.ireturn, 1) → W p l e ({ frames := 0, cells := 0, slots := 0, locals := 0 } : Room) s m args below meth c H locs 0 0 Q (F0 m pc ls [.int z'.1]) := by
    intro z' H locs pc ls h
    cases h
    exact ret0
  replace hl : lv_has ls 2 [(0, .ref a0), (1, .int x1)] := hl
  unfold f_X5_draw at hf
  refine lv_aload_n hx hb dX5_draw_0 rfl (lv_at hl 0 rfl) ?_
  refine lv_aload_n hx hb dX5_draw_1 rfl (lv_at hl 0 rfl) ?_
  refine G5_57 hx hb htg hown hK hP 0 rfl dX5_draw_2 ?_
  refine lv_sipush (v := 2971) hx hb dX5_draw_5 rfl ?_
  refine lv_imul hx hb dX5_draw_8 ?_
  refine lv_sipush (v := 11003) hx hb dX5_draw_9 rfl ?_
  refine lv_iadd hx hb dX5_draw_12 ?_
  refine lv_ldc hx hb hown (htg _ (gw_t (tb6 125 rfl) rfl)) dX5_draw_13 ?_
  obtain ⟨g15, hf⟩ := ck_s hf
  refine lv_irem hx hb dX5_draw_15 (of_decide_eq_true g15) ?_
  refine P5_57 hx hb htg hown hK hP hD hS 0 rfl dX5_draw_16 (fun H locs hP hD hS => ?_)
  refine lv_iload_n hx hb dX5_draw_19 rfl (lv_at hl 1 rfl) ?_
  refine lv_if_le (tgt := 35) hx hb dX5_draw_20 (by decide) (fun c20 => ?_) (fun c20 => ?_)
  · have hf := it_t c20 hf
    refine lv_iconst (v := 0) hx hb dX5_draw_35 rfl ?_
    exact ret (0, upd T0 6 ((((T0 6) * 2971) + 11003) - (((T0 6) * 2971) + 11003) / 65536 * 65536)) hf nzi hP hS dX5_draw_36
  · have hf := it_f c20 hf
    refine lv_aload_n hx hb dX5_draw_23 rfl (lv_at hl 0 rfl) ?_
    refine G5_57 hx hb htg hown hK hP 0 rfl dX5_draw_24 ?_
    refine lv_bipush (v := 8) hx hb dX5_draw_27 rfl ?_
    obtain ⟨g29, hf⟩ := ck_s hf
    refine lv_idiv hx hb dX5_draw_29 (of_decide_eq_true g29) ?_
    refine lv_iload_n hx hb dX5_draw_30 rfl (lv_at hl 1 rfl) ?_
    obtain ⟨g31, hf⟩ := ck_s hf
    refine lv_irem hx hb dX5_draw_31 (of_decide_eq_true g31) ?_
    refine lv_goto (tgt := 36) hx hb dX5_draw_32 (by decide) ?_
    exact ret ((((upd T0 6 ((((T0 6) * 2971) + 11003) - (((T0 6) * 2971) + 11003) / 65536 * 65536)) 6) / 8) - (((upd T0 6 ((((T0 6) * 2971) + 11003) - (((T0 6) * 2971) + 11003) / 65536 * 65536)) 6) / 8) / x1 * x1, upd T0 6 ((((T0 6) * 2971) + 11003) - (((T0 6) * 2971) + 11003) / 65536 * 65536)) hf nzi hP hS dX5_draw_36
theorem dX5_anyTells_0 : decode cX5_anyTells 0 = .ok (.aload_n 1, 1) := by decide +kernel
theorem dX5_anyTells_1 : decode cX5_anyTells 1 = .ok (.getfield 149, 3) := by decide +kernel
theorem dX5_anyTells_4 : decode cX5_anyTells 4 = .ok (.ifCond .eq 10, 3) := by decide +kernel
theorem dX5_anyTells_7 : decode cX5_anyTells 7 = .ok (.aload_n 1, 1) := by decide +kernel
theorem dX5_anyTells_8 : decode cX5_anyTells 8 = .ok (.invokevirtual 152, 3) := by decide +kernel
theorem dX5_anyTells_11 : decode cX5_anyTells 11 = .ok (.ifCond .ne 9, 3) := by decide +kernel
theorem dX5_anyTells_14 : decode cX5_anyTells 14 = .ok (.aload_n 0, 1) := by decide +kernel
theorem dX5_anyTells_15 : decode cX5_anyTells 15 = .ok (.iconst 0, 1) := by decide +kernel
theorem dX5_anyTells_16 : decode cX5_anyTells 16 = .ok (.invokevirtual 96, 3) := by decide +kernel
theorem dX5_anyTells_19 : decode cX5_anyTells 19 = .ok (.return_, 1) := by decide +kernel
theorem dX5_anyTells_20 : decode cX5_anyTells 20 = .ok (.aload_n 0, 1) := by decide +kernel
theorem dX5_anyTells_21 : decode cX5_anyTells 21 = .ok (.aload_n 1, 1) := by decide +kernel
theorem dX5_anyTells_22 : decode cX5_anyTells 22 = .ok (.getfield 149, 3) := by decide +kernel
theorem dX5_anyTells_25 : decode cX5_anyTells 25 = .ok (.invokevirtual 155, 3) := by decide +kernel
theorem dX5_anyTells_28 : decode cX5_anyTells 28 = .ok (.istore_n 2, 1) := by decide +kernel
theorem dX5_anyTells_29 : decode cX5_anyTells 29 = .ok (.aload_n 0, 1) := by decide +kernel
theorem dX5_anyTells_30 : decode cX5_anyTells 30 = .ok (.aload_n 1, 1) := by decide +kernel
theorem dX5_anyTells_31 : decode cX5_anyTells 31 = .ok (.invokevirtual 152, 3) := by decide +kernel
theorem dX5_anyTells_34 : decode cX5_anyTells 34 = .ok (.invokevirtual 155, 3) := by decide +kernel
theorem dX5_anyTells_37 : decode cX5_anyTells 37 = .ok (.istore_n 3, 1) := by decide +kernel
theorem dX5_anyTells_38 : decode cX5_anyTells 38 = .ok (.aload_n 1, 1) := by decide +kernel
theorem dX5_anyTells_39 : decode cX5_anyTells 39 = .ok (.iload_n 3, 1) := by decide +kernel
theorem dX5_anyTells_40 : decode cX5_anyTells 40 = .ok (.invokevirtual 146, 3) := by decide +kernel
theorem dX5_anyTells_43 : decode cX5_anyTells 43 = .ok (.istore 4, 2) := by decide +kernel
theorem dX5_anyTells_45 : decode cX5_anyTells 45 = .ok (.aload_n 0, 1) := by decide +kernel
theorem dX5_anyTells_46 : decode cX5_anyTells 46 = .ok (.bipush 16, 2) := by decide +kernel
theorem dX5_anyTells_48 : decode cX5_anyTells 48 = .ok (.invokevirtual 155, 3) := by decide +kernel
theorem dX5_anyTells_51 : decode cX5_anyTells 51 = .ok (.istore 5, 2) := by decide +kernel
theorem dX5_anyTells_53 : decode cX5_anyTells 53 = .ok (.aload_n 1, 1) := by decide +kernel
theorem dX5_anyTells_54 : decode cX5_anyTells 54 = .ok (.iload_n 2, 1) := by decide +kernel
theorem dX5_anyTells_55 : decode cX5_anyTells 55 = .ok (.invokevirtual 158, 3) := by decide +kernel
theorem dX5_anyTells_58 : decode cX5_anyTells 58 = .ok (.ifCond .eq 39, 3) := by decide +kernel
theorem dX5_anyTells_61 : decode cX5_anyTells 61 = .ok (.iload 5, 2) := by decide +kernel
theorem dX5_anyTells_63 : decode cX5_anyTells 63 = .ok (.aload_n 1, 1) := by decide +kernel
theorem dX5_anyTells_64 : decode cX5_anyTells 64 = .ok (.getfield 161, 3) := by decide +kernel
theorem dX5_anyTells_67 : decode cX5_anyTells 67 = .ok (.iload_n 2, 1) := by decide +kernel
theorem dX5_anyTells_68 : decode cX5_anyTells 68 = .ok (.iaload, 1) := by decide +kernel
theorem dX5_anyTells_69 : decode cX5_anyTells 69 = .ok (.if_icmp .ge 28, 3) := by decide +kernel
theorem dX5_anyTells_72 : decode cX5_anyTells 72 = .ok (.aload_n 0, 1) := by decide +kernel
theorem dX5_anyTells_73 : decode cX5_anyTells 73 = .ok (.iconst 3, 1) := by decide +kernel
theorem dX5_anyTells_74 : decode cX5_anyTells 74 = .ok (.invokevirtual 155, 3) := by decide +kernel
theorem dX5_anyTells_77 : decode cX5_anyTells 77 = .ok (.istore 6, 2) := by decide +kernel
theorem dX5_anyTells_79 : decode cX5_anyTells 79 = .ok (.iload 6, 2) := by decide +kernel
theorem dX5_anyTells_81 : decode cX5_anyTells 81 = .ok (.iload 4, 2) := by decide +kernel
theorem dX5_anyTells_83 : decode cX5_anyTells 83 = .ok (.if_icmp .ge 8, 3) := by decide +kernel
theorem dX5_anyTells_86 : decode cX5_anyTells 86 = .ok (.iload 6, 2) := by decide +kernel
theorem dX5_anyTells_88 : decode cX5_anyTells 88 = .ok (.goto 7, 3) := by decide +kernel
theorem dX5_anyTells_91 : decode cX5_anyTells 91 = .ok (.iload 6, 2) := by decide +kernel
theorem dX5_anyTells_93 : decode cX5_anyTells 93 = .ok (.iconst 1, 1) := by decide +kernel
theorem dX5_anyTells_94 : decode cX5_anyTells 94 = .ok (.iadd, 1) := by decide +kernel
theorem dX5_anyTells_95 : decode cX5_anyTells 95 = .ok (.istore 4, 2) := by decide +kernel
theorem dX5_anyTells_97 : decode cX5_anyTells 97 = .ok (.aload_n 0, 1) := by decide +kernel
theorem dX5_anyTells_98 : decode cX5_anyTells 98 = .ok (.aload_n 1, 1) := by decide +kernel
theorem dX5_anyTells_99 : decode cX5_anyTells 99 = .ok (.iload_n 2, 1) := by decide +kernel
theorem dX5_anyTells_100 : decode cX5_anyTells 100 = .ok (.iload_n 3, 1) := by decide +kernel
theorem dX5_anyTells_101 : decode cX5_anyTells 101 = .ok (.iload 4, 2) := by decide +kernel
theorem dX5_anyTells_103 : decode cX5_anyTells 103 = .ok (.iconst 0, 1) := by decide +kernel
theorem dX5_anyTells_104 : decode cX5_anyTells 104 = .ok (.invokevirtual 106, 3) := by decide +kernel
theorem dX5_anyTells_107 : decode cX5_anyTells 107 = .ok (.invokevirtual 110, 3) := by decide +kernel
theorem dX5_anyTells_110 : decode cX5_anyTells 110 = .ok (.return_, 1) := by decide +kernel
set_option maxRecDepth 100000 in
theorem c_X5_anyTells (l : Launch) (E : xE) (a0 a1 a2 a3 a4 a5 a6 a7 a8 : Nat) {T0 : Nat → Int32} {T1 : Nat → Int32} {V2 : Nat → Int32} {V3 : Nat → Int32} {V4 : Nat → Int32} {V5 : Nat → Int32} {V6 : Nat → Int32} {V7 : Nat → Int32} {V8 : Nat → Int32} {u0_1 u0_3 u0_4 u0_5 u1_9 u1_14 : Nat} {z : (Nat → Int32) × (Nat → Int32) × (Nat → Int32) × (Nat → Int32) × (Nat → Int32) × (Nat → Int32) × (Nat → Int32)} (hf : f_X5_anyTells T0 T1 V2 V3 V4 V5 V6 V7 V8 = some z) (sz : Nat) : Met l yX5_anyTells (Cond.code yX5_anyTells cX5_anyTells 7 none :: gw) ({ frames := 2, cells := 0, slots := 0, locals := 47 }) (xPc E [.ref a0, .ref a1] [(a0, o5 T0 a8 u0_1 u0_3 u0_4 u0_5), (a1, o3 T1 a2 a3 u1_9 a5 a4 a6 a7 u1_14), (a2, ai E 36 V2), (a3, ai E 5 V3), (a4, ai E 12 V4), (a5, ai E 12 V5), (a6, ai E 12 V6), (a7, ai E 12 V7), (a8, ai E 5 V8)] sz) (xQv E [(a0, o5 T0 a8 u0_1 u0_3 u0_4 u0_5), (a1, o3 T1 a2 a3 u1_9 a5 a4 a6 a7 u1_14), (a2, ai E 36 V2), (a3, ai E 5 V3), (a4, ai E 12 V4), (a5, ai E 12 V5), (a6, ai E 12 V6), (a7, ai E 12 V7), (a8, ai E 5 V8)] [(a0, o5 z.1 a8 u0_1 u0_3 u0_4 u0_5), (a1, o3 z.2.1 a2 a3 u1_9 a5 a4 a6 a7 u1_14), (a2, ai E 36 V2), (a3, ai E 5 V3), (a4, ai E 12 z.2.2.1), (a5, ai E 12 z.2.2.2.1), (a6, ai E 12 z.2.2.2.2.1), (a7, ai E 12 z.2.2.2.2.2.1), (a8, ai E 5 z.2.2.2.2.2.2)] sz) 0 0 (va_A [(a0, o5 T0 a8 u0_1 u0_3 u0_4 u0_5), (a1, o3 T1 a2 a3 u1_9 a5 a4 a6 a7 u1_14), (a2, ai E 36 V2), (a3, ai E 5 V3), (a4, ai E 12 V4), (a5, ai E 12 V5), (a6, ai E 12 V6), (a7, ai E 12 V7), (a8, ai E 5 V8)] sz) := by
  refine xM_v (by decide +kernel) (Nat.le_of_ble_eq_true rfl) ?_
  intro p e s m args below meth c A Q hx hb hml hown htg hK hG hA ret0 H locs ls hP hD hS hl
  have ret : ∀ (z' : (Nat → Int32) × (Nat → Int32) × (Nat → Int32) × (Nat → Int32) × (Nat → Int32) × (Nat → Int32) × (Nat → Int32)) {H : Heap} {locs : List Loc} {pc : Nat} {ls : Array Slot}, some z' = some z → va_P E.1 vwCl [(a0, o5 z'.1 a8 u0_1 u0_3 u0_4 u0_5), (a1, o3 z'.2.1 a2 a3 u1_9 a5 a4 a6 a7 u1_14), (a2, ai E 36 V2), (a3, ai E 5 V3), (a4, ai E 12 z'.2.2.1), (a5, ai E 12 z'.2.2.2.1), (a6, ai E 12 z'.2.2.2.2.1), (a7, ai E 12 z'.2.2.2.2.2.1), (a8, ai E 5 z'.2.2.2.2.2.2)] H → va_S A s.heap H locs → decode cX5_anyTells pc = .ok (.return_, 1) → W p l e ({ frames := 2, cells := 0, slots := 0, locals := 47 } : Room) s m args below meth c H locs 0 0 Q (F0 m pc ls []) := by
    intro z' H locs pc ls h
    cases h
    exact ret0
  replace hl : lv_has ls 7 [(0, .ref a0), (1, .ref a1)] := hl
  have b14 : ∀ (T0 : Nat → Int32) (T1 : Nat → Int32) (V4 : Nat → Int32) (V5 : Nat → Int32) (V6 : Nat → Int32) (V7 : Nat → Int32) (V8 : Nat → Int32) (H : Heap) (locs : List Loc) (ls : Array Slot), f_X5_anyTells_14 V2 V3 T0 T1 V4 V5 V6 V7 V8 = some z → va_P E.1 vwCl [(a0, o5 T0 a8 u0_1 u0_3 u0_4 u0_5), (a1, o3 T1 a2 a3 u1_9 a5 a4 a6 a7 u1_14), (a2, ai E 36 V2), (a3, ai E 5 V3), (a4, ai E 12 V4), (a5, ai E 12 V5), (a6, ai E 12 V6), (a7, ai E 12 V7), (a8, ai E 5 V8)] H → va_D A [(a0, o5 T0 a8 u0_1 u0_3 u0_4 u0_5), (a1, o3 T1 a2 a3 u1_9 a5 a4 a6 a7 u1_14), (a2, ai E 36 V2), (a3, ai E 5 V3), (a4, ai E 12 V4), (a5, ai E 12 V5), (a6, ai E 12 V6), (a7, ai E 12 V7), (a8, ai E 5 V8)] → va_S A s.heap H locs → lv_has ls 7 [(0, .ref a0)] → W p l e ({ frames := 2, cells := 0, slots := 0, locals := 47 } : Room) s m args below meth c H locs 0 0 Q (F0 m 14 ls []) := by
    intro T0 T1 V4 V5 V6 V7 V8 H locs ls hf hP hD hS hl
    unfold f_X5_anyTells_14 at hf
    refine lv_aload_n hx hb dX5_anyTells_14 rfl (lv_at hl 0 rfl) ?_
    refine lv_iconst (v := 0) hx hb dX5_anyTells_15 rfl ?_
    obtain ⟨z16, hz16, hf⟩ := bind_s hf
    refine xV_vu hx hb hml hown htg L5_96 (c_X5_count l E a0 a8 hz16 _) ⟨⟨rfl, rfl⟩, Nat.le_of_ble_eq_true rfl, Nat.le_of_ble_eq_true rfl⟩ hK hG hA hP hD hS (is := [0, 8]) (sel := [some 0, none, none, none, none, none, none, none, some 1]) (ws2 := [(a0, o5 T0 a8 u0_1 u0_3 u0_4 u0_5), (a1, o3 T1 a2 a3 u1_9 a5 a4 a6 a7 u1_14), (a2, ai E 36 V2), (a3, ai E 5 V3), (a4, ai E 12 V4), (a5, ai E 12 V5), (a6, ai E 12 V6), (a7, ai E 12 V7), (a8, ai E 5 z16)]) rfl rfl rfl rfl rfl (xrecv hK hP (q0 := 0) (ci := 5) rfl rfl) rfl hl.1 rfl (Nat.le_of_ble_eq_true rfl) dX5_anyTells_16 (fun H locs hP hD hS => ?_)
    exact ret (T0, T1, V4, V5, V6, V7, z16) hf hP hS dX5_anyTells_19
  have b97 : ∀ (x2 : Int32) (x3 : Int32) (x4 : Int32) (T0 : Nat → Int32) (T1 : Nat → Int32) (V4 : Nat → Int32) (V5 : Nat → Int32) (V6 : Nat → Int32) (V7 : Nat → Int32) (V8 : Nat → Int32) (H : Heap) (locs : List Loc) (ls : Array Slot), f_X5_anyTells_97 V2 V3 x2 x3 x4 T0 T1 V4 V5 V6 V7 V8 = some z → va_P E.1 vwCl [(a0, o5 T0 a8 u0_1 u0_3 u0_4 u0_5), (a1, o3 T1 a2 a3 u1_9 a5 a4 a6 a7 u1_14), (a2, ai E 36 V2), (a3, ai E 5 V3), (a4, ai E 12 V4), (a5, ai E 12 V5), (a6, ai E 12 V6), (a7, ai E 12 V7), (a8, ai E 5 V8)] H → va_D A [(a0, o5 T0 a8 u0_1 u0_3 u0_4 u0_5), (a1, o3 T1 a2 a3 u1_9 a5 a4 a6 a7 u1_14), (a2, ai E 36 V2), (a3, ai E 5 V3), (a4, ai E 12 V4), (a5, ai E 12 V5), (a6, ai E 12 V6), (a7, ai E 12 V7), (a8, ai E 5 V8)] → va_S A s.heap H locs → lv_has ls 7 [(0, .ref a0), (1, .ref a1), (2, .int x2), (3, .int x3), (4, .int x4)] → W p l e ({ frames := 2, cells := 0, slots := 0, locals := 47 } : Room) s m args below meth c H locs 0 0 Q (F0 m 97 ls []) := by
    intro x2 x3 x4 T0 T1 V4 V5 V6 V7 V8 H locs ls hf hP hD hS hl
    unfold f_X5_anyTells_97 at hf
    refine lv_aload_n hx hb dX5_anyTells_97 rfl (lv_at hl 0 rfl) ?_
    refine lv_aload_n hx hb dX5_anyTells_98 rfl (lv_at hl 1 rfl) ?_
    refine lv_iload_n hx hb dX5_anyTells_99 rfl (lv_at hl 2 rfl) ?_
    refine lv_iload_n hx hb dX5_anyTells_100 rfl (lv_at hl 3 rfl) ?_
    refine lv_iload hx hb dX5_anyTells_101 (lv_at hl 4 rfl) ?_
    refine lv_iconst (v := 0) hx hb dX5_anyTells_103 rfl ?_
    obtain ⟨z104, hz104, hf⟩ := bind_s hf
    refine xV_iu hx hb hml hown htg L5_106 (c_X3_addTelling l E a1 a4 a5 a6 a7 hz104 _) ⟨⟨rfl, rfl⟩, Nat.le_of_ble_eq_true rfl, Nat.le_of_ble_eq_true rfl⟩ hK hG hA hP hD hS (is := [1, 4, 5, 6, 7]) (sel := [none, some 0, none, none, some 1, some 2, some 3, some 4, none]) (ws2 := [(a0, o5 T0 a8 u0_1 u0_3 u0_4 u0_5), (a1, o3 z104.2.1 a2 a3 u1_9 a5 a4 a6 a7 u1_14), (a2, ai E 36 V2), (a3, ai E 5 V3), (a4, ai E 12 z104.2.2.1), (a5, ai E 12 z104.2.2.2.1), (a6, ai E 12 z104.2.2.2.2.1), (a7, ai E 12 z104.2.2.2.2.2), (a8, ai E 5 V8)]) rfl rfl rfl rfl rfl (xrecv hK hP (q0 := 1) (ci := 3) rfl rfl) rfl hl.1 rfl (Nat.le_of_ble_eq_true rfl) dX5_anyTells_104 (fun H locs hP hD hS => ?_)
    obtain ⟨z107, hz107, hf⟩ := bind_s hf
    refine xV_vu hx hb hml hown htg L5_110 (c_X5_countTelling l E a0 a8 hz107 _) ⟨⟨rfl, rfl⟩, Nat.le_of_ble_eq_true rfl, Nat.le_of_ble_eq_true rfl⟩ hK hG hA hP hD hS (is := [0, 8]) (sel := [some 0, none, none, none, none, none, none, none, some 1]) (ws2 := [(a0, o5 T0 a8 u0_1 u0_3 u0_4 u0_5), (a1, o3 z104.2.1 a2 a3 u1_9 a5 a4 a6 a7 u1_14), (a2, ai E 36 V2), (a3, ai E 5 V3), (a4, ai E 12 z104.2.2.1), (a5, ai E 12 z104.2.2.2.1), (a6, ai E 12 z104.2.2.2.2.1), (a7, ai E 12 z104.2.2.2.2.2), (a8, ai E 5 z107)]) rfl rfl rfl rfl rfl (xrecv hK hP (q0 := 0) (ci := 5) rfl rfl) rfl hl.1 rfl (Nat.le_of_ble_eq_true rfl) dX5_anyTells_107 (fun H locs hP hD hS => ?_)
    exact ret (T0, z104.2.1, z104.2.2.1, z104.2.2.2.1, z104.2.2.2.2.1, z104.2.2.2.2.2, z107) hf hP hS dX5_anyTells_110
  have b95 : ∀ (x2 : Int32) (x3 : Int32) (s0 : Int32) (T0 : Nat → Int32) (T1 : Nat → Int32) (V4 : Nat → Int32) (V5 : Nat → Int32) (V6 : Nat → Int32) (V7 : Nat → Int32) (V8 : Nat → Int32) (H : Heap) (locs : List Loc) (ls : Array Slot), f_X5_anyTells_95 V2 V3 x2 x3 s0 T0 T1 V4 V5 V6 V7 V8 = some z → va_P E.1 vwCl [(a0, o5 T0 a8 u0_1 u0_3 u0_4 u0_5), (a1, o3 T1 a2 a3 u1_9 a5 a4 a6 a7 u1_14), (a2, ai E 36 V2), (a3, ai E 5 V3), (a4, ai E 12 V4), (a5, ai E 12 V5), (a6, ai E 12 V6), (a7, ai E 12 V7), (a8, ai E 5 V8)] H → va_D A [(a0, o5 T0 a8 u0_1 u0_3 u0_4 u0_5), (a1, o3 T1 a2 a3 u1_9 a5 a4 a6 a7 u1_14), (a2, ai E 36 V2), (a3, ai E 5 V3), (a4, ai E 12 V4), (a5, ai E 12 V5), (a6, ai E 12 V6), (a7, ai E 12 V7), (a8, ai E 5 V8)] → va_S A s.heap H locs → lv_has ls 7 [(0, .ref a0), (1, .ref a1), (2, .int x2), (3, .int x3)] → W p l e ({ frames := 2, cells := 0, slots := 0, locals := 47 } : Room) s m args below meth c H locs 0 0 Q (F0 m 95 ls [.int s0]) := by
    intro x2 x3 s0 T0 T1 V4 V5 V6 V7 V8 H locs ls hf hP hD hS hl
    unfold f_X5_anyTells_95 at hf
    refine lv_istore (lv' := [(4, .int s0), (0, .ref a0), (1, .ref a1), (2, .int x2), (3, .int x3)]) hx hb dX5_anyTells_95 hl (by decide) rfl (fun ls hl => ?_)
    exact b97 x2 x3 s0 T0 T1 V4 V5 V6 V7 V8 _ _ _ hf hP hD hS (lv_sub hl [1, 2, 3, 4, 0] rfl)
  unfold f_X5_anyTells at hf
  refine lv_aload_n hx hb dX5_anyTells_0 rfl (lv_at hl 1 rfl) ?_
  refine G5_149 hx hb htg hown hK hP 1 rfl dX5_anyTells_1 ?_
  refine lv_if_eq (tgt := 14) hx hb dX5_anyTells_4 (by decide) (fun c4 => ?_) (fun c4 => ?_)
  · have hf := it_t c4 hf
    exact b14 T0 T1 V4 V5 V6 V7 V8 _ _ _ hf hP hD hS (lv_sub hl [0] rfl)
  · have hf := it_f c4 hf
    refine lv_aload_n hx hb dX5_anyTells_7 rfl (lv_at hl 1 rfl) ?_
    obtain ⟨z8, hz8, hf⟩ := bind_s hf
    refine xV_ir hx hb hml hown htg L5_152 (c_X3_cellCount l E a1 hz8 _) ⟨⟨rfl, rfl⟩, Nat.le_of_ble_eq_true rfl, Nat.le_of_ble_eq_true rfl⟩ hK hG hA hP hD hS (is := [1]) rfl rfl (xrecv hK hP (q0 := 1) (ci := 3) rfl rfl) rfl hl.1 rfl (Nat.le_of_ble_eq_true rfl) dX5_anyTells_8 (fun H locs hP hD hS => ?_)
    refine lv_if_ne (tgt := 20) hx hb dX5_anyTells_11 (by decide) (fun c11 => ?_) (fun c11 => ?_)
    · have hf := it_f c11 hf
      refine lv_aload_n hx hb dX5_anyTells_20 rfl (lv_at hl 0 rfl) ?_
      refine lv_aload_n hx hb dX5_anyTells_21 rfl (lv_at hl 1 rfl) ?_
      refine G5_149 hx hb htg hown hK hP 1 rfl dX5_anyTells_22 ?_
      obtain ⟨z25, hz25, hf⟩ := bind_s hf
      refine xV_iu hx hb hml hown htg L5_155 (c_X5_draw l E a0 hz25 _) ⟨⟨rfl, rfl⟩, Nat.le_of_ble_eq_true rfl, Nat.le_of_ble_eq_true rfl⟩ hK hG hA hP hD hS (is := [0]) (sel := [some 0, none, none, none, none, none, none, none, none]) (ws2 := [(a0, o5 z25.2 a8 u0_1 u0_3 u0_4 u0_5), (a1, o3 T1 a2 a3 u1_9 a5 a4 a6 a7 u1_14), (a2, ai E 36 V2), (a3, ai E 5 V3), (a4, ai E 12 V4), (a5, ai E 12 V5), (a6, ai E 12 V6), (a7, ai E 12 V7), (a8, ai E 5 V8)]) rfl rfl rfl rfl rfl (xrecv hK hP (q0 := 0) (ci := 5) rfl rfl) rfl hl.1 rfl (Nat.le_of_ble_eq_true rfl) dX5_anyTells_25 (fun H locs hP hD hS => ?_)
      refine lv_istore_n (lv' := [(2, .int z25.1), (0, .ref a0), (1, .ref a1)]) hx hb dX5_anyTells_28 rfl hl (by decide) rfl (fun ls hl => ?_)
      refine lv_aload_n hx hb dX5_anyTells_29 rfl (lv_at hl 1 rfl) ?_
      refine lv_aload_n hx hb dX5_anyTells_30 rfl (lv_at hl 2 rfl) ?_
      obtain ⟨z31, hz31, hf⟩ := bind_s hf
      refine xV_ir hx hb hml hown htg L5_152 (c_X3_cellCount l E a1 hz31 _) ⟨⟨rfl, rfl⟩, Nat.le_of_ble_eq_true rfl, Nat.le_of_ble_eq_true rfl⟩ hK hG hA hP hD hS (is := [1]) rfl rfl (xrecv hK hP (q0 := 1) (ci := 3) rfl rfl) rfl hl.1 rfl (Nat.le_of_ble_eq_true rfl) dX5_anyTells_31 (fun H locs hP hD hS => ?_)
      obtain ⟨z34, hz34, hf⟩ := bind_s hf
      refine xV_iu hx hb hml hown htg L5_155 (c_X5_draw l E a0 hz34 _) ⟨⟨rfl, rfl⟩, Nat.le_of_ble_eq_true rfl, Nat.le_of_ble_eq_true rfl⟩ hK hG hA hP hD hS (is := [0]) (sel := [some 0, none, none, none, none, none, none, none, none]) (ws2 := [(a0, o5 z34.2 a8 u0_1 u0_3 u0_4 u0_5), (a1, o3 T1 a2 a3 u1_9 a5 a4 a6 a7 u1_14), (a2, ai E 36 V2), (a3, ai E 5 V3), (a4, ai E 12 V4), (a5, ai E 12 V5), (a6, ai E 12 V6), (a7, ai E 12 V7), (a8, ai E 5 V8)]) rfl rfl rfl rfl rfl (xrecv hK hP (q0 := 0) (ci := 5) rfl rfl) rfl hl.1 rfl (Nat.le_of_ble_eq_true rfl) dX5_anyTells_34 (fun H locs hP hD hS => ?_)
      refine lv_istore_n (lv' := [(3, .int z34.1), (2, .int z25.1), (0, .ref a0), (1, .ref a1)]) hx hb dX5_anyTells_37 rfl hl (by decide) rfl (fun ls hl => ?_)
      refine lv_aload_n hx hb dX5_anyTells_38 rfl (lv_at hl 3 rfl) ?_
      refine lv_iload_n hx hb dX5_anyTells_39 rfl (lv_at hl 0 rfl) ?_
      obtain ⟨z40, hz40, hf⟩ := bind_s hf
      refine xV_ir hx hb hml hown htg L5_146 (c_X3_kindAt l E a1 a2 hz40 _) ⟨⟨rfl, rfl⟩, Nat.le_of_ble_eq_true rfl, Nat.le_of_ble_eq_true rfl⟩ hK hG hA hP hD hS (is := [1, 2]) rfl rfl (xrecv hK hP (q0 := 1) (ci := 3) rfl rfl) rfl hl.1 rfl (Nat.le_of_ble_eq_true rfl) dX5_anyTells_40 (fun H locs hP hD hS => ?_)
      refine lv_istore (lv' := [(4, .int z40), (3, .int z34.1), (2, .int z25.1), (0, .ref a0), (1, .ref a1)]) hx hb dX5_anyTells_43 hl (by decide) rfl (fun ls hl => ?_)
      refine lv_aload_n hx hb dX5_anyTells_45 rfl (lv_at hl 3 rfl) ?_
      refine lv_bipush (v := 16) hx hb dX5_anyTells_46 rfl ?_
      obtain ⟨z48, hz48, hf⟩ := bind_s hf
      refine xV_iu hx hb hml hown htg L5_155 (c_X5_draw l E a0 hz48 _) ⟨⟨rfl, rfl⟩, Nat.le_of_ble_eq_true rfl, Nat.le_of_ble_eq_true rfl⟩ hK hG hA hP hD hS (is := [0]) (sel := [some 0, none, none, none, none, none, none, none, none]) (ws2 := [(a0, o5 z48.2 a8 u0_1 u0_3 u0_4 u0_5), (a1, o3 T1 a2 a3 u1_9 a5 a4 a6 a7 u1_14), (a2, ai E 36 V2), (a3, ai E 5 V3), (a4, ai E 12 V4), (a5, ai E 12 V5), (a6, ai E 12 V6), (a7, ai E 12 V7), (a8, ai E 5 V8)]) rfl rfl rfl rfl rfl (xrecv hK hP (q0 := 0) (ci := 5) rfl rfl) rfl hl.1 rfl (Nat.le_of_ble_eq_true rfl) dX5_anyTells_48 (fun H locs hP hD hS => ?_)
      refine lv_istore (lv' := [(5, .int z48.1), (4, .int z40), (3, .int z34.1), (2, .int z25.1), (0, .ref a0), (1, .ref a1)]) hx hb dX5_anyTells_51 hl (by decide) rfl (fun ls hl => ?_)
      refine lv_aload_n hx hb dX5_anyTells_53 rfl (lv_at hl 5 rfl) ?_
      refine lv_iload_n hx hb dX5_anyTells_54 rfl (lv_at hl 3 rfl) ?_
      obtain ⟨z55, hz55, hf⟩ := bind_s hf
      refine xV_ir hx hb hml hown htg L5_158 (c_X3_hasTraveller l E a1 hz55 _) ⟨⟨rfl, rfl⟩, Nat.le_of_ble_eq_true rfl, Nat.le_of_ble_eq_true rfl⟩ hK hG hA hP hD hS (is := [1]) rfl rfl (xrecv hK hP (q0 := 1) (ci := 3) rfl rfl) rfl hl.1 rfl (Nat.le_of_ble_eq_true rfl) dX5_anyTells_55 (fun H locs hP hD hS => ?_)
      refine lv_if_eq (tgt := 97) hx hb dX5_anyTells_58 (by decide) (fun c58 => ?_) (fun c58 => ?_)
      · have hf := it_t c58 hf
        exact b97 z25.1 z34.1 z40 z48.2 T1 V4 V5 V6 V7 V8 _ _ _ hf hP hD hS (lv_sub hl [4, 5, 3, 2, 1] rfl)
      · have hf := it_f c58 hf
        refine lv_iload hx hb dX5_anyTells_61 (lv_at hl 0 rfl) ?_
        refine lv_aload_n hx hb dX5_anyTells_63 rfl (lv_at hl 5 rfl) ?_
        refine G5_161 hx hb htg hown hK hP 1 rfl dX5_anyTells_64 ?_
        refine lv_iload_n hx hb dX5_anyTells_67 rfl (lv_at hl 3 rfl) ?_
        obtain ⟨g68, hf⟩ := ck_s hf
        refine xiald hx hb hK hP 3 rfl g68 dX5_anyTells_68 ?_
        refine lv_icmp_ge (tgt := 97) hx hb dX5_anyTells_69 (by decide) (fun c69 => ?_) (fun c69 => ?_)
        · have hf := it_t c69 hf
          exact b97 z25.1 z34.1 z40 z48.2 T1 V4 V5 V6 V7 V8 _ _ _ hf hP hD hS (lv_sub hl [4, 5, 3, 2, 1] rfl)
        · have hf := it_f c69 hf
          refine lv_aload_n hx hb dX5_anyTells_72 rfl (lv_at hl 4 rfl) ?_
          refine lv_iconst (v := 3) hx hb dX5_anyTells_73 rfl ?_
          obtain ⟨z74, hz74, hf⟩ := bind_s hf
          refine xV_iu hx hb hml hown htg L5_155 (c_X5_draw l E a0 hz74 _) ⟨⟨rfl, rfl⟩, Nat.le_of_ble_eq_true rfl, Nat.le_of_ble_eq_true rfl⟩ hK hG hA hP hD hS (is := [0]) (sel := [some 0, none, none, none, none, none, none, none, none]) (ws2 := [(a0, o5 z74.2 a8 u0_1 u0_3 u0_4 u0_5), (a1, o3 T1 a2 a3 u1_9 a5 a4 a6 a7 u1_14), (a2, ai E 36 V2), (a3, ai E 5 V3), (a4, ai E 12 V4), (a5, ai E 12 V5), (a6, ai E 12 V6), (a7, ai E 12 V7), (a8, ai E 5 V8)]) rfl rfl rfl rfl rfl (xrecv hK hP (q0 := 0) (ci := 5) rfl rfl) rfl hl.1 rfl (Nat.le_of_ble_eq_true rfl) dX5_anyTells_74 (fun H locs hP hD hS => ?_)
          refine lv_istore (lv' := [(6, .int z74.1), (5, .int z48.1), (4, .int z40), (3, .int z34.1), (2, .int z25.1), (0, .ref a0), (1, .ref a1)]) hx hb dX5_anyTells_77 hl (by decide) rfl (fun ls hl => ?_)
          refine lv_iload hx hb dX5_anyTells_79 (lv_at hl 0 rfl) ?_
          refine lv_iload hx hb dX5_anyTells_81 (lv_at hl 2 rfl) ?_
          refine lv_icmp_ge (tgt := 91) hx hb dX5_anyTells_83 (by decide) (fun c83 => ?_) (fun c83 => ?_)
          · have hf := it_t c83 hf
            refine lv_iload hx hb dX5_anyTells_91 (lv_at hl 0 rfl) ?_
            refine lv_iconst (v := 1) hx hb dX5_anyTells_93 rfl ?_
            refine lv_iadd hx hb dX5_anyTells_94 ?_
            exact b95 z25.1 z34.1 (z74.1 + 1) z74.2 T1 V4 V5 V6 V7 V8 _ _ _ hf hP hD hS (lv_sub hl [5, 6, 4, 3] rfl)
          · have hf := it_f c83 hf
            refine lv_iload hx hb dX5_anyTells_86 (lv_at hl 0 rfl) ?_
            refine lv_goto (tgt := 95) hx hb dX5_anyTells_88 (by decide) ?_
            exact b95 z25.1 z34.1 z74.1 z74.2 T1 V4 V5 V6 V7 V8 _ _ _ hf hP hD hS (lv_sub hl [5, 6, 4, 3] rfl)
    · have hf := it_t c11 hf
      exact b14 T0 T1 V4 V5 V6 V7 V8 _ _ _ hf hP hD hS (lv_sub hl [0] rfl)
theorem dX5_holds_0 : decode cX5_holds 0 = .ok (.aload_n 2, 1) := by decide +kernel
theorem dX5_holds_1 : decode cX5_holds 1 = .ok (.iload_n 3, 1) := by decide +kernel
theorem dX5_holds_2 : decode cX5_holds 2 = .ok (.invokevirtual 89, 3) := by decide +kernel
theorem dX5_holds_5 : decode cX5_holds 5 = .ok (.istore 4, 2) := by decide +kernel
theorem dX5_holds_7 : decode cX5_holds 7 = .ok (.aload_n 2, 1) := by decide +kernel
theorem dX5_holds_8 : decode cX5_holds 8 = .ok (.iload_n 3, 1) := by decide +kernel
theorem dX5_holds_9 : decode cX5_holds 9 = .ok (.invokevirtual 100, 3) := by decide +kernel
theorem dX5_holds_12 : decode cX5_holds 12 = .ok (.istore 5, 2) := by decide +kernel
theorem dX5_holds_14 : decode cX5_holds 14 = .ok (.aload_n 0, 1) := by decide +kernel
theorem dX5_holds_15 : decode cX5_holds 15 = .ok (.getfield 26, 3) := by decide +kernel
theorem dX5_holds_18 : decode cX5_holds 18 = .ok (.aload_n 1, 1) := by decide +kernel
theorem dX5_holds_19 : decode cX5_holds 19 = .ok (.aload_n 1, 1) := by decide +kernel
theorem dX5_holds_20 : decode cX5_holds 20 = .ok (.getfield 128, 3) := by decide +kernel
theorem dX5_holds_23 : decode cX5_holds 23 = .ok (.invokevirtual 131, 3) := by decide +kernel
theorem dX5_holds_26 : decode cX5_holds 26 = .ok (.aload_n 2, 1) := by decide +kernel
theorem dX5_holds_27 : decode cX5_holds 27 = .ok (.iload_n 3, 1) := by decide +kernel
theorem dX5_holds_28 : decode cX5_holds 28 = .ok (.invokevirtual 72, 3) := by decide +kernel
theorem dX5_holds_31 : decode cX5_holds 31 = .ok (.lookupswitch 79 #[(5, 33), (17, 59), (18, 40)], 33) := by decide +kernel
theorem dX5_holds_64 : decode cX5_holds 64 = .ok (.aload_n 1, 1) := by decide +kernel
theorem dX5_holds_65 : decode cX5_holds 65 = .ok (.iload 4, 2) := by decide +kernel
theorem dX5_holds_67 : decode cX5_holds 67 = .ok (.invokevirtual 164, 3) := by decide +kernel
theorem dX5_holds_70 : decode cX5_holds 70 = .ok (.ireturn, 1) := by decide +kernel
theorem dX5_holds_71 : decode cX5_holds 71 = .ok (.aload_n 0, 1) := by decide +kernel
theorem dX5_holds_72 : decode cX5_holds 72 = .ok (.getfield 26, 3) := by decide +kernel
theorem dX5_holds_75 : decode cX5_holds 75 = .ok (.iload 4, 2) := by decide +kernel
theorem dX5_holds_77 : decode cX5_holds 77 = .ok (.invokevirtual 167, 3) := by decide +kernel
theorem dX5_holds_80 : decode cX5_holds 80 = .ok (.iconst 4, 1) := by decide +kernel
theorem dX5_holds_81 : decode cX5_holds 81 = .ok (.if_icmp .ne 7, 3) := by decide +kernel
theorem dX5_holds_84 : decode cX5_holds 84 = .ok (.iconst 1, 1) := by decide +kernel
theorem dX5_holds_85 : decode cX5_holds 85 = .ok (.goto 4, 3) := by decide +kernel
theorem dX5_holds_88 : decode cX5_holds 88 = .ok (.iconst 0, 1) := by decide +kernel
theorem dX5_holds_89 : decode cX5_holds 89 = .ok (.ireturn, 1) := by decide +kernel
theorem dX5_holds_90 : decode cX5_holds 90 = .ok (.aload_n 0, 1) := by decide +kernel
theorem dX5_holds_91 : decode cX5_holds 91 = .ok (.getfield 26, 3) := by decide +kernel
theorem dX5_holds_94 : decode cX5_holds 94 = .ok (.iload 4, 2) := by decide +kernel
theorem dX5_holds_96 : decode cX5_holds 96 = .ok (.invokevirtual 167, 3) := by decide +kernel
theorem dX5_holds_99 : decode cX5_holds 99 = .ok (.iload 5, 2) := by decide +kernel
theorem dX5_holds_101 : decode cX5_holds 101 = .ok (.if_icmp .ne 7, 3) := by decide +kernel
theorem dX5_holds_104 : decode cX5_holds 104 = .ok (.iconst 1, 1) := by decide +kernel
theorem dX5_holds_105 : decode cX5_holds 105 = .ok (.goto 4, 3) := by decide +kernel
theorem dX5_holds_108 : decode cX5_holds 108 = .ok (.iconst 0, 1) := by decide +kernel
theorem dX5_holds_109 : decode cX5_holds 109 = .ok (.ireturn, 1) := by decide +kernel
theorem dX5_holds_110 : decode cX5_holds 110 = .ok (.aload_n 0, 1) := by decide +kernel
theorem dX5_holds_111 : decode cX5_holds 111 = .ok (.getfield 26, 3) := by decide +kernel
theorem dX5_holds_114 : decode cX5_holds 114 = .ok (.aload_n 1, 1) := by decide +kernel
theorem dX5_holds_115 : decode cX5_holds 115 = .ok (.invokevirtual 170, 3) := by decide +kernel
theorem dX5_holds_118 : decode cX5_holds 118 = .ok (.iload 5, 2) := by decide +kernel
theorem dX5_holds_120 : decode cX5_holds 120 = .ok (.invokestatic 173, 3) := by decide +kernel
theorem dX5_holds_123 : decode cX5_holds 123 = .ok (.iload 4, 2) := by decide +kernel
theorem dX5_holds_125 : decode cX5_holds 125 = .ok (.if_icmp .ne 7, 3) := by decide +kernel
theorem dX5_holds_128 : decode cX5_holds 128 = .ok (.iconst 1, 1) := by decide +kernel
theorem dX5_holds_129 : decode cX5_holds 129 = .ok (.goto 4, 3) := by decide +kernel
theorem dX5_holds_132 : decode cX5_holds 132 = .ok (.iconst 0, 1) := by decide +kernel
theorem dX5_holds_133 : decode cX5_holds 133 = .ok (.ireturn, 1) := by decide +kernel
set_option maxRecDepth 100000 in
theorem c_X5_holds (l : Launch) (E : xE) (a0 a1 a2 a3 a4 a5 a6 a7 a8 a9 a10 : Nat) {T0 : Nat → Int32} {T1 : Nat → Int32} {T2 : Nat → Int32} {V3 : Nat → Int32} {V4 : Nat → Int32} {V6 : Nat → Int32} {V7 : Nat → Int32} {V8 : Nat → Int32} {V9 : Nat → Int32} {V10 : Nat → Int32} {u0_0 u0_1 u0_3 u0_5 u1_7 u1_8 u1_9 u1_13 u1_14 u2_6 u2_7 : Nat} {x3 : Int32} {z : Int32 × (Nat → Int32)} (hf : f_X5_holds T1 T2 V3 V4 V6 V7 V8 V9 V10 x3 = some z) (sz : Nat) : Met l yX5_holds (Cond.code yX5_holds cX5_holds 6 (some .boolean) :: gw) ({ frames := 3, cells := 0, slots := 0, locals := 64 }) (xPc E [.ref a0, .ref a1, .ref a2, .int x3] [(a0, o5 T0 u0_0 u0_1 u0_3 a5 u0_5), (a1, o3 T1 u1_7 u1_8 u1_9 a9 a7 a8 u1_13 u1_14), (a2, o0 T2 a10 a3 a4 u2_6 u2_7), (a3, ai E 60 V3), (a4, ai E 60 V4), (a5, o7 a6), (a6, ai E 144 V6), (a7, ai E 12 V7), (a8, ai E 12 V8), (a9, ai E 12 V9), (a10, ai E 60 V10)] sz) (xQi E z.1 [(a0, o5 T0 u0_0 u0_1 u0_3 a5 u0_5), (a1, o3 T1 u1_7 u1_8 u1_9 a9 a7 a8 u1_13 u1_14), (a2, o0 T2 a10 a3 a4 u2_6 u2_7), (a3, ai E 60 V3), (a4, ai E 60 V4), (a5, o7 a6), (a6, ai E 144 V6), (a7, ai E 12 V7), (a8, ai E 12 V8), (a9, ai E 12 V9), (a10, ai E 60 V10)] [(a0, o5 T0 u0_0 u0_1 u0_3 a5 u0_5), (a1, o3 T1 u1_7 u1_8 u1_9 a9 a7 a8 u1_13 u1_14), (a2, o0 T2 a10 a3 a4 u2_6 u2_7), (a3, ai E 60 V3), (a4, ai E 60 V4), (a5, o7 a6), (a6, ai E 144 z.2), (a7, ai E 12 V7), (a8, ai E 12 V8), (a9, ai E 12 V9), (a10, ai E 60 V10)] sz) 0 0 (va_A [(a0, o5 T0 u0_0 u0_1 u0_3 a5 u0_5), (a1, o3 T1 u1_7 u1_8 u1_9 a9 a7 a8 u1_13 u1_14), (a2, o0 T2 a10 a3 a4 u2_6 u2_7), (a3, ai E 60 V3), (a4, ai E 60 V4), (a5, o7 a6), (a6, ai E 144 V6), (a7, ai E 12 V7), (a8, ai E 12 V8), (a9, ai E 12 V9), (a10, ai E 60 V10)] sz) := by
  refine xM_i (by decide +kernel) (Nat.le_of_ble_eq_true rfl) ?_
  intro p e s m args below meth c A Q hx hb hml hown htg hK hG hA ret0 H locs ls hP hD hS hl
  have ret : ∀ (z' : Int32 × (Nat → Int32)) {H : Heap} {locs : List Loc} {pc : Nat} {ls : Array Slot}, some z' = some z → narrow .boolean (.int z'.1) = .int z'.1 → va_P E.1 vwCl [(a0, o5 T0 u0_0 u0_1 u0_3 a5 u0_5), (a1, o3 T1 u1_7 u1_8 u1_9 a9 a7 a8 u1_13 u1_14), (a2, o0 T2 a10 a3 a4 u2_6 u2_7), (a3, ai E 60 V3), (a4, ai E 60 V4), (a5, o7 a6), (a6, ai E 144 z'.2), (a7, ai E 12 V7), (a8, ai E 12 V8), (a9, ai E 12 V9), (a10, ai E 60 V10)] H → va_S A s.heap H locs → decode cX5_holds pc = .ok (.ireturn, 1) → W p l e ({ frames := 3, cells := 0, slots := 0, locals := 64 } : Room) s m args below meth c H locs 0 0 Q (F0 m pc ls [.int z'.1]) := by
    intro z' H locs pc ls h
    cases h
    exact ret0
  replace hl : lv_has ls 6 [(0, .ref a0), (1, .ref a1), (2, .ref a2), (3, .int x3)] := hl
  unfold f_X5_holds at hf
  refine lv_aload_n hx hb dX5_holds_0 rfl (lv_at hl 2 rfl) ?_
  refine lv_iload_n hx hb dX5_holds_1 rfl (lv_at hl 3 rfl) ?_
  obtain ⟨z2, hz2, hf⟩ := bind_s hf
  refine xV_ir hx hb hml hown htg L5_89 (c_X0_first l E a2 a3 hz2 _) ⟨⟨rfl, rfl⟩, Nat.le_of_ble_eq_true rfl, Nat.le_of_ble_eq_true rfl⟩ hK hG hA hP hD hS (is := [2, 3]) rfl rfl (xrecv hK hP (q0 := 2) (ci := 0) rfl rfl) rfl hl.1 rfl (Nat.le_of_ble_eq_true rfl) dX5_holds_2 (fun H locs hP hD hS => ?_)
  refine lv_istore (lv' := [(4, .int z2), (0, .ref a0), (1, .ref a1), (2, .ref a2), (3, .int x3)]) hx hb dX5_holds_5 hl (by decide) rfl (fun ls hl => ?_)
  refine lv_aload_n hx hb dX5_holds_7 rfl (lv_at hl 3 rfl) ?_
  refine lv_iload_n hx hb dX5_holds_8 rfl (lv_at hl 4 rfl) ?_
  obtain ⟨z9, hz9, hf⟩ := bind_s hf
  refine xV_ir hx hb hml hown htg L5_100 (c_X0_second l E a2 a4 hz9 _) ⟨⟨rfl, rfl⟩, Nat.le_of_ble_eq_true rfl, Nat.le_of_ble_eq_true rfl⟩ hK hG hA hP hD hS (is := [2, 4]) rfl rfl (xrecv hK hP (q0 := 2) (ci := 0) rfl rfl) rfl hl.1 rfl (Nat.le_of_ble_eq_true rfl) dX5_holds_9 (fun H locs hP hD hS => ?_)
  refine lv_istore (lv' := [(5, .int z9), (4, .int z2), (0, .ref a0), (1, .ref a1), (2, .ref a2), (3, .int x3)]) hx hb dX5_holds_12 hl (by decide) rfl (fun ls hl => ?_)
  refine lv_aload_n hx hb dX5_holds_14 rfl (lv_at hl 2 rfl) ?_
  refine G5_26 hx hb htg hown hK hP 0 rfl dX5_holds_15 ?_
  refine lv_aload_n hx hb dX5_holds_18 rfl (lv_at hl 3 rfl) ?_
  refine lv_aload_n hx hb dX5_holds_19 rfl (lv_at hl 3 rfl) ?_
  refine G5_128 hx hb htg hown hK hP 1 rfl dX5_holds_20 ?_
  obtain ⟨z23, hz23, hf⟩ := bind_s hf
  refine xV_vu hx hb hml hown htg L5_131 (c_X7_take l E a5 a1 a6 a7 a8 a9 hz23 _) ⟨⟨rfl, rfl⟩, Nat.le_of_ble_eq_true rfl, Nat.le_of_ble_eq_true rfl⟩ hK hG hA hP hD hS (is := [5, 1, 6, 7, 8, 9]) (sel := [none, some 1, none, none, none, some 0, some 2, some 3, some 4, some 5, none]) (ws2 := [(a0, o5 T0 u0_0 u0_1 u0_3 a5 u0_5), (a1, o3 T1 u1_7 u1_8 u1_9 a9 a7 a8 u1_13 u1_14), (a2, o0 T2 a10 a3 a4 u2_6 u2_7), (a3, ai E 60 V3), (a4, ai E 60 V4), (a5, o7 a6), (a6, ai E 144 z23), (a7, ai E 12 V7), (a8, ai E 12 V8), (a9, ai E 12 V9), (a10, ai E 60 V10)]) rfl rfl rfl rfl rfl (xrecv hK hP (q0 := 5) (ci := 7) rfl rfl) rfl hl.1 rfl (Nat.le_of_ble_eq_true rfl) dX5_holds_23 (fun H locs hP hD hS => ?_)
  refine lv_aload_n hx hb dX5_holds_26 rfl (lv_at hl 4 rfl) ?_
  refine lv_iload_n hx hb dX5_holds_27 rfl (lv_at hl 5 rfl) ?_
  obtain ⟨z28, hz28, hf⟩ := bind_s hf
  refine xV_ir hx hb hml hown htg L5_72 (c_X0_deed l E a2 a10 hz28 _) ⟨⟨rfl, rfl⟩, Nat.le_of_ble_eq_true rfl, Nat.le_of_ble_eq_true rfl⟩ hK hG hA hP hD hS (is := [2, 10]) rfl rfl (xrecv hK hP (q0 := 2) (ci := 0) rfl rfl) rfl hl.1 rfl (Nat.le_of_ble_eq_true rfl) dX5_holds_28 (fun H locs hP hD hS => ?_)
  by_cases c31_5 : z28 = 5
  · have hf := it_t c31_5 hf
    refine xlkI (off := 33) (tgt := 64) hx hb c31_5 dX5_holds_31 rfl (by decide) ?_
    refine lv_aload_n hx hb dX5_holds_64 rfl (lv_at hl 3 rfl) ?_
    refine lv_iload hx hb dX5_holds_65 (lv_at hl 1 rfl) ?_
    obtain ⟨z67, hz67, hf⟩ := bind_s hf
    refine xV_ir hx hb hml hown htg L5_164 (c_X3_isHeard l E a1 hz67 _) ⟨⟨rfl, rfl⟩, Nat.le_of_ble_eq_true rfl, Nat.le_of_ble_eq_true rfl⟩ hK hG hA hP hD hS (is := [1]) rfl rfl (xrecv hK hP (q0 := 1) (ci := 3) rfl rfl) rfl hl.1 rfl (Nat.le_of_ble_eq_true rfl) dX5_holds_67 (fun H locs hP hD hS => ?_)
    obtain ⟨g70, hf⟩ := ck_s hf
    exact ret (z67, z23) hf (bz_n g70).1 hP hS dX5_holds_70
  have hf := it_f c31_5 hf
  by_cases c31_17 : z28 = 17
  · have hf := it_t c31_17 hf
    refine xlkI (off := 59) (tgt := 90) hx hb c31_17 dX5_holds_31 rfl (by decide) ?_
    refine lv_aload_n hx hb dX5_holds_90 rfl (lv_at hl 2 rfl) ?_
    refine G5_26 hx hb htg hown hK hP 0 rfl dX5_holds_91 ?_
    refine lv_iload hx hb dX5_holds_94 (lv_at hl 1 rfl) ?_
    obtain ⟨z96, hz96, hf⟩ := bind_s hf
    refine xV_ir hx hb hml hown htg L5_167 (c_X7_drawnAs l E a5 a6 hz96 _) ⟨⟨rfl, rfl⟩, Nat.le_of_ble_eq_true rfl, Nat.le_of_ble_eq_true rfl⟩ hK hG hA hP hD hS (is := [5, 6]) rfl rfl (xrecv hK hP (q0 := 5) (ci := 7) rfl rfl) rfl hl.1 rfl (Nat.le_of_ble_eq_true rfl) dX5_holds_96 (fun H locs hP hD hS => ?_)
    refine lv_iload hx hb dX5_holds_99 (lv_at hl 0 rfl) ?_
    refine lv_icmp_ne (tgt := 108) hx hb dX5_holds_101 (by decide) (fun c101 => ?_) (fun c101 => ?_)
    · have hf := it_f c101 hf
      refine lv_iconst (v := 0) hx hb dX5_holds_108 rfl ?_
      exact ret (0, z23) hf nz0 hP hS dX5_holds_109
    · have hf := it_t c101 hf
      refine lv_iconst (v := 1) hx hb dX5_holds_104 rfl ?_
      refine lv_goto (tgt := 109) hx hb dX5_holds_105 (by decide) ?_
      exact ret (1, z23) hf nz1 hP hS dX5_holds_109
  have hf := it_f c31_17 hf
  by_cases c31_18 : z28 = 18
  · have hf := it_t c31_18 hf
    refine xlkI (off := 40) (tgt := 71) hx hb c31_18 dX5_holds_31 rfl (by decide) ?_
    refine lv_aload_n hx hb dX5_holds_71 rfl (lv_at hl 2 rfl) ?_
    refine G5_26 hx hb htg hown hK hP 0 rfl dX5_holds_72 ?_
    refine lv_iload hx hb dX5_holds_75 (lv_at hl 1 rfl) ?_
    obtain ⟨z77, hz77, hf⟩ := bind_s hf
    refine xV_ir hx hb hml hown htg L5_167 (c_X7_drawnAs l E a5 a6 hz77 _) ⟨⟨rfl, rfl⟩, Nat.le_of_ble_eq_true rfl, Nat.le_of_ble_eq_true rfl⟩ hK hG hA hP hD hS (is := [5, 6]) rfl rfl (xrecv hK hP (q0 := 5) (ci := 7) rfl rfl) rfl hl.1 rfl (Nat.le_of_ble_eq_true rfl) dX5_holds_77 (fun H locs hP hD hS => ?_)
    refine lv_iconst (v := 4) hx hb dX5_holds_80 rfl ?_
    refine lv_icmp_ne (tgt := 88) hx hb dX5_holds_81 (by decide) (fun c81 => ?_) (fun c81 => ?_)
    · have hf := it_f c81 hf
      refine lv_iconst (v := 0) hx hb dX5_holds_88 rfl ?_
      exact ret (0, z23) hf nz0 hP hS dX5_holds_89
    · have hf := it_t c81 hf
      refine lv_iconst (v := 1) hx hb dX5_holds_84 rfl ?_
      refine lv_goto (tgt := 89) hx hb dX5_holds_85 (by decide) ?_
      exact ret (1, z23) hf nz1 hP hS dX5_holds_89
  have hf := it_f c31_18 hf
  refine xlkD (tgt := 110) (cs := [5, 17, 18]) hx hb (by simp only [List.forall_mem_cons]; exact ⟨c31_5, c31_17, c31_18, fun _ h => absurd h List.not_mem_nil⟩) rfl dX5_holds_31 (by decide) ?_
  refine lv_aload_n hx hb dX5_holds_110 rfl (lv_at hl 2 rfl) ?_
  refine G5_26 hx hb htg hown hK hP 0 rfl dX5_holds_111 ?_
  refine lv_aload_n hx hb dX5_holds_114 rfl (lv_at hl 3 rfl) ?_
  obtain ⟨z115, hz115, hf⟩ := bind_s hf
  refine xV_ir hx hb hml hown htg L5_170 (c_X7_knownCells l E a5 a1 a6 hz115 _) ⟨⟨rfl, rfl⟩, Nat.le_of_ble_eq_true rfl, Nat.le_of_ble_eq_true rfl⟩ hK hG hA hP hD hS (is := [5, 1, 6]) rfl rfl (xrecv hK hP (q0 := 5) (ci := 7) rfl rfl) rfl hl.1 rfl (Nat.le_of_ble_eq_true rfl) dX5_holds_115 (fun H locs hP hD hS => ?_)
  refine lv_iload hx hb dX5_holds_118 (lv_at hl 0 rfl) ?_
  obtain ⟨z120, hz120, hf⟩ := bind_s hf
  refine xS_ir hx hb hml hown htg L5_173 (c_J6_compare_7cf53 l E hz120 _) ⟨⟨rfl, rfl⟩, Nat.le_of_ble_eq_true rfl, Nat.le_of_ble_eq_true rfl⟩ hK hG hA hP hD hS (is := []) rfl rfl rfl hl.1 rfl (Nat.le_of_ble_eq_true rfl) dX5_holds_120 (fun H locs hP hD hS => ?_)
  refine lv_iload hx hb dX5_holds_123 (lv_at hl 1 rfl) ?_
  refine lv_icmp_ne (tgt := 132) hx hb dX5_holds_125 (by decide) (fun c125 => ?_) (fun c125 => ?_)
  · have hf := it_f c125 hf
    refine lv_iconst (v := 0) hx hb dX5_holds_132 rfl ?_
    exact ret (0, z23) hf nz0 hP hS dX5_holds_133
  · have hf := it_t c125 hf
    refine lv_iconst (v := 1) hx hb dX5_holds_128 rfl ?_
    refine lv_goto (tgt := 133) hx hb dX5_holds_129 (by decide) ?_
    exact ret (1, z23) hf nz1 hP hS dX5_holds_133
theorem dX5_behindStep_0 : decode cX5_behindStep 0 = .ok (.aload_n 2, 1) := by decide +kernel
theorem dX5_behindStep_1 : decode cX5_behindStep 1 = .ok (.iload_n 3, 1) := by decide +kernel
theorem dX5_behindStep_2 : decode cX5_behindStep 2 = .ok (.invokevirtual 72, 3) := by decide +kernel
theorem dX5_behindStep_5 : decode cX5_behindStep 5 = .ok (.tableswitch 207 6 22 #[119, 207, 207, 207, 207, 207, 83, 101, 147, 161, 207, 207, 207, 207, 170, 207, 202], 83) := by decide +kernel
theorem dX5_behindStep_88 : decode cX5_behindStep 88 = .ok (.aload_n 0, 1) := by decide +kernel
theorem dX5_behindStep_89 : decode cX5_behindStep 89 = .ok (.aload_n 1, 1) := by decide +kernel
theorem dX5_behindStep_90 : decode cX5_behindStep 90 = .ok (.aload_n 2, 1) := by decide +kernel
theorem dX5_behindStep_91 : decode cX5_behindStep 91 = .ok (.iload_n 3, 1) := by decide +kernel
theorem dX5_behindStep_92 : decode cX5_behindStep 92 = .ok (.invokevirtual 89, 3) := by decide +kernel
theorem dX5_behindStep_95 : decode cX5_behindStep 95 = .ok (.iconst 1, 1) := by decide +kernel
theorem dX5_behindStep_96 : decode cX5_behindStep 96 = .ok (.invokevirtual 92, 3) := by decide +kernel
theorem dX5_behindStep_99 : decode cX5_behindStep 99 = .ok (.invokevirtual 96, 3) := by decide +kernel
theorem dX5_behindStep_102 : decode cX5_behindStep 102 = .ok (.iload_n 3, 1) := by decide +kernel
theorem dX5_behindStep_103 : decode cX5_behindStep 103 = .ok (.iconst 1, 1) := by decide +kernel
theorem dX5_behindStep_104 : decode cX5_behindStep 104 = .ok (.iadd, 1) := by decide +kernel
theorem dX5_behindStep_105 : decode cX5_behindStep 105 = .ok (.ireturn, 1) := by decide +kernel
theorem dX5_behindStep_106 : decode cX5_behindStep 106 = .ok (.aload_n 0, 1) := by decide +kernel
theorem dX5_behindStep_107 : decode cX5_behindStep 107 = .ok (.aload_n 1, 1) := by decide +kernel
theorem dX5_behindStep_108 : decode cX5_behindStep 108 = .ok (.aload_n 2, 1) := by decide +kernel
theorem dX5_behindStep_109 : decode cX5_behindStep 109 = .ok (.iload_n 3, 1) := by decide +kernel
theorem dX5_behindStep_110 : decode cX5_behindStep 110 = .ok (.invokevirtual 89, 3) := by decide +kernel
theorem dX5_behindStep_113 : decode cX5_behindStep 113 = .ok (.iconst 0, 1) := by decide +kernel
theorem dX5_behindStep_114 : decode cX5_behindStep 114 = .ok (.invokevirtual 92, 3) := by decide +kernel
theorem dX5_behindStep_117 : decode cX5_behindStep 117 = .ok (.invokevirtual 96, 3) := by decide +kernel
theorem dX5_behindStep_120 : decode cX5_behindStep 120 = .ok (.iload_n 3, 1) := by decide +kernel
theorem dX5_behindStep_121 : decode cX5_behindStep 121 = .ok (.iconst 1, 1) := by decide +kernel
theorem dX5_behindStep_122 : decode cX5_behindStep 122 = .ok (.iadd, 1) := by decide +kernel
theorem dX5_behindStep_123 : decode cX5_behindStep 123 = .ok (.ireturn, 1) := by decide +kernel
theorem dX5_behindStep_124 : decode cX5_behindStep 124 = .ok (.aload_n 0, 1) := by decide +kernel
theorem dX5_behindStep_125 : decode cX5_behindStep 125 = .ok (.aload_n 1, 1) := by decide +kernel
theorem dX5_behindStep_126 : decode cX5_behindStep 126 = .ok (.aload_n 2, 1) := by decide +kernel
theorem dX5_behindStep_127 : decode cX5_behindStep 127 = .ok (.iload_n 3, 1) := by decide +kernel
theorem dX5_behindStep_128 : decode cX5_behindStep 128 = .ok (.invokevirtual 89, 3) := by decide +kernel
theorem dX5_behindStep_131 : decode cX5_behindStep 131 = .ok (.aload_n 2, 1) := by decide +kernel
theorem dX5_behindStep_132 : decode cX5_behindStep 132 = .ok (.iload_n 3, 1) := by decide +kernel
theorem dX5_behindStep_133 : decode cX5_behindStep 133 = .ok (.invokevirtual 100, 3) := by decide +kernel
theorem dX5_behindStep_136 : decode cX5_behindStep 136 = .ok (.aload_n 2, 1) := by decide +kernel
theorem dX5_behindStep_137 : decode cX5_behindStep 137 = .ok (.iload_n 3, 1) := by decide +kernel
theorem dX5_behindStep_138 : decode cX5_behindStep 138 = .ok (.invokevirtual 103, 3) := by decide +kernel
theorem dX5_behindStep_141 : decode cX5_behindStep 141 = .ok (.iconst 0, 1) := by decide +kernel
theorem dX5_behindStep_142 : decode cX5_behindStep 142 = .ok (.invokevirtual 106, 3) := by decide +kernel
theorem dX5_behindStep_145 : decode cX5_behindStep 145 = .ok (.invokevirtual 110, 3) := by decide +kernel
theorem dX5_behindStep_148 : decode cX5_behindStep 148 = .ok (.iload_n 3, 1) := by decide +kernel
theorem dX5_behindStep_149 : decode cX5_behindStep 149 = .ok (.iconst 1, 1) := by decide +kernel
theorem dX5_behindStep_150 : decode cX5_behindStep 150 = .ok (.iadd, 1) := by decide +kernel
theorem dX5_behindStep_151 : decode cX5_behindStep 151 = .ok (.ireturn, 1) := by decide +kernel
theorem dX5_behindStep_152 : decode cX5_behindStep 152 = .ok (.aload_n 0, 1) := by decide +kernel
theorem dX5_behindStep_153 : decode cX5_behindStep 153 = .ok (.aload_n 1, 1) := by decide +kernel
theorem dX5_behindStep_154 : decode cX5_behindStep 154 = .ok (.aload_n 2, 1) := by decide +kernel
theorem dX5_behindStep_155 : decode cX5_behindStep 155 = .ok (.iload_n 3, 1) := by decide +kernel
theorem dX5_behindStep_156 : decode cX5_behindStep 156 = .ok (.invokevirtual 89, 3) := by decide +kernel
theorem dX5_behindStep_159 : decode cX5_behindStep 159 = .ok (.invokevirtual 113, 3) := by decide +kernel
theorem dX5_behindStep_162 : decode cX5_behindStep 162 = .ok (.iload_n 3, 1) := by decide +kernel
theorem dX5_behindStep_163 : decode cX5_behindStep 163 = .ok (.iconst 1, 1) := by decide +kernel
theorem dX5_behindStep_164 : decode cX5_behindStep 164 = .ok (.iadd, 1) := by decide +kernel
theorem dX5_behindStep_165 : decode cX5_behindStep 165 = .ok (.ireturn, 1) := by decide +kernel
theorem dX5_behindStep_166 : decode cX5_behindStep 166 = .ok (.aload_n 0, 1) := by decide +kernel
theorem dX5_behindStep_167 : decode cX5_behindStep 167 = .ok (.aload_n 1, 1) := by decide +kernel
theorem dX5_behindStep_168 : decode cX5_behindStep 168 = .ok (.invokevirtual 117, 3) := by decide +kernel
theorem dX5_behindStep_171 : decode cX5_behindStep 171 = .ok (.iload_n 3, 1) := by decide +kernel
theorem dX5_behindStep_172 : decode cX5_behindStep 172 = .ok (.iconst 1, 1) := by decide +kernel
theorem dX5_behindStep_173 : decode cX5_behindStep 173 = .ok (.iadd, 1) := by decide +kernel
theorem dX5_behindStep_174 : decode cX5_behindStep 174 = .ok (.ireturn, 1) := by decide +kernel
theorem dX5_behindStep_175 : decode cX5_behindStep 175 = .ok (.iload_n 3, 1) := by decide +kernel
theorem dX5_behindStep_176 : decode cX5_behindStep 176 = .ok (.iconst 0, 1) := by decide +kernel
theorem dX5_behindStep_177 : decode cX5_behindStep 177 = .ok (.aload_n 0, 1) := by decide +kernel
theorem dX5_behindStep_178 : decode cX5_behindStep 178 = .ok (.getfield 20, 3) := by decide +kernel
theorem dX5_behindStep_181 : decode cX5_behindStep 181 = .ok (.arraylength, 1) := by decide +kernel
theorem dX5_behindStep_182 : decode cX5_behindStep 182 = .ok (.iconst 1, 1) := by decide +kernel
theorem dX5_behindStep_183 : decode cX5_behindStep 183 = .ok (.isub, 1) := by decide +kernel
theorem dX5_behindStep_184 : decode cX5_behindStep 184 = .ok (.invokestatic 47, 3) := by decide +kernel
theorem dX5_behindStep_187 : decode cX5_behindStep 187 = .ok (.ifCond .eq 16, 3) := by decide +kernel
theorem dX5_behindStep_190 : decode cX5_behindStep 190 = .ok (.aload_n 0, 1) := by decide +kernel
theorem dX5_behindStep_191 : decode cX5_behindStep 191 = .ok (.getfield 20, 3) := by decide +kernel
theorem dX5_behindStep_194 : decode cX5_behindStep 194 = .ok (.iload_n 3, 1) := by decide +kernel
theorem dX5_behindStep_195 : decode cX5_behindStep 195 = .ok (.aload_n 2, 1) := by decide +kernel
theorem dX5_behindStep_196 : decode cX5_behindStep 196 = .ok (.iload_n 3, 1) := by decide +kernel
theorem dX5_behindStep_197 : decode cX5_behindStep 197 = .ok (.invokevirtual 89, 3) := by decide +kernel
theorem dX5_behindStep_200 : decode cX5_behindStep 200 = .ok (.iconst 1, 1) := by decide +kernel
theorem dX5_behindStep_201 : decode cX5_behindStep 201 = .ok (.isub, 1) := by decide +kernel
theorem dX5_behindStep_202 : decode cX5_behindStep 202 = .ok (.iastore, 1) := by decide +kernel
theorem dX5_behindStep_203 : decode cX5_behindStep 203 = .ok (.iload_n 3, 1) := by decide +kernel
theorem dX5_behindStep_204 : decode cX5_behindStep 204 = .ok (.iconst 1, 1) := by decide +kernel
theorem dX5_behindStep_205 : decode cX5_behindStep 205 = .ok (.iadd, 1) := by decide +kernel
theorem dX5_behindStep_206 : decode cX5_behindStep 206 = .ok (.ireturn, 1) := by decide +kernel
theorem dX5_behindStep_207 : decode cX5_behindStep 207 = .ok (.aload_n 2, 1) := by decide +kernel
theorem dX5_behindStep_208 : decode cX5_behindStep 208 = .ok (.getfield 121, 3) := by decide +kernel
theorem dX5_behindStep_211 : decode cX5_behindStep 211 = .ok (.ireturn, 1) := by decide +kernel
theorem dX5_behindStep_212 : decode cX5_behindStep 212 = .ok (.aload_n 0, 1) := by decide +kernel
theorem dX5_behindStep_213 : decode cX5_behindStep 213 = .ok (.aload_n 1, 1) := by decide +kernel
theorem dX5_behindStep_214 : decode cX5_behindStep 214 = .ok (.aload_n 2, 1) := by decide +kernel
theorem dX5_behindStep_215 : decode cX5_behindStep 215 = .ok (.iload_n 3, 1) := by decide +kernel
theorem dX5_behindStep_216 : decode cX5_behindStep 216 = .ok (.invokevirtual 124, 3) := by decide +kernel
theorem dX5_behindStep_219 : decode cX5_behindStep 219 = .ok (.ifCond .eq 9, 3) := by decide +kernel
theorem dX5_behindStep_222 : decode cX5_behindStep 222 = .ok (.iload_n 3, 1) := by decide +kernel
theorem dX5_behindStep_223 : decode cX5_behindStep 223 = .ok (.iconst 1, 1) := by decide +kernel
theorem dX5_behindStep_224 : decode cX5_behindStep 224 = .ok (.iadd, 1) := by decide +kernel
theorem dX5_behindStep_225 : decode cX5_behindStep 225 = .ok (.goto 10, 3) := by decide +kernel
theorem dX5_behindStep_228 : decode cX5_behindStep 228 = .ok (.aload_n 2, 1) := by decide +kernel
theorem dX5_behindStep_229 : decode cX5_behindStep 229 = .ok (.iload_n 3, 1) := by decide +kernel
theorem dX5_behindStep_230 : decode cX5_behindStep 230 = .ok (.invokevirtual 86, 3) := by decide +kernel
theorem dX5_behindStep_233 : decode cX5_behindStep 233 = .ok (.iconst 1, 1) := by decide +kernel
theorem dX5_behindStep_234 : decode cX5_behindStep 234 = .ok (.iadd, 1) := by decide +kernel
theorem dX5_behindStep_235 : decode cX5_behindStep 235 = .ok (.ireturn, 1) := by decide +kernel
set_option maxRecDepth 100000 in
theorem c_X5_behindStep (l : Launch) (E : xE) (a0 a1 a2 a3 a4 a5 a6 a7 a8 a9 a10 a11 a12 a13 a14 a15 a16 a17 a18 a19 a20 a21 : Nat) {T0 : Nat → Int32} {T1 : Nat → Int32} {T2 : Nat → Int32} {V3 : Nat → Int32} {V4 : Nat → Int32} {V5 : Nat → Int32} {V6 : Nat → Int32} {V7 : Nat → Int32} {V8 : Nat → Int32} {V9 : Nat → Int32} {V10 : Nat → Int32} {V11 : Nat → Int32} {V13 : Nat → Int32} {T14 : Nat → Int32} {V15 : Nat → Int32} {V16 : Nat → Int32} {V17 : Nat → Int32} {V18 : Nat → Int32} {V19 : Nat → Int32} {V20 : Nat → Int32} {V21 : Nat → Int32} {u0_1 u1_9 u1_14 : Nat} {x3 : Int32} {z : Int32 × (Nat → Int32) × (Nat → Int32) × (Nat → Int32) × (Nat → Int32) × (Nat → Int32) × (Nat → Int32) × (Nat → Int32) × (Nat → Int32) × (Nat → Int32) × (Nat → Int32) × (Nat → Int32) × (Nat → Int32) × (Nat → Int32)} (hf : f_X5_behindStep T0 T1 T2 V3 V4 V5 V6 V7 V8 V9 V10 V11 V13 T14 V15 V16 V17 V18 V19 V20 V21 x3 = some z) (sz : Nat) : Met l yX5_behindStep (Cond.code yX5_behindStep cX5_behindStep 4 (some .int) :: gw) ({ frames := 4, cells := 0, slots := 0, locals := 100 }) (xPc E [.ref a0, .ref a1, .ref a2, .int x3] [(a0, o5 T0 a11 u0_1 a20 a12 a14), (a1, o3 T1 a18 a19 u1_9 a8 a7 a9 a10 u1_14), (a2, o0 T2 a3 a4 a5 a6 a21), (a3, ai E 60 V3), (a4, ai E 60 V4), (a5, ai E 60 V5), (a6, ai E 60 V6), (a7, ai E 12 V7), (a8, ai E 12 V8), (a9, ai E 12 V9), (a10, ai E 12 V10), (a11, ai E 5 V11), (a12, o7 a13), (a13, ai E 144 V13), (a14, o6 T14 a17 a16 a15), (a15, ai E 37 V15), (a16, ai E 36 V16), (a17, ai E 36 V17), (a18, ai E 36 V18), (a19, ai E 5 V19), (a20, ai E 60 V20), (a21, ai E 60 V21)] sz) (xQi E z.1 [(a0, o5 T0 a11 u0_1 a20 a12 a14), (a1, o3 T1 a18 a19 u1_9 a8 a7 a9 a10 u1_14), (a2, o0 T2 a3 a4 a5 a6 a21), (a3, ai E 60 V3), (a4, ai E 60 V4), (a5, ai E 60 V5), (a6, ai E 60 V6), (a7, ai E 12 V7), (a8, ai E 12 V8), (a9, ai E 12 V9), (a10, ai E 12 V10), (a11, ai E 5 V11), (a12, o7 a13), (a13, ai E 144 V13), (a14, o6 T14 a17 a16 a15), (a15, ai E 37 V15), (a16, ai E 36 V16), (a17, ai E 36 V17), (a18, ai E 36 V18), (a19, ai E 5 V19), (a20, ai E 60 V20), (a21, ai E 60 V21)] [(a0, o5 z.2.1 a11 u0_1 a20 a12 a14), (a1, o3 z.2.2.1 a18 a19 u1_9 a8 a7 a9 a10 u1_14), (a2, o0 T2 a3 a4 a5 a6 a21), (a3, ai E 60 V3), (a4, ai E 60 V4), (a5, ai E 60 V5), (a6, ai E 60 V6), (a7, ai E 12 z.2.2.2.1), (a8, ai E 12 z.2.2.2.2.1), (a9, ai E 12 z.2.2.2.2.2.1), (a10, ai E 12 z.2.2.2.2.2.2.1), (a11, ai E 5 z.2.2.2.2.2.2.2.1), (a12, o7 a13), (a13, ai E 144 z.2.2.2.2.2.2.2.2.1), (a14, o6 z.2.2.2.2.2.2.2.2.2.1 a17 a16 a15), (a15, ai E 37 z.2.2.2.2.2.2.2.2.2.2.1), (a16, ai E 36 z.2.2.2.2.2.2.2.2.2.2.2.1), (a17, ai E 36 z.2.2.2.2.2.2.2.2.2.2.2.2.1), (a18, ai E 36 V18), (a19, ai E 5 V19), (a20, ai E 60 z.2.2.2.2.2.2.2.2.2.2.2.2.2), (a21, ai E 60 V21)] sz) 0 0 (va_A [(a0, o5 T0 a11 u0_1 a20 a12 a14), (a1, o3 T1 a18 a19 u1_9 a8 a7 a9 a10 u1_14), (a2, o0 T2 a3 a4 a5 a6 a21), (a3, ai E 60 V3), (a4, ai E 60 V4), (a5, ai E 60 V5), (a6, ai E 60 V6), (a7, ai E 12 V7), (a8, ai E 12 V8), (a9, ai E 12 V9), (a10, ai E 12 V10), (a11, ai E 5 V11), (a12, o7 a13), (a13, ai E 144 V13), (a14, o6 T14 a17 a16 a15), (a15, ai E 37 V15), (a16, ai E 36 V16), (a17, ai E 36 V17), (a18, ai E 36 V18), (a19, ai E 5 V19), (a20, ai E 60 V20), (a21, ai E 60 V21)] sz) := by
  refine xM_i (by decide +kernel) (Nat.le_of_ble_eq_true rfl) ?_
  intro p e s m args below meth c A Q hx hb hml hown htg hK hG hA ret0 H locs ls hP hD hS hl
  have ret : ∀ (z' : Int32 × (Nat → Int32) × (Nat → Int32) × (Nat → Int32) × (Nat → Int32) × (Nat → Int32) × (Nat → Int32) × (Nat → Int32) × (Nat → Int32) × (Nat → Int32) × (Nat → Int32) × (Nat → Int32) × (Nat → Int32) × (Nat → Int32)) {H : Heap} {locs : List Loc} {pc : Nat} {ls : Array Slot}, some z' = some z → narrow .int (.int z'.1) = .int z'.1 → va_P E.1 vwCl [(a0, o5 z'.2.1 a11 u0_1 a20 a12 a14), (a1, o3 z'.2.2.1 a18 a19 u1_9 a8 a7 a9 a10 u1_14), (a2, o0 T2 a3 a4 a5 a6 a21), (a3, ai E 60 V3), (a4, ai E 60 V4), (a5, ai E 60 V5), (a6, ai E 60 V6), (a7, ai E 12 z'.2.2.2.1), (a8, ai E 12 z'.2.2.2.2.1), (a9, ai E 12 z'.2.2.2.2.2.1), (a10, ai E 12 z'.2.2.2.2.2.2.1), (a11, ai E 5 z'.2.2.2.2.2.2.2.1), (a12, o7 a13), (a13, ai E 144 z'.2.2.2.2.2.2.2.2.1), (a14, o6 z'.2.2.2.2.2.2.2.2.2.1 a17 a16 a15), (a15, ai E 37 z'.2.2.2.2.2.2.2.2.2.2.1), (a16, ai E 36 z'.2.2.2.2.2.2.2.2.2.2.2.1), (a17, ai E 36 z'.2.2.2.2.2.2.2.2.2.2.2.2.1), (a18, ai E 36 V18), (a19, ai E 5 V19), (a20, ai E 60 z'.2.2.2.2.2.2.2.2.2.2.2.2.2), (a21, ai E 60 V21)] H → va_S A s.heap H locs → decode cX5_behindStep pc = .ok (.ireturn, 1) → W p l e ({ frames := 4, cells := 0, slots := 0, locals := 100 } : Room) s m args below meth c H locs 0 0 Q (F0 m pc ls [.int z'.1]) := by
    intro z' H locs pc ls h
    cases h
    exact ret0
  replace hl : lv_has ls 4 [(0, .ref a0), (1, .ref a1), (2, .ref a2), (3, .int x3)] := hl
  have b203 : ∀ (T0 : Nat → Int32) (T1 : Nat → Int32) (V7 : Nat → Int32) (V8 : Nat → Int32) (V9 : Nat → Int32) (V10 : Nat → Int32) (V11 : Nat → Int32) (V13 : Nat → Int32) (T14 : Nat → Int32) (V15 : Nat → Int32) (V16 : Nat → Int32) (V17 : Nat → Int32) (V20 : Nat → Int32) (H : Heap) (locs : List Loc) (ls : Array Slot), f_X5_behindStep_203 T2 V3 V4 V5 V6 V18 V19 V21 x3 T0 T1 V7 V8 V9 V10 V11 V13 T14 V15 V16 V17 V20 = some z → va_P E.1 vwCl [(a0, o5 T0 a11 u0_1 a20 a12 a14), (a1, o3 T1 a18 a19 u1_9 a8 a7 a9 a10 u1_14), (a2, o0 T2 a3 a4 a5 a6 a21), (a3, ai E 60 V3), (a4, ai E 60 V4), (a5, ai E 60 V5), (a6, ai E 60 V6), (a7, ai E 12 V7), (a8, ai E 12 V8), (a9, ai E 12 V9), (a10, ai E 12 V10), (a11, ai E 5 V11), (a12, o7 a13), (a13, ai E 144 V13), (a14, o6 T14 a17 a16 a15), (a15, ai E 37 V15), (a16, ai E 36 V16), (a17, ai E 36 V17), (a18, ai E 36 V18), (a19, ai E 5 V19), (a20, ai E 60 V20), (a21, ai E 60 V21)] H → va_D A [(a0, o5 T0 a11 u0_1 a20 a12 a14), (a1, o3 T1 a18 a19 u1_9 a8 a7 a9 a10 u1_14), (a2, o0 T2 a3 a4 a5 a6 a21), (a3, ai E 60 V3), (a4, ai E 60 V4), (a5, ai E 60 V5), (a6, ai E 60 V6), (a7, ai E 12 V7), (a8, ai E 12 V8), (a9, ai E 12 V9), (a10, ai E 12 V10), (a11, ai E 5 V11), (a12, o7 a13), (a13, ai E 144 V13), (a14, o6 T14 a17 a16 a15), (a15, ai E 37 V15), (a16, ai E 36 V16), (a17, ai E 36 V17), (a18, ai E 36 V18), (a19, ai E 5 V19), (a20, ai E 60 V20), (a21, ai E 60 V21)] → va_S A s.heap H locs → lv_has ls 4 [(3, .int x3)] → W p l e ({ frames := 4, cells := 0, slots := 0, locals := 100 } : Room) s m args below meth c H locs 0 0 Q (F0 m 203 ls []) := by
    intro T0 T1 V7 V8 V9 V10 V11 V13 T14 V15 V16 V17 V20 H locs ls hf hP hD hS hl
    unfold f_X5_behindStep_203 at hf
    refine lv_iload_n hx hb dX5_behindStep_203 rfl (lv_at hl 0 rfl) ?_
    refine lv_iconst (v := 1) hx hb dX5_behindStep_204 rfl ?_
    refine lv_iadd hx hb dX5_behindStep_205 ?_
    exact ret (x3 + 1, T0, T1, V7, V8, V9, V10, V11, V13, T14, V15, V16, V17, V20) hf nzi hP hS dX5_behindStep_206
  have b212 : ∀ (T0 : Nat → Int32) (T1 : Nat → Int32) (V7 : Nat → Int32) (V8 : Nat → Int32) (V9 : Nat → Int32) (V10 : Nat → Int32) (V11 : Nat → Int32) (V13 : Nat → Int32) (T14 : Nat → Int32) (V15 : Nat → Int32) (V16 : Nat → Int32) (V17 : Nat → Int32) (V20 : Nat → Int32) (H : Heap) (locs : List Loc) (ls : Array Slot), f_X5_behindStep_212 T2 V3 V4 V5 V6 V18 V19 V21 x3 T0 T1 V7 V8 V9 V10 V11 V13 T14 V15 V16 V17 V20 = some z → va_P E.1 vwCl [(a0, o5 T0 a11 u0_1 a20 a12 a14), (a1, o3 T1 a18 a19 u1_9 a8 a7 a9 a10 u1_14), (a2, o0 T2 a3 a4 a5 a6 a21), (a3, ai E 60 V3), (a4, ai E 60 V4), (a5, ai E 60 V5), (a6, ai E 60 V6), (a7, ai E 12 V7), (a8, ai E 12 V8), (a9, ai E 12 V9), (a10, ai E 12 V10), (a11, ai E 5 V11), (a12, o7 a13), (a13, ai E 144 V13), (a14, o6 T14 a17 a16 a15), (a15, ai E 37 V15), (a16, ai E 36 V16), (a17, ai E 36 V17), (a18, ai E 36 V18), (a19, ai E 5 V19), (a20, ai E 60 V20), (a21, ai E 60 V21)] H → va_D A [(a0, o5 T0 a11 u0_1 a20 a12 a14), (a1, o3 T1 a18 a19 u1_9 a8 a7 a9 a10 u1_14), (a2, o0 T2 a3 a4 a5 a6 a21), (a3, ai E 60 V3), (a4, ai E 60 V4), (a5, ai E 60 V5), (a6, ai E 60 V6), (a7, ai E 12 V7), (a8, ai E 12 V8), (a9, ai E 12 V9), (a10, ai E 12 V10), (a11, ai E 5 V11), (a12, o7 a13), (a13, ai E 144 V13), (a14, o6 T14 a17 a16 a15), (a15, ai E 37 V15), (a16, ai E 36 V16), (a17, ai E 36 V17), (a18, ai E 36 V18), (a19, ai E 5 V19), (a20, ai E 60 V20), (a21, ai E 60 V21)] → va_S A s.heap H locs → lv_has ls 4 [(0, .ref a0), (1, .ref a1), (2, .ref a2), (3, .int x3)] → W p l e ({ frames := 4, cells := 0, slots := 0, locals := 100 } : Room) s m args below meth c H locs 0 0 Q (F0 m 212 ls []) := by
    intro T0 T1 V7 V8 V9 V10 V11 V13 T14 V15 V16 V17 V20 H locs ls hf hP hD hS hl
    unfold f_X5_behindStep_212 at hf
    refine lv_aload_n hx hb dX5_behindStep_212 rfl (lv_at hl 0 rfl) ?_
    refine lv_aload_n hx hb dX5_behindStep_213 rfl (lv_at hl 1 rfl) ?_
    refine lv_aload_n hx hb dX5_behindStep_214 rfl (lv_at hl 2 rfl) ?_
    refine lv_iload_n hx hb dX5_behindStep_215 rfl (lv_at hl 3 rfl) ?_
    obtain ⟨z216, hz216, hf⟩ := bind_s hf
    refine xV_iu hx hb hml hown htg L5_124 (c_X5_holds l E a0 a1 a2 a4 a5 a12 a13 a7 a9 a8 a3 hz216 _) ⟨⟨rfl, rfl⟩, Nat.le_of_ble_eq_true rfl, Nat.le_of_ble_eq_true rfl⟩ hK hG hA hP hD hS (is := [0, 1, 2, 4, 5, 12, 13, 7, 9, 8, 3]) (sel := [some 0, some 1, some 2, some 10, some 3, some 4, none, some 7, some 9, some 8, none, none, some 5, some 6, none, none, none, none, none, none, none, none]) (ws2 := [(a0, o5 T0 a11 u0_1 a20 a12 a14), (a1, o3 T1 a18 a19 u1_9 a8 a7 a9 a10 u1_14), (a2, o0 T2 a3 a4 a5 a6 a21), (a3, ai E 60 V3), (a4, ai E 60 V4), (a5, ai E 60 V5), (a6, ai E 60 V6), (a7, ai E 12 V7), (a8, ai E 12 V8), (a9, ai E 12 V9), (a10, ai E 12 V10), (a11, ai E 5 V11), (a12, o7 a13), (a13, ai E 144 z216.2), (a14, o6 T14 a17 a16 a15), (a15, ai E 37 V15), (a16, ai E 36 V16), (a17, ai E 36 V17), (a18, ai E 36 V18), (a19, ai E 5 V19), (a20, ai E 60 V20), (a21, ai E 60 V21)]) rfl rfl rfl rfl rfl (xrecv hK hP (q0 := 0) (ci := 5) rfl rfl) rfl hl.1 rfl (Nat.le_of_ble_eq_true rfl) dX5_behindStep_216 (fun H locs hP hD hS => ?_)
    refine lv_if_eq (tgt := 228) hx hb dX5_behindStep_219 (by decide) (fun c219 => ?_) (fun c219 => ?_)
    · have hf := it_t c219 hf
      refine lv_aload_n hx hb dX5_behindStep_228 rfl (lv_at hl 2 rfl) ?_
      refine lv_iload_n hx hb dX5_behindStep_229 rfl (lv_at hl 3 rfl) ?_
      obtain ⟨z230, hz230, hf⟩ := bind_s hf
      refine xV_ir hx hb hml hown htg L5_86 (c_X0_partner l E a2 a21 hz230 _) ⟨⟨rfl, rfl⟩, Nat.le_of_ble_eq_true rfl, Nat.le_of_ble_eq_true rfl⟩ hK hG hA hP hD hS (is := [2, 21]) rfl rfl (xrecv hK hP (q0 := 2) (ci := 0) rfl rfl) rfl hl.1 rfl (Nat.le_of_ble_eq_true rfl) dX5_behindStep_230 (fun H locs hP hD hS => ?_)
      refine lv_iconst (v := 1) hx hb dX5_behindStep_233 rfl ?_
      refine lv_iadd hx hb dX5_behindStep_234 ?_
      exact ret (z230 + 1, T0, T1, V7, V8, V9, V10, V11, z216.2, T14, V15, V16, V17, V20) hf nzi hP hS dX5_behindStep_235
    · have hf := it_f c219 hf
      refine lv_iload_n hx hb dX5_behindStep_222 rfl (lv_at hl 3 rfl) ?_
      refine lv_iconst (v := 1) hx hb dX5_behindStep_223 rfl ?_
      refine lv_iadd hx hb dX5_behindStep_224 ?_
      refine lv_goto (tgt := 235) hx hb dX5_behindStep_225 (by decide) ?_
      exact ret (x3 + 1, T0, T1, V7, V8, V9, V10, V11, z216.2, T14, V15, V16, V17, V20) hf nzi hP hS dX5_behindStep_235
  unfold f_X5_behindStep at hf
  refine lv_aload_n hx hb dX5_behindStep_0 rfl (lv_at hl 2 rfl) ?_
  refine lv_iload_n hx hb dX5_behindStep_1 rfl (lv_at hl 3 rfl) ?_
  obtain ⟨z2, hz2, hf⟩ := bind_s hf
  refine xV_ir hx hb hml hown htg L5_72 (c_X0_deed l E a2 a3 hz2 _) ⟨⟨rfl, rfl⟩, Nat.le_of_ble_eq_true rfl, Nat.le_of_ble_eq_true rfl⟩ hK hG hA hP hD hS (is := [2, 3]) rfl rfl (xrecv hK hP (q0 := 2) (ci := 0) rfl rfl) rfl hl.1 rfl (Nat.le_of_ble_eq_true rfl) dX5_behindStep_2 (fun H locs hP hD hS => ?_)
  by_cases c5_6 : z2 = 6
  · have hf := it_t c5_6 hf
    refine xtabI (off := 119) (tgt := 124) hx hb c5_6 dX5_behindStep_5 rfl (by decide) ?_
    refine lv_aload_n hx hb dX5_behindStep_124 rfl (lv_at hl 0 rfl) ?_
    refine lv_aload_n hx hb dX5_behindStep_125 rfl (lv_at hl 1 rfl) ?_
    refine lv_aload_n hx hb dX5_behindStep_126 rfl (lv_at hl 2 rfl) ?_
    refine lv_iload_n hx hb dX5_behindStep_127 rfl (lv_at hl 3 rfl) ?_
    obtain ⟨z128, hz128, hf⟩ := bind_s hf
    refine xV_ir hx hb hml hown htg L5_89 (c_X0_first l E a2 a4 hz128 _) ⟨⟨rfl, rfl⟩, Nat.le_of_ble_eq_true rfl, Nat.le_of_ble_eq_true rfl⟩ hK hG hA hP hD hS (is := [2, 4]) rfl rfl (xrecv hK hP (q0 := 2) (ci := 0) rfl rfl) rfl hl.1 rfl (Nat.le_of_ble_eq_true rfl) dX5_behindStep_128 (fun H locs hP hD hS => ?_)
    refine lv_aload_n hx hb dX5_behindStep_131 rfl (lv_at hl 2 rfl) ?_
    refine lv_iload_n hx hb dX5_behindStep_132 rfl (lv_at hl 3 rfl) ?_
    obtain ⟨z133, hz133, hf⟩ := bind_s hf
    refine xV_ir hx hb hml hown htg L5_100 (c_X0_second l E a2 a5 hz133 _) ⟨⟨rfl, rfl⟩, Nat.le_of_ble_eq_true rfl, Nat.le_of_ble_eq_true rfl⟩ hK hG hA hP hD hS (is := [2, 5]) rfl rfl (xrecv hK hP (q0 := 2) (ci := 0) rfl rfl) rfl hl.1 rfl (Nat.le_of_ble_eq_true rfl) dX5_behindStep_133 (fun H locs hP hD hS => ?_)
    refine lv_aload_n hx hb dX5_behindStep_136 rfl (lv_at hl 2 rfl) ?_
    refine lv_iload_n hx hb dX5_behindStep_137 rfl (lv_at hl 3 rfl) ?_
    obtain ⟨z138, hz138, hf⟩ := bind_s hf
    refine xV_ir hx hb hml hown htg L5_103 (c_X0_third l E a2 a6 hz138 _) ⟨⟨rfl, rfl⟩, Nat.le_of_ble_eq_true rfl, Nat.le_of_ble_eq_true rfl⟩ hK hG hA hP hD hS (is := [2, 6]) rfl rfl (xrecv hK hP (q0 := 2) (ci := 0) rfl rfl) rfl hl.1 rfl (Nat.le_of_ble_eq_true rfl) dX5_behindStep_138 (fun H locs hP hD hS => ?_)
    refine lv_iconst (v := 0) hx hb dX5_behindStep_141 rfl ?_
    obtain ⟨z142, hz142, hf⟩ := bind_s hf
    refine xV_iu hx hb hml hown htg L5_106 (c_X3_addTelling l E a1 a7 a8 a9 a10 hz142 _) ⟨⟨rfl, rfl⟩, Nat.le_of_ble_eq_true rfl, Nat.le_of_ble_eq_true rfl⟩ hK hG hA hP hD hS (is := [1, 7, 8, 9, 10]) (sel := [none, some 0, none, none, none, none, none, some 1, some 2, some 3, some 4, none, none, none, none, none, none, none, none, none, none, none]) (ws2 := [(a0, o5 T0 a11 u0_1 a20 a12 a14), (a1, o3 z142.2.1 a18 a19 u1_9 a8 a7 a9 a10 u1_14), (a2, o0 T2 a3 a4 a5 a6 a21), (a3, ai E 60 V3), (a4, ai E 60 V4), (a5, ai E 60 V5), (a6, ai E 60 V6), (a7, ai E 12 z142.2.2.1), (a8, ai E 12 z142.2.2.2.1), (a9, ai E 12 z142.2.2.2.2.1), (a10, ai E 12 z142.2.2.2.2.2), (a11, ai E 5 V11), (a12, o7 a13), (a13, ai E 144 V13), (a14, o6 T14 a17 a16 a15), (a15, ai E 37 V15), (a16, ai E 36 V16), (a17, ai E 36 V17), (a18, ai E 36 V18), (a19, ai E 5 V19), (a20, ai E 60 V20), (a21, ai E 60 V21)]) rfl rfl rfl rfl rfl (xrecv hK hP (q0 := 1) (ci := 3) rfl rfl) rfl hl.1 rfl (Nat.le_of_ble_eq_true rfl) dX5_behindStep_142 (fun H locs hP hD hS => ?_)
    obtain ⟨z145, hz145, hf⟩ := bind_s hf
    refine xV_vu hx hb hml hown htg L5_110 (c_X5_countTelling l E a0 a11 hz145 _) ⟨⟨rfl, rfl⟩, Nat.le_of_ble_eq_true rfl, Nat.le_of_ble_eq_true rfl⟩ hK hG hA hP hD hS (is := [0, 11]) (sel := [some 0, none, none, none, none, none, none, none, none, none, none, some 1, none, none, none, none, none, none, none, none, none, none]) (ws2 := [(a0, o5 T0 a11 u0_1 a20 a12 a14), (a1, o3 z142.2.1 a18 a19 u1_9 a8 a7 a9 a10 u1_14), (a2, o0 T2 a3 a4 a5 a6 a21), (a3, ai E 60 V3), (a4, ai E 60 V4), (a5, ai E 60 V5), (a6, ai E 60 V6), (a7, ai E 12 z142.2.2.1), (a8, ai E 12 z142.2.2.2.1), (a9, ai E 12 z142.2.2.2.2.1), (a10, ai E 12 z142.2.2.2.2.2), (a11, ai E 5 z145), (a12, o7 a13), (a13, ai E 144 V13), (a14, o6 T14 a17 a16 a15), (a15, ai E 37 V15), (a16, ai E 36 V16), (a17, ai E 36 V17), (a18, ai E 36 V18), (a19, ai E 5 V19), (a20, ai E 60 V20), (a21, ai E 60 V21)]) rfl rfl rfl rfl rfl (xrecv hK hP (q0 := 0) (ci := 5) rfl rfl) rfl hl.1 rfl (Nat.le_of_ble_eq_true rfl) dX5_behindStep_145 (fun H locs hP hD hS => ?_)
    refine lv_iload_n hx hb dX5_behindStep_148 rfl (lv_at hl 3 rfl) ?_
    refine lv_iconst (v := 1) hx hb dX5_behindStep_149 rfl ?_
    refine lv_iadd hx hb dX5_behindStep_150 ?_
    exact ret (x3 + 1, T0, z142.2.1, z142.2.2.1, z142.2.2.2.1, z142.2.2.2.2.1, z142.2.2.2.2.2, z145, V13, T14, V15, V16, V17, V20) hf nzi hP hS dX5_behindStep_151
  have hf := it_f c5_6 hf
  by_cases c5_12 : z2 = 12
  · have hf := it_t c5_12 hf
    refine xtabI (off := 83) (tgt := 88) hx hb c5_12 dX5_behindStep_5 rfl (by decide) ?_
    refine lv_aload_n hx hb dX5_behindStep_88 rfl (lv_at hl 0 rfl) ?_
    refine lv_aload_n hx hb dX5_behindStep_89 rfl (lv_at hl 1 rfl) ?_
    refine lv_aload_n hx hb dX5_behindStep_90 rfl (lv_at hl 2 rfl) ?_
    refine lv_iload_n hx hb dX5_behindStep_91 rfl (lv_at hl 3 rfl) ?_
    obtain ⟨z92, hz92, hf⟩ := bind_s hf
    refine xV_ir hx hb hml hown htg L5_89 (c_X0_first l E a2 a4 hz92 _) ⟨⟨rfl, rfl⟩, Nat.le_of_ble_eq_true rfl, Nat.le_of_ble_eq_true rfl⟩ hK hG hA hP hD hS (is := [2, 4]) rfl rfl (xrecv hK hP (q0 := 2) (ci := 0) rfl rfl) rfl hl.1 rfl (Nat.le_of_ble_eq_true rfl) dX5_behindStep_92 (fun H locs hP hD hS => ?_)
    refine lv_iconst (v := 1) hx hb dX5_behindStep_95 rfl ?_
    obtain ⟨z96, hz96, hf⟩ := bind_s hf
    refine xV_iu hx hb hml hown htg L5_92 (c_X3_setHeard l E a1 hz96 _) ⟨⟨rfl, rfl⟩, Nat.le_of_ble_eq_true rfl, Nat.le_of_ble_eq_true rfl⟩ hK hG hA hP hD hS (is := [1]) (sel := [none, some 0, none, none, none, none, none, none, none, none, none, none, none, none, none, none, none, none, none, none, none, none]) (ws2 := [(a0, o5 T0 a11 u0_1 a20 a12 a14), (a1, o3 z96.2 a18 a19 u1_9 a8 a7 a9 a10 u1_14), (a2, o0 T2 a3 a4 a5 a6 a21), (a3, ai E 60 V3), (a4, ai E 60 V4), (a5, ai E 60 V5), (a6, ai E 60 V6), (a7, ai E 12 V7), (a8, ai E 12 V8), (a9, ai E 12 V9), (a10, ai E 12 V10), (a11, ai E 5 V11), (a12, o7 a13), (a13, ai E 144 V13), (a14, o6 T14 a17 a16 a15), (a15, ai E 37 V15), (a16, ai E 36 V16), (a17, ai E 36 V17), (a18, ai E 36 V18), (a19, ai E 5 V19), (a20, ai E 60 V20), (a21, ai E 60 V21)]) rfl rfl rfl rfl rfl (xrecv hK hP (q0 := 1) (ci := 3) rfl rfl) rfl hl.1 rfl (Nat.le_of_ble_eq_true rfl) dX5_behindStep_96 (fun H locs hP hD hS => ?_)
    obtain ⟨z99, hz99, hf⟩ := bind_s hf
    refine xV_vu hx hb hml hown htg L5_96 (c_X5_count l E a0 a11 hz99 _) ⟨⟨rfl, rfl⟩, Nat.le_of_ble_eq_true rfl, Nat.le_of_ble_eq_true rfl⟩ hK hG hA hP hD hS (is := [0, 11]) (sel := [some 0, none, none, none, none, none, none, none, none, none, none, some 1, none, none, none, none, none, none, none, none, none, none]) (ws2 := [(a0, o5 T0 a11 u0_1 a20 a12 a14), (a1, o3 z96.2 a18 a19 u1_9 a8 a7 a9 a10 u1_14), (a2, o0 T2 a3 a4 a5 a6 a21), (a3, ai E 60 V3), (a4, ai E 60 V4), (a5, ai E 60 V5), (a6, ai E 60 V6), (a7, ai E 12 V7), (a8, ai E 12 V8), (a9, ai E 12 V9), (a10, ai E 12 V10), (a11, ai E 5 z99), (a12, o7 a13), (a13, ai E 144 V13), (a14, o6 T14 a17 a16 a15), (a15, ai E 37 V15), (a16, ai E 36 V16), (a17, ai E 36 V17), (a18, ai E 36 V18), (a19, ai E 5 V19), (a20, ai E 60 V20), (a21, ai E 60 V21)]) rfl rfl rfl rfl rfl (xrecv hK hP (q0 := 0) (ci := 5) rfl rfl) rfl hl.1 rfl (Nat.le_of_ble_eq_true rfl) dX5_behindStep_99 (fun H locs hP hD hS => ?_)
    refine lv_iload_n hx hb dX5_behindStep_102 rfl (lv_at hl 3 rfl) ?_
    refine lv_iconst (v := 1) hx hb dX5_behindStep_103 rfl ?_
    refine lv_iadd hx hb dX5_behindStep_104 ?_
    exact ret (x3 + 1, T0, z96.2, V7, V8, V9, V10, z99, V13, T14, V15, V16, V17, V20) hf nzi hP hS dX5_behindStep_105
  have hf := it_f c5_12 hf
  by_cases c5_13 : z2 = 13
  · have hf := it_t c5_13 hf
    refine xtabI (off := 101) (tgt := 106) hx hb c5_13 dX5_behindStep_5 rfl (by decide) ?_
    refine lv_aload_n hx hb dX5_behindStep_106 rfl (lv_at hl 0 rfl) ?_
    refine lv_aload_n hx hb dX5_behindStep_107 rfl (lv_at hl 1 rfl) ?_
    refine lv_aload_n hx hb dX5_behindStep_108 rfl (lv_at hl 2 rfl) ?_
    refine lv_iload_n hx hb dX5_behindStep_109 rfl (lv_at hl 3 rfl) ?_
    obtain ⟨z110, hz110, hf⟩ := bind_s hf
    refine xV_ir hx hb hml hown htg L5_89 (c_X0_first l E a2 a4 hz110 _) ⟨⟨rfl, rfl⟩, Nat.le_of_ble_eq_true rfl, Nat.le_of_ble_eq_true rfl⟩ hK hG hA hP hD hS (is := [2, 4]) rfl rfl (xrecv hK hP (q0 := 2) (ci := 0) rfl rfl) rfl hl.1 rfl (Nat.le_of_ble_eq_true rfl) dX5_behindStep_110 (fun H locs hP hD hS => ?_)
    refine lv_iconst (v := 0) hx hb dX5_behindStep_113 rfl ?_
    obtain ⟨z114, hz114, hf⟩ := bind_s hf
    refine xV_iu hx hb hml hown htg L5_92 (c_X3_setHeard l E a1 hz114 _) ⟨⟨rfl, rfl⟩, Nat.le_of_ble_eq_true rfl, Nat.le_of_ble_eq_true rfl⟩ hK hG hA hP hD hS (is := [1]) (sel := [none, some 0, none, none, none, none, none, none, none, none, none, none, none, none, none, none, none, none, none, none, none, none]) (ws2 := [(a0, o5 T0 a11 u0_1 a20 a12 a14), (a1, o3 z114.2 a18 a19 u1_9 a8 a7 a9 a10 u1_14), (a2, o0 T2 a3 a4 a5 a6 a21), (a3, ai E 60 V3), (a4, ai E 60 V4), (a5, ai E 60 V5), (a6, ai E 60 V6), (a7, ai E 12 V7), (a8, ai E 12 V8), (a9, ai E 12 V9), (a10, ai E 12 V10), (a11, ai E 5 V11), (a12, o7 a13), (a13, ai E 144 V13), (a14, o6 T14 a17 a16 a15), (a15, ai E 37 V15), (a16, ai E 36 V16), (a17, ai E 36 V17), (a18, ai E 36 V18), (a19, ai E 5 V19), (a20, ai E 60 V20), (a21, ai E 60 V21)]) rfl rfl rfl rfl rfl (xrecv hK hP (q0 := 1) (ci := 3) rfl rfl) rfl hl.1 rfl (Nat.le_of_ble_eq_true rfl) dX5_behindStep_114 (fun H locs hP hD hS => ?_)
    obtain ⟨z117, hz117, hf⟩ := bind_s hf
    refine xV_vu hx hb hml hown htg L5_96 (c_X5_count l E a0 a11 hz117 _) ⟨⟨rfl, rfl⟩, Nat.le_of_ble_eq_true rfl, Nat.le_of_ble_eq_true rfl⟩ hK hG hA hP hD hS (is := [0, 11]) (sel := [some 0, none, none, none, none, none, none, none, none, none, none, some 1, none, none, none, none, none, none, none, none, none, none]) (ws2 := [(a0, o5 T0 a11 u0_1 a20 a12 a14), (a1, o3 z114.2 a18 a19 u1_9 a8 a7 a9 a10 u1_14), (a2, o0 T2 a3 a4 a5 a6 a21), (a3, ai E 60 V3), (a4, ai E 60 V4), (a5, ai E 60 V5), (a6, ai E 60 V6), (a7, ai E 12 V7), (a8, ai E 12 V8), (a9, ai E 12 V9), (a10, ai E 12 V10), (a11, ai E 5 z117), (a12, o7 a13), (a13, ai E 144 V13), (a14, o6 T14 a17 a16 a15), (a15, ai E 37 V15), (a16, ai E 36 V16), (a17, ai E 36 V17), (a18, ai E 36 V18), (a19, ai E 5 V19), (a20, ai E 60 V20), (a21, ai E 60 V21)]) rfl rfl rfl rfl rfl (xrecv hK hP (q0 := 0) (ci := 5) rfl rfl) rfl hl.1 rfl (Nat.le_of_ble_eq_true rfl) dX5_behindStep_117 (fun H locs hP hD hS => ?_)
    refine lv_iload_n hx hb dX5_behindStep_120 rfl (lv_at hl 3 rfl) ?_
    refine lv_iconst (v := 1) hx hb dX5_behindStep_121 rfl ?_
    refine lv_iadd hx hb dX5_behindStep_122 ?_
    exact ret (x3 + 1, T0, z114.2, V7, V8, V9, V10, z117, V13, T14, V15, V16, V17, V20) hf nzi hP hS dX5_behindStep_123
  have hf := it_f c5_13 hf
  by_cases c5_14 : z2 = 14
  · have hf := it_t c5_14 hf
    refine xtabI (off := 147) (tgt := 152) hx hb c5_14 dX5_behindStep_5 rfl (by decide) ?_
    refine lv_aload_n hx hb dX5_behindStep_152 rfl (lv_at hl 0 rfl) ?_
    refine lv_aload_n hx hb dX5_behindStep_153 rfl (lv_at hl 1 rfl) ?_
    refine lv_aload_n hx hb dX5_behindStep_154 rfl (lv_at hl 2 rfl) ?_
    refine lv_iload_n hx hb dX5_behindStep_155 rfl (lv_at hl 3 rfl) ?_
    obtain ⟨z156, hz156, hf⟩ := bind_s hf
    refine xV_ir hx hb hml hown htg L5_89 (c_X0_first l E a2 a4 hz156 _) ⟨⟨rfl, rfl⟩, Nat.le_of_ble_eq_true rfl, Nat.le_of_ble_eq_true rfl⟩ hK hG hA hP hD hS (is := [2, 4]) rfl rfl (xrecv hK hP (q0 := 2) (ci := 0) rfl rfl) rfl hl.1 rfl (Nat.le_of_ble_eq_true rfl) dX5_behindStep_156 (fun H locs hP hD hS => ?_)
    obtain ⟨z159, hz159, hf⟩ := bind_s hf
    refine xV_vu hx hb hml hown htg L5_113 (c_X5_sailTo l E a0 a1 a12 a13 a7 a9 a8 a14 a15 a16 a17 a11 a18 hz159 _) ⟨⟨rfl, rfl⟩, Nat.le_of_ble_eq_true rfl, Nat.le_of_ble_eq_true rfl⟩ hK hG hA hP hD hS (is := [0, 1, 12, 13, 7, 9, 8, 14, 15, 16, 17, 11, 18]) (sel := [some 0, some 1, none, none, none, none, none, some 4, some 6, some 5, none, some 11, some 2, some 3, some 7, some 8, some 9, some 10, some 12, none, none, none]) (ws2 := [(a0, o5 T0 a11 u0_1 a20 a12 a14), (a1, o3 T1 a18 a19 u1_9 a8 a7 a9 a10 u1_14), (a2, o0 T2 a3 a4 a5 a6 a21), (a3, ai E 60 V3), (a4, ai E 60 V4), (a5, ai E 60 V5), (a6, ai E 60 V6), (a7, ai E 12 V7), (a8, ai E 12 V8), (a9, ai E 12 V9), (a10, ai E 12 V10), (a11, ai E 5 z159.2.2.2.2.2), (a12, o7 a13), (a13, ai E 144 z159.1), (a14, o6 z159.2.1 a17 a16 a15), (a15, ai E 37 z159.2.2.1), (a16, ai E 36 z159.2.2.2.1), (a17, ai E 36 z159.2.2.2.2.1), (a18, ai E 36 V18), (a19, ai E 5 V19), (a20, ai E 60 V20), (a21, ai E 60 V21)]) rfl rfl rfl rfl rfl (xrecv hK hP (q0 := 0) (ci := 5) rfl rfl) rfl hl.1 rfl (Nat.le_of_ble_eq_true rfl) dX5_behindStep_159 (fun H locs hP hD hS => ?_)
    refine lv_iload_n hx hb dX5_behindStep_162 rfl (lv_at hl 3 rfl) ?_
    refine lv_iconst (v := 1) hx hb dX5_behindStep_163 rfl ?_
    refine lv_iadd hx hb dX5_behindStep_164 ?_
    exact ret (x3 + 1, T0, T1, V7, V8, V9, V10, z159.2.2.2.2.2, z159.1, z159.2.1, z159.2.2.1, z159.2.2.2.1, z159.2.2.2.2.1, V20) hf nzi hP hS dX5_behindStep_165
  have hf := it_f c5_14 hf
  by_cases c5_15 : z2 = 15
  · have hf := it_t c5_15 hf
    refine xtabI (off := 161) (tgt := 166) hx hb c5_15 dX5_behindStep_5 rfl (by decide) ?_
    refine lv_aload_n hx hb dX5_behindStep_166 rfl (lv_at hl 0 rfl) ?_
    refine lv_aload_n hx hb dX5_behindStep_167 rfl (lv_at hl 1 rfl) ?_
    obtain ⟨z168, hz168, hf⟩ := bind_s hf
    refine xV_vu hx hb hml hown htg L5_117 (c_X5_anyTells l E a0 a1 a18 a19 a7 a8 a9 a10 a11 hz168 _) ⟨⟨rfl, rfl⟩, Nat.le_of_ble_eq_true rfl, Nat.le_of_ble_eq_true rfl⟩ hK hG hA hP hD hS (is := [0, 1, 18, 19, 7, 8, 9, 10, 11]) (sel := [some 0, some 1, none, none, none, none, none, some 4, some 5, some 6, some 7, some 8, none, none, none, none, none, none, some 2, some 3, none, none]) (ws2 := [(a0, o5 z168.1 a11 u0_1 a20 a12 a14), (a1, o3 z168.2.1 a18 a19 u1_9 a8 a7 a9 a10 u1_14), (a2, o0 T2 a3 a4 a5 a6 a21), (a3, ai E 60 V3), (a4, ai E 60 V4), (a5, ai E 60 V5), (a6, ai E 60 V6), (a7, ai E 12 z168.2.2.1), (a8, ai E 12 z168.2.2.2.1), (a9, ai E 12 z168.2.2.2.2.1), (a10, ai E 12 z168.2.2.2.2.2.1), (a11, ai E 5 z168.2.2.2.2.2.2), (a12, o7 a13), (a13, ai E 144 V13), (a14, o6 T14 a17 a16 a15), (a15, ai E 37 V15), (a16, ai E 36 V16), (a17, ai E 36 V17), (a18, ai E 36 V18), (a19, ai E 5 V19), (a20, ai E 60 V20), (a21, ai E 60 V21)]) rfl rfl rfl rfl rfl (xrecv hK hP (q0 := 0) (ci := 5) rfl rfl) rfl hl.1 rfl (Nat.le_of_ble_eq_true rfl) dX5_behindStep_168 (fun H locs hP hD hS => ?_)
    refine lv_iload_n hx hb dX5_behindStep_171 rfl (lv_at hl 3 rfl) ?_
    refine lv_iconst (v := 1) hx hb dX5_behindStep_172 rfl ?_
    refine lv_iadd hx hb dX5_behindStep_173 ?_
    exact ret (x3 + 1, z168.1, z168.2.1, z168.2.2.1, z168.2.2.2.1, z168.2.2.2.2.1, z168.2.2.2.2.2.1, z168.2.2.2.2.2.2, V13, T14, V15, V16, V17, V20) hf nzi hP hS dX5_behindStep_174
  have hf := it_f c5_15 hf
  by_cases c5_20 : z2 = 20
  · have hf := it_t c5_20 hf
    refine xtabI (off := 170) (tgt := 175) hx hb c5_20 dX5_behindStep_5 rfl (by decide) ?_
    refine lv_iload_n hx hb dX5_behindStep_175 rfl (lv_at hl 3 rfl) ?_
    refine lv_iconst (v := 0) hx hb dX5_behindStep_176 rfl ?_
    refine lv_aload_n hx hb dX5_behindStep_177 rfl (lv_at hl 0 rfl) ?_
    refine G5_20 hx hb htg hown hK hP 0 rfl dX5_behindStep_178 ?_
    refine va_alen (v := 60) hx hb hK hP 20 1 rfl rfl rfl dX5_behindStep_181 ?_
    refine lv_iconst (v := 1) hx hb dX5_behindStep_182 rfl ?_
    refine lv_isub hx hb dX5_behindStep_183 ?_
    obtain ⟨z184, hz184, hf⟩ := bind_s hf
    refine xN_ir hx hb hml hown htg L5_47 24 rfl (c_X11_within l E hz184 _) ⟨⟨rfl, rfl⟩, Nat.le_of_ble_eq_true rfl, Nat.le_of_ble_eq_true rfl⟩ hK hG hA hP hD hS (is := []) rfl rfl rfl hl.1 rfl (Nat.le_of_ble_eq_true rfl) dX5_behindStep_184 (fun H locs hP hD hS => ?_)
    refine lv_if_eq (tgt := 203) hx hb dX5_behindStep_187 (by decide) (fun c187 => ?_) (fun c187 => ?_)
    · have hf := it_t c187 hf
      exact b203 T0 T1 V7 V8 V9 V10 V11 V13 T14 V15 V16 V17 V20 _ _ _ hf hP hD hS (lv_sub hl [3] rfl)
    · have hf := it_f c187 hf
      refine lv_aload_n hx hb dX5_behindStep_190 rfl (lv_at hl 0 rfl) ?_
      refine G5_20 hx hb htg hown hK hP 0 rfl dX5_behindStep_191 ?_
      refine lv_iload_n hx hb dX5_behindStep_194 rfl (lv_at hl 3 rfl) ?_
      refine lv_aload_n hx hb dX5_behindStep_195 rfl (lv_at hl 2 rfl) ?_
      refine lv_iload_n hx hb dX5_behindStep_196 rfl (lv_at hl 3 rfl) ?_
      obtain ⟨z197, hz197, hf⟩ := bind_s hf
      refine xV_ir hx hb hml hown htg L5_89 (c_X0_first l E a2 a4 hz197 _) ⟨⟨rfl, rfl⟩, Nat.le_of_ble_eq_true rfl, Nat.le_of_ble_eq_true rfl⟩ hK hG hA hP hD hS (is := [2, 4]) rfl rfl (xrecv hK hP (q0 := 2) (ci := 0) rfl rfl) rfl hl.1 rfl (Nat.le_of_ble_eq_true rfl) dX5_behindStep_197 (fun H locs hP hD hS => ?_)
      refine lv_iconst (v := 1) hx hb dX5_behindStep_200 rfl ?_
      refine lv_isub hx hb dX5_behindStep_201 ?_
      obtain ⟨g202, hf⟩ := ck_s hf
      refine xiast hx hb hK hP hD hS 20 rfl g202 dX5_behindStep_202 (fun H locs hP hD hS => ?_)
      exact b203 T0 T1 V7 V8 V9 V10 V11 V13 T14 V15 V16 V17 (upd V20 (Int32.toNatClampNeg x3) (z197 - 1)) _ _ _ hf hP hD hS (lv_sub hl [3] rfl)
  have hf := it_f c5_20 hf
  by_cases c5_22 : z2 = 22
  · have hf := it_t c5_22 hf
    refine xtabI (off := 202) (tgt := 207) hx hb c5_22 dX5_behindStep_5 rfl (by decide) ?_
    refine lv_aload_n hx hb dX5_behindStep_207 rfl (lv_at hl 2 rfl) ?_
    refine G5_121 hx hb htg hown hK hP 2 rfl dX5_behindStep_208 ?_
    exact ret (T2 2, T0, T1, V7, V8, V9, V10, V11, V13, T14, V15, V16, V17, V20) hf nzi hP hS dX5_behindStep_211
  have hf := it_f c5_22 hf
  refine xtabD (tgt := 212) (cs := [6, 12, 13, 14, 15, 20, 22]) hx hb (by simp only [List.forall_mem_cons]; exact ⟨c5_6, c5_12, c5_13, c5_14, c5_15, c5_20, c5_22, fun _ h => absurd h List.not_mem_nil⟩) rfl dX5_behindStep_5 (by decide) ?_
  exact b212 T0 T1 V7 V8 V9 V10 V11 V13 T14 V15 V16 V17 V20 _ _ _ hf hP hD hS (lv_sub hl [0, 1, 2, 3] rfl)
theorem dX5_pass_0 : decode cX5_pass 0 = .ok (.aload_n 0, 1) := by decide +kernel
theorem dX5_pass_1 : decode cX5_pass 1 = .ok (.getfield 11, 3) := by decide +kernel
theorem dX5_pass_4 : decode cX5_pass 4 = .ok (.iconst 0, 1) := by decide +kernel
theorem dX5_pass_5 : decode cX5_pass 5 = .ok (.invokestatic 51, 3) := by decide +kernel
theorem dX5_pass_8 : decode cX5_pass 8 = .ok (.aload_n 0, 1) := by decide +kernel
theorem dX5_pass_9 : decode cX5_pass 9 = .ok (.iload_n 2, 1) := by decide +kernel
theorem dX5_pass_10 : decode cX5_pass 10 = .ok (.putfield 57, 3) := by decide +kernel
theorem dX5_pass_13 : decode cX5_pass 13 = .ok (.aload_n 1, 1) := by decide +kernel
theorem dX5_pass_14 : decode cX5_pass 14 = .ok (.getfield 61, 3) := by decide +kernel
theorem dX5_pass_17 : decode cX5_pass 17 = .ok (.astore_n 3, 1) := by decide +kernel
theorem dX5_pass_18 : decode cX5_pass 18 = .ok (.iconst 0, 1) := by decide +kernel
theorem dX5_pass_19 : decode cX5_pass 19 = .ok (.istore 4, 2) := by decide +kernel
theorem dX5_pass_21 : decode cX5_pass 21 = .ok (.iconst 0, 1) := by decide +kernel
theorem dX5_pass_22 : decode cX5_pass 22 = .ok (.istore 5, 2) := by decide +kernel
theorem dX5_pass_24 : decode cX5_pass 24 = .ok (.iconst 0, 1) := by decide +kernel
theorem dX5_pass_25 : decode cX5_pass 25 = .ok (.istore 6, 2) := by decide +kernel
theorem dX5_pass_27 : decode cX5_pass 27 = .ok (.iload 6, 2) := by decide +kernel
theorem dX5_pass_29 : decode cX5_pass 29 = .ok (.ldc 67, 2) := by decide +kernel
theorem dX5_pass_31 : decode cX5_pass 31 = .ok (.if_icmp .ge 75, 3) := by decide +kernel
theorem dX5_pass_34 : decode cX5_pass 34 = .ok (.aload_n 3, 1) := by decide +kernel
theorem dX5_pass_35 : decode cX5_pass 35 = .ok (.iload 5, 2) := by decide +kernel
theorem dX5_pass_37 : decode cX5_pass 37 = .ok (.invokevirtual 68, 3) := by decide +kernel
theorem dX5_pass_40 : decode cX5_pass 40 = .ok (.ifCond .eq 66, 3) := by decide +kernel
theorem dX5_pass_43 : decode cX5_pass 43 = .ok (.aload_n 3, 1) := by decide +kernel
theorem dX5_pass_44 : decode cX5_pass 44 = .ok (.iload 5, 2) := by decide +kernel
theorem dX5_pass_46 : decode cX5_pass 46 = .ok (.invokevirtual 72, 3) := by decide +kernel
theorem dX5_pass_49 : decode cX5_pass 49 = .ok (.bipush 21, 2) := by decide +kernel
theorem dX5_pass_51 : decode cX5_pass 51 = .ok (.if_icmp .ne 15, 3) := by decide +kernel
theorem dX5_pass_54 : decode cX5_pass 54 = .ok (.aload_n 0, 1) := by decide +kernel
theorem dX5_pass_55 : decode cX5_pass 55 = .ok (.aload_n 3, 1) := by decide +kernel
theorem dX5_pass_56 : decode cX5_pass 56 = .ok (.iload 5, 2) := by decide +kernel
theorem dX5_pass_58 : decode cX5_pass 58 = .ok (.invokevirtual 78, 3) := by decide +kernel
theorem dX5_pass_61 : decode cX5_pass 61 = .ok (.istore 5, 2) := by decide +kernel
theorem dX5_pass_63 : decode cX5_pass 63 = .ok (.goto 37, 3) := by decide +kernel
theorem dX5_pass_66 : decode cX5_pass 66 = .ok (.iload 4, 2) := by decide +kernel
theorem dX5_pass_68 : decode cX5_pass 68 = .ok (.sipush 300, 3) := by decide +kernel
theorem dX5_pass_71 : decode cX5_pass 71 = .ok (.if_icmp .ge 19, 3) := by decide +kernel
theorem dX5_pass_74 : decode cX5_pass 74 = .ok (.iinc 4 1, 3) := by decide +kernel
theorem dX5_pass_77 : decode cX5_pass 77 = .ok (.aload_n 0, 1) := by decide +kernel
theorem dX5_pass_78 : decode cX5_pass 78 = .ok (.aload_n 1, 1) := by decide +kernel
theorem dX5_pass_79 : decode cX5_pass 79 = .ok (.aload_n 3, 1) := by decide +kernel
theorem dX5_pass_80 : decode cX5_pass 80 = .ok (.iload 5, 2) := by decide +kernel
theorem dX5_pass_82 : decode cX5_pass 82 = .ok (.invokevirtual 82, 3) := by decide +kernel
theorem dX5_pass_85 : decode cX5_pass 85 = .ok (.istore 5, 2) := by decide +kernel
theorem dX5_pass_87 : decode cX5_pass 87 = .ok (.goto 13, 3) := by decide +kernel
theorem dX5_pass_90 : decode cX5_pass 90 = .ok (.aload_n 0, 1) := by decide +kernel
theorem dX5_pass_91 : decode cX5_pass 91 = .ok (.getfield 11, 3) := by decide +kernel
theorem dX5_pass_94 : decode cX5_pass 94 = .ok (.iconst 4, 1) := by decide +kernel
theorem dX5_pass_95 : decode cX5_pass 95 = .ok (.iconst 1, 1) := by decide +kernel
theorem dX5_pass_96 : decode cX5_pass 96 = .ok (.iastore, 1) := by decide +kernel
theorem dX5_pass_97 : decode cX5_pass 97 = .ok (.iload 4, 2) := by decide +kernel
theorem dX5_pass_99 : decode cX5_pass 99 = .ok (.ireturn, 1) := by decide +kernel
theorem dX5_pass_100 : decode cX5_pass 100 = .ok (.iinc 6 1, 3) := by decide +kernel
theorem dX5_pass_103 : decode cX5_pass 103 = .ok (.goto (-76), 3) := by decide +kernel
theorem dX5_pass_106 : decode cX5_pass 106 = .ok (.iload 4, 2) := by decide +kernel
theorem dX5_pass_108 : decode cX5_pass 108 = .ok (.ireturn, 1) := by decide +kernel
set_option maxRecDepth 100000 in
theorem c_X5_pass (l : Launch) (E : xE) (a0 a1 a2 a3 a4 a5 a6 a7 a8 a9 a10 a11 a12 a13 a14 a15 a16 a17 a18 a19 a20 a21 : Nat) {T0 : Nat → Int32} {T1 : Nat → Int32} {V2 : Nat → Int32} {T3 : Nat → Int32} {V4 : Nat → Int32} {V5 : Nat → Int32} {V6 : Nat → Int32} {V7 : Nat → Int32} {V8 : Nat → Int32} {V9 : Nat → Int32} {V10 : Nat → Int32} {V11 : Nat → Int32} {V13 : Nat → Int32} {T14 : Nat → Int32} {V15 : Nat → Int32} {V16 : Nat → Int32} {V17 : Nat → Int32} {V18 : Nat → Int32} {V19 : Nat → Int32} {V20 : Nat → Int32} {V21 : Nat → Int32} {u0_1 u1_9 : Nat} {x2 : Int32} {z : Int32 × (Nat → Int32) × (Nat → Int32) × (Nat → Int32) × (Nat → Int32) × (Nat → Int32) × (Nat → Int32) × (Nat → Int32) × (Nat → Int32) × (Nat → Int32) × (Nat → Int32) × (Nat → Int32) × (Nat → Int32) × (Nat → Int32)} (hf : f_X5_pass T0 T1 V2 T3 V4 V5 V6 V7 V8 V9 V10 V11 V13 T14 V15 V16 V17 V18 V19 V20 V21 x2 = some z) (sz : Nat) : Met l yX5_pass (Cond.code yX5_pass cX5_pass 7 (some .int) :: gw) ({ frames := 5, cells := 0, slots := 0, locals := 123 }) (xPc E [.ref a0, .ref a1, .int x2] [(a0, o5 T0 a2 u0_1 a20 a12 a14), (a1, o3 T1 a18 a19 u1_9 a9 a8 a10 a11 a3), (a2, ai E 5 V2), (a3, o0 T3 a4 a5 a6 a7 a21), (a4, ai E 60 V4), (a5, ai E 60 V5), (a6, ai E 60 V6), (a7, ai E 60 V7), (a8, ai E 12 V8), (a9, ai E 12 V9), (a10, ai E 12 V10), (a11, ai E 12 V11), (a12, o7 a13), (a13, ai E 144 V13), (a14, o6 T14 a17 a16 a15), (a15, ai E 37 V15), (a16, ai E 36 V16), (a17, ai E 36 V17), (a18, ai E 36 V18), (a19, ai E 5 V19), (a20, ai E 60 V20), (a21, ai E 60 V21)] sz) (xQi E z.1 [(a0, o5 T0 a2 u0_1 a20 a12 a14), (a1, o3 T1 a18 a19 u1_9 a9 a8 a10 a11 a3), (a2, ai E 5 V2), (a3, o0 T3 a4 a5 a6 a7 a21), (a4, ai E 60 V4), (a5, ai E 60 V5), (a6, ai E 60 V6), (a7, ai E 60 V7), (a8, ai E 12 V8), (a9, ai E 12 V9), (a10, ai E 12 V10), (a11, ai E 12 V11), (a12, o7 a13), (a13, ai E 144 V13), (a14, o6 T14 a17 a16 a15), (a15, ai E 37 V15), (a16, ai E 36 V16), (a17, ai E 36 V17), (a18, ai E 36 V18), (a19, ai E 5 V19), (a20, ai E 60 V20), (a21, ai E 60 V21)] [(a0, o5 z.2.1 a2 u0_1 a20 a12 a14), (a1, o3 z.2.2.1 a18 a19 u1_9 a9 a8 a10 a11 a3), (a2, ai E 5 z.2.2.2.1), (a3, o0 T3 a4 a5 a6 a7 a21), (a4, ai E 60 V4), (a5, ai E 60 V5), (a6, ai E 60 V6), (a7, ai E 60 V7), (a8, ai E 12 z.2.2.2.2.1), (a9, ai E 12 z.2.2.2.2.2.1), (a10, ai E 12 z.2.2.2.2.2.2.1), (a11, ai E 12 z.2.2.2.2.2.2.2.1), (a12, o7 a13), (a13, ai E 144 z.2.2.2.2.2.2.2.2.1), (a14, o6 z.2.2.2.2.2.2.2.2.2.1 a17 a16 a15), (a15, ai E 37 z.2.2.2.2.2.2.2.2.2.2.1), (a16, ai E 36 z.2.2.2.2.2.2.2.2.2.2.2.1), (a17, ai E 36 z.2.2.2.2.2.2.2.2.2.2.2.2.1), (a18, ai E 36 V18), (a19, ai E 5 V19), (a20, ai E 60 z.2.2.2.2.2.2.2.2.2.2.2.2.2), (a21, ai E 60 V21)] sz) 0 0 (va_A [(a0, o5 T0 a2 u0_1 a20 a12 a14), (a1, o3 T1 a18 a19 u1_9 a9 a8 a10 a11 a3), (a2, ai E 5 V2), (a3, o0 T3 a4 a5 a6 a7 a21), (a4, ai E 60 V4), (a5, ai E 60 V5), (a6, ai E 60 V6), (a7, ai E 60 V7), (a8, ai E 12 V8), (a9, ai E 12 V9), (a10, ai E 12 V10), (a11, ai E 12 V11), (a12, o7 a13), (a13, ai E 144 V13), (a14, o6 T14 a17 a16 a15), (a15, ai E 37 V15), (a16, ai E 36 V16), (a17, ai E 36 V17), (a18, ai E 36 V18), (a19, ai E 5 V19), (a20, ai E 60 V20), (a21, ai E 60 V21)] sz) := by
  refine xM_i (by decide +kernel) (Nat.le_of_ble_eq_true rfl) ?_
  intro p e s m args below meth c A Q hx hb hml hown htg hK hG hA ret0 H locs ls hP hD hS hl
  have ret : ∀ (z' : Int32 × (Nat → Int32) × (Nat → Int32) × (Nat → Int32) × (Nat → Int32) × (Nat → Int32) × (Nat → Int32) × (Nat → Int32) × (Nat → Int32) × (Nat → Int32) × (Nat → Int32) × (Nat → Int32) × (Nat → Int32) × (Nat → Int32)) {H : Heap} {locs : List Loc} {pc : Nat} {ls : Array Slot}, some z' = some z → narrow .int (.int z'.1) = .int z'.1 → va_P E.1 vwCl [(a0, o5 z'.2.1 a2 u0_1 a20 a12 a14), (a1, o3 z'.2.2.1 a18 a19 u1_9 a9 a8 a10 a11 a3), (a2, ai E 5 z'.2.2.2.1), (a3, o0 T3 a4 a5 a6 a7 a21), (a4, ai E 60 V4), (a5, ai E 60 V5), (a6, ai E 60 V6), (a7, ai E 60 V7), (a8, ai E 12 z'.2.2.2.2.1), (a9, ai E 12 z'.2.2.2.2.2.1), (a10, ai E 12 z'.2.2.2.2.2.2.1), (a11, ai E 12 z'.2.2.2.2.2.2.2.1), (a12, o7 a13), (a13, ai E 144 z'.2.2.2.2.2.2.2.2.1), (a14, o6 z'.2.2.2.2.2.2.2.2.2.1 a17 a16 a15), (a15, ai E 37 z'.2.2.2.2.2.2.2.2.2.2.1), (a16, ai E 36 z'.2.2.2.2.2.2.2.2.2.2.2.1), (a17, ai E 36 z'.2.2.2.2.2.2.2.2.2.2.2.2.1), (a18, ai E 36 V18), (a19, ai E 5 V19), (a20, ai E 60 z'.2.2.2.2.2.2.2.2.2.2.2.2.2), (a21, ai E 60 V21)] H → va_S A s.heap H locs → decode cX5_pass pc = .ok (.ireturn, 1) → W p l e ({ frames := 5, cells := 0, slots := 0, locals := 123 } : Room) s m args below meth c H locs 0 0 Q (F0 m pc ls [.int z'.1]) := by
    intro z' H locs pc ls h
    cases h
    exact ret0
  replace hl : lv_has ls 7 [(0, .ref a0), (1, .ref a1), (2, .int x2)] := hl
  have b27 : ∀ (n : Nat) (x4 : Int32) (x5 : Int32) (x6 : Int32) (T0 : Nat → Int32) (T1 : Nat → Int32) (V2 : Nat → Int32) (V8 : Nat → Int32) (V9 : Nat → Int32) (V10 : Nat → Int32) (V11 : Nat → Int32) (V13 : Nat → Int32) (T14 : Nat → Int32) (V15 : Nat → Int32) (V16 : Nat → Int32) (V17 : Nat → Int32) (V20 : Nat → Int32) (H : Heap) (locs : List Loc) (ls : Array Slot), f_X5_pass_27 T3 V4 V5 V6 V7 V18 V19 V21 x2 n x4 x5 x6 T0 T1 V2 V8 V9 V10 V11 V13 T14 V15 V16 V17 V20 = some z → va_P E.1 vwCl [(a0, o5 T0 a2 u0_1 a20 a12 a14), (a1, o3 T1 a18 a19 u1_9 a9 a8 a10 a11 a3), (a2, ai E 5 V2), (a3, o0 T3 a4 a5 a6 a7 a21), (a4, ai E 60 V4), (a5, ai E 60 V5), (a6, ai E 60 V6), (a7, ai E 60 V7), (a8, ai E 12 V8), (a9, ai E 12 V9), (a10, ai E 12 V10), (a11, ai E 12 V11), (a12, o7 a13), (a13, ai E 144 V13), (a14, o6 T14 a17 a16 a15), (a15, ai E 37 V15), (a16, ai E 36 V16), (a17, ai E 36 V17), (a18, ai E 36 V18), (a19, ai E 5 V19), (a20, ai E 60 V20), (a21, ai E 60 V21)] H → va_D A [(a0, o5 T0 a2 u0_1 a20 a12 a14), (a1, o3 T1 a18 a19 u1_9 a9 a8 a10 a11 a3), (a2, ai E 5 V2), (a3, o0 T3 a4 a5 a6 a7 a21), (a4, ai E 60 V4), (a5, ai E 60 V5), (a6, ai E 60 V6), (a7, ai E 60 V7), (a8, ai E 12 V8), (a9, ai E 12 V9), (a10, ai E 12 V10), (a11, ai E 12 V11), (a12, o7 a13), (a13, ai E 144 V13), (a14, o6 T14 a17 a16 a15), (a15, ai E 37 V15), (a16, ai E 36 V16), (a17, ai E 36 V17), (a18, ai E 36 V18), (a19, ai E 5 V19), (a20, ai E 60 V20), (a21, ai E 60 V21)] → va_S A s.heap H locs → lv_has ls 7 [(0, .ref a0), (1, .ref a1), (3, .ref a3), (4, .int x4), (5, .int x5), (6, .int x6)] → W p l e ({ frames := 5, cells := 0, slots := 0, locals := 123 } : Room) s m args below meth c H locs 0 0 Q (F0 m 27 ls []) := by
    intro n
    induction n with
    | zero => intro x4 x5 x6 T0 T1 V2 V8 V9 V10 V11 V13 T14 V15 V16 V17 V20 H locs ls hf; exact (nn_s hf).elim
    | succ n ih27 =>
      obtain ⟨k27, ek27⟩ : ∃ k, k = f_X5_pass_27 T3 V4 V5 V6 V7 V18 V19 V21 x2 n := ⟨_, rfl⟩
      rw [← ek27] at ih27
      intro x4 x5 x6 T0 T1 V2 V8 V9 V10 V11 V13 T14 V15 V16 V17 V20 H locs ls hf hP hD hS hl
      replace hf : g_X5_pass_27 T3 V4 V5 V6 V7 V18 V19 V21 x2 k27 x4 x5 x6 T0 T1 V2 V8 V9 V10 V11 V13 T14 V15 V16 V17 V20 = some z := by rw [ek27]; exact hf
      unfold g_X5_pass_27 at hf
      refine lv_iload hx hb dX5_pass_27 (lv_at hl 5 rfl) ?_
      refine lv_ldc hx hb hown (htg _ (gw_t (tb6 66 rfl) rfl)) dX5_pass_29 ?_
      refine lv_icmp_ge (tgt := 106) hx hb dX5_pass_31 (by decide) (fun c31 => ?_) (fun c31 => ?_)
      · have hf := it_t c31 hf
        refine lv_iload hx hb dX5_pass_106 (lv_at hl 3 rfl) ?_
        exact ret (x4, T0, T1, V2, V8, V9, V10, V11, V13, T14, V15, V16, V17, V20) hf nzi hP hS dX5_pass_108
      · have hf := it_f c31 hf
        refine lv_aload_n hx hb dX5_pass_34 rfl (lv_at hl 2 rfl) ?_
        refine lv_iload hx hb dX5_pass_35 (lv_at hl 4 rfl) ?_
        obtain ⟨z37, hz37, hf⟩ := bind_s hf
        refine xV_ir hx hb hml hown htg L5_68 (c_X0_hasLine l E a3 hz37 _) ⟨⟨rfl, rfl⟩, Nat.le_of_ble_eq_true rfl, Nat.le_of_ble_eq_true rfl⟩ hK hG hA hP hD hS (is := [3]) rfl rfl (xrecv hK hP (q0 := 3) (ci := 0) rfl rfl) rfl hl.1 rfl (Nat.le_of_ble_eq_true rfl) dX5_pass_37 (fun H locs hP hD hS => ?_)
        refine lv_if_eq (tgt := 106) hx hb dX5_pass_40 (by decide) (fun c40 => ?_) (fun c40 => ?_)
        · have hf := it_t c40 hf
          refine lv_iload hx hb dX5_pass_106 (lv_at hl 3 rfl) ?_
          exact ret (x4, T0, T1, V2, V8, V9, V10, V11, V13, T14, V15, V16, V17, V20) hf nzi hP hS dX5_pass_108
        · have hf := it_f c40 hf
          refine lv_aload_n hx hb dX5_pass_43 rfl (lv_at hl 2 rfl) ?_
          refine lv_iload hx hb dX5_pass_44 (lv_at hl 4 rfl) ?_
          obtain ⟨z46, hz46, hf⟩ := bind_s hf
          refine xV_ir hx hb hml hown htg L5_72 (c_X0_deed l E a3 a4 hz46 _) ⟨⟨rfl, rfl⟩, Nat.le_of_ble_eq_true rfl, Nat.le_of_ble_eq_true rfl⟩ hK hG hA hP hD hS (is := [3, 4]) rfl rfl (xrecv hK hP (q0 := 3) (ci := 0) rfl rfl) rfl hl.1 rfl (Nat.le_of_ble_eq_true rfl) dX5_pass_46 (fun H locs hP hD hS => ?_)
          refine lv_bipush (v := 21) hx hb dX5_pass_49 rfl ?_
          refine lv_icmp_ne (tgt := 66) hx hb dX5_pass_51 (by decide) (fun c51 => ?_) (fun c51 => ?_)
          · have hf := it_f c51 hf
            refine lv_iload hx hb dX5_pass_66 (lv_at hl 3 rfl) ?_
            refine lv_sipush (v := 300) hx hb dX5_pass_68 rfl ?_
            refine lv_icmp_ge (tgt := 90) hx hb dX5_pass_71 (by decide) (fun c71 => ?_) (fun c71 => ?_)
            · have hf := it_t c71 hf
              refine lv_aload_n hx hb dX5_pass_90 rfl (lv_at hl 0 rfl) ?_
              refine G5_11 hx hb htg hown hK hP 0 rfl dX5_pass_91 ?_
              refine lv_iconst (v := 4) hx hb dX5_pass_94 rfl ?_
              refine lv_iconst (v := 1) hx hb dX5_pass_95 rfl ?_
              obtain ⟨g96, hf⟩ := ck_s hf
              refine xiast hx hb hK hP hD hS 2 rfl g96 dX5_pass_96 (fun H locs hP hD hS => ?_)
              refine lv_iload hx hb dX5_pass_97 (lv_at hl 3 rfl) ?_
              exact ret (x4, T0, T1, upd V2 (Int32.toNatClampNeg 4) 1, V8, V9, V10, V11, V13, T14, V15, V16, V17, V20) hf nzi hP hS dX5_pass_99
            · have hf := it_f c71 hf
              refine lv_iinc (v := x4 + 1) (lv' := [(4, .int (x4 + 1)), (0, .ref a0), (1, .ref a1), (3, .ref a3), (5, .int x5), (6, .int x6)]) hx hb dX5_pass_74 hl (k := 3) rfl rfl (by decide) rfl (fun ls hl => ?_)
              refine lv_aload_n hx hb dX5_pass_77 rfl (lv_at hl 1 rfl) ?_
              refine lv_aload_n hx hb dX5_pass_78 rfl (lv_at hl 2 rfl) ?_
              refine lv_aload_n hx hb dX5_pass_79 rfl (lv_at hl 3 rfl) ?_
              refine lv_iload hx hb dX5_pass_80 (lv_at hl 4 rfl) ?_
              obtain ⟨z82, hz82, hf⟩ := bind_s hf
              refine xV_iu hx hb hml hown htg L5_82 (c_X5_behindStep l E a0 a1 a3 a4 a5 a6 a7 a8 a9 a10 a11 a2 a12 a13 a14 a15 a16 a17 a18 a19 a20 a21 hz82 _) ⟨⟨rfl, rfl⟩, Nat.le_of_ble_eq_true rfl, Nat.le_of_ble_eq_true rfl⟩ hK hG hA hP hD hS (is := [0, 1, 3, 4, 5, 6, 7, 8, 9, 10, 11, 2, 12, 13, 14, 15, 16, 17, 18, 19, 20, 21]) (sel := [some 0, some 1, some 11, some 2, some 3, some 4, some 5, some 6, some 7, some 8, some 9, some 10, some 12, some 13, some 14, some 15, some 16, some 17, some 18, some 19, some 20, some 21]) (ws2 := [(a0, o5 z82.2.1 a2 u0_1 a20 a12 a14), (a1, o3 z82.2.2.1 a18 a19 u1_9 a9 a8 a10 a11 a3), (a2, ai E 5 z82.2.2.2.2.2.2.2.1), (a3, o0 T3 a4 a5 a6 a7 a21), (a4, ai E 60 V4), (a5, ai E 60 V5), (a6, ai E 60 V6), (a7, ai E 60 V7), (a8, ai E 12 z82.2.2.2.1), (a9, ai E 12 z82.2.2.2.2.1), (a10, ai E 12 z82.2.2.2.2.2.1), (a11, ai E 12 z82.2.2.2.2.2.2.1), (a12, o7 a13), (a13, ai E 144 z82.2.2.2.2.2.2.2.2.1), (a14, o6 z82.2.2.2.2.2.2.2.2.2.1 a17 a16 a15), (a15, ai E 37 z82.2.2.2.2.2.2.2.2.2.2.1), (a16, ai E 36 z82.2.2.2.2.2.2.2.2.2.2.2.1), (a17, ai E 36 z82.2.2.2.2.2.2.2.2.2.2.2.2.1), (a18, ai E 36 V18), (a19, ai E 5 V19), (a20, ai E 60 z82.2.2.2.2.2.2.2.2.2.2.2.2.2), (a21, ai E 60 V21)]) rfl rfl rfl rfl rfl (xrecv hK hP (q0 := 0) (ci := 5) rfl rfl) rfl hl.1 rfl (Nat.le_of_ble_eq_true rfl) dX5_pass_82 (fun H locs hP hD hS => ?_)
              refine lv_istore (lv' := [(5, .int z82.1), (4, .int (x4 + 1)), (0, .ref a0), (1, .ref a1), (3, .ref a3), (6, .int x6)]) hx hb dX5_pass_85 hl (by decide) rfl (fun ls hl => ?_)
              refine lv_goto (tgt := 100) hx hb dX5_pass_87 (by decide) ?_
              refine lv_iinc (v := x6 + 1) (lv' := [(6, .int (x6 + 1)), (5, .int z82.1), (4, .int (x4 + 1)), (0, .ref a0), (1, .ref a1), (3, .ref a3)]) hx hb dX5_pass_100 hl (k := 5) rfl rfl (by decide) rfl (fun ls hl => ?_)
              refine lv_goto (tgt := 27) hx hb dX5_pass_103 (by decide) ?_
              exact ih27 (x4 + 1) z82.1 (x6 + 1) z82.2.1 z82.2.2.1 z82.2.2.2.2.2.2.2.1 z82.2.2.2.1 z82.2.2.2.2.1 z82.2.2.2.2.2.1 z82.2.2.2.2.2.2.1 z82.2.2.2.2.2.2.2.2.1 z82.2.2.2.2.2.2.2.2.2.1 z82.2.2.2.2.2.2.2.2.2.2.1 z82.2.2.2.2.2.2.2.2.2.2.2.1 z82.2.2.2.2.2.2.2.2.2.2.2.2.1 z82.2.2.2.2.2.2.2.2.2.2.2.2.2 _ _ _ hf hP hD hS (lv_sub hl [3, 4, 5, 2, 1, 0] rfl)
          · have hf := it_t c51 hf
            refine lv_aload_n hx hb dX5_pass_54 rfl (lv_at hl 0 rfl) ?_
            refine lv_aload_n hx hb dX5_pass_55 rfl (lv_at hl 2 rfl) ?_
            refine lv_iload hx hb dX5_pass_56 (lv_at hl 4 rfl) ?_
            obtain ⟨z58, hz58, hf⟩ := bind_s hf
            refine xV_iu hx hb hml hown htg L5_78 (c_X5_behindEnd l E a0 a3 a21 a4 a20 hz58 _) ⟨⟨rfl, rfl⟩, Nat.le_of_ble_eq_true rfl, Nat.le_of_ble_eq_true rfl⟩ hK hG hA hP hD hS (is := [0, 3, 21, 4, 20]) (sel := [some 0, none, none, some 1, some 3, none, none, none, none, none, none, none, none, none, none, none, none, none, none, none, some 4, some 2]) (ws2 := [(a0, o5 T0 a2 u0_1 a20 a12 a14), (a1, o3 T1 a18 a19 u1_9 a9 a8 a10 a11 a3), (a2, ai E 5 V2), (a3, o0 T3 a4 a5 a6 a7 a21), (a4, ai E 60 V4), (a5, ai E 60 V5), (a6, ai E 60 V6), (a7, ai E 60 V7), (a8, ai E 12 V8), (a9, ai E 12 V9), (a10, ai E 12 V10), (a11, ai E 12 V11), (a12, o7 a13), (a13, ai E 144 V13), (a14, o6 T14 a17 a16 a15), (a15, ai E 37 V15), (a16, ai E 36 V16), (a17, ai E 36 V17), (a18, ai E 36 V18), (a19, ai E 5 V19), (a20, ai E 60 z58.2), (a21, ai E 60 V21)]) rfl rfl rfl rfl rfl (xrecv hK hP (q0 := 0) (ci := 5) rfl rfl) rfl hl.1 rfl (Nat.le_of_ble_eq_true rfl) dX5_pass_58 (fun H locs hP hD hS => ?_)
            refine lv_istore (lv' := [(5, .int z58.1), (0, .ref a0), (1, .ref a1), (3, .ref a3), (4, .int x4), (6, .int x6)]) hx hb dX5_pass_61 hl (by decide) rfl (fun ls hl => ?_)
            refine lv_goto (tgt := 100) hx hb dX5_pass_63 (by decide) ?_
            refine lv_iinc (v := x6 + 1) (lv' := [(6, .int (x6 + 1)), (5, .int z58.1), (0, .ref a0), (1, .ref a1), (3, .ref a3), (4, .int x4)]) hx hb dX5_pass_100 hl (k := 5) rfl rfl (by decide) rfl (fun ls hl => ?_)
            refine lv_goto (tgt := 27) hx hb dX5_pass_103 (by decide) ?_
            exact ih27 x4 z58.1 (x6 + 1) T0 T1 V2 V8 V9 V10 V11 V13 T14 V15 V16 V17 z58.2 _ _ _ hf hP hD hS (lv_sub hl [2, 3, 4, 5, 1, 0] rfl)
  unfold f_X5_pass at hf
  refine lv_aload_n hx hb dX5_pass_0 rfl (lv_at hl 0 rfl) ?_
  refine G5_11 hx hb htg hown hK hP 0 rfl dX5_pass_1 ?_
  refine lv_iconst (v := 0) hx hb dX5_pass_4 rfl ?_
  obtain ⟨z5, hz5, hf⟩ := bind_s hf
  refine xS_vu hx hb hml hown htg L5_51 (c_J7_fill_53178 l E a2 hz5 _) ⟨⟨rfl, rfl⟩, Nat.le_of_ble_eq_true rfl, Nat.le_of_ble_eq_true rfl⟩ hK hG hA hP hD hS (is := [2]) (sel := [none, none, some 0, none, none, none, none, none, none, none, none, none, none, none, none, none, none, none, none, none, none, none]) (ws2 := [(a0, o5 T0 a2 u0_1 a20 a12 a14), (a1, o3 T1 a18 a19 u1_9 a9 a8 a10 a11 a3), (a2, ai E 5 z5), (a3, o0 T3 a4 a5 a6 a7 a21), (a4, ai E 60 V4), (a5, ai E 60 V5), (a6, ai E 60 V6), (a7, ai E 60 V7), (a8, ai E 12 V8), (a9, ai E 12 V9), (a10, ai E 12 V10), (a11, ai E 12 V11), (a12, o7 a13), (a13, ai E 144 V13), (a14, o6 T14 a17 a16 a15), (a15, ai E 37 V15), (a16, ai E 36 V16), (a17, ai E 36 V17), (a18, ai E 36 V18), (a19, ai E 5 V19), (a20, ai E 60 V20), (a21, ai E 60 V21)]) rfl rfl rfl rfl rfl rfl hl.1 rfl (Nat.le_of_ble_eq_true rfl) dX5_pass_5 (fun H locs hP hD hS => ?_)
  refine lv_aload_n hx hb dX5_pass_8 rfl (lv_at hl 0 rfl) ?_
  refine lv_iload_n hx hb dX5_pass_9 rfl (lv_at hl 2 rfl) ?_
  refine P5_57 hx hb htg hown hK hP hD hS 0 rfl dX5_pass_10 (fun H locs hP hD hS => ?_)
  refine lv_aload_n hx hb dX5_pass_13 rfl (lv_at hl 1 rfl) ?_
  refine G5_61 hx hb htg hown hK hP 1 rfl dX5_pass_14 ?_
  refine lv_astore_n (lv' := [(3, .ref a3), (0, .ref a0), (1, .ref a1), (2, .int x2)]) hx hb dX5_pass_17 rfl hl (by decide) rfl (fun ls hl => ?_)
  refine lv_iconst (v := 0) hx hb dX5_pass_18 rfl ?_
  refine lv_istore (lv' := [(4, .int 0), (3, .ref a3), (0, .ref a0), (1, .ref a1), (2, .int x2)]) hx hb dX5_pass_19 hl (by decide) rfl (fun ls hl => ?_)
  refine lv_iconst (v := 0) hx hb dX5_pass_21 rfl ?_
  refine lv_istore (lv' := [(5, .int 0), (4, .int 0), (3, .ref a3), (0, .ref a0), (1, .ref a1), (2, .int x2)]) hx hb dX5_pass_22 hl (by decide) rfl (fun ls hl => ?_)
  refine lv_iconst (v := 0) hx hb dX5_pass_24 rfl ?_
  refine lv_istore (lv' := [(6, .int 0), (5, .int 0), (4, .int 0), (3, .ref a3), (0, .ref a0), (1, .ref a1), (2, .int x2)]) hx hb dX5_pass_25 hl (by decide) rfl (fun ls hl => ?_)
  exact b27 xF 0 0 0 (upd T0 6 x2) T1 z5 V8 V9 V10 V11 V13 T14 V15 V16 V17 V20 _ _ _ hf hP hD hS (lv_sub hl [4, 5, 3, 2, 1, 0] rfl)
