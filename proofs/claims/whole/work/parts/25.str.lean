theorem dJ0_isLatin1_aae02_0 : decode cJ0_isLatin1_aae02 0 = .ok (.getstatic 38, 3) := by decide +kernel
theorem dJ0_isLatin1_aae02_3 : decode cJ0_isLatin1_aae02 3 = .ok (.ifCond .eq 14, 3) := by decide +kernel
theorem dJ0_isLatin1_aae02_6 : decode cJ0_isLatin1_aae02 6 = .ok (.aload_n 0, 1) := by decide +kernel
theorem dJ0_isLatin1_aae02_7 : decode cJ0_isLatin1_aae02 7 = .ok (.getfield 15, 3) := by decide +kernel
theorem dJ0_isLatin1_aae02_10 : decode cJ0_isLatin1_aae02 10 = .ok (.ifCond .ne 7, 3) := by decide +kernel
theorem dJ0_isLatin1_aae02_13 : decode cJ0_isLatin1_aae02 13 = .ok (.iconst 1, 1) := by decide +kernel
theorem dJ0_isLatin1_aae02_14 : decode cJ0_isLatin1_aae02 14 = .ok (.goto 4, 3) := by decide +kernel
theorem dJ0_isLatin1_aae02_17 : decode cJ0_isLatin1_aae02 17 = .ok (.iconst 0, 1) := by decide +kernel
theorem dJ0_isLatin1_aae02_18 : decode cJ0_isLatin1_aae02 18 = .ok (.ireturn, 1) := by decide +kernel
set_option maxRecDepth 100000 in
theorem c_J0_isLatin1_aae02_s0 (l : Launch) (E : xE)  {z : Int32} (hf : f_J0_isLatin1_aae02_s0 = some z) (sz : Nat) : Met l yJ0_isLatin1_aae02 (Cond.code yJ0_isLatin1_aae02 cJ0_isLatin1_aae02 1 (some .boolean) :: gw) ({ frames := 0, cells := 0, slots := 0, locals := 0 }) (xPc E [.ref (E.2.2.1 0)] [] sz) (xQi E z [] [] sz) 0 0 (va_A [] sz) := by
  refine xM_i (by decide +kernel) (Nat.le_of_ble_eq_true rfl) ?_
  intro p e s m args below meth c A Q hx hb hml hown htg hK hG hA ret0 H locs ls hP hD hS hl
  have ret : ∀ (z' : Int32) {H : Heap} {locs : List Loc} {pc : Nat} {ls : Array Slot}, some z' = some z → narrow .boolean (.int z') = .int z' → va_P E.1 vwCl [] H → va_S A s.heap H locs → decode cJ0_isLatin1_aae02 pc = .ok (.ireturn, 1) → W p l e ({ frames := 0, cells := 0, slots := 0, locals := 0 } : Room) s m args below meth c H locs 0 0 Q (F0 m pc ls [.int z']) := by
    intro z' H locs pc ls h
    cases h
    exact ret0
  replace hl : lv_has ls 1 [(0, .ref (E.2.2.1 0))] := hl
  unfold f_J0_isLatin1_aae02_s0 at hf
  refine va_gets hx hb hG.1.2.1 hS hown (htg _ flJ0_38) (fun _ h => h) dJ0_isLatin1_aae02_0 ?_
  refine lv_if_eq (tgt := 17) hx hb dJ0_isLatin1_aae02_3 (by decide) (fun c3 => ?_) (fun c3 => ?_)
  · have hf := it_t c3 hf
    refine lv_iconst (v := 0) hx hb dJ0_isLatin1_aae02_17 rfl ?_
    exact ret 0 hf nz0 hP hS dJ0_isLatin1_aae02_18
  · have hf := it_f c3 hf
    refine lv_aload_n hx hb dJ0_isLatin1_aae02_6 rfl (lv_at hl 0 rfl) ?_
    refine vk_getf hx hb (hG.1.1.1 0 (by decide)).2.1 hS hown (htg _ flJ0_15) (fun _ h => h) dJ0_isLatin1_aae02_7 ?_
    refine lv_if_ne (tgt := 17) hx hb dJ0_isLatin1_aae02_10 (by decide) (fun c10 => ?_) (fun c10 => ?_)
    · have hf := it_f c10 hf
      refine lv_iconst (v := 0) hx hb dJ0_isLatin1_aae02_17 rfl ?_
      exact ret 0 hf nz0 hP hS dJ0_isLatin1_aae02_18
    · have hf := it_t c10 hf
      refine lv_iconst (v := 1) hx hb dJ0_isLatin1_aae02_13 rfl ?_
      refine lv_goto (tgt := 18) hx hb dJ0_isLatin1_aae02_14 (by decide) ?_
      exact ret 1 hf nz1 hP hS dJ0_isLatin1_aae02_18
set_option maxRecDepth 100000 in
theorem c_J0_isLatin1_aae02_s1 (l : Launch) (E : xE)  {z : Int32} (hf : f_J0_isLatin1_aae02_s1 = some z) (sz : Nat) : Met l yJ0_isLatin1_aae02 (Cond.code yJ0_isLatin1_aae02 cJ0_isLatin1_aae02 1 (some .boolean) :: gw) ({ frames := 0, cells := 0, slots := 0, locals := 0 }) (xPc E [.ref (E.2.2.1 1)] [] sz) (xQi E z [] [] sz) 0 0 (va_A [] sz) := by
  refine xM_i (by decide +kernel) (Nat.le_of_ble_eq_true rfl) ?_
  intro p e s m args below meth c A Q hx hb hml hown htg hK hG hA ret0 H locs ls hP hD hS hl
  have ret : ∀ (z' : Int32) {H : Heap} {locs : List Loc} {pc : Nat} {ls : Array Slot}, some z' = some z → narrow .boolean (.int z') = .int z' → va_P E.1 vwCl [] H → va_S A s.heap H locs → decode cJ0_isLatin1_aae02 pc = .ok (.ireturn, 1) → W p l e ({ frames := 0, cells := 0, slots := 0, locals := 0 } : Room) s m args below meth c H locs 0 0 Q (F0 m pc ls [.int z']) := by
    intro z' H locs pc ls h
    cases h
    exact ret0
  replace hl : lv_has ls 1 [(0, .ref (E.2.2.1 1))] := hl
  unfold f_J0_isLatin1_aae02_s1 at hf
  refine va_gets hx hb hG.1.2.1 hS hown (htg _ flJ0_38) (fun _ h => h) dJ0_isLatin1_aae02_0 ?_
  refine lv_if_eq (tgt := 17) hx hb dJ0_isLatin1_aae02_3 (by decide) (fun c3 => ?_) (fun c3 => ?_)
  · have hf := it_t c3 hf
    refine lv_iconst (v := 0) hx hb dJ0_isLatin1_aae02_17 rfl ?_
    exact ret 0 hf nz0 hP hS dJ0_isLatin1_aae02_18
  · have hf := it_f c3 hf
    refine lv_aload_n hx hb dJ0_isLatin1_aae02_6 rfl (lv_at hl 0 rfl) ?_
    refine vk_getf hx hb (hG.1.1.1 1 (by decide)).2.1 hS hown (htg _ flJ0_15) (fun _ h => h) dJ0_isLatin1_aae02_7 ?_
    refine lv_if_ne (tgt := 17) hx hb dJ0_isLatin1_aae02_10 (by decide) (fun c10 => ?_) (fun c10 => ?_)
    · have hf := it_f c10 hf
      refine lv_iconst (v := 0) hx hb dJ0_isLatin1_aae02_17 rfl ?_
      exact ret 0 hf nz0 hP hS dJ0_isLatin1_aae02_18
    · have hf := it_t c10 hf
      refine lv_iconst (v := 1) hx hb dJ0_isLatin1_aae02_13 rfl ?_
      refine lv_goto (tgt := 18) hx hb dJ0_isLatin1_aae02_14 (by decide) ?_
      exact ret 1 hf nz1 hP hS dJ0_isLatin1_aae02_18
theorem dJ0_coder_7d493_0 : decode cJ0_coder_7d493 0 = .ok (.getstatic 38, 3) := by decide +kernel
theorem dJ0_coder_7d493_3 : decode cJ0_coder_7d493 3 = .ok (.ifCond .eq 10, 3) := by decide +kernel
theorem dJ0_coder_7d493_6 : decode cJ0_coder_7d493 6 = .ok (.aload_n 0, 1) := by decide +kernel
theorem dJ0_coder_7d493_7 : decode cJ0_coder_7d493 7 = .ok (.getfield 15, 3) := by decide +kernel
theorem dJ0_coder_7d493_10 : decode cJ0_coder_7d493 10 = .ok (.goto 4, 3) := by decide +kernel
theorem dJ0_coder_7d493_13 : decode cJ0_coder_7d493 13 = .ok (.iconst 1, 1) := by decide +kernel
theorem dJ0_coder_7d493_14 : decode cJ0_coder_7d493 14 = .ok (.ireturn, 1) := by decide +kernel
set_option maxRecDepth 100000 in
theorem c_J0_coder_7d493_s0 (l : Launch) (E : xE)  {z : Int32} (hf : f_J0_coder_7d493_s0 = some z) (sz : Nat) : Met l yJ0_coder_7d493 (Cond.code yJ0_coder_7d493 cJ0_coder_7d493 1 (some .byte) :: gw) ({ frames := 0, cells := 0, slots := 0, locals := 0 }) (xPc E [.ref (E.2.2.1 0)] [] sz) (xQi E z [] [] sz) 0 0 (va_A [] sz) := by
  refine xM_i (by decide +kernel) (Nat.le_of_ble_eq_true rfl) ?_
  intro p e s m args below meth c A Q hx hb hml hown htg hK hG hA ret0 H locs ls hP hD hS hl
  have ret : ∀ (z' : Int32) {H : Heap} {locs : List Loc} {pc : Nat} {ls : Array Slot}, some z' = some z → narrow .byte (.int z') = .int z' → va_P E.1 vwCl [] H → va_S A s.heap H locs → decode cJ0_coder_7d493 pc = .ok (.ireturn, 1) → W p l e ({ frames := 0, cells := 0, slots := 0, locals := 0 } : Room) s m args below meth c H locs 0 0 Q (F0 m pc ls [.int z']) := by
    intro z' H locs pc ls h
    cases h
    exact ret0
  replace hl : lv_has ls 1 [(0, .ref (E.2.2.1 0))] := hl
  unfold f_J0_coder_7d493_s0 at hf
  refine va_gets hx hb hG.1.2.1 hS hown (htg _ flJ0_38) (fun _ h => h) dJ0_coder_7d493_0 ?_
  refine lv_if_eq (tgt := 13) hx hb dJ0_coder_7d493_3 (by decide) (fun c3 => ?_) (fun c3 => ?_)
  · have hf := it_t c3 hf
    refine lv_iconst (v := 1) hx hb dJ0_coder_7d493_13 rfl ?_
    exact ret 1 hf nzb1 hP hS dJ0_coder_7d493_14
  · have hf := it_f c3 hf
    refine lv_aload_n hx hb dJ0_coder_7d493_6 rfl (lv_at hl 0 rfl) ?_
    refine vk_getf hx hb (hG.1.1.1 0 (by decide)).2.1 hS hown (htg _ flJ0_15) (fun _ h => h) dJ0_coder_7d493_7 ?_
    refine lv_goto (tgt := 14) hx hb dJ0_coder_7d493_10 (by decide) ?_
    exact ret 0 hf nzb0 hP hS dJ0_coder_7d493_14
set_option maxRecDepth 100000 in
theorem c_J0_coder_7d493_s1 (l : Launch) (E : xE)  {z : Int32} (hf : f_J0_coder_7d493_s1 = some z) (sz : Nat) : Met l yJ0_coder_7d493 (Cond.code yJ0_coder_7d493 cJ0_coder_7d493 1 (some .byte) :: gw) ({ frames := 0, cells := 0, slots := 0, locals := 0 }) (xPc E [.ref (E.2.2.1 1)] [] sz) (xQi E z [] [] sz) 0 0 (va_A [] sz) := by
  refine xM_i (by decide +kernel) (Nat.le_of_ble_eq_true rfl) ?_
  intro p e s m args below meth c A Q hx hb hml hown htg hK hG hA ret0 H locs ls hP hD hS hl
  have ret : ∀ (z' : Int32) {H : Heap} {locs : List Loc} {pc : Nat} {ls : Array Slot}, some z' = some z → narrow .byte (.int z') = .int z' → va_P E.1 vwCl [] H → va_S A s.heap H locs → decode cJ0_coder_7d493 pc = .ok (.ireturn, 1) → W p l e ({ frames := 0, cells := 0, slots := 0, locals := 0 } : Room) s m args below meth c H locs 0 0 Q (F0 m pc ls [.int z']) := by
    intro z' H locs pc ls h
    cases h
    exact ret0
  replace hl : lv_has ls 1 [(0, .ref (E.2.2.1 1))] := hl
  unfold f_J0_coder_7d493_s1 at hf
  refine va_gets hx hb hG.1.2.1 hS hown (htg _ flJ0_38) (fun _ h => h) dJ0_coder_7d493_0 ?_
  refine lv_if_eq (tgt := 13) hx hb dJ0_coder_7d493_3 (by decide) (fun c3 => ?_) (fun c3 => ?_)
  · have hf := it_t c3 hf
    refine lv_iconst (v := 1) hx hb dJ0_coder_7d493_13 rfl ?_
    exact ret 1 hf nzb1 hP hS dJ0_coder_7d493_14
  · have hf := it_f c3 hf
    refine lv_aload_n hx hb dJ0_coder_7d493_6 rfl (lv_at hl 0 rfl) ?_
    refine vk_getf hx hb (hG.1.1.1 1 (by decide)).2.1 hS hown (htg _ flJ0_15) (fun _ h => h) dJ0_coder_7d493_7 ?_
    refine lv_goto (tgt := 14) hx hb dJ0_coder_7d493_10 (by decide) ?_
    exact ret 0 hf nzb0 hP hS dJ0_coder_7d493_14
theorem dJ0_length_8abf5_0 : decode cJ0_length_8abf5 0 = .ok (.aload_n 0, 1) := by decide +kernel
theorem dJ0_length_8abf5_1 : decode cJ0_length_8abf5 1 = .ok (.getfield 9, 3) := by decide +kernel
theorem dJ0_length_8abf5_4 : decode cJ0_length_8abf5 4 = .ok (.arraylength, 1) := by decide +kernel
theorem dJ0_length_8abf5_5 : decode cJ0_length_8abf5 5 = .ok (.aload_n 0, 1) := by decide +kernel
theorem dJ0_length_8abf5_6 : decode cJ0_length_8abf5 6 = .ok (.invokevirtual 335, 3) := by decide +kernel
theorem dJ0_length_8abf5_9 : decode cJ0_length_8abf5 9 = .ok (.ishr, 1) := by decide +kernel
theorem dJ0_length_8abf5_10 : decode cJ0_length_8abf5 10 = .ok (.ireturn, 1) := by decide +kernel
set_option maxRecDepth 100000 in
theorem c_J0_length_8abf5_s0 (l : Launch) (E : xE)  {z : Int32} (hf : f_J0_length_8abf5_s0 = some z) (sz : Nat) : Met l yJ0_length_8abf5 (Cond.code yJ0_length_8abf5 cJ0_length_8abf5 1 (some .int) :: gw) ({ frames := 1, cells := 0, slots := 0, locals := 20 }) (xPc E [.ref (E.2.2.1 0)] [] sz) (xQi E z [] [] sz) 0 0 (va_A [] sz) := by
  refine xM_i (by decide +kernel) (Nat.le_of_ble_eq_true rfl) ?_
  intro p e s m args below meth c A Q hx hb hml hown htg hK hG hA ret0 H locs ls hP hD hS hl
  have ret : ∀ (z' : Int32) {H : Heap} {locs : List Loc} {pc : Nat} {ls : Array Slot}, some z' = some z → narrow .int (.int z') = .int z' → va_P E.1 vwCl [] H → va_S A s.heap H locs → decode cJ0_length_8abf5 pc = .ok (.ireturn, 1) → W p l e ({ frames := 1, cells := 0, slots := 0, locals := 20 } : Room) s m args below meth c H locs 0 0 Q (F0 m pc ls [.int z']) := by
    intro z' H locs pc ls h
    cases h
    exact ret0
  replace hl : lv_has ls 1 [(0, .ref (E.2.2.1 0))] := hl
  unfold f_J0_length_8abf5_s0 at hf
  refine lv_aload_n hx hb dJ0_length_8abf5_0 rfl (lv_at hl 0 rfl) ?_
  refine vk_getf hx hb (hG.1.1.1 0 (by decide)).2.2.1 hS hown (htg _ flJ0_9) (fun _ h => h) dJ0_length_8abf5_1 ?_
  refine va_tlen (v := 129) hx hb (hG.1.1.1 0 (by decide)).2.2.2 hS rfl dJ0_length_8abf5_4 ?_
  refine lv_aload_n hx hb dJ0_length_8abf5_5 rfl (lv_at hl 0 rfl) ?_
  obtain ⟨z6, hz6, hf⟩ := bind_s hf
  refine xV_ir hx hb hml hown htg LJ0_335 (c_J0_coder_7d493_s0 l E hz6 _) ⟨⟨rfl, rfl⟩, Nat.le_of_ble_eq_true rfl, Nat.le_of_ble_eq_true rfl⟩ hK hG hA hP hD hS (is := []) rfl rfl (vk_recv hG.1.1 (i := 0) (by decide) hS) rfl hl.1 rfl (Nat.le_of_ble_eq_true rfl) dJ0_length_8abf5_6 (fun H locs hP hD hS => ?_)
  refine lv_ishr hx hb dJ0_length_8abf5_9 ?_
  exact ret (129 >>> (z6 &&& 31)) hf nzi hP hS dJ0_length_8abf5_10
set_option maxRecDepth 100000 in
theorem c_J0_length_8abf5_s1 (l : Launch) (E : xE)  {z : Int32} (hf : f_J0_length_8abf5_s1 = some z) (sz : Nat) : Met l yJ0_length_8abf5 (Cond.code yJ0_length_8abf5 cJ0_length_8abf5 1 (some .int) :: gw) ({ frames := 1, cells := 0, slots := 0, locals := 20 }) (xPc E [.ref (E.2.2.1 1)] [] sz) (xQi E z [] [] sz) 0 0 (va_A [] sz) := by
  refine xM_i (by decide +kernel) (Nat.le_of_ble_eq_true rfl) ?_
  intro p e s m args below meth c A Q hx hb hml hown htg hK hG hA ret0 H locs ls hP hD hS hl
  have ret : ∀ (z' : Int32) {H : Heap} {locs : List Loc} {pc : Nat} {ls : Array Slot}, some z' = some z → narrow .int (.int z') = .int z' → va_P E.1 vwCl [] H → va_S A s.heap H locs → decode cJ0_length_8abf5 pc = .ok (.ireturn, 1) → W p l e ({ frames := 1, cells := 0, slots := 0, locals := 20 } : Room) s m args below meth c H locs 0 0 Q (F0 m pc ls [.int z']) := by
    intro z' H locs pc ls h
    cases h
    exact ret0
  replace hl : lv_has ls 1 [(0, .ref (E.2.2.1 1))] := hl
  unfold f_J0_length_8abf5_s1 at hf
  refine lv_aload_n hx hb dJ0_length_8abf5_0 rfl (lv_at hl 0 rfl) ?_
  refine vk_getf hx hb (hG.1.1.1 1 (by decide)).2.2.1 hS hown (htg _ flJ0_9) (fun _ h => h) dJ0_length_8abf5_1 ?_
  refine va_tlen (v := 4) hx hb (hG.1.1.1 1 (by decide)).2.2.2 hS rfl dJ0_length_8abf5_4 ?_
  refine lv_aload_n hx hb dJ0_length_8abf5_5 rfl (lv_at hl 0 rfl) ?_
  obtain ⟨z6, hz6, hf⟩ := bind_s hf
  refine xV_ir hx hb hml hown htg LJ0_335 (c_J0_coder_7d493_s1 l E hz6 _) ⟨⟨rfl, rfl⟩, Nat.le_of_ble_eq_true rfl, Nat.le_of_ble_eq_true rfl⟩ hK hG hA hP hD hS (is := []) rfl rfl (vk_recv hG.1.1 (i := 1) (by decide) hS) rfl hl.1 rfl (Nat.le_of_ble_eq_true rfl) dJ0_length_8abf5_6 (fun H locs hP hD hS => ?_)
  refine lv_ishr hx hb dJ0_length_8abf5_9 ?_
  exact ret (4 >>> (z6 &&& 31)) hf nzi hP hS dJ0_length_8abf5_10
theorem dJ1_canEncode_9a6ad_0 : decode cJ1_canEncode_9a6ad 0 = .ok (.iload_n 0, 1) := by decide +kernel
theorem dJ1_canEncode_9a6ad_1 : decode cJ1_canEncode_9a6ad 1 = .ok (.ifCond .lt 14, 3) := by decide +kernel
theorem dJ1_canEncode_9a6ad_4 : decode cJ1_canEncode_9a6ad 4 = .ok (.iload_n 0, 1) := by decide +kernel
theorem dJ1_canEncode_9a6ad_5 : decode cJ1_canEncode_9a6ad 5 = .ok (.sipush 255, 3) := by decide +kernel
theorem dJ1_canEncode_9a6ad_8 : decode cJ1_canEncode_9a6ad 8 = .ok (.if_icmp .gt 7, 3) := by decide +kernel
theorem dJ1_canEncode_9a6ad_11 : decode cJ1_canEncode_9a6ad 11 = .ok (.iconst 1, 1) := by decide +kernel
theorem dJ1_canEncode_9a6ad_12 : decode cJ1_canEncode_9a6ad 12 = .ok (.goto 4, 3) := by decide +kernel
theorem dJ1_canEncode_9a6ad_15 : decode cJ1_canEncode_9a6ad 15 = .ok (.iconst 0, 1) := by decide +kernel
theorem dJ1_canEncode_9a6ad_16 : decode cJ1_canEncode_9a6ad 16 = .ok (.ireturn, 1) := by decide +kernel
set_option maxRecDepth 100000 in
theorem c_J1_canEncode_9a6ad (l : Launch) (E : xE) {x0 : Int32} {z : Int32} (hf : f_J1_canEncode_9a6ad x0 = some z) (sz : Nat) : Met l yJ1_canEncode_9a6ad (Cond.code yJ1_canEncode_9a6ad cJ1_canEncode_9a6ad 1 (some .boolean) :: gw) ({ frames := 0, cells := 0, slots := 0, locals := 0 }) (xPc E [.int x0] [] sz) (xQi E z [] [] sz) 0 0 (va_A [] sz) := by
  refine xM_i (by decide +kernel) (Nat.le_of_ble_eq_true rfl) ?_
  intro p e s m args below meth c A Q hx hb hml hown htg hK hG hA ret0 H locs ls hP hD hS hl
  have ret : ∀ (z' : Int32) {H : Heap} {locs : List Loc} {pc : Nat} {ls : Array Slot}, some z' = some z → narrow .boolean (.int z') = .int z' → va_P E.1 vwCl [] H → va_S A s.heap H locs → decode cJ1_canEncode_9a6ad pc = .ok (.ireturn, 1) → W p l e ({ frames := 0, cells := 0, slots := 0, locals := 0 } : Room) s m args below meth c H locs 0 0 Q (F0 m pc ls [.int z']) := by
    intro z' H locs pc ls h
    cases h
    exact ret0
  replace hl : lv_has ls 1 [(0, .int x0)] := hl
  unfold f_J1_canEncode_9a6ad at hf
  refine lv_iload_n hx hb dJ1_canEncode_9a6ad_0 rfl (lv_at hl 0 rfl) ?_
  refine lv_if_lt (tgt := 15) hx hb dJ1_canEncode_9a6ad_1 (by decide) (fun c1 => ?_) (fun c1 => ?_)
  · have hf := it_t c1 hf
    refine lv_iconst (v := 0) hx hb dJ1_canEncode_9a6ad_15 rfl ?_
    exact ret 0 hf nz0 hP hS dJ1_canEncode_9a6ad_16
  · have hf := it_f c1 hf
    refine lv_iload_n hx hb dJ1_canEncode_9a6ad_4 rfl (lv_at hl 0 rfl) ?_
    refine lv_sipush (v := 255) hx hb dJ1_canEncode_9a6ad_5 rfl ?_
    refine lv_icmp_gt (tgt := 15) hx hb dJ1_canEncode_9a6ad_8 (by decide) (fun c8 => ?_) (fun c8 => ?_)
    · have hf := it_t c8 hf
      refine lv_iconst (v := 0) hx hb dJ1_canEncode_9a6ad_15 rfl ?_
      exact ret 0 hf nz0 hP hS dJ1_canEncode_9a6ad_16
    · have hf := it_f c8 hf
      refine lv_iconst (v := 1) hx hb dJ1_canEncode_9a6ad_11 rfl ?_
      refine lv_goto (tgt := 16) hx hb dJ1_canEncode_9a6ad_12 (by decide) ?_
      exact ret 1 hf nz1 hP hS dJ1_canEncode_9a6ad_16
theorem dJ1_indexOfChar_4cfef_0 : decode cJ1_indexOfChar_4cfef 0 = .ok (.iload_n 1, 1) := by decide +kernel
theorem dJ1_indexOfChar_4cfef_1 : decode cJ1_indexOfChar_4cfef 1 = .ok (.i2b, 1) := by decide +kernel
theorem dJ1_indexOfChar_4cfef_2 : decode cJ1_indexOfChar_4cfef 2 = .ok (.istore 4, 2) := by decide +kernel
theorem dJ1_indexOfChar_4cfef_4 : decode cJ1_indexOfChar_4cfef 4 = .ok (.iload_n 2, 1) := by decide +kernel
theorem dJ1_indexOfChar_4cfef_5 : decode cJ1_indexOfChar_4cfef 5 = .ok (.istore 5, 2) := by decide +kernel
theorem dJ1_indexOfChar_4cfef_7 : decode cJ1_indexOfChar_4cfef 7 = .ok (.iload 5, 2) := by decide +kernel
theorem dJ1_indexOfChar_4cfef_9 : decode cJ1_indexOfChar_4cfef 9 = .ok (.iload_n 3, 1) := by decide +kernel
theorem dJ1_indexOfChar_4cfef_10 : decode cJ1_indexOfChar_4cfef 10 = .ok (.if_icmp .ge 21, 3) := by decide +kernel
theorem dJ1_indexOfChar_4cfef_13 : decode cJ1_indexOfChar_4cfef 13 = .ok (.aload_n 0, 1) := by decide +kernel
theorem dJ1_indexOfChar_4cfef_14 : decode cJ1_indexOfChar_4cfef 14 = .ok (.iload 5, 2) := by decide +kernel
theorem dJ1_indexOfChar_4cfef_16 : decode cJ1_indexOfChar_4cfef 16 = .ok (.baload, 1) := by decide +kernel
theorem dJ1_indexOfChar_4cfef_17 : decode cJ1_indexOfChar_4cfef 17 = .ok (.iload 4, 2) := by decide +kernel
theorem dJ1_indexOfChar_4cfef_19 : decode cJ1_indexOfChar_4cfef 19 = .ok (.if_icmp .ne 6, 3) := by decide +kernel
theorem dJ1_indexOfChar_4cfef_22 : decode cJ1_indexOfChar_4cfef 22 = .ok (.iload 5, 2) := by decide +kernel
theorem dJ1_indexOfChar_4cfef_24 : decode cJ1_indexOfChar_4cfef 24 = .ok (.ireturn, 1) := by decide +kernel
theorem dJ1_indexOfChar_4cfef_25 : decode cJ1_indexOfChar_4cfef 25 = .ok (.iinc 5 1, 3) := by decide +kernel
theorem dJ1_indexOfChar_4cfef_28 : decode cJ1_indexOfChar_4cfef 28 = .ok (.goto (-21), 3) := by decide +kernel
theorem dJ1_indexOfChar_4cfef_31 : decode cJ1_indexOfChar_4cfef 31 = .ok (.iconst (-1), 1) := by decide +kernel
theorem dJ1_indexOfChar_4cfef_32 : decode cJ1_indexOfChar_4cfef 32 = .ok (.ireturn, 1) := by decide +kernel
set_option maxRecDepth 100000 in
theorem c_J1_indexOfChar_4cfef_sb1 (l : Launch) (E : xE) {x1 : Int32} {x2 : Int32} {x3 : Int32} {z : Int32} (hf : f_J1_indexOfChar_4cfef_sb1 x1 x2 x3 = some z) (sz : Nat) : Met l yJ1_indexOfChar_4cfef (Cond.code yJ1_indexOfChar_4cfef cJ1_indexOfChar_4cfef 6 (some .int) :: gw) ({ frames := 0, cells := 0, slots := 0, locals := 0 }) (xPc E [.ref (E.2.2.2 1), .int x1, .int x2, .int x3] [] sz) (xQi E z [] [] sz) 0 0 (va_A [] sz) := by
  refine xM_i (by decide +kernel) (Nat.le_of_ble_eq_true rfl) ?_
  intro p e s m args below meth c A Q hx hb hml hown htg hK hG hA ret0 H locs ls hP hD hS hl
  have ret : ∀ (z' : Int32) {H : Heap} {locs : List Loc} {pc : Nat} {ls : Array Slot}, some z' = some z → narrow .int (.int z') = .int z' → va_P E.1 vwCl [] H → va_S A s.heap H locs → decode cJ1_indexOfChar_4cfef pc = .ok (.ireturn, 1) → W p l e ({ frames := 0, cells := 0, slots := 0, locals := 0 } : Room) s m args below meth c H locs 0 0 Q (F0 m pc ls [.int z']) := by
    intro z' H locs pc ls h
    cases h
    exact ret0
  replace hl : lv_has ls 6 [(0, .ref (E.2.2.2 1)), (1, .int x1), (2, .int x2), (3, .int x3)] := hl
  have b7 : ∀ (n : Nat) (x4 : Int32) (x5 : Int32) (H : Heap) (locs : List Loc) (ls : Array Slot), f_J1_indexOfChar_4cfef_sb1_7 x1 x2 x3 n x4 x5 = some z → va_P E.1 vwCl [] H → va_D A [] → va_S A s.heap H locs → lv_has ls 6 [(0, .ref (E.2.2.2 1)), (3, .int x3), (4, .int x4), (5, .int x5)] → W p l e ({ frames := 0, cells := 0, slots := 0, locals := 0 } : Room) s m args below meth c H locs 0 0 Q (F0 m 7 ls []) := by
    intro n
    induction n with
    | zero => intro x4 x5 H locs ls hf; exact (nn_s hf).elim
    | succ n ih7 =>
      obtain ⟨k7, ek7⟩ : ∃ k, k = f_J1_indexOfChar_4cfef_sb1_7 x1 x2 x3 n := ⟨_, rfl⟩
      rw [← ek7] at ih7
      intro x4 x5 H locs ls hf hP hD hS hl
      replace hf : g_J1_indexOfChar_4cfef_sb1_7 x1 x2 x3 k7 x4 x5 = some z := by rw [ek7]; exact hf
      unfold g_J1_indexOfChar_4cfef_sb1_7 at hf
      refine lv_iload hx hb dJ1_indexOfChar_4cfef_7 (lv_at hl 3 rfl) ?_
      refine lv_iload_n hx hb dJ1_indexOfChar_4cfef_9 rfl (lv_at hl 1 rfl) ?_
      refine lv_icmp_ge (tgt := 31) hx hb dJ1_indexOfChar_4cfef_10 (by decide) (fun c10 => ?_) (fun c10 => ?_)
      · have hf := it_t c10 hf
        refine lv_iconst (v := (-1)) hx hb dJ1_indexOfChar_4cfef_31 rfl ?_
        exact ret (-1) hf nzi hP hS dJ1_indexOfChar_4cfef_32
      · have hf := it_f c10 hf
        refine lv_aload_n hx hb dJ1_indexOfChar_4cfef_13 rfl (lv_at hl 0 rfl) ?_
        refine lv_iload hx hb dJ1_indexOfChar_4cfef_14 (lv_at hl 3 rfl) ?_
        obtain ⟨g16, hf⟩ := ck_s hf
        refine va_tb hx hb (hG.1.1.1 1 (by decide)).2.2.2 hS (gd_in g16) rfl dJ1_indexOfChar_4cfef_16 ?_
        refine lv_iload hx hb dJ1_indexOfChar_4cfef_17 (lv_at hl 2 rfl) ?_
        refine lv_icmp_ne (tgt := 25) hx hb dJ1_indexOfChar_4cfef_19 (by decide) (fun c19 => ?_) (fun c19 => ?_)
        · have hf := it_f c19 hf
          refine lv_iinc (v := x5 + 1) (lv' := [(5, .int (x5 + 1)), (0, .ref (E.2.2.2 1)), (3, .int x3), (4, .int x4)]) hx hb dJ1_indexOfChar_4cfef_25 hl (k := 3) rfl rfl (by decide) rfl (fun ls hl => ?_)
          refine lv_goto (tgt := 7) hx hb dJ1_indexOfChar_4cfef_28 (by decide) ?_
          exact ih7 x4 (x5 + 1) _ _ _ hf hP hD hS (lv_sub hl [1, 2, 3, 0] rfl)
        · have hf := it_t c19 hf
          refine lv_iload hx hb dJ1_indexOfChar_4cfef_22 (lv_at hl 3 rfl) ?_
          exact ret x5 hf nzi hP hS dJ1_indexOfChar_4cfef_24
  unfold f_J1_indexOfChar_4cfef_sb1 at hf
  refine lv_iload_n hx hb dJ1_indexOfChar_4cfef_0 rfl (lv_at hl 1 rfl) ?_
  refine lv_i2b hx hb dJ1_indexOfChar_4cfef_1 rfl ?_
  refine lv_istore (lv' := [(4, .int (Int8.toInt32 (Int32.toInt8 x1))), (0, .ref (E.2.2.2 1)), (1, .int x1), (2, .int x2), (3, .int x3)]) hx hb dJ1_indexOfChar_4cfef_2 hl (by decide) rfl (fun ls hl => ?_)
  refine lv_iload_n hx hb dJ1_indexOfChar_4cfef_4 rfl (lv_at hl 3 rfl) ?_
  refine lv_istore (lv' := [(5, .int x2), (4, .int (Int8.toInt32 (Int32.toInt8 x1))), (0, .ref (E.2.2.2 1)), (1, .int x1), (2, .int x2), (3, .int x3)]) hx hb dJ1_indexOfChar_4cfef_5 hl (by decide) rfl (fun ls hl => ?_)
  exact b7 xF (Int8.toInt32 (Int32.toInt8 x1)) x2 _ _ _ hf hP hD hS (lv_sub hl [2, 5, 1, 0] rfl)
theorem dJ1_indexOf_4cfef_0 : decode cJ1_indexOf_4cfef 0 = .ok (.iload_n 1, 1) := by decide +kernel
theorem dJ1_indexOf_4cfef_1 : decode cJ1_indexOf_4cfef 1 = .ok (.invokestatic 88, 3) := by decide +kernel
theorem dJ1_indexOf_4cfef_4 : decode cJ1_indexOf_4cfef 4 = .ok (.ifCond .ne 5, 3) := by decide +kernel
theorem dJ1_indexOf_4cfef_7 : decode cJ1_indexOf_4cfef 7 = .ok (.iconst (-1), 1) := by decide +kernel
theorem dJ1_indexOf_4cfef_8 : decode cJ1_indexOf_4cfef 8 = .ok (.ireturn, 1) := by decide +kernel
theorem dJ1_indexOf_4cfef_9 : decode cJ1_indexOf_4cfef 9 = .ok (.iload_n 2, 1) := by decide +kernel
theorem dJ1_indexOf_4cfef_10 : decode cJ1_indexOf_4cfef 10 = .ok (.iconst 0, 1) := by decide +kernel
theorem dJ1_indexOf_4cfef_11 : decode cJ1_indexOf_4cfef 11 = .ok (.invokestatic 92, 3) := by decide +kernel
theorem dJ1_indexOf_4cfef_14 : decode cJ1_indexOf_4cfef 14 = .ok (.istore_n 2, 1) := by decide +kernel
theorem dJ1_indexOf_4cfef_15 : decode cJ1_indexOf_4cfef 15 = .ok (.iload_n 3, 1) := by decide +kernel
theorem dJ1_indexOf_4cfef_16 : decode cJ1_indexOf_4cfef 16 = .ok (.aload_n 0, 1) := by decide +kernel
theorem dJ1_indexOf_4cfef_17 : decode cJ1_indexOf_4cfef 17 = .ok (.arraylength, 1) := by decide +kernel
theorem dJ1_indexOf_4cfef_18 : decode cJ1_indexOf_4cfef 18 = .ok (.invokestatic 38, 3) := by decide +kernel
theorem dJ1_indexOf_4cfef_21 : decode cJ1_indexOf_4cfef 21 = .ok (.istore_n 3, 1) := by decide +kernel
theorem dJ1_indexOf_4cfef_22 : decode cJ1_indexOf_4cfef 22 = .ok (.iload_n 2, 1) := by decide +kernel
theorem dJ1_indexOf_4cfef_23 : decode cJ1_indexOf_4cfef 23 = .ok (.iload_n 3, 1) := by decide +kernel
theorem dJ1_indexOf_4cfef_24 : decode cJ1_indexOf_4cfef 24 = .ok (.if_icmp .lt 5, 3) := by decide +kernel
theorem dJ1_indexOf_4cfef_27 : decode cJ1_indexOf_4cfef 27 = .ok (.iconst (-1), 1) := by decide +kernel
theorem dJ1_indexOf_4cfef_28 : decode cJ1_indexOf_4cfef 28 = .ok (.ireturn, 1) := by decide +kernel
theorem dJ1_indexOf_4cfef_29 : decode cJ1_indexOf_4cfef 29 = .ok (.aload_n 0, 1) := by decide +kernel
theorem dJ1_indexOf_4cfef_30 : decode cJ1_indexOf_4cfef 30 = .ok (.iload_n 1, 1) := by decide +kernel
theorem dJ1_indexOf_4cfef_31 : decode cJ1_indexOf_4cfef 31 = .ok (.iload_n 2, 1) := by decide +kernel
theorem dJ1_indexOf_4cfef_32 : decode cJ1_indexOf_4cfef 32 = .ok (.iload_n 3, 1) := by decide +kernel
theorem dJ1_indexOf_4cfef_33 : decode cJ1_indexOf_4cfef 33 = .ok (.invokestatic 95, 3) := by decide +kernel
theorem dJ1_indexOf_4cfef_36 : decode cJ1_indexOf_4cfef 36 = .ok (.ireturn, 1) := by decide +kernel
set_option maxRecDepth 100000 in
theorem c_J1_indexOf_4cfef_sb1 (l : Launch) (E : xE) {x1 : Int32} {x2 : Int32} {x3 : Int32} {z : Int32} (hf : f_J1_indexOf_4cfef_sb1 x1 x2 x3 = some z) (sz : Nat) : Met l yJ1_indexOf_4cfef (Cond.code yJ1_indexOf_4cfef cJ1_indexOf_4cfef 4 (some .int) :: gw) ({ frames := 1, cells := 0, slots := 0, locals := 40 }) (xPc E [.ref (E.2.2.2 1), .int x1, .int x2, .int x3] [] sz) (xQi E z [] [] sz) 0 0 (va_A [] sz) := by
  refine xM_i (by decide +kernel) (Nat.le_of_ble_eq_true rfl) ?_
  intro p e s m args below meth c A Q hx hb hml hown htg hK hG hA ret0 H locs ls hP hD hS hl
  have ret : ∀ (z' : Int32) {H : Heap} {locs : List Loc} {pc : Nat} {ls : Array Slot}, some z' = some z → narrow .int (.int z') = .int z' → va_P E.1 vwCl [] H → va_S A s.heap H locs → decode cJ1_indexOf_4cfef pc = .ok (.ireturn, 1) → W p l e ({ frames := 1, cells := 0, slots := 0, locals := 40 } : Room) s m args below meth c H locs 0 0 Q (F0 m pc ls [.int z']) := by
    intro z' H locs pc ls h
    cases h
    exact ret0
  replace hl : lv_has ls 4 [(0, .ref (E.2.2.2 1)), (1, .int x1), (2, .int x2), (3, .int x3)] := hl
  unfold f_J1_indexOf_4cfef_sb1 at hf
  refine lv_iload_n hx hb dJ1_indexOf_4cfef_0 rfl (lv_at hl 1 rfl) ?_
  obtain ⟨z1, hz1, hf⟩ := bind_s hf
  refine xS_ir hx hb hml hown htg LJ1_88 (c_J1_canEncode_9a6ad l E hz1 _) ⟨⟨rfl, rfl⟩, Nat.le_of_ble_eq_true rfl, Nat.le_of_ble_eq_true rfl⟩ hK hG hA hP hD hS (is := []) rfl rfl rfl hl.1 rfl (Nat.le_of_ble_eq_true rfl) dJ1_indexOf_4cfef_1 (fun H locs hP hD hS => ?_)
  refine lv_if_ne (tgt := 9) hx hb dJ1_indexOf_4cfef_4 (by decide) (fun c4 => ?_) (fun c4 => ?_)
  · have hf := it_f c4 hf
    refine lv_iload_n hx hb dJ1_indexOf_4cfef_9 rfl (lv_at hl 2 rfl) ?_
    refine lv_iconst (v := 0) hx hb dJ1_indexOf_4cfef_10 rfl ?_
    refine xmax hx hb hml hl.1 hown htg mlJ1_92 (Nat.le_of_ble_eq_true rfl) (Nat.le_of_ble_eq_true rfl) dJ1_indexOf_4cfef_11 ?_
    refine lv_topi (fun w11 ew11 => ?_)
    have hf := letv_s ew11 hf
    refine lv_istore_n (lv' := [(2, .int w11), (0, .ref (E.2.2.2 1)), (1, .int x1), (3, .int x3)]) hx hb dJ1_indexOf_4cfef_14 rfl hl (by decide) rfl (fun ls hl => ?_)
    refine lv_iload_n hx hb dJ1_indexOf_4cfef_15 rfl (lv_at hl 3 rfl) ?_
    refine lv_aload_n hx hb dJ1_indexOf_4cfef_16 rfl (lv_at hl 1 rfl) ?_
    refine va_tlen (v := 4) hx hb (hG.1.1.1 1 (by decide)).2.2.2 hS rfl dJ1_indexOf_4cfef_17 ?_
    refine xmin hx hb hml hl.1 hown htg mlJ1_38 (Nat.le_of_ble_eq_true rfl) (Nat.le_of_ble_eq_true rfl) dJ1_indexOf_4cfef_18 ?_
    refine lv_topi (fun w18 ew18 => ?_)
    have hf := letv_s ew18 hf
    refine lv_istore_n (lv' := [(3, .int w18), (2, .int w11), (0, .ref (E.2.2.2 1)), (1, .int x1)]) hx hb dJ1_indexOf_4cfef_21 rfl hl (by decide) rfl (fun ls hl => ?_)
    refine lv_iload_n hx hb dJ1_indexOf_4cfef_22 rfl (lv_at hl 1 rfl) ?_
    refine lv_iload_n hx hb dJ1_indexOf_4cfef_23 rfl (lv_at hl 0 rfl) ?_
    refine lv_icmp_lt (tgt := 29) hx hb dJ1_indexOf_4cfef_24 (by decide) (fun c24 => ?_) (fun c24 => ?_)
    · have hf := it_t c24 hf
      refine lv_aload_n hx hb dJ1_indexOf_4cfef_29 rfl (lv_at hl 2 rfl) ?_
      refine lv_iload_n hx hb dJ1_indexOf_4cfef_30 rfl (lv_at hl 3 rfl) ?_
      refine lv_iload_n hx hb dJ1_indexOf_4cfef_31 rfl (lv_at hl 1 rfl) ?_
      refine lv_iload_n hx hb dJ1_indexOf_4cfef_32 rfl (lv_at hl 0 rfl) ?_
      obtain ⟨z33, hz33, hf⟩ := bind_s hf
      refine xS_ir hx hb hml hown htg LJ1_95 (c_J1_indexOfChar_4cfef_sb1 l E hz33 _) ⟨⟨rfl, rfl⟩, Nat.le_of_ble_eq_true rfl, Nat.le_of_ble_eq_true rfl⟩ hK hG hA hP hD hS (is := []) rfl rfl rfl hl.1 rfl (Nat.le_of_ble_eq_true rfl) dJ1_indexOf_4cfef_33 (fun H locs hP hD hS => ?_)
      exact ret z33 hf nzi hP hS dJ1_indexOf_4cfef_36
    · have hf := it_f c24 hf
      refine lv_iconst (v := (-1)) hx hb dJ1_indexOf_4cfef_27 rfl ?_
      exact ret (-1) hf nzi hP hS dJ1_indexOf_4cfef_28
  · have hf := it_t c4 hf
    refine lv_iconst (v := (-1)) hx hb dJ1_indexOf_4cfef_7 rfl ?_
    exact ret (-1) hf nzi hP hS dJ1_indexOf_4cfef_8
theorem dJ0_indexOf_7cf53_0 : decode cJ0_indexOf_7cf53 0 = .ok (.aload_n 0, 1) := by decide +kernel
theorem dJ0_indexOf_7cf53_1 : decode cJ0_indexOf_7cf53 1 = .ok (.invokevirtual 492, 3) := by decide +kernel
theorem dJ0_indexOf_7cf53_4 : decode cJ0_indexOf_7cf53 4 = .ok (.ifCond .eq 19, 3) := by decide +kernel
theorem dJ0_indexOf_7cf53_7 : decode cJ0_indexOf_7cf53 7 = .ok (.aload_n 0, 1) := by decide +kernel
theorem dJ0_indexOf_7cf53_8 : decode cJ0_indexOf_7cf53 8 = .ok (.getfield 9, 3) := by decide +kernel
theorem dJ0_indexOf_7cf53_11 : decode cJ0_indexOf_7cf53 11 = .ok (.iload_n 1, 1) := by decide +kernel
theorem dJ0_indexOf_7cf53_12 : decode cJ0_indexOf_7cf53 12 = .ok (.iload_n 2, 1) := by decide +kernel
theorem dJ0_indexOf_7cf53_13 : decode cJ0_indexOf_7cf53 13 = .ok (.aload_n 0, 1) := by decide +kernel
theorem dJ0_indexOf_7cf53_14 : decode cJ0_indexOf_7cf53 14 = .ok (.invokevirtual 505, 3) := by decide +kernel
theorem dJ0_indexOf_7cf53_17 : decode cJ0_indexOf_7cf53 17 = .ok (.invokestatic 637, 3) := by decide +kernel
theorem dJ0_indexOf_7cf53_20 : decode cJ0_indexOf_7cf53 20 = .ok (.goto 16, 3) := by decide +kernel
theorem dJ0_indexOf_7cf53_23 : decode cJ0_indexOf_7cf53 23 = .ok (.aload_n 0, 1) := by decide +kernel
theorem dJ0_indexOf_7cf53_24 : decode cJ0_indexOf_7cf53 24 = .ok (.getfield 9, 3) := by decide +kernel
theorem dJ0_indexOf_7cf53_27 : decode cJ0_indexOf_7cf53 27 = .ok (.iload_n 1, 1) := by decide +kernel
theorem dJ0_indexOf_7cf53_28 : decode cJ0_indexOf_7cf53 28 = .ok (.iload_n 2, 1) := by decide +kernel
theorem dJ0_indexOf_7cf53_29 : decode cJ0_indexOf_7cf53 29 = .ok (.aload_n 0, 1) := by decide +kernel
theorem dJ0_indexOf_7cf53_30 : decode cJ0_indexOf_7cf53 30 = .ok (.invokevirtual 505, 3) := by decide +kernel
theorem dJ0_indexOf_7cf53_33 : decode cJ0_indexOf_7cf53 33 = .ok (.invokestatic 640, 3) := by decide +kernel
theorem dJ0_indexOf_7cf53_36 : decode cJ0_indexOf_7cf53 36 = .ok (.ireturn, 1) := by decide +kernel
set_option maxRecDepth 100000 in
theorem c_J0_indexOf_7cf53_s1 (l : Launch) (E : xE) {x1 : Int32} {x2 : Int32} {z : Int32} (hf : f_J0_indexOf_7cf53_s1 x1 x2 = some z) (sz : Nat) : Met l yJ0_indexOf_7cf53 (Cond.code yJ0_indexOf_7cf53 cJ0_indexOf_7cf53 3 (some .int) :: gw) ({ frames := 2, cells := 0, slots := 0, locals := 63 }) (xPc E [.ref (E.2.2.1 1), .int x1, .int x2] [] sz) (xQi E z [] [] sz) 0 0 (va_A [] sz) := by
  refine xM_i (by decide +kernel) (Nat.le_of_ble_eq_true rfl) ?_
  intro p e s m args below meth c A Q hx hb hml hown htg hK hG hA ret0 H locs ls hP hD hS hl
  have ret : ∀ (z' : Int32) {H : Heap} {locs : List Loc} {pc : Nat} {ls : Array Slot}, some z' = some z → narrow .int (.int z') = .int z' → va_P E.1 vwCl [] H → va_S A s.heap H locs → decode cJ0_indexOf_7cf53 pc = .ok (.ireturn, 1) → W p l e ({ frames := 2, cells := 0, slots := 0, locals := 63 } : Room) s m args below meth c H locs 0 0 Q (F0 m pc ls [.int z']) := by
    intro z' H locs pc ls h
    cases h
    exact ret0
  replace hl : lv_has ls 3 [(0, .ref (E.2.2.1 1)), (1, .int x1), (2, .int x2)] := hl
  unfold f_J0_indexOf_7cf53_s1 at hf
  refine lv_aload_n hx hb dJ0_indexOf_7cf53_0 rfl (lv_at hl 0 rfl) ?_
  obtain ⟨z1, hz1, hf⟩ := bind_s hf
  refine xV_ir hx hb hml hown htg LJ0_492 (c_J0_isLatin1_aae02_s1 l E hz1 _) ⟨⟨rfl, rfl⟩, Nat.le_of_ble_eq_true rfl, Nat.le_of_ble_eq_true rfl⟩ hK hG hA hP hD hS (is := []) rfl rfl (vk_recv hG.1.1 (i := 1) (by decide) hS) rfl hl.1 rfl (Nat.le_of_ble_eq_true rfl) dJ0_indexOf_7cf53_1 (fun H locs hP hD hS => ?_)
  refine lv_if_eq (tgt := 23) hx hb dJ0_indexOf_7cf53_4 (by decide) (fun c4 => ?_) (fun c4 => ?_)
  · have hf := it_t c4 hf
    exact (nn_s hf).elim
  · have hf := it_f c4 hf
    refine lv_aload_n hx hb dJ0_indexOf_7cf53_7 rfl (lv_at hl 0 rfl) ?_
    refine vk_getf hx hb (hG.1.1.1 1 (by decide)).2.2.1 hS hown (htg _ flJ0_9) (fun _ h => h) dJ0_indexOf_7cf53_8 ?_
    refine lv_iload_n hx hb dJ0_indexOf_7cf53_11 rfl (lv_at hl 1 rfl) ?_
    refine lv_iload_n hx hb dJ0_indexOf_7cf53_12 rfl (lv_at hl 2 rfl) ?_
    refine lv_aload_n hx hb dJ0_indexOf_7cf53_13 rfl (lv_at hl 0 rfl) ?_
    obtain ⟨z14, hz14, hf⟩ := bind_s hf
    refine xV_ir hx hb hml hown htg LJ0_505 (c_J0_length_8abf5_s1 l E hz14 _) ⟨⟨rfl, rfl⟩, Nat.le_of_ble_eq_true rfl, Nat.le_of_ble_eq_true rfl⟩ hK hG hA hP hD hS (is := []) rfl rfl (vk_recv hG.1.1 (i := 1) (by decide) hS) rfl hl.1 rfl (Nat.le_of_ble_eq_true rfl) dJ0_indexOf_7cf53_14 (fun H locs hP hD hS => ?_)
    obtain ⟨z17, hz17, hf⟩ := bind_s hf
    refine xS_ir hx hb hml hown htg LJ0_637 (c_J1_indexOf_4cfef_sb1 l E hz17 _) ⟨⟨rfl, rfl⟩, Nat.le_of_ble_eq_true rfl, Nat.le_of_ble_eq_true rfl⟩ hK hG hA hP hD hS (is := []) rfl rfl rfl hl.1 rfl (Nat.le_of_ble_eq_true rfl) dJ0_indexOf_7cf53_17 (fun H locs hP hD hS => ?_)
    refine lv_goto (tgt := 36) hx hb dJ0_indexOf_7cf53_20 (by decide) ?_
    exact ret z17 hf nzi hP hS dJ0_indexOf_7cf53_36
theorem dJ0_indexOf_0f7a4_0 : decode cJ0_indexOf_0f7a4 0 = .ok (.aload_n 0, 1) := by decide +kernel
theorem dJ0_indexOf_0f7a4_1 : decode cJ0_indexOf_0f7a4 1 = .ok (.iload_n 1, 1) := by decide +kernel
theorem dJ0_indexOf_0f7a4_2 : decode cJ0_indexOf_0f7a4 2 = .ok (.iconst 0, 1) := by decide +kernel
theorem dJ0_indexOf_0f7a4_3 : decode cJ0_indexOf_0f7a4 3 = .ok (.invokevirtual 633, 3) := by decide +kernel
theorem dJ0_indexOf_0f7a4_6 : decode cJ0_indexOf_0f7a4 6 = .ok (.ireturn, 1) := by decide +kernel
set_option maxRecDepth 100000 in
theorem c_J0_indexOf_0f7a4_s1 (l : Launch) (E : xE) {x1 : Int32} {z : Int32} (hf : f_J0_indexOf_0f7a4_s1 x1 = some z) (sz : Nat) : Met l yJ0_indexOf_0f7a4 (Cond.code yJ0_indexOf_0f7a4 cJ0_indexOf_0f7a4 2 (some .int) :: gw) ({ frames := 3, cells := 0, slots := 0, locals := 85 }) (xPc E [.ref (E.2.2.1 1), .int x1] [] sz) (xQi E z [] [] sz) 0 0 (va_A [] sz) := by
  refine xM_i (by decide +kernel) (Nat.le_of_ble_eq_true rfl) ?_
  intro p e s m args below meth c A Q hx hb hml hown htg hK hG hA ret0 H locs ls hP hD hS hl
  have ret : ∀ (z' : Int32) {H : Heap} {locs : List Loc} {pc : Nat} {ls : Array Slot}, some z' = some z → narrow .int (.int z') = .int z' → va_P E.1 vwCl [] H → va_S A s.heap H locs → decode cJ0_indexOf_0f7a4 pc = .ok (.ireturn, 1) → W p l e ({ frames := 3, cells := 0, slots := 0, locals := 85 } : Room) s m args below meth c H locs 0 0 Q (F0 m pc ls [.int z']) := by
    intro z' H locs pc ls h
    cases h
    exact ret0
  replace hl : lv_has ls 2 [(0, .ref (E.2.2.1 1)), (1, .int x1)] := hl
  unfold f_J0_indexOf_0f7a4_s1 at hf
  refine lv_aload_n hx hb dJ0_indexOf_0f7a4_0 rfl (lv_at hl 0 rfl) ?_
  refine lv_iload_n hx hb dJ0_indexOf_0f7a4_1 rfl (lv_at hl 1 rfl) ?_
  refine lv_iconst (v := 0) hx hb dJ0_indexOf_0f7a4_2 rfl ?_
  obtain ⟨z3, hz3, hf⟩ := bind_s hf
  refine xV_ir hx hb hml hown htg LJ0_633 (c_J0_indexOf_7cf53_s1 l E hz3 _) ⟨⟨rfl, rfl⟩, Nat.le_of_ble_eq_true rfl, Nat.le_of_ble_eq_true rfl⟩ hK hG hA hP hD hS (is := []) rfl rfl (vk_recv hG.1.1 (i := 1) (by decide) hS) rfl hl.1 rfl (Nat.le_of_ble_eq_true rfl) dJ0_indexOf_0f7a4_3 (fun H locs hP hD hS => ?_)
  exact ret z3 hf nzi hP hS dJ0_indexOf_0f7a4_6
theorem dJ3_checkIndex_8e157_0 : decode cJ3_checkIndex_8e157 0 = .ok (.iload_n 0, 1) := by decide +kernel
theorem dJ3_checkIndex_8e157_1 : decode cJ3_checkIndex_8e157 1 = .ok (.ifCond .lt 8, 3) := by decide +kernel
theorem dJ3_checkIndex_8e157_4 : decode cJ3_checkIndex_8e157 4 = .ok (.iload_n 0, 1) := by decide +kernel
theorem dJ3_checkIndex_8e157_5 : decode cJ3_checkIndex_8e157 5 = .ok (.iload_n 1, 1) := by decide +kernel
theorem dJ3_checkIndex_8e157_6 : decode cJ3_checkIndex_8e157 6 = .ok (.if_icmp .lt 10, 3) := by decide +kernel
theorem dJ3_checkIndex_8e157_9 : decode cJ3_checkIndex_8e157 9 = .ok (.aload_n 2, 1) := by decide +kernel
theorem dJ3_checkIndex_8e157_10 : decode cJ3_checkIndex_8e157 10 = .ok (.iload_n 0, 1) := by decide +kernel
theorem dJ3_checkIndex_8e157_11 : decode cJ3_checkIndex_8e157 11 = .ok (.iload_n 1, 1) := by decide +kernel
theorem dJ3_checkIndex_8e157_12 : decode cJ3_checkIndex_8e157 12 = .ok (.invokestatic 95, 3) := by decide +kernel
theorem dJ3_checkIndex_8e157_15 : decode cJ3_checkIndex_8e157 15 = .ok (.athrow, 1) := by decide +kernel
theorem dJ3_checkIndex_8e157_16 : decode cJ3_checkIndex_8e157 16 = .ok (.iload_n 0, 1) := by decide +kernel
theorem dJ3_checkIndex_8e157_17 : decode cJ3_checkIndex_8e157 17 = .ok (.ireturn, 1) := by decide +kernel
set_option maxRecDepth 100000 in
theorem c_J3_checkIndex_8e157 (l : Launch) (E : xE) (fv : Option Nat) {x0 : Int32} {x1 : Int32} {z : Int32} (hf : f_J3_checkIndex_8e157 x0 x1 = some z) (sz : Nat) : Met l yJ3_checkIndex_8e157 (Cond.code yJ3_checkIndex_8e157 cJ3_checkIndex_8e157 3 (some .int) :: gw) ({ frames := 0, cells := 0, slots := 0, locals := 0 }) (xPc E [.int x0, .int x1, va_rf fv] [] sz) (xQi E z [] [] sz) 0 0 (va_A [] sz) := by
  refine xM_i (by decide +kernel) (by rcases fv with _ | fv <;> exact Nat.le_of_ble_eq_true rfl) ?_
  intro p e s m args below meth c A Q hx hb hml hown htg hK hG hA ret0 H locs ls hP hD hS hl
  have ret : ∀ (z' : Int32) {H : Heap} {locs : List Loc} {pc : Nat} {ls : Array Slot}, some z' = some z → narrow .int (.int z') = .int z' → va_P E.1 vwCl [] H → va_S A s.heap H locs → decode cJ3_checkIndex_8e157 pc = .ok (.ireturn, 1) → W p l e ({ frames := 0, cells := 0, slots := 0, locals := 0 } : Room) s m args below meth c H locs 0 0 Q (F0 m pc ls [.int z']) := by
    intro z' H locs pc ls h
    cases h
    exact ret0
  replace hl : lv_has ls 3 [(0, .int x0), (1, .int x1), (2, va_rf fv)] := hl
  have b9 : ∀  (H : Heap) (locs : List Loc) (ls : Array Slot), f_J3_checkIndex_8e157_9 x0 x1 = some z → va_P E.1 vwCl [] H → va_D A [] → va_S A s.heap H locs → lv_has ls 3 [(0, .int x0), (1, .int x1), (2, va_rf fv)] → W p l e ({ frames := 0, cells := 0, slots := 0, locals := 0 } : Room) s m args below meth c H locs 0 0 Q (F0 m 9 ls []) := by
    intro  H locs ls hf hP hD hS hl
    unfold f_J3_checkIndex_8e157_9 at hf
    exact (nn_s hf).elim
  unfold f_J3_checkIndex_8e157 at hf
  refine lv_iload_n hx hb dJ3_checkIndex_8e157_0 rfl (lv_at hl 0 rfl) ?_
  refine lv_if_lt (tgt := 9) hx hb dJ3_checkIndex_8e157_1 (by decide) (fun c1 => ?_) (fun c1 => ?_)
  · have hf := it_t c1 hf
    exact b9  _ _ _ hf hP hD hS (lv_sub hl [0, 1, 2] rfl)
  · have hf := it_f c1 hf
    refine lv_iload_n hx hb dJ3_checkIndex_8e157_4 rfl (lv_at hl 0 rfl) ?_
    refine lv_iload_n hx hb dJ3_checkIndex_8e157_5 rfl (lv_at hl 1 rfl) ?_
    refine lv_icmp_lt (tgt := 16) hx hb dJ3_checkIndex_8e157_6 (by decide) (fun c6 => ?_) (fun c6 => ?_)
    · have hf := it_t c6 hf
      refine lv_iload_n hx hb dJ3_checkIndex_8e157_16 rfl (lv_at hl 0 rfl) ?_
      exact ret x0 hf nzi hP hS dJ3_checkIndex_8e157_17
    · have hf := it_f c6 hf
      exact b9  _ _ _ hf hP hD hS (lv_sub hl [0, 1, 2] rfl)
theorem dJ0_checkIndex_df160_0 : decode cJ0_checkIndex_df160 0 = .ok (.iload_n 0, 1) := by decide +kernel
theorem dJ0_checkIndex_df160_1 : decode cJ0_checkIndex_df160 1 = .ok (.iload_n 1, 1) := by decide +kernel
theorem dJ0_checkIndex_df160_2 : decode cJ0_checkIndex_df160 2 = .ok (.getstatic 1053, 3) := by decide +kernel
theorem dJ0_checkIndex_df160_5 : decode cJ0_checkIndex_df160 5 = .ok (.invokestatic 1059, 3) := by decide +kernel
theorem dJ0_checkIndex_df160_8 : decode cJ0_checkIndex_df160 8 = .ok (.pop, 1) := by decide +kernel
theorem dJ0_checkIndex_df160_9 : decode cJ0_checkIndex_df160 9 = .ok (.return_, 1) := by decide +kernel
set_option maxRecDepth 100000 in
theorem c_J0_checkIndex_df160 (l : Launch) (E : xE) {x0 : Int32} {x1 : Int32} {z : Unit} (hf : f_J0_checkIndex_df160 x0 x1 = some z) (sz : Nat) : Met l yJ0_checkIndex_df160 (Cond.code yJ0_checkIndex_df160 cJ0_checkIndex_df160 2 none :: gw) ({ frames := 1, cells := 0, slots := 0, locals := 22 }) (xPc E [.int x0, .int x1] [] sz) (xQv E [] [] sz) 0 0 (va_A [] sz) := by
  refine xM_v (by decide +kernel) (Nat.le_of_ble_eq_true rfl) ?_
  intro p e s m args below meth c A Q hx hb hml hown htg hK hG hA ret0 H locs ls hP hD hS hl
  have ret : ∀ (z' : Unit) {H : Heap} {locs : List Loc} {pc : Nat} {ls : Array Slot}, some z' = some z → va_P E.1 vwCl [] H → va_S A s.heap H locs → decode cJ0_checkIndex_df160 pc = .ok (.return_, 1) → W p l e ({ frames := 1, cells := 0, slots := 0, locals := 22 } : Room) s m args below meth c H locs 0 0 Q (F0 m pc ls []) := by
    intro z' H locs pc ls h
    cases h
    exact ret0
  replace hl : lv_has ls 2 [(0, .int x0), (1, .int x1)] := hl
  unfold f_J0_checkIndex_df160 at hf
  refine lv_iload_n hx hb dJ0_checkIndex_df160_0 rfl (lv_at hl 0 rfl) ?_
  refine lv_iload_n hx hb dJ0_checkIndex_df160_1 rfl (lv_at hl 1 rfl) ?_
  obtain ⟨fv, hfv⟩ := hG.1.2.2
  refine va_gets hx hb hfv hS hown (htg _ flJ0_1053) (fun _ h => h) dJ0_checkIndex_df160_2 ?_
  obtain ⟨z5, hz5, hf⟩ := bind_s hf
  refine xS_ir hx hb hml hown htg LJ0_1059 (c_J3_checkIndex_8e157 l E fv hz5 _) ⟨⟨rfl, rfl⟩, Nat.le_of_ble_eq_true rfl, Nat.le_of_ble_eq_true rfl⟩ hK hG hA hP hD hS (is := []) rfl rfl rfl hl.1 rfl (Nat.le_of_ble_eq_true rfl) dJ0_checkIndex_df160_5 (fun H locs hP hD hS => ?_)
  refine lv_pop hx hb dJ0_checkIndex_df160_8 rfl ?_
  exact ret () hf hP hS dJ0_checkIndex_df160_9
theorem dJ1_charAt_3b067_0 : decode cJ1_charAt_3b067 0 = .ok (.iload_n 1, 1) := by decide +kernel
theorem dJ1_charAt_3b067_1 : decode cJ1_charAt_3b067 1 = .ok (.aload_n 0, 1) := by decide +kernel
theorem dJ1_charAt_3b067_2 : decode cJ1_charAt_3b067 2 = .ok (.arraylength, 1) := by decide +kernel
theorem dJ1_charAt_3b067_3 : decode cJ1_charAt_3b067 3 = .ok (.invokestatic 9, 3) := by decide +kernel
theorem dJ1_charAt_3b067_6 : decode cJ1_charAt_3b067 6 = .ok (.aload_n 0, 1) := by decide +kernel
theorem dJ1_charAt_3b067_7 : decode cJ1_charAt_3b067 7 = .ok (.iload_n 1, 1) := by decide +kernel
theorem dJ1_charAt_3b067_8 : decode cJ1_charAt_3b067 8 = .ok (.baload, 1) := by decide +kernel
theorem dJ1_charAt_3b067_9 : decode cJ1_charAt_3b067 9 = .ok (.sipush 255, 3) := by decide +kernel
theorem dJ1_charAt_3b067_12 : decode cJ1_charAt_3b067 12 = .ok (.iand, 1) := by decide +kernel
theorem dJ1_charAt_3b067_13 : decode cJ1_charAt_3b067 13 = .ok (.i2c, 1) := by decide +kernel
theorem dJ1_charAt_3b067_14 : decode cJ1_charAt_3b067 14 = .ok (.ireturn, 1) := by decide +kernel
set_option maxRecDepth 100000 in
theorem c_J1_charAt_3b067_sb0 (l : Launch) (E : xE) {x1 : Int32} {z : Int32} (hf : f_J1_charAt_3b067_sb0 x1 = some z) (sz : Nat) : Met l yJ1_charAt_3b067 (Cond.code yJ1_charAt_3b067 cJ1_charAt_3b067 2 (some .char) :: gw) ({ frames := 2, cells := 0, slots := 0, locals := 43 }) (xPc E [.ref (E.2.2.2 0), .int x1] [] sz) (xQi E z [] [] sz) 0 0 (va_A [] sz) := by
  refine xM_i (by decide +kernel) (Nat.le_of_ble_eq_true rfl) ?_
  intro p e s m args below meth c A Q hx hb hml hown htg hK hG hA ret0 H locs ls hP hD hS hl
  have ret : ∀ (z' : Int32) {H : Heap} {locs : List Loc} {pc : Nat} {ls : Array Slot}, some z' = some z → narrow .char (.int z') = .int z' → va_P E.1 vwCl [] H → va_S A s.heap H locs → decode cJ1_charAt_3b067 pc = .ok (.ireturn, 1) → W p l e ({ frames := 2, cells := 0, slots := 0, locals := 43 } : Room) s m args below meth c H locs 0 0 Q (F0 m pc ls [.int z']) := by
    intro z' H locs pc ls h
    cases h
    exact ret0
  replace hl : lv_has ls 2 [(0, .ref (E.2.2.2 0)), (1, .int x1)] := hl
  unfold f_J1_charAt_3b067_sb0 at hf
  refine lv_iload_n hx hb dJ1_charAt_3b067_0 rfl (lv_at hl 1 rfl) ?_
  refine lv_aload_n hx hb dJ1_charAt_3b067_1 rfl (lv_at hl 0 rfl) ?_
  refine va_tlen (v := 129) hx hb (hG.1.1.1 0 (by decide)).2.2.2 hS rfl dJ1_charAt_3b067_2 ?_
  obtain ⟨z3, hz3, hf⟩ := bind_s hf
  refine xS_vr hx hb hml hown htg LJ1_9 (c_J0_checkIndex_df160 l E hz3 _) ⟨⟨rfl, rfl⟩, Nat.le_of_ble_eq_true rfl, Nat.le_of_ble_eq_true rfl⟩ hK hG hA hP hD hS (is := []) rfl rfl rfl hl.1 rfl (Nat.le_of_ble_eq_true rfl) dJ1_charAt_3b067_3 (fun H locs hP hD hS => ?_)
  refine lv_aload_n hx hb dJ1_charAt_3b067_6 rfl (lv_at hl 0 rfl) ?_
  refine lv_iload_n hx hb dJ1_charAt_3b067_7 rfl (lv_at hl 1 rfl) ?_
  obtain ⟨g8, hf⟩ := ck_s hf
  refine va_tb hx hb (hG.1.1.1 0 (by decide)).2.2.2 hS (gd_in g8) rfl dJ1_charAt_3b067_8 ?_
  refine lv_sipush (v := 255) hx hb dJ1_charAt_3b067_9 rfl ?_
  refine lv_iand hx hb dJ1_charAt_3b067_12 ?_
  refine lv_i2c hx hb dJ1_charAt_3b067_13 rfl ?_
  obtain ⟨g14, hf⟩ := ck_s hf
  exact ret ((Int32.toUInt32 ((sby 0 (Int32.toNatClampNeg x1)) &&& 255) % 65536).toInt32) hf (bc_n g14) hP hS dJ1_charAt_3b067_14
theorem dJ0_charAt_5068e_0 : decode cJ0_charAt_5068e 0 = .ok (.aload_n 0, 1) := by decide +kernel
theorem dJ0_charAt_5068e_1 : decode cJ0_charAt_5068e 1 = .ok (.invokevirtual 492, 3) := by decide +kernel
theorem dJ0_charAt_5068e_4 : decode cJ0_charAt_5068e 4 = .ok (.ifCond .eq 12, 3) := by decide +kernel
theorem dJ0_charAt_5068e_7 : decode cJ0_charAt_5068e 7 = .ok (.aload_n 0, 1) := by decide +kernel
theorem dJ0_charAt_5068e_8 : decode cJ0_charAt_5068e 8 = .ok (.getfield 9, 3) := by decide +kernel
theorem dJ0_charAt_5068e_11 : decode cJ0_charAt_5068e 11 = .ok (.iload_n 1, 1) := by decide +kernel
theorem dJ0_charAt_5068e_12 : decode cJ0_charAt_5068e 12 = .ok (.invokestatic 495, 3) := by decide +kernel
theorem dJ0_charAt_5068e_15 : decode cJ0_charAt_5068e 15 = .ok (.ireturn, 1) := by decide +kernel
theorem dJ0_charAt_5068e_16 : decode cJ0_charAt_5068e 16 = .ok (.aload_n 0, 1) := by decide +kernel
theorem dJ0_charAt_5068e_17 : decode cJ0_charAt_5068e 17 = .ok (.getfield 9, 3) := by decide +kernel
theorem dJ0_charAt_5068e_20 : decode cJ0_charAt_5068e 20 = .ok (.iload_n 1, 1) := by decide +kernel
theorem dJ0_charAt_5068e_21 : decode cJ0_charAt_5068e 21 = .ok (.invokestatic 498, 3) := by decide +kernel
theorem dJ0_charAt_5068e_24 : decode cJ0_charAt_5068e 24 = .ok (.ireturn, 1) := by decide +kernel
set_option maxRecDepth 100000 in
theorem c_J0_charAt_5068e_s0 (l : Launch) (E : xE) {x1 : Int32} {z : Int32} (hf : f_J0_charAt_5068e_s0 x1 = some z) (sz : Nat) : Met l yJ0_charAt_5068e (Cond.code yJ0_charAt_5068e cJ0_charAt_5068e 2 (some .char) :: gw) ({ frames := 3, cells := 0, slots := 0, locals := 64 }) (xPc E [.ref (E.2.2.1 0), .int x1] [] sz) (xQi E z [] [] sz) 0 0 (va_A [] sz) := by
  refine xM_i (by decide +kernel) (Nat.le_of_ble_eq_true rfl) ?_
  intro p e s m args below meth c A Q hx hb hml hown htg hK hG hA ret0 H locs ls hP hD hS hl
  have ret : ∀ (z' : Int32) {H : Heap} {locs : List Loc} {pc : Nat} {ls : Array Slot}, some z' = some z → narrow .char (.int z') = .int z' → va_P E.1 vwCl [] H → va_S A s.heap H locs → decode cJ0_charAt_5068e pc = .ok (.ireturn, 1) → W p l e ({ frames := 3, cells := 0, slots := 0, locals := 64 } : Room) s m args below meth c H locs 0 0 Q (F0 m pc ls [.int z']) := by
    intro z' H locs pc ls h
    cases h
    exact ret0
  replace hl : lv_has ls 2 [(0, .ref (E.2.2.1 0)), (1, .int x1)] := hl
  unfold f_J0_charAt_5068e_s0 at hf
  refine lv_aload_n hx hb dJ0_charAt_5068e_0 rfl (lv_at hl 0 rfl) ?_
  obtain ⟨z1, hz1, hf⟩ := bind_s hf
  refine xV_ir hx hb hml hown htg LJ0_492 (c_J0_isLatin1_aae02_s0 l E hz1 _) ⟨⟨rfl, rfl⟩, Nat.le_of_ble_eq_true rfl, Nat.le_of_ble_eq_true rfl⟩ hK hG hA hP hD hS (is := []) rfl rfl (vk_recv hG.1.1 (i := 0) (by decide) hS) rfl hl.1 rfl (Nat.le_of_ble_eq_true rfl) dJ0_charAt_5068e_1 (fun H locs hP hD hS => ?_)
  refine lv_if_eq (tgt := 16) hx hb dJ0_charAt_5068e_4 (by decide) (fun c4 => ?_) (fun c4 => ?_)
  · have hf := it_t c4 hf
    exact (nn_s hf).elim
  · have hf := it_f c4 hf
    refine lv_aload_n hx hb dJ0_charAt_5068e_7 rfl (lv_at hl 0 rfl) ?_
    refine vk_getf hx hb (hG.1.1.1 0 (by decide)).2.2.1 hS hown (htg _ flJ0_9) (fun _ h => h) dJ0_charAt_5068e_8 ?_
    refine lv_iload_n hx hb dJ0_charAt_5068e_11 rfl (lv_at hl 1 rfl) ?_
    obtain ⟨z12, hz12, hf⟩ := bind_s hf
    refine xS_ir hx hb hml hown htg LJ0_495 (c_J1_charAt_3b067_sb0 l E hz12 _) ⟨⟨rfl, rfl⟩, Nat.le_of_ble_eq_true rfl, Nat.le_of_ble_eq_true rfl⟩ hK hG hA hP hD hS (is := []) rfl rfl rfl hl.1 rfl (Nat.le_of_ble_eq_true rfl) dJ0_charAt_5068e_12 (fun H locs hP hD hS => ?_)
    obtain ⟨g15, hf⟩ := ck_s hf
    exact ret z12 hf (bc_n g15) hP hS dJ0_charAt_5068e_15
