theorem dX12_empties_0 : decode cX12_empties 0 = .ok (.iconst 0, 1) := by decide +kernel
theorem dX12_empties_1 : decode cX12_empties 1 = .ok (.istore_n 2, 1) := by decide +kernel
theorem dX12_empties_2 : decode cX12_empties 2 = .ok (.iload_n 2, 1) := by decide +kernel
theorem dX12_empties_3 : decode cX12_empties 3 = .ok (.sipush 372, 3) := by decide +kernel
theorem dX12_empties_6 : decode cX12_empties 6 = .ok (.if_icmp .ge 22, 3) := by decide +kernel
theorem dX12_empties_9 : decode cX12_empties 9 = .ok (.aload_n 0, 1) := by decide +kernel
theorem dX12_empties_10 : decode cX12_empties 10 = .ok (.getfield 35, 3) := by decide +kernel
theorem dX12_empties_13 : decode cX12_empties 13 = .ok (.sipush 372, 3) := by decide +kernel
theorem dX12_empties_16 : decode cX12_empties 16 = .ok (.iload_n 1, 1) := by decide +kernel
theorem dX12_empties_17 : decode cX12_empties 17 = .ok (.imul, 1) := by decide +kernel
theorem dX12_empties_18 : decode cX12_empties 18 = .ok (.iload_n 2, 1) := by decide +kernel
theorem dX12_empties_19 : decode cX12_empties 19 = .ok (.iadd, 1) := by decide +kernel
theorem dX12_empties_20 : decode cX12_empties 20 = .ok (.iconst 0, 1) := by decide +kernel
theorem dX12_empties_21 : decode cX12_empties 21 = .ok (.iastore, 1) := by decide +kernel
theorem dX12_empties_22 : decode cX12_empties 22 = .ok (.iinc 2 1, 3) := by decide +kernel
theorem dX12_empties_25 : decode cX12_empties 25 = .ok (.goto (-23), 3) := by decide +kernel
theorem dX12_empties_28 : decode cX12_empties 28 = .ok (.aload_n 0, 1) := by decide +kernel
theorem dX12_empties_29 : decode cX12_empties 29 = .ok (.getfield 35, 3) := by decide +kernel
theorem dX12_empties_32 : decode cX12_empties 32 = .ok (.sipush 372, 3) := by decide +kernel
theorem dX12_empties_35 : decode cX12_empties 35 = .ok (.iload_n 1, 1) := by decide +kernel
theorem dX12_empties_36 : decode cX12_empties 36 = .ok (.imul, 1) := by decide +kernel
theorem dX12_empties_37 : decode cX12_empties 37 = .ok (.iconst 4, 1) := by decide +kernel
theorem dX12_empties_38 : decode cX12_empties 38 = .ok (.iadd, 1) := by decide +kernel
theorem dX12_empties_39 : decode cX12_empties 39 = .ok (.iconst 4, 1) := by decide +kernel
theorem dX12_empties_40 : decode cX12_empties 40 = .ok (.iastore, 1) := by decide +kernel
theorem dX12_empties_41 : decode cX12_empties 41 = .ok (.return_, 1) := by decide +kernel
set_option maxRecDepth 100000 in
theorem c_X12_empties (l : Launch) (E : xE) (a0 a1 : Nat) {T0 : Nat → Int32} {J0_2 : Int64} {J0_3 : Int64} {J0_19 : Int64} {V1 : Nat → Int32} {u0_4 u0_5 u0_6 u0_7 u0_21 u0_22 u0_27 u0_28 u0_31 u0_32 : Nat} {x1 : Int32} {z : (Nat → Int32)} (hf : f_X12_empties V1 x1 = some z) (sz : Nat) : Met l yX12_empties (Cond.code yX12_empties cX12_empties 3 none :: gw) ({ frames := 0, cells := 0, slots := 0, locals := 0 }) (xPc E [.ref a0, .int x1] [(a0, o12 T0 J0_2 J0_3 J0_19 u0_4 u0_5 u0_6 u0_7 a1 u0_21 u0_22 u0_27 u0_28 u0_31 u0_32), (a1, ai E 1860 V1)] sz) (xQv E [(a0, o12 T0 J0_2 J0_3 J0_19 u0_4 u0_5 u0_6 u0_7 a1 u0_21 u0_22 u0_27 u0_28 u0_31 u0_32), (a1, ai E 1860 V1)] [(a0, o12 T0 J0_2 J0_3 J0_19 u0_4 u0_5 u0_6 u0_7 a1 u0_21 u0_22 u0_27 u0_28 u0_31 u0_32), (a1, ai E 1860 z)] sz) 0 0 (va_A [(a0, o12 T0 J0_2 J0_3 J0_19 u0_4 u0_5 u0_6 u0_7 a1 u0_21 u0_22 u0_27 u0_28 u0_31 u0_32), (a1, ai E 1860 V1)] sz) := by
  refine xM_v (by decide +kernel) (Nat.le_of_ble_eq_true rfl) ?_
  intro p e s m args below meth c A Q hx hb hml hown htg hK hG hA ret0 H locs ls hP hD hS hl
  have ret : ∀ (z' : (Nat → Int32)) {H : Heap} {locs : List Loc} {pc : Nat} {ls : Array Slot}, some z' = some z → va_P E.1 vwCl [(a0, o12 T0 J0_2 J0_3 J0_19 u0_4 u0_5 u0_6 u0_7 a1 u0_21 u0_22 u0_27 u0_28 u0_31 u0_32), (a1, ai E 1860 z')] H → va_S A s.heap H locs → decode cX12_empties pc = .ok (.return_, 1) → W p l e ({ frames := 0, cells := 0, slots := 0, locals := 0 } : Room) s m args below meth c H locs 0 0 Q (F0 m pc ls []) := by
    intro z' H locs pc ls h
    cases h
    exact ret0
  replace hl : lv_has ls 3 [(0, .ref a0), (1, .int x1)] := hl
  have b2 : ∀ (n : Nat) (x2 : Int32) (V1 : Nat → Int32) (H : Heap) (locs : List Loc) (ls : Array Slot), f_X12_empties_2 x1 n x2 V1 = some z → va_P E.1 vwCl [(a0, o12 T0 J0_2 J0_3 J0_19 u0_4 u0_5 u0_6 u0_7 a1 u0_21 u0_22 u0_27 u0_28 u0_31 u0_32), (a1, ai E 1860 V1)] H → va_D A [(a0, o12 T0 J0_2 J0_3 J0_19 u0_4 u0_5 u0_6 u0_7 a1 u0_21 u0_22 u0_27 u0_28 u0_31 u0_32), (a1, ai E 1860 V1)] → va_S A s.heap H locs → lv_has ls 3 [(0, .ref a0), (1, .int x1), (2, .int x2)] → W p l e ({ frames := 0, cells := 0, slots := 0, locals := 0 } : Room) s m args below meth c H locs 0 0 Q (F0 m 2 ls []) := by
    intro n
    induction n with
    | zero => intro x2 V1 H locs ls hf; exact (nn_s hf).elim
    | succ n ih2 =>
      obtain ⟨k2, ek2⟩ : ∃ k, k = f_X12_empties_2 x1 n := ⟨_, rfl⟩
      rw [← ek2] at ih2
      intro x2 V1 H locs ls hf hP hD hS hl
      replace hf : g_X12_empties_2 x1 k2 x2 V1 = some z := by rw [ek2]; exact hf
      unfold g_X12_empties_2 at hf
      refine lv_iload_n hx hb dX12_empties_2 rfl (lv_at hl 2 rfl) ?_
      refine lv_sipush (v := 372) hx hb dX12_empties_3 rfl ?_
      refine lv_icmp_ge (tgt := 28) hx hb dX12_empties_6 (by decide) (fun c6 => ?_) (fun c6 => ?_)
      · have hf := it_t c6 hf
        refine lv_aload_n hx hb dX12_empties_28 rfl (lv_at hl 0 rfl) ?_
        refine G12_35 hx hb htg hown hK hP 0 rfl dX12_empties_29 ?_
        refine lv_sipush (v := 372) hx hb dX12_empties_32 rfl ?_
        refine lv_iload_n hx hb dX12_empties_35 rfl (lv_at hl 1 rfl) ?_
        refine lv_imul hx hb dX12_empties_36 ?_
        refine lv_iconst (v := 4) hx hb dX12_empties_37 rfl ?_
        refine lv_iadd hx hb dX12_empties_38 ?_
        refine lv_iconst (v := 4) hx hb dX12_empties_39 rfl ?_
        obtain ⟨g40, hf⟩ := ck_s hf
        refine xiast hx hb hK hP hD hS 1 rfl g40 dX12_empties_40 (fun H locs hP hD hS => ?_)
        exact ret (upd V1 (Int32.toNatClampNeg ((372 * x1) + 4)) 4) hf hP hS dX12_empties_41
      · have hf := it_f c6 hf
        refine lv_aload_n hx hb dX12_empties_9 rfl (lv_at hl 0 rfl) ?_
        refine G12_35 hx hb htg hown hK hP 0 rfl dX12_empties_10 ?_
        refine lv_sipush (v := 372) hx hb dX12_empties_13 rfl ?_
        refine lv_iload_n hx hb dX12_empties_16 rfl (lv_at hl 1 rfl) ?_
        refine lv_imul hx hb dX12_empties_17 ?_
        refine lv_iload_n hx hb dX12_empties_18 rfl (lv_at hl 2 rfl) ?_
        refine lv_iadd hx hb dX12_empties_19 ?_
        refine lv_iconst (v := 0) hx hb dX12_empties_20 rfl ?_
        obtain ⟨g21, hf⟩ := ck_s hf
        refine xiast hx hb hK hP hD hS 1 rfl g21 dX12_empties_21 (fun H locs hP hD hS => ?_)
        refine lv_iinc (v := x2 + 1) (lv' := [(2, .int (x2 + 1)), (0, .ref a0), (1, .int x1)]) hx hb dX12_empties_22 hl (k := 2) rfl rfl (by decide) rfl (fun ls hl => ?_)
        refine lv_goto (tgt := 2) hx hb dX12_empties_25 (by decide) ?_
        exact ih2 (x2 + 1) (upd V1 (Int32.toNatClampNeg ((372 * x1) + x2)) 0) _ _ _ hf hP hD hS (lv_sub hl [1, 2, 0] rfl)
  unfold f_X12_empties at hf
  refine lv_iconst (v := 0) hx hb dX12_empties_0 rfl ?_
  refine lv_istore_n (lv' := [(2, .int 0), (0, .ref a0), (1, .int x1)]) hx hb dX12_empties_1 rfl hl (by decide) rfl (fun ls hl => ?_)
  exact b2 xF 0 V1 _ _ _ hf hP hD hS (lv_sub hl [1, 2, 0] rfl)
