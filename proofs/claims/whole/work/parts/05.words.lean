abbrev o0 (T : Nat → Int32) (r3 : Nat) (r4 : Nat) (r5 : Nat) (r6 : Nat) (r7 : Nat) : va_E := .inr (0, [.int (T 0), .int (T 1), .int (T 2), .ref r3, .ref r4, .ref r5, .ref r6, .ref r7])
abbrev o1 (r0 : Nat) (r1 : Nat) : va_E := .inr (1, [.ref r0, .ref r1])
abbrev o2 (r0 : Nat) (r1 : Nat) : va_E := .inr (2, [.ref r0, .ref r1])
abbrev o3 (T : Nat → Int32) (r7 : Nat) (r8 : Nat) (r9 : Nat) (r10 : Nat) (r11 : Nat) (r12 : Nat) (r13 : Nat) (r14 : Nat) : va_E := .inr (3, [.int (T 0), .int (T 1), .int (T 2), .int (T 3), .int (T 4), .int (T 5), .int (T 6), .ref r7, .ref r8, .ref r9, .ref r10, .ref r11, .ref r12, .ref r13, .ref r14])
abbrev o4 (T : Nat → Int32) : va_E := .inr (4, [.int (T 1), .int (T 2)])
abbrev o5 (T : Nat → Int32) (r0 : Nat) (r1 : Nat) (r3 : Nat) (r4 : Nat) (r5 : Nat) : va_E := .inr (5, [.ref r0, .ref r1, .int (T 2), .ref r3, .ref r4, .ref r5, .int (T 6)])
abbrev o6 (T : Nat → Int32) (r0 : Nat) (r1 : Nat) (r2 : Nat) : va_E := .inr (6, [.ref r0, .ref r1, .ref r2, .int (T 3), .int (T 4), .int (T 5)])
abbrev o7 (r0 : Nat) : va_E := .inr (7, [.ref r0])
abbrev o8 (T : Nat → Int32) (j8 : Int64) (r0 : Nat) (r1 : Nat) : va_E := .inr (8, [.ref r0, .ref r1, .int (T 2), .int (T 3), .int (T 4), .int (T 5), .int (T 6), .int (T 7), .long j8, .int (T 9), .int (T 10)])
abbrev o9 (r0 : Nat) (r1 : Nat) (r2 : Nat) : va_E := .inr (9, [.ref r0, .ref r1, .ref r2])
abbrev o10 (T : Nat → Int32) (r0 : Nat) : va_E := .inr (10, [.ref r0, .int (T 3), .int (T 4), .int (T 5), .int (T 6), .int (T 7), .int (T 8)])
abbrev o11 (T : Nat → Int32) (j15 : Int64) (j16 : Int64) (r0 : Nat) (r1 : Nat) (r2 : Nat) (r3 : Nat) (r4 : Nat) (r5 : Nat) (r6 : Nat) (r7 : Nat) (r8 : Nat) (r9 : Nat) (r11 : Nat) (r12 : Nat) (r13 : Nat) : va_E := .inr (11, [.ref r0, .ref r1, .ref r2, .ref r3, .ref r4, .ref r5, .ref r6, .ref r7, .ref r8, .ref r9, .int (T 10), .ref r11, .ref r12, .ref r13, .int (T 14), .long j15, .long j16, .int (T 17), .int (T 18)])
abbrev o12 (T : Nat → Int32) (j2 : Int64) (j3 : Int64) (j19 : Int64) (r4 : Nat) (r5 : Nat) (r6 : Nat) (r7 : Nat) (r20 : Nat) (r21 : Nat) (r22 : Nat) (r27 : Nat) (r28 : Nat) (r31 : Nat) (r32 : Nat) : va_E := .inr (12, [.int (T 0), .int (T 1), .long j2, .long j3, .ref r4, .ref r5, .ref r6, .ref r7, .int (T 8), .int (T 9), .int (T 10), .int (T 11), .int (T 12), .int (T 13), .int (T 14), .int (T 15), .int (T 16), .int (T 17), .int (T 18), .long j19, .ref r20, .ref r21, .ref r22, .int (T 23), .int (T 24), .int (T 25), .int (T 26), .ref r27, .ref r28, .int (T 29), .int (T 30), .ref r31, .ref r32, .int (T 33), .int (T 34), .int (T 35), .int (T 36), .int (T 37), .int (T 38), .int (T 39), .int (T 40), .int (T 41)])
theorem hwX0 : ∀ w ∈ u_ws RX0 TX0 8, w ∈ gw := by
  show ∀ w ∈ [u_lay RX0 TX0 0, u_lay RX0 TX0 1, u_lay RX0 TX0 2, u_lay RX0 TX0 3, u_lay RX0 TX0 4, u_lay RX0 TX0 5, u_lay RX0 TX0 6, u_lay RX0 TX0 7], w ∈ gw
  exact List.forall_mem_cons.mpr ⟨gw_t (tb2 67 rfl) rfl, List.forall_mem_cons.mpr ⟨gw_t (tb2 69 rfl) rfl, List.forall_mem_cons.mpr ⟨gw_t (tb2 71 rfl) rfl, List.forall_mem_cons.mpr ⟨gw_t (tb2 73 rfl) rfl, List.forall_mem_cons.mpr ⟨gw_t (tb2 75 rfl) rfl, List.forall_mem_cons.mpr ⟨gw_t (tb2 77 rfl) rfl, List.forall_mem_cons.mpr ⟨gw_t (tb2 79 rfl) rfl, List.forall_mem_cons.mpr ⟨gw_t (tb2 81 rfl) rfl, fun _ h => absurd h List.not_mem_nil⟩⟩⟩⟩⟩⟩⟩⟩
theorem hwX1 : ∀ w ∈ u_ws RX1 TX1 2, w ∈ gw := by
  show ∀ w ∈ [u_lay RX1 TX1 0, u_lay RX1 TX1 1], w ∈ gw
  exact List.forall_mem_cons.mpr ⟨gw_t (tb1 230 rfl) rfl, List.forall_mem_cons.mpr ⟨gw_t (tb1 232 rfl) rfl, fun _ h => absurd h List.not_mem_nil⟩⟩
theorem hwX2 : ∀ w ∈ u_ws RX2 TX2 2, w ∈ gw := by
  show ∀ w ∈ [u_lay RX2 TX2 0, u_lay RX2 TX2 1], w ∈ gw
  exact List.forall_mem_cons.mpr ⟨gw_t (tb2 3 rfl) rfl, List.forall_mem_cons.mpr ⟨gw_t (tb2 5 rfl) rfl, fun _ h => absurd h List.not_mem_nil⟩⟩
theorem hwX3 : ∀ w ∈ u_ws RX3 TX3 15, w ∈ gw := by
  show ∀ w ∈ [u_lay RX3 TX3 0, u_lay RX3 TX3 1, u_lay RX3 TX3 2, u_lay RX3 TX3 3, u_lay RX3 TX3 4, u_lay RX3 TX3 5, u_lay RX3 TX3 6, u_lay RX3 TX3 7, u_lay RX3 TX3 8, u_lay RX3 TX3 9, u_lay RX3 TX3 10, u_lay RX3 TX3 11, u_lay RX3 TX3 12, u_lay RX3 TX3 13, u_lay RX3 TX3 14], w ∈ gw
  exact List.forall_mem_cons.mpr ⟨gw_t (tb2 141 rfl) rfl, List.forall_mem_cons.mpr ⟨gw_t (tb2 143 rfl) rfl, List.forall_mem_cons.mpr ⟨gw_t (tb2 145 rfl) rfl, List.forall_mem_cons.mpr ⟨gw_t (tb2 147 rfl) rfl, List.forall_mem_cons.mpr ⟨gw_t (tb2 149 rfl) rfl, List.forall_mem_cons.mpr ⟨gw_t (tb2 151 rfl) rfl, List.forall_mem_cons.mpr ⟨gw_t (tb2 153 rfl) rfl, List.forall_mem_cons.mpr ⟨gw_t (tb2 155 rfl) rfl, List.forall_mem_cons.mpr ⟨gw_t (tb2 157 rfl) rfl, List.forall_mem_cons.mpr ⟨gw_t (tb2 159 rfl) rfl, List.forall_mem_cons.mpr ⟨gw_t (tb2 161 rfl) rfl, List.forall_mem_cons.mpr ⟨gw_t (tb2 163 rfl) rfl, List.forall_mem_cons.mpr ⟨gw_t (tb2 165 rfl) rfl, List.forall_mem_cons.mpr ⟨gw_t (tb2 167 rfl) rfl, List.forall_mem_cons.mpr ⟨gw_t (tb2 169 rfl) rfl, fun _ h => absurd h List.not_mem_nil⟩⟩⟩⟩⟩⟩⟩⟩⟩⟩⟩⟩⟩⟩⟩
theorem hwX4 : ∀ w ∈ u_ws RX4 TX4 2, w ∈ gw := by
  show ∀ w ∈ [u_lay RX4 TX4 0, u_lay RX4 TX4 1], w ∈ gw
  exact List.forall_mem_cons.mpr ⟨gw_t (tb1 154 rfl) rfl, List.forall_mem_cons.mpr ⟨gw_t (tb1 156 rfl) rfl, fun _ h => absurd h List.not_mem_nil⟩⟩
theorem hwX5 : ∀ w ∈ u_ws RX5 TX5 7, w ∈ gw := by
  show ∀ w ∈ [u_lay RX5 TX5 0, u_lay RX5 TX5 1, u_lay RX5 TX5 2, u_lay RX5 TX5 3, u_lay RX5 TX5 4, u_lay RX5 TX5 5, u_lay RX5 TX5 6], w ∈ gw
  exact List.forall_mem_cons.mpr ⟨gw_t (tb2 25 rfl) rfl, List.forall_mem_cons.mpr ⟨gw_t (tb2 27 rfl) rfl, List.forall_mem_cons.mpr ⟨gw_t (tb2 29 rfl) rfl, List.forall_mem_cons.mpr ⟨gw_t (tb2 31 rfl) rfl, List.forall_mem_cons.mpr ⟨gw_t (tb2 33 rfl) rfl, List.forall_mem_cons.mpr ⟨gw_t (tb2 35 rfl) rfl, List.forall_mem_cons.mpr ⟨gw_t (tb2 37 rfl) rfl, fun _ h => absurd h List.not_mem_nil⟩⟩⟩⟩⟩⟩⟩
theorem hwX6 : ∀ w ∈ u_ws RX6 TX6 6, w ∈ gw := by
  show ∀ w ∈ [u_lay RX6 TX6 0, u_lay RX6 TX6 1, u_lay RX6 TX6 2, u_lay RX6 TX6 3, u_lay RX6 TX6 4, u_lay RX6 TX6 5], w ∈ gw
  exact List.forall_mem_cons.mpr ⟨gw_t (tb1 209 rfl) rfl, List.forall_mem_cons.mpr ⟨gw_t (tb1 211 rfl) rfl, List.forall_mem_cons.mpr ⟨gw_t (tb1 213 rfl) rfl, List.forall_mem_cons.mpr ⟨gw_t (tb1 215 rfl) rfl, List.forall_mem_cons.mpr ⟨gw_t (tb1 217 rfl) rfl, List.forall_mem_cons.mpr ⟨gw_t (tb1 219 rfl) rfl, fun _ h => absurd h List.not_mem_nil⟩⟩⟩⟩⟩⟩
theorem hwX7 : ∀ w ∈ u_ws RX7 TX7 1, w ∈ gw := by
  show ∀ w ∈ [u_lay RX7 TX7 0], w ∈ gw
  exact List.forall_mem_cons.mpr ⟨gw_t (tb1 194 rfl) rfl, fun _ h => absurd h List.not_mem_nil⟩
theorem hwX8 : ∀ w ∈ u_ws RX8 TX8 11, w ∈ gw := by
  show ∀ w ∈ [u_lay RX8 TX8 0, u_lay RX8 TX8 1, u_lay RX8 TX8 2, u_lay RX8 TX8 3, u_lay RX8 TX8 4, u_lay RX8 TX8 5, u_lay RX8 TX8 6, u_lay RX8 TX8 7, u_lay RX8 TX8 8, u_lay RX8 TX8 9, u_lay RX8 TX8 10], w ∈ gw
  exact List.forall_mem_cons.mpr ⟨gw_t (tb1 122 rfl) rfl, List.forall_mem_cons.mpr ⟨gw_t (tb1 124 rfl) rfl, List.forall_mem_cons.mpr ⟨gw_t (tb1 126 rfl) rfl, List.forall_mem_cons.mpr ⟨gw_t (tb1 128 rfl) rfl, List.forall_mem_cons.mpr ⟨gw_t (tb1 130 rfl) rfl, List.forall_mem_cons.mpr ⟨gw_t (tb1 132 rfl) rfl, List.forall_mem_cons.mpr ⟨gw_t (tb1 134 rfl) rfl, List.forall_mem_cons.mpr ⟨gw_t (tb1 136 rfl) rfl, List.forall_mem_cons.mpr ⟨gw_t (tb1 138 rfl) rfl, List.forall_mem_cons.mpr ⟨gw_t (tb1 140 rfl) rfl, List.forall_mem_cons.mpr ⟨gw_t (tb1 142 rfl) rfl, fun _ h => absurd h List.not_mem_nil⟩⟩⟩⟩⟩⟩⟩⟩⟩⟩⟩
theorem hwX9 : ∀ w ∈ u_ws RX9 TX9 3, w ∈ gw := by
  show ∀ w ∈ [u_lay RX9 TX9 0, u_lay RX9 TX9 1, u_lay RX9 TX9 2], w ∈ gw
  exact List.forall_mem_cons.mpr ⟨gw_t (tb1 45 rfl) rfl, List.forall_mem_cons.mpr ⟨gw_t (tb1 47 rfl) rfl, List.forall_mem_cons.mpr ⟨gw_t (tb1 49 rfl) rfl, fun _ h => absurd h List.not_mem_nil⟩⟩⟩
theorem hwX10 : ∀ w ∈ u_ws RX10 TX10 7, w ∈ gw := by
  show ∀ w ∈ [u_lay RX10 TX10 0, u_lay RX10 TX10 1, u_lay RX10 TX10 2, u_lay RX10 TX10 3, u_lay RX10 TX10 4, u_lay RX10 TX10 5, u_lay RX10 TX10 6], w ∈ gw
  exact List.forall_mem_cons.mpr ⟨gw_t (tb1 172 rfl) rfl, List.forall_mem_cons.mpr ⟨gw_t (tb1 174 rfl) rfl, List.forall_mem_cons.mpr ⟨gw_t (tb1 176 rfl) rfl, List.forall_mem_cons.mpr ⟨gw_t (tb1 178 rfl) rfl, List.forall_mem_cons.mpr ⟨gw_t (tb1 180 rfl) rfl, List.forall_mem_cons.mpr ⟨gw_t (tb1 182 rfl) rfl, List.forall_mem_cons.mpr ⟨gw_t (tb1 184 rfl) rfl, fun _ h => absurd h List.not_mem_nil⟩⟩⟩⟩⟩⟩⟩
theorem hwX11 : ∀ w ∈ u_ws RX11 TX11 19, w ∈ gw := by
  show ∀ w ∈ [u_lay RX11 TX11 0, u_lay RX11 TX11 1, u_lay RX11 TX11 2, u_lay RX11 TX11 3, u_lay RX11 TX11 4, u_lay RX11 TX11 5, u_lay RX11 TX11 6, u_lay RX11 TX11 7, u_lay RX11 TX11 8, u_lay RX11 TX11 9, u_lay RX11 TX11 10, u_lay RX11 TX11 11, u_lay RX11 TX11 12, u_lay RX11 TX11 13, u_lay RX11 TX11 14, u_lay RX11 TX11 15, u_lay RX11 TX11 16, u_lay RX11 TX11 17, u_lay RX11 TX11 18], w ∈ gw
  exact List.forall_mem_cons.mpr ⟨gw_t (tb2 193 rfl) rfl, List.forall_mem_cons.mpr ⟨gw_t (tb2 195 rfl) rfl, List.forall_mem_cons.mpr ⟨gw_t (tb2 197 rfl) rfl, List.forall_mem_cons.mpr ⟨gw_t (tb2 199 rfl) rfl, List.forall_mem_cons.mpr ⟨gw_t (tb2 201 rfl) rfl, List.forall_mem_cons.mpr ⟨gw_t (tb2 203 rfl) rfl, List.forall_mem_cons.mpr ⟨gw_t (tb2 205 rfl) rfl, List.forall_mem_cons.mpr ⟨gw_t (tb2 207 rfl) rfl, List.forall_mem_cons.mpr ⟨gw_t (tb2 209 rfl) rfl, List.forall_mem_cons.mpr ⟨gw_t (tb2 211 rfl) rfl, List.forall_mem_cons.mpr ⟨gw_t (tb2 213 rfl) rfl, List.forall_mem_cons.mpr ⟨gw_t (tb2 215 rfl) rfl, List.forall_mem_cons.mpr ⟨gw_t (tb2 217 rfl) rfl, List.forall_mem_cons.mpr ⟨gw_t (tb2 219 rfl) rfl, List.forall_mem_cons.mpr ⟨gw_t (tb2 221 rfl) rfl, List.forall_mem_cons.mpr ⟨gw_t (tb2 223 rfl) rfl, List.forall_mem_cons.mpr ⟨gw_t (tb2 225 rfl) rfl, List.forall_mem_cons.mpr ⟨gw_t (tb2 227 rfl) rfl, List.forall_mem_cons.mpr ⟨gw_t (tb2 229 rfl) rfl, fun _ h => absurd h List.not_mem_nil⟩⟩⟩⟩⟩⟩⟩⟩⟩⟩⟩⟩⟩⟩⟩⟩⟩⟩⟩
theorem hwX12 : ∀ w ∈ u_ws RX12 TX12 42, w ∈ gw := by
  show ∀ w ∈ [u_lay RX12 TX12 0, u_lay RX12 TX12 1, u_lay RX12 TX12 2, u_lay RX12 TX12 3, u_lay RX12 TX12 4, u_lay RX12 TX12 5, u_lay RX12 TX12 6, u_lay RX12 TX12 7, u_lay RX12 TX12 8, u_lay RX12 TX12 9, u_lay RX12 TX12 10, u_lay RX12 TX12 11, u_lay RX12 TX12 12, u_lay RX12 TX12 13, u_lay RX12 TX12 14, u_lay RX12 TX12 15, u_lay RX12 TX12 16, u_lay RX12 TX12 17, u_lay RX12 TX12 18, u_lay RX12 TX12 19, u_lay RX12 TX12 20, u_lay RX12 TX12 21, u_lay RX12 TX12 22, u_lay RX12 TX12 23, u_lay RX12 TX12 24, u_lay RX12 TX12 25, u_lay RX12 TX12 26, u_lay RX12 TX12 27, u_lay RX12 TX12 28, u_lay RX12 TX12 29, u_lay RX12 TX12 30, u_lay RX12 TX12 31, u_lay RX12 TX12 32, u_lay RX12 TX12 33, u_lay RX12 TX12 34, u_lay RX12 TX12 35, u_lay RX12 TX12 36, u_lay RX12 TX12 37, u_lay RX12 TX12 38, u_lay RX12 TX12 39, u_lay RX12 TX12 40, u_lay RX12 TX12 41], w ∈ gw
  exact List.forall_mem_cons.mpr ⟨gw_t (tb6 228 rfl) rfl, List.forall_mem_cons.mpr ⟨gw_t (tb6 230 rfl) rfl, List.forall_mem_cons.mpr ⟨gw_t (tb6 232 rfl) rfl, List.forall_mem_cons.mpr ⟨gw_t (tb6 234 rfl) rfl, List.forall_mem_cons.mpr ⟨gw_t (tb6 236 rfl) rfl, List.forall_mem_cons.mpr ⟨gw_t (tb6 238 rfl) rfl, List.forall_mem_cons.mpr ⟨gw_t (tb7 0 rfl) rfl, List.forall_mem_cons.mpr ⟨gw_t (tb7 2 rfl) rfl, List.forall_mem_cons.mpr ⟨gw_t (tb7 4 rfl) rfl, List.forall_mem_cons.mpr ⟨gw_t (tb7 6 rfl) rfl, List.forall_mem_cons.mpr ⟨gw_t (tb7 8 rfl) rfl, List.forall_mem_cons.mpr ⟨gw_t (tb7 10 rfl) rfl, List.forall_mem_cons.mpr ⟨gw_t (tb7 12 rfl) rfl, List.forall_mem_cons.mpr ⟨gw_t (tb7 14 rfl) rfl, List.forall_mem_cons.mpr ⟨gw_t (tb7 16 rfl) rfl, List.forall_mem_cons.mpr ⟨gw_t (tb7 18 rfl) rfl, List.forall_mem_cons.mpr ⟨gw_t (tb7 20 rfl) rfl, List.forall_mem_cons.mpr ⟨gw_t (tb7 22 rfl) rfl, List.forall_mem_cons.mpr ⟨gw_t (tb7 24 rfl) rfl, List.forall_mem_cons.mpr ⟨gw_t (tb7 26 rfl) rfl, List.forall_mem_cons.mpr ⟨gw_t (tb7 28 rfl) rfl, List.forall_mem_cons.mpr ⟨gw_t (tb7 30 rfl) rfl, List.forall_mem_cons.mpr ⟨gw_t (tb7 32 rfl) rfl, List.forall_mem_cons.mpr ⟨gw_t (tb7 34 rfl) rfl, List.forall_mem_cons.mpr ⟨gw_t (tb7 36 rfl) rfl, List.forall_mem_cons.mpr ⟨gw_t (tb7 38 rfl) rfl, List.forall_mem_cons.mpr ⟨gw_t (tb7 40 rfl) rfl, List.forall_mem_cons.mpr ⟨gw_t (tb7 42 rfl) rfl, List.forall_mem_cons.mpr ⟨gw_t (tb7 44 rfl) rfl, List.forall_mem_cons.mpr ⟨gw_t (tb7 46 rfl) rfl, List.forall_mem_cons.mpr ⟨gw_t (tb7 48 rfl) rfl, List.forall_mem_cons.mpr ⟨gw_t (tb7 50 rfl) rfl, List.forall_mem_cons.mpr ⟨gw_t (tb7 52 rfl) rfl, List.forall_mem_cons.mpr ⟨gw_t (tb7 54 rfl) rfl, List.forall_mem_cons.mpr ⟨gw_t (tb7 56 rfl) rfl, List.forall_mem_cons.mpr ⟨gw_t (tb7 58 rfl) rfl, List.forall_mem_cons.mpr ⟨gw_t (tb7 60 rfl) rfl, List.forall_mem_cons.mpr ⟨gw_t (tb7 62 rfl) rfl, List.forall_mem_cons.mpr ⟨gw_t (tb7 64 rfl) rfl, List.forall_mem_cons.mpr ⟨gw_t (tb7 66 rfl) rfl, List.forall_mem_cons.mpr ⟨gw_t (tb7 68 rfl) rfl, List.forall_mem_cons.mpr ⟨gw_t (tb7 70 rfl) rfl, fun _ h => absurd h List.not_mem_nil⟩⟩⟩⟩⟩⟩⟩⟩⟩⟩⟩⟩⟩⟩⟩⟩⟩⟩⟩⟩⟩⟩⟩⟩⟩⟩⟩⟩⟩⟩⟩⟩⟩⟩⟩⟩⟩⟩⟩⟩⟩⟩
section FLD
variable {p : Program} {l : Launch} {e : Env} {R : Room} {s : State} {m : MethodId} {args : Array Value} {below : List Frame} {meth : Method} {c : Code} {H : Heap} {locs : List Loc} {Q : State → Prop} {ce sl : Nat}
variable {cc : ByteArray} {pc a : Nat} {ls : Array Slot} {rest : List Value} {E : xE} {A : Nat → Prop} {ws : va_W}
theorem fl11_10 : Cond.fieldLink RX11 10 "SighChart" "trays" "LSighChart$Trays;" ∈ gw := gw_t (tb2 174 rfl) rfl
theorem G11_10 {T : Nat → Int32} {j15 : Int64} {j16 : Int64} {r0 : Nat} {r1 : Nat} {r2 : Nat} {r3 : Nat} {r4 : Nat} {r5 : Nat} {r6 : Nat} {r7 : Nat} {r8 : Nat} {r9 : Nat} {r11 : Nat} {r12 : Nat} {r13 : Nat} (hx : p.tables.exec = Jvm.exec) (hb : c.code = cc) (htg : ∀ w ∈ gw, w.before args s = true) (hown : s.vm.findClass RX11 = some m.cls) (hK : va_K E.1 vwCl (xTY E) s) (hP : va_P E.1 vwCl ws H) (q0 : Nat) (he : ws[q0]? = some (a, o11 T j15 j16 r0 r1 r2 r3 r4 r5 r6 r7 r8 r9 r11 r12 r13)) (hdg : decode cc pc = .ok (.getfield 10, 3)) (kk : W p l e R s m args below meth c H locs ce sl Q (F0 m (pc + 3) ls (.ref r0 :: rest))) : W p l e R s m args below meth c H locs ce sl Q (F0 m pc ls (.ref a :: rest)) :=
  va_get hx hb htg hwX11 hown hK hP q0 he rfl 0 (by decide) (htg _ fl11_10) (fun _ h => h) rfl hdg kk
theorem fl11_19 : Cond.fieldLink RX11 19 "SighChart" "tape" "LSighChart$Tape;" ∈ gw := gw_t (tb2 175 rfl) rfl
theorem G11_19 {T : Nat → Int32} {j15 : Int64} {j16 : Int64} {r0 : Nat} {r1 : Nat} {r2 : Nat} {r3 : Nat} {r4 : Nat} {r5 : Nat} {r6 : Nat} {r7 : Nat} {r8 : Nat} {r9 : Nat} {r11 : Nat} {r12 : Nat} {r13 : Nat} (hx : p.tables.exec = Jvm.exec) (hb : c.code = cc) (htg : ∀ w ∈ gw, w.before args s = true) (hown : s.vm.findClass RX11 = some m.cls) (hK : va_K E.1 vwCl (xTY E) s) (hP : va_P E.1 vwCl ws H) (q0 : Nat) (he : ws[q0]? = some (a, o11 T j15 j16 r0 r1 r2 r3 r4 r5 r6 r7 r8 r9 r11 r12 r13)) (hdg : decode cc pc = .ok (.getfield 19, 3)) (kk : W p l e R s m args below meth c H locs ce sl Q (F0 m (pc + 3) ls (.ref r1 :: rest))) : W p l e R s m args below meth c H locs ce sl Q (F0 m pc ls (.ref a :: rest)) :=
  va_get hx hb htg hwX11 hown hK hP q0 he rfl 1 (by decide) (htg _ fl11_19) (fun _ h => h) rfl hdg kk
theorem fl11_26 : Cond.fieldLink RX11 26 "SighChart" "duchyReader" "LSighChart$DuchyReader;" ∈ gw := gw_t (tb2 176 rfl) rfl
theorem G11_26 {T : Nat → Int32} {j15 : Int64} {j16 : Int64} {r0 : Nat} {r1 : Nat} {r2 : Nat} {r3 : Nat} {r4 : Nat} {r5 : Nat} {r6 : Nat} {r7 : Nat} {r8 : Nat} {r9 : Nat} {r11 : Nat} {r12 : Nat} {r13 : Nat} (hx : p.tables.exec = Jvm.exec) (hb : c.code = cc) (htg : ∀ w ∈ gw, w.before args s = true) (hown : s.vm.findClass RX11 = some m.cls) (hK : va_K E.1 vwCl (xTY E) s) (hP : va_P E.1 vwCl ws H) (q0 : Nat) (he : ws[q0]? = some (a, o11 T j15 j16 r0 r1 r2 r3 r4 r5 r6 r7 r8 r9 r11 r12 r13)) (hdg : decode cc pc = .ok (.getfield 26, 3)) (kk : W p l e R s m args below meth c H locs ce sl Q (F0 m (pc + 3) ls (.ref r2 :: rest))) : W p l e R s m args below meth c H locs ce sl Q (F0 m pc ls (.ref a :: rest)) :=
  va_get hx hb htg hwX11 hown hK hP q0 he rfl 2 (by decide) (htg _ fl11_26) (fun _ h => h) rfl hdg kk
theorem fl11_33 : Cond.fieldLink RX11 33 "SighChart" "yearsReader" "LSighChart$YearsReader;" ∈ gw := gw_t (tb2 177 rfl) rfl
theorem G11_33 {T : Nat → Int32} {j15 : Int64} {j16 : Int64} {r0 : Nat} {r1 : Nat} {r2 : Nat} {r3 : Nat} {r4 : Nat} {r5 : Nat} {r6 : Nat} {r7 : Nat} {r8 : Nat} {r9 : Nat} {r11 : Nat} {r12 : Nat} {r13 : Nat} (hx : p.tables.exec = Jvm.exec) (hb : c.code = cc) (htg : ∀ w ∈ gw, w.before args s = true) (hown : s.vm.findClass RX11 = some m.cls) (hK : va_K E.1 vwCl (xTY E) s) (hP : va_P E.1 vwCl ws H) (q0 : Nat) (he : ws[q0]? = some (a, o11 T j15 j16 r0 r1 r2 r3 r4 r5 r6 r7 r8 r9 r11 r12 r13)) (hdg : decode cc pc = .ok (.getfield 33, 3)) (kk : W p l e R s m args below meth c H locs ce sl Q (F0 m (pc + 3) ls (.ref r3 :: rest))) : W p l e R s m args below meth c H locs ce sl Q (F0 m pc ls (.ref a :: rest)) :=
  va_get hx hb htg hwX11 hown hK hP q0 he rfl 3 (by decide) (htg _ fl11_33) (fun _ h => h) rfl hdg kk
theorem fl11_40 : Cond.fieldLink RX11 40 "SighChart" "survey" "LSighChart$Survey;" ∈ gw := gw_t (tb2 178 rfl) rfl
theorem G11_40 {T : Nat → Int32} {j15 : Int64} {j16 : Int64} {r0 : Nat} {r1 : Nat} {r2 : Nat} {r3 : Nat} {r4 : Nat} {r5 : Nat} {r6 : Nat} {r7 : Nat} {r8 : Nat} {r9 : Nat} {r11 : Nat} {r12 : Nat} {r13 : Nat} (hx : p.tables.exec = Jvm.exec) (hb : c.code = cc) (htg : ∀ w ∈ gw, w.before args s = true) (hown : s.vm.findClass RX11 = some m.cls) (hK : va_K E.1 vwCl (xTY E) s) (hP : va_P E.1 vwCl ws H) (q0 : Nat) (he : ws[q0]? = some (a, o11 T j15 j16 r0 r1 r2 r3 r4 r5 r6 r7 r8 r9 r11 r12 r13)) (hdg : decode cc pc = .ok (.getfield 40, 3)) (kk : W p l e R s m args below meth c H locs ce sl Q (F0 m (pc + 3) ls (.ref r4 :: rest))) : W p l e R s m args below meth c H locs ce sl Q (F0 m pc ls (.ref a :: rest)) :=
  va_get hx hb htg hwX11 hown hK hP q0 he rfl 4 (by decide) (htg _ fl11_40) (fun _ h => h) rfl hdg kk
theorem fl11_47 : Cond.fieldLink RX11 47 "SighChart" "route" "LSighChart$Route;" ∈ gw := gw_t (tb2 179 rfl) rfl
theorem G11_47 {T : Nat → Int32} {j15 : Int64} {j16 : Int64} {r0 : Nat} {r1 : Nat} {r2 : Nat} {r3 : Nat} {r4 : Nat} {r5 : Nat} {r6 : Nat} {r7 : Nat} {r8 : Nat} {r9 : Nat} {r11 : Nat} {r12 : Nat} {r13 : Nat} (hx : p.tables.exec = Jvm.exec) (hb : c.code = cc) (htg : ∀ w ∈ gw, w.before args s = true) (hown : s.vm.findClass RX11 = some m.cls) (hK : va_K E.1 vwCl (xTY E) s) (hP : va_P E.1 vwCl ws H) (q0 : Nat) (he : ws[q0]? = some (a, o11 T j15 j16 r0 r1 r2 r3 r4 r5 r6 r7 r8 r9 r11 r12 r13)) (hdg : decode cc pc = .ok (.getfield 47, 3)) (kk : W p l e R s m args below meth c H locs ce sl Q (F0 m (pc + 3) ls (.ref r5 :: rest))) : W p l e R s m args below meth c H locs ce sl Q (F0 m pc ls (.ref a :: rest)) :=
  va_get hx hb htg hwX11 hown hK hP q0 he rfl 5 (by decide) (htg _ fl11_47) (fun _ h => h) rfl hdg kk
theorem fl11_54 : Cond.fieldLink RX11 54 "SighChart" "belief" "LSighChart$Belief;" ∈ gw := gw_t (tb2 180 rfl) rfl
theorem G11_54 {T : Nat → Int32} {j15 : Int64} {j16 : Int64} {r0 : Nat} {r1 : Nat} {r2 : Nat} {r3 : Nat} {r4 : Nat} {r5 : Nat} {r6 : Nat} {r7 : Nat} {r8 : Nat} {r9 : Nat} {r11 : Nat} {r12 : Nat} {r13 : Nat} (hx : p.tables.exec = Jvm.exec) (hb : c.code = cc) (htg : ∀ w ∈ gw, w.before args s = true) (hown : s.vm.findClass RX11 = some m.cls) (hK : va_K E.1 vwCl (xTY E) s) (hP : va_P E.1 vwCl ws H) (q0 : Nat) (he : ws[q0]? = some (a, o11 T j15 j16 r0 r1 r2 r3 r4 r5 r6 r7 r8 r9 r11 r12 r13)) (hdg : decode cc pc = .ok (.getfield 54, 3)) (kk : W p l e R s m args below meth c H locs ce sl Q (F0 m (pc + 3) ls (.ref r6 :: rest))) : W p l e R s m args below meth c H locs ce sl Q (F0 m pc ls (.ref a :: rest)) :=
  va_get hx hb htg hwX11 hown hK hP q0 he rfl 6 (by decide) (htg _ fl11_54) (fun _ h => h) rfl hdg kk
theorem fl11_61 : Cond.fieldLink RX11 61 "SighChart" "council" "LSighChart$Council;" ∈ gw := gw_t (tb2 181 rfl) rfl
theorem G11_61 {T : Nat → Int32} {j15 : Int64} {j16 : Int64} {r0 : Nat} {r1 : Nat} {r2 : Nat} {r3 : Nat} {r4 : Nat} {r5 : Nat} {r6 : Nat} {r7 : Nat} {r8 : Nat} {r9 : Nat} {r11 : Nat} {r12 : Nat} {r13 : Nat} (hx : p.tables.exec = Jvm.exec) (hb : c.code = cc) (htg : ∀ w ∈ gw, w.before args s = true) (hown : s.vm.findClass RX11 = some m.cls) (hK : va_K E.1 vwCl (xTY E) s) (hP : va_P E.1 vwCl ws H) (q0 : Nat) (he : ws[q0]? = some (a, o11 T j15 j16 r0 r1 r2 r3 r4 r5 r6 r7 r8 r9 r11 r12 r13)) (hdg : decode cc pc = .ok (.getfield 61, 3)) (kk : W p l e R s m args below meth c H locs ce sl Q (F0 m (pc + 3) ls (.ref r7 :: rest))) : W p l e R s m args below meth c H locs ce sl Q (F0 m pc ls (.ref a :: rest)) :=
  va_get hx hb htg hwX11 hown hK hP q0 he rfl 7 (by decide) (htg _ fl11_61) (fun _ h => h) rfl hdg kk
theorem fl11_68 : Cond.fieldLink RX11 68 "SighChart" "life" "LSighChart$Life;" ∈ gw := gw_t (tb2 182 rfl) rfl
theorem G11_68 {T : Nat → Int32} {j15 : Int64} {j16 : Int64} {r0 : Nat} {r1 : Nat} {r2 : Nat} {r3 : Nat} {r4 : Nat} {r5 : Nat} {r6 : Nat} {r7 : Nat} {r8 : Nat} {r9 : Nat} {r11 : Nat} {r12 : Nat} {r13 : Nat} (hx : p.tables.exec = Jvm.exec) (hb : c.code = cc) (htg : ∀ w ∈ gw, w.before args s = true) (hown : s.vm.findClass RX11 = some m.cls) (hK : va_K E.1 vwCl (xTY E) s) (hP : va_P E.1 vwCl ws H) (q0 : Nat) (he : ws[q0]? = some (a, o11 T j15 j16 r0 r1 r2 r3 r4 r5 r6 r7 r8 r9 r11 r12 r13)) (hdg : decode cc pc = .ok (.getfield 68, 3)) (kk : W p l e R s m args below meth c H locs ce sl Q (F0 m (pc + 3) ls (.ref r8 :: rest))) : W p l e R s m args below meth c H locs ce sl Q (F0 m pc ls (.ref a :: rest)) :=
  va_get hx hb htg hwX11 hown hK hP q0 he rfl 8 (by decide) (htg _ fl11_68) (fun _ h => h) rfl hdg kk
theorem fl11_74 : Cond.fieldLink RX11 74 "SighChart" "marks" "[LSighChart$Duchy;" ∈ gw := gw_t (tb2 183 rfl) rfl
theorem G11_74 {T : Nat → Int32} {j15 : Int64} {j16 : Int64} {r0 : Nat} {r1 : Nat} {r2 : Nat} {r3 : Nat} {r4 : Nat} {r5 : Nat} {r6 : Nat} {r7 : Nat} {r8 : Nat} {r9 : Nat} {r11 : Nat} {r12 : Nat} {r13 : Nat} (hx : p.tables.exec = Jvm.exec) (hb : c.code = cc) (htg : ∀ w ∈ gw, w.before args s = true) (hown : s.vm.findClass RX11 = some m.cls) (hK : va_K E.1 vwCl (xTY E) s) (hP : va_P E.1 vwCl ws H) (q0 : Nat) (he : ws[q0]? = some (a, o11 T j15 j16 r0 r1 r2 r3 r4 r5 r6 r7 r8 r9 r11 r12 r13)) (hdg : decode cc pc = .ok (.getfield 74, 3)) (kk : W p l e R s m args below meth c H locs ce sl Q (F0 m (pc + 3) ls (.ref r9 :: rest))) : W p l e R s m args below meth c H locs ce sl Q (F0 m pc ls (.ref a :: rest)) :=
  va_get hx hb htg hwX11 hown hK hP q0 he rfl 9 (by decide) (htg _ fl11_74) (fun _ h => h) rfl hdg kk
theorem fl11_79 : Cond.fieldLink RX11 79 "SighChart" "now" "LSighChart$Duchy;" ∈ gw := gw_t (tb2 185 rfl) rfl
theorem G11_79 {T : Nat → Int32} {j15 : Int64} {j16 : Int64} {r0 : Nat} {r1 : Nat} {r2 : Nat} {r3 : Nat} {r4 : Nat} {r5 : Nat} {r6 : Nat} {r7 : Nat} {r8 : Nat} {r9 : Nat} {r11 : Nat} {r12 : Nat} {r13 : Nat} (hx : p.tables.exec = Jvm.exec) (hb : c.code = cc) (htg : ∀ w ∈ gw, w.before args s = true) (hown : s.vm.findClass RX11 = some m.cls) (hK : va_K E.1 vwCl (xTY E) s) (hP : va_P E.1 vwCl ws H) (q0 : Nat) (he : ws[q0]? = some (a, o11 T j15 j16 r0 r1 r2 r3 r4 r5 r6 r7 r8 r9 r11 r12 r13)) (hdg : decode cc pc = .ok (.getfield 79, 3)) (kk : W p l e R s m args below meth c H locs ce sl Q (F0 m (pc + 3) ls (.ref r11 :: rest))) : W p l e R s m args below meth c H locs ce sl Q (F0 m pc ls (.ref a :: rest)) :=
  va_get hx hb htg hwX11 hown hK hP q0 he rfl 11 (by decide) (htg _ fl11_79) (fun _ h => h) rfl hdg kk
theorem P11_79 {T : Nat → Int32} {j15 : Int64} {j16 : Int64} {r0 : Nat} {r1 : Nat} {r2 : Nat} {r3 : Nat} {r4 : Nat} {r5 : Nat} {r6 : Nat} {r7 : Nat} {r8 : Nat} {r9 : Nat} {r11 : Nat} {r12 : Nat} {r13 : Nat} (hx : p.tables.exec = Jvm.exec) (hb : c.code = cc) (htg : ∀ w ∈ gw, w.before args s = true) (hown : s.vm.findClass RX11 = some m.cls) (hK : va_K E.1 vwCl (xTY E) s) (hP : va_P E.1 vwCl ws H) (hD : va_D A ws) (hS : va_S A s.heap H locs) (q0 : Nat) (he : ws[q0]? = some (a, o11 T j15 j16 r0 r1 r2 r3 r4 r5 r6 r7 r8 r9 r11 r12 r13)) {v : Nat} (hdg : decode cc pc = .ok (.putfield 79, 3)) (kk : ∀ (H1 : Heap) (locs1 : List Loc), va_P E.1 vwCl (ws.set q0 (a, o11 T j15 j16 r0 r1 r2 r3 r4 r5 r6 r7 r8 r9 v r12 r13)) H1 → va_D A (ws.set q0 (a, o11 T j15 j16 r0 r1 r2 r3 r4 r5 r6 r7 r8 r9 v r12 r13)) → va_S A s.heap H1 locs1 → W p l e R s m args below meth c H1 locs1 ce sl Q (F0 m (pc + 3) ls rest)) : W p l e R s m args below meth c H locs ce sl Q (F0 m pc ls (.ref v :: .ref a :: rest)) :=
  va_put (ty := (.object "SighChart$Duchy")) hx hb htg hwX11 tyX11 tyX11_ok nmX11 hown hK hP hD hS q0 he rfl 11 (by decide) (htg _ fl11_79) (fun _ h => h) rfl (by decide +kernel) rfl rfl (Nat.le_of_ble_eq_true rfl) hdg kk
theorem fl11_83 : Cond.fieldLink RX11 83 "SighChart" "spareDuchy" "LSighChart$Duchy;" ∈ gw := gw_t (tb2 186 rfl) rfl
theorem G11_83 {T : Nat → Int32} {j15 : Int64} {j16 : Int64} {r0 : Nat} {r1 : Nat} {r2 : Nat} {r3 : Nat} {r4 : Nat} {r5 : Nat} {r6 : Nat} {r7 : Nat} {r8 : Nat} {r9 : Nat} {r11 : Nat} {r12 : Nat} {r13 : Nat} (hx : p.tables.exec = Jvm.exec) (hb : c.code = cc) (htg : ∀ w ∈ gw, w.before args s = true) (hown : s.vm.findClass RX11 = some m.cls) (hK : va_K E.1 vwCl (xTY E) s) (hP : va_P E.1 vwCl ws H) (q0 : Nat) (he : ws[q0]? = some (a, o11 T j15 j16 r0 r1 r2 r3 r4 r5 r6 r7 r8 r9 r11 r12 r13)) (hdg : decode cc pc = .ok (.getfield 83, 3)) (kk : W p l e R s m args below meth c H locs ce sl Q (F0 m (pc + 3) ls (.ref r12 :: rest))) : W p l e R s m args below meth c H locs ce sl Q (F0 m pc ls (.ref a :: rest)) :=
  va_get hx hb htg hwX11 hown hK hP q0 he rfl 12 (by decide) (htg _ fl11_83) (fun _ h => h) rfl hdg kk
theorem P11_83 {T : Nat → Int32} {j15 : Int64} {j16 : Int64} {r0 : Nat} {r1 : Nat} {r2 : Nat} {r3 : Nat} {r4 : Nat} {r5 : Nat} {r6 : Nat} {r7 : Nat} {r8 : Nat} {r9 : Nat} {r11 : Nat} {r12 : Nat} {r13 : Nat} (hx : p.tables.exec = Jvm.exec) (hb : c.code = cc) (htg : ∀ w ∈ gw, w.before args s = true) (hown : s.vm.findClass RX11 = some m.cls) (hK : va_K E.1 vwCl (xTY E) s) (hP : va_P E.1 vwCl ws H) (hD : va_D A ws) (hS : va_S A s.heap H locs) (q0 : Nat) (he : ws[q0]? = some (a, o11 T j15 j16 r0 r1 r2 r3 r4 r5 r6 r7 r8 r9 r11 r12 r13)) {v : Nat} (hdg : decode cc pc = .ok (.putfield 83, 3)) (kk : ∀ (H1 : Heap) (locs1 : List Loc), va_P E.1 vwCl (ws.set q0 (a, o11 T j15 j16 r0 r1 r2 r3 r4 r5 r6 r7 r8 r9 r11 v r13)) H1 → va_D A (ws.set q0 (a, o11 T j15 j16 r0 r1 r2 r3 r4 r5 r6 r7 r8 r9 r11 v r13)) → va_S A s.heap H1 locs1 → W p l e R s m args below meth c H1 locs1 ce sl Q (F0 m (pc + 3) ls rest)) : W p l e R s m args below meth c H locs ce sl Q (F0 m pc ls (.ref v :: .ref a :: rest)) :=
  va_put (ty := (.object "SighChart$Duchy")) hx hb htg hwX11 tyX11 tyX11_ok nmX11 hown hK hP hD hS q0 he rfl 12 (by decide) (htg _ fl11_83) (fun _ h => h) rfl (by decide +kernel) rfl rfl (Nat.le_of_ble_eq_true rfl) hdg kk
theorem fl11_89 : Cond.fieldLink RX11 89 "SighChart" "spareYears" "LSighChart$Almanac;" ∈ gw := gw_t (tb2 187 rfl) rfl
theorem G11_89 {T : Nat → Int32} {j15 : Int64} {j16 : Int64} {r0 : Nat} {r1 : Nat} {r2 : Nat} {r3 : Nat} {r4 : Nat} {r5 : Nat} {r6 : Nat} {r7 : Nat} {r8 : Nat} {r9 : Nat} {r11 : Nat} {r12 : Nat} {r13 : Nat} (hx : p.tables.exec = Jvm.exec) (hb : c.code = cc) (htg : ∀ w ∈ gw, w.before args s = true) (hown : s.vm.findClass RX11 = some m.cls) (hK : va_K E.1 vwCl (xTY E) s) (hP : va_P E.1 vwCl ws H) (q0 : Nat) (he : ws[q0]? = some (a, o11 T j15 j16 r0 r1 r2 r3 r4 r5 r6 r7 r8 r9 r11 r12 r13)) (hdg : decode cc pc = .ok (.getfield 89, 3)) (kk : W p l e R s m args below meth c H locs ce sl Q (F0 m (pc + 3) ls (.ref r13 :: rest))) : W p l e R s m args below meth c H locs ce sl Q (F0 m pc ls (.ref a :: rest)) :=
  va_get hx hb htg hwX11 hown hK hP q0 he rfl 13 (by decide) (htg _ fl11_89) (fun _ h => h) rfl hdg kk
theorem P11_89 {T : Nat → Int32} {j15 : Int64} {j16 : Int64} {r0 : Nat} {r1 : Nat} {r2 : Nat} {r3 : Nat} {r4 : Nat} {r5 : Nat} {r6 : Nat} {r7 : Nat} {r8 : Nat} {r9 : Nat} {r11 : Nat} {r12 : Nat} {r13 : Nat} (hx : p.tables.exec = Jvm.exec) (hb : c.code = cc) (htg : ∀ w ∈ gw, w.before args s = true) (hown : s.vm.findClass RX11 = some m.cls) (hK : va_K E.1 vwCl (xTY E) s) (hP : va_P E.1 vwCl ws H) (hD : va_D A ws) (hS : va_S A s.heap H locs) (q0 : Nat) (he : ws[q0]? = some (a, o11 T j15 j16 r0 r1 r2 r3 r4 r5 r6 r7 r8 r9 r11 r12 r13)) {v : Nat} (hdg : decode cc pc = .ok (.putfield 89, 3)) (kk : ∀ (H1 : Heap) (locs1 : List Loc), va_P E.1 vwCl (ws.set q0 (a, o11 T j15 j16 r0 r1 r2 r3 r4 r5 r6 r7 r8 r9 r11 r12 v)) H1 → va_D A (ws.set q0 (a, o11 T j15 j16 r0 r1 r2 r3 r4 r5 r6 r7 r8 r9 r11 r12 v)) → va_S A s.heap H1 locs1 → W p l e R s m args below meth c H1 locs1 ce sl Q (F0 m (pc + 3) ls rest)) : W p l e R s m args below meth c H locs ce sl Q (F0 m pc ls (.ref v :: .ref a :: rest)) :=
  va_put (ty := (.object "SighChart$Almanac")) hx hb htg hwX11 tyX11 tyX11_ok nmX11 hown hK hP hD hS q0 he rfl 13 (by decide) (htg _ fl11_89) (fun _ h => h) rfl (by decide +kernel) rfl rfl (Nat.le_of_ble_eq_true rfl) hdg kk
theorem fl11_93 : Cond.fieldLink RX11 93 "SighChart" "fractionBottom" "J" ∈ gw := gw_t (tb2 190 rfl) rfl
theorem G11_93 {T : Nat → Int32} {j15 : Int64} {j16 : Int64} {r0 : Nat} {r1 : Nat} {r2 : Nat} {r3 : Nat} {r4 : Nat} {r5 : Nat} {r6 : Nat} {r7 : Nat} {r8 : Nat} {r9 : Nat} {r11 : Nat} {r12 : Nat} {r13 : Nat} (hx : p.tables.exec = Jvm.exec) (hb : c.code = cc) (htg : ∀ w ∈ gw, w.before args s = true) (hown : s.vm.findClass RX11 = some m.cls) (hK : va_K E.1 vwCl (xTY E) s) (hP : va_P E.1 vwCl ws H) (q0 : Nat) (he : ws[q0]? = some (a, o11 T j15 j16 r0 r1 r2 r3 r4 r5 r6 r7 r8 r9 r11 r12 r13)) (hdg : decode cc pc = .ok (.getfield 93, 3)) (kk : W p l e R s m args below meth c H locs ce sl Q (F0 m (pc + 3) ls (.long j16 :: rest))) : W p l e R s m args below meth c H locs ce sl Q (F0 m pc ls (.ref a :: rest)) :=
  va_get hx hb htg hwX11 hown hK hP q0 he rfl 16 (by decide) (htg _ fl11_93) (fun _ h => h) rfl hdg kk
theorem P11_93 {T : Nat → Int32} {j15 : Int64} {j16 : Int64} {r0 : Nat} {r1 : Nat} {r2 : Nat} {r3 : Nat} {r4 : Nat} {r5 : Nat} {r6 : Nat} {r7 : Nat} {r8 : Nat} {r9 : Nat} {r11 : Nat} {r12 : Nat} {r13 : Nat} (hx : p.tables.exec = Jvm.exec) (hb : c.code = cc) (htg : ∀ w ∈ gw, w.before args s = true) (hown : s.vm.findClass RX11 = some m.cls) (hK : va_K E.1 vwCl (xTY E) s) (hP : va_P E.1 vwCl ws H) (hD : va_D A ws) (hS : va_S A s.heap H locs) (q0 : Nat) (he : ws[q0]? = some (a, o11 T j15 j16 r0 r1 r2 r3 r4 r5 r6 r7 r8 r9 r11 r12 r13)) {v : Int64} (hdg : decode cc pc = .ok (.putfield 93, 3)) (kk : ∀ (H1 : Heap) (locs1 : List Loc), va_P E.1 vwCl (ws.set q0 (a, o11 T j15 v r0 r1 r2 r3 r4 r5 r6 r7 r8 r9 r11 r12 r13)) H1 → va_D A (ws.set q0 (a, o11 T j15 v r0 r1 r2 r3 r4 r5 r6 r7 r8 r9 r11 r12 r13)) → va_S A s.heap H1 locs1 → W p l e R s m args below meth c H1 locs1 ce sl Q (F0 m (pc + 3) ls rest)) : W p l e R s m args below meth c H locs ce sl Q (F0 m pc ls (.long v :: .ref a :: rest)) :=
  va_put (ty := .long) hx hb htg hwX11 tyX11 tyX11_ok nmX11 hown hK hP hD hS q0 he rfl 16 (by decide) (htg _ fl11_93) (fun _ h => h) rfl (by decide +kernel) rfl rfl (Nat.le_of_ble_eq_true rfl) hdg kk
theorem fl11_97 : Cond.fieldLink RX11 97 "SighChart" "faultKind" "I" ∈ gw := gw_t (tb2 191 rfl) rfl
theorem G11_97 {T : Nat → Int32} {j15 : Int64} {j16 : Int64} {r0 : Nat} {r1 : Nat} {r2 : Nat} {r3 : Nat} {r4 : Nat} {r5 : Nat} {r6 : Nat} {r7 : Nat} {r8 : Nat} {r9 : Nat} {r11 : Nat} {r12 : Nat} {r13 : Nat} (hx : p.tables.exec = Jvm.exec) (hb : c.code = cc) (htg : ∀ w ∈ gw, w.before args s = true) (hown : s.vm.findClass RX11 = some m.cls) (hK : va_K E.1 vwCl (xTY E) s) (hP : va_P E.1 vwCl ws H) (q0 : Nat) (he : ws[q0]? = some (a, o11 T j15 j16 r0 r1 r2 r3 r4 r5 r6 r7 r8 r9 r11 r12 r13)) (hdg : decode cc pc = .ok (.getfield 97, 3)) (kk : W p l e R s m args below meth c H locs ce sl Q (F0 m (pc + 3) ls (.int (T 17) :: rest))) : W p l e R s m args below meth c H locs ce sl Q (F0 m pc ls (.ref a :: rest)) :=
  va_get hx hb htg hwX11 hown hK hP q0 he rfl 17 (by decide) (htg _ fl11_97) (fun _ h => h) rfl hdg kk
theorem P11_97 {T : Nat → Int32} {j15 : Int64} {j16 : Int64} {r0 : Nat} {r1 : Nat} {r2 : Nat} {r3 : Nat} {r4 : Nat} {r5 : Nat} {r6 : Nat} {r7 : Nat} {r8 : Nat} {r9 : Nat} {r11 : Nat} {r12 : Nat} {r13 : Nat} (hx : p.tables.exec = Jvm.exec) (hb : c.code = cc) (htg : ∀ w ∈ gw, w.before args s = true) (hown : s.vm.findClass RX11 = some m.cls) (hK : va_K E.1 vwCl (xTY E) s) (hP : va_P E.1 vwCl ws H) (hD : va_D A ws) (hS : va_S A s.heap H locs) (q0 : Nat) (he : ws[q0]? = some (a, o11 T j15 j16 r0 r1 r2 r3 r4 r5 r6 r7 r8 r9 r11 r12 r13)) {v : Int32} (hdg : decode cc pc = .ok (.putfield 97, 3)) (kk : ∀ (H1 : Heap) (locs1 : List Loc), va_P E.1 vwCl (ws.set q0 (a, o11 (upd T 17 v) j15 j16 r0 r1 r2 r3 r4 r5 r6 r7 r8 r9 r11 r12 r13)) H1 → va_D A (ws.set q0 (a, o11 (upd T 17 v) j15 j16 r0 r1 r2 r3 r4 r5 r6 r7 r8 r9 r11 r12 r13)) → va_S A s.heap H1 locs1 → W p l e R s m args below meth c H1 locs1 ce sl Q (F0 m (pc + 3) ls rest)) : W p l e R s m args below meth c H locs ce sl Q (F0 m pc ls (.int v :: .ref a :: rest)) :=
  va_put (ty := .int) hx hb htg hwX11 tyX11 tyX11_ok nmX11 hown hK hP hD hS q0 he rfl 17 (by decide) (htg _ fl11_97) (fun _ h => h) rfl (by decide +kernel) rfl rfl (Nat.le_of_ble_eq_true rfl) hdg kk
theorem fl11_101 : Cond.fieldLink RX11 101 "SighChart" "faultPlace" "I" ∈ gw := gw_t (tb2 192 rfl) rfl
theorem G11_101 {T : Nat → Int32} {j15 : Int64} {j16 : Int64} {r0 : Nat} {r1 : Nat} {r2 : Nat} {r3 : Nat} {r4 : Nat} {r5 : Nat} {r6 : Nat} {r7 : Nat} {r8 : Nat} {r9 : Nat} {r11 : Nat} {r12 : Nat} {r13 : Nat} (hx : p.tables.exec = Jvm.exec) (hb : c.code = cc) (htg : ∀ w ∈ gw, w.before args s = true) (hown : s.vm.findClass RX11 = some m.cls) (hK : va_K E.1 vwCl (xTY E) s) (hP : va_P E.1 vwCl ws H) (q0 : Nat) (he : ws[q0]? = some (a, o11 T j15 j16 r0 r1 r2 r3 r4 r5 r6 r7 r8 r9 r11 r12 r13)) (hdg : decode cc pc = .ok (.getfield 101, 3)) (kk : W p l e R s m args below meth c H locs ce sl Q (F0 m (pc + 3) ls (.int (T 18) :: rest))) : W p l e R s m args below meth c H locs ce sl Q (F0 m pc ls (.ref a :: rest)) :=
  va_get hx hb htg hwX11 hown hK hP q0 he rfl 18 (by decide) (htg _ fl11_101) (fun _ h => h) rfl hdg kk
theorem P11_101 {T : Nat → Int32} {j15 : Int64} {j16 : Int64} {r0 : Nat} {r1 : Nat} {r2 : Nat} {r3 : Nat} {r4 : Nat} {r5 : Nat} {r6 : Nat} {r7 : Nat} {r8 : Nat} {r9 : Nat} {r11 : Nat} {r12 : Nat} {r13 : Nat} (hx : p.tables.exec = Jvm.exec) (hb : c.code = cc) (htg : ∀ w ∈ gw, w.before args s = true) (hown : s.vm.findClass RX11 = some m.cls) (hK : va_K E.1 vwCl (xTY E) s) (hP : va_P E.1 vwCl ws H) (hD : va_D A ws) (hS : va_S A s.heap H locs) (q0 : Nat) (he : ws[q0]? = some (a, o11 T j15 j16 r0 r1 r2 r3 r4 r5 r6 r7 r8 r9 r11 r12 r13)) {v : Int32} (hdg : decode cc pc = .ok (.putfield 101, 3)) (kk : ∀ (H1 : Heap) (locs1 : List Loc), va_P E.1 vwCl (ws.set q0 (a, o11 (upd T 18 v) j15 j16 r0 r1 r2 r3 r4 r5 r6 r7 r8 r9 r11 r12 r13)) H1 → va_D A (ws.set q0 (a, o11 (upd T 18 v) j15 j16 r0 r1 r2 r3 r4 r5 r6 r7 r8 r9 r11 r12 r13)) → va_S A s.heap H1 locs1 → W p l e R s m args below meth c H1 locs1 ce sl Q (F0 m (pc + 3) ls rest)) : W p l e R s m args below meth c H locs ce sl Q (F0 m pc ls (.int v :: .ref a :: rest)) :=
  va_put (ty := .int) hx hb htg hwX11 tyX11 tyX11_ok nmX11 hown hK hP hD hS q0 he rfl 18 (by decide) (htg _ fl11_101) (fun _ h => h) rfl (by decide +kernel) rfl rfl (Nat.le_of_ble_eq_true rfl) hdg kk
theorem fl11_104 : Cond.fieldLink RX11 104 "SighChart" "statusNow" "I" ∈ gw := gw_t (tb2 188 rfl) rfl
theorem G11_104 {T : Nat → Int32} {j15 : Int64} {j16 : Int64} {r0 : Nat} {r1 : Nat} {r2 : Nat} {r3 : Nat} {r4 : Nat} {r5 : Nat} {r6 : Nat} {r7 : Nat} {r8 : Nat} {r9 : Nat} {r11 : Nat} {r12 : Nat} {r13 : Nat} (hx : p.tables.exec = Jvm.exec) (hb : c.code = cc) (htg : ∀ w ∈ gw, w.before args s = true) (hown : s.vm.findClass RX11 = some m.cls) (hK : va_K E.1 vwCl (xTY E) s) (hP : va_P E.1 vwCl ws H) (q0 : Nat) (he : ws[q0]? = some (a, o11 T j15 j16 r0 r1 r2 r3 r4 r5 r6 r7 r8 r9 r11 r12 r13)) (hdg : decode cc pc = .ok (.getfield 104, 3)) (kk : W p l e R s m args below meth c H locs ce sl Q (F0 m (pc + 3) ls (.int (T 14) :: rest))) : W p l e R s m args below meth c H locs ce sl Q (F0 m pc ls (.ref a :: rest)) :=
  va_get hx hb htg hwX11 hown hK hP q0 he rfl 14 (by decide) (htg _ fl11_104) (fun _ h => h) rfl hdg kk
theorem P11_104 {T : Nat → Int32} {j15 : Int64} {j16 : Int64} {r0 : Nat} {r1 : Nat} {r2 : Nat} {r3 : Nat} {r4 : Nat} {r5 : Nat} {r6 : Nat} {r7 : Nat} {r8 : Nat} {r9 : Nat} {r11 : Nat} {r12 : Nat} {r13 : Nat} (hx : p.tables.exec = Jvm.exec) (hb : c.code = cc) (htg : ∀ w ∈ gw, w.before args s = true) (hown : s.vm.findClass RX11 = some m.cls) (hK : va_K E.1 vwCl (xTY E) s) (hP : va_P E.1 vwCl ws H) (hD : va_D A ws) (hS : va_S A s.heap H locs) (q0 : Nat) (he : ws[q0]? = some (a, o11 T j15 j16 r0 r1 r2 r3 r4 r5 r6 r7 r8 r9 r11 r12 r13)) {v : Int32} (hdg : decode cc pc = .ok (.putfield 104, 3)) (kk : ∀ (H1 : Heap) (locs1 : List Loc), va_P E.1 vwCl (ws.set q0 (a, o11 (upd T 14 v) j15 j16 r0 r1 r2 r3 r4 r5 r6 r7 r8 r9 r11 r12 r13)) H1 → va_D A (ws.set q0 (a, o11 (upd T 14 v) j15 j16 r0 r1 r2 r3 r4 r5 r6 r7 r8 r9 r11 r12 r13)) → va_S A s.heap H1 locs1 → W p l e R s m args below meth c H1 locs1 ce sl Q (F0 m (pc + 3) ls rest)) : W p l e R s m args below meth c H locs ce sl Q (F0 m pc ls (.int v :: .ref a :: rest)) :=
  va_put (ty := .int) hx hb htg hwX11 tyX11 tyX11_ok nmX11 hown hK hP hD hS q0 he rfl 14 (by decide) (htg _ fl11_104) (fun _ h => h) rfl (by decide +kernel) rfl rfl (Nat.le_of_ble_eq_true rfl) hdg kk
theorem fl11_107 : Cond.fieldLink RX11 107 "SighChart" "fractionTop" "J" ∈ gw := gw_t (tb2 189 rfl) rfl
theorem G11_107 {T : Nat → Int32} {j15 : Int64} {j16 : Int64} {r0 : Nat} {r1 : Nat} {r2 : Nat} {r3 : Nat} {r4 : Nat} {r5 : Nat} {r6 : Nat} {r7 : Nat} {r8 : Nat} {r9 : Nat} {r11 : Nat} {r12 : Nat} {r13 : Nat} (hx : p.tables.exec = Jvm.exec) (hb : c.code = cc) (htg : ∀ w ∈ gw, w.before args s = true) (hown : s.vm.findClass RX11 = some m.cls) (hK : va_K E.1 vwCl (xTY E) s) (hP : va_P E.1 vwCl ws H) (q0 : Nat) (he : ws[q0]? = some (a, o11 T j15 j16 r0 r1 r2 r3 r4 r5 r6 r7 r8 r9 r11 r12 r13)) (hdg : decode cc pc = .ok (.getfield 107, 3)) (kk : W p l e R s m args below meth c H locs ce sl Q (F0 m (pc + 3) ls (.long j15 :: rest))) : W p l e R s m args below meth c H locs ce sl Q (F0 m pc ls (.ref a :: rest)) :=
  va_get hx hb htg hwX11 hown hK hP q0 he rfl 15 (by decide) (htg _ fl11_107) (fun _ h => h) rfl hdg kk
theorem P11_107 {T : Nat → Int32} {j15 : Int64} {j16 : Int64} {r0 : Nat} {r1 : Nat} {r2 : Nat} {r3 : Nat} {r4 : Nat} {r5 : Nat} {r6 : Nat} {r7 : Nat} {r8 : Nat} {r9 : Nat} {r11 : Nat} {r12 : Nat} {r13 : Nat} (hx : p.tables.exec = Jvm.exec) (hb : c.code = cc) (htg : ∀ w ∈ gw, w.before args s = true) (hown : s.vm.findClass RX11 = some m.cls) (hK : va_K E.1 vwCl (xTY E) s) (hP : va_P E.1 vwCl ws H) (hD : va_D A ws) (hS : va_S A s.heap H locs) (q0 : Nat) (he : ws[q0]? = some (a, o11 T j15 j16 r0 r1 r2 r3 r4 r5 r6 r7 r8 r9 r11 r12 r13)) {v : Int64} (hdg : decode cc pc = .ok (.putfield 107, 3)) (kk : ∀ (H1 : Heap) (locs1 : List Loc), va_P E.1 vwCl (ws.set q0 (a, o11 T v j16 r0 r1 r2 r3 r4 r5 r6 r7 r8 r9 r11 r12 r13)) H1 → va_D A (ws.set q0 (a, o11 T v j16 r0 r1 r2 r3 r4 r5 r6 r7 r8 r9 r11 r12 r13)) → va_S A s.heap H1 locs1 → W p l e R s m args below meth c H1 locs1 ce sl Q (F0 m (pc + 3) ls rest)) : W p l e R s m args below meth c H locs ce sl Q (F0 m pc ls (.long v :: .ref a :: rest)) :=
  va_put (ty := .long) hx hb htg hwX11 tyX11 tyX11_ok nmX11 hown hK hP hD hS q0 he rfl 15 (by decide) (htg _ fl11_107) (fun _ h => h) rfl (by decide +kernel) rfl rfl (Nat.le_of_ble_eq_true rfl) hdg kk
theorem fl11_190 : Cond.fieldLink RX11 190 "SighChart$Duchy" "almanac" "LSighChart$Almanac;" ∈ gw := gw_t (tb2 140 rfl) rfl
theorem G11_190 {T : Nat → Int32} {r7 : Nat} {r8 : Nat} {r9 : Nat} {r10 : Nat} {r11 : Nat} {r12 : Nat} {r13 : Nat} {r14 : Nat} (hx : p.tables.exec = Jvm.exec) (hb : c.code = cc) (htg : ∀ w ∈ gw, w.before args s = true) (hown : s.vm.findClass RX11 = some m.cls) (hK : va_K E.1 vwCl (xTY E) s) (hP : va_P E.1 vwCl ws H) (q0 : Nat) (he : ws[q0]? = some (a, o3 T r7 r8 r9 r10 r11 r12 r13 r14)) (hdg : decode cc pc = .ok (.getfield 190, 3)) (kk : W p l e R s m args below meth c H locs ce sl Q (F0 m (pc + 3) ls (.ref r14 :: rest))) : W p l e R s m args below meth c H locs ce sl Q (F0 m pc ls (.ref a :: rest)) :=
  va_get hx hb htg hwX3 hown hK hP q0 he rfl 14 (by decide) (htg _ fl11_190) (fun _ h => h) rfl hdg kk
theorem P11_190 {T : Nat → Int32} {r7 : Nat} {r8 : Nat} {r9 : Nat} {r10 : Nat} {r11 : Nat} {r12 : Nat} {r13 : Nat} {r14 : Nat} (hx : p.tables.exec = Jvm.exec) (hb : c.code = cc) (htg : ∀ w ∈ gw, w.before args s = true) (hown : s.vm.findClass RX11 = some m.cls) (hK : va_K E.1 vwCl (xTY E) s) (hP : va_P E.1 vwCl ws H) (hD : va_D A ws) (hS : va_S A s.heap H locs) (q0 : Nat) (he : ws[q0]? = some (a, o3 T r7 r8 r9 r10 r11 r12 r13 r14)) {v : Nat} (hdg : decode cc pc = .ok (.putfield 190, 3)) (kk : ∀ (H1 : Heap) (locs1 : List Loc), va_P E.1 vwCl (ws.set q0 (a, o3 T r7 r8 r9 r10 r11 r12 r13 v)) H1 → va_D A (ws.set q0 (a, o3 T r7 r8 r9 r10 r11 r12 r13 v)) → va_S A s.heap H1 locs1 → W p l e R s m args below meth c H1 locs1 ce sl Q (F0 m (pc + 3) ls rest)) : W p l e R s m args below meth c H locs ce sl Q (F0 m pc ls (.ref v :: .ref a :: rest)) :=
  va_put (ty := (.object "SighChart$Almanac")) hx hb htg hwX3 tyX3 tyX3_ok nmX3 hown hK hP hD hS q0 he rfl 14 (by decide) (htg _ fl11_190) (fun _ h => h) rfl (by decide +kernel) rfl rfl (Nat.le_of_ble_eq_true rfl) hdg kk
theorem fl11_193 : Cond.fieldLink RX11 193 "SighChart$Almanac" "steps" "I" ∈ gw := gw_t (tb2 58 rfl) rfl
theorem G11_193 {T : Nat → Int32} {r3 : Nat} {r4 : Nat} {r5 : Nat} {r6 : Nat} {r7 : Nat} (hx : p.tables.exec = Jvm.exec) (hb : c.code = cc) (htg : ∀ w ∈ gw, w.before args s = true) (hown : s.vm.findClass RX11 = some m.cls) (hK : va_K E.1 vwCl (xTY E) s) (hP : va_P E.1 vwCl ws H) (q0 : Nat) (he : ws[q0]? = some (a, o0 T r3 r4 r5 r6 r7)) (hdg : decode cc pc = .ok (.getfield 193, 3)) (kk : W p l e R s m args below meth c H locs ce sl Q (F0 m (pc + 3) ls (.int (T 1) :: rest))) : W p l e R s m args below meth c H locs ce sl Q (F0 m pc ls (.ref a :: rest)) :=
  va_get hx hb htg hwX0 hown hK hP q0 he rfl 1 (by decide) (htg _ fl11_193) (fun _ h => h) rfl hdg kk
theorem fl11_196 : Cond.fieldLink RX11 196 "SighChart$Duchy" "rows" "I" ∈ gw := gw_t (tb2 87 rfl) rfl
theorem G11_196 {T : Nat → Int32} {r7 : Nat} {r8 : Nat} {r9 : Nat} {r10 : Nat} {r11 : Nat} {r12 : Nat} {r13 : Nat} {r14 : Nat} (hx : p.tables.exec = Jvm.exec) (hb : c.code = cc) (htg : ∀ w ∈ gw, w.before args s = true) (hown : s.vm.findClass RX11 = some m.cls) (hK : va_K E.1 vwCl (xTY E) s) (hP : va_P E.1 vwCl ws H) (q0 : Nat) (he : ws[q0]? = some (a, o3 T r7 r8 r9 r10 r11 r12 r13 r14)) (hdg : decode cc pc = .ok (.getfield 196, 3)) (kk : W p l e R s m args below meth c H locs ce sl Q (F0 m (pc + 3) ls (.int (T 0) :: rest))) : W p l e R s m args below meth c H locs ce sl Q (F0 m pc ls (.ref a :: rest)) :=
  va_get hx hb htg hwX3 hown hK hP q0 he rfl 0 (by decide) (htg _ fl11_196) (fun _ h => h) rfl hdg kk
theorem fl11_199 : Cond.fieldLink RX11 199 "SighChart$Duchy" "columns" "I" ∈ gw := gw_t (tb2 92 rfl) rfl
theorem G11_199 {T : Nat → Int32} {r7 : Nat} {r8 : Nat} {r9 : Nat} {r10 : Nat} {r11 : Nat} {r12 : Nat} {r13 : Nat} {r14 : Nat} (hx : p.tables.exec = Jvm.exec) (hb : c.code = cc) (htg : ∀ w ∈ gw, w.before args s = true) (hown : s.vm.findClass RX11 = some m.cls) (hK : va_K E.1 vwCl (xTY E) s) (hP : va_P E.1 vwCl ws H) (q0 : Nat) (he : ws[q0]? = some (a, o3 T r7 r8 r9 r10 r11 r12 r13 r14)) (hdg : decode cc pc = .ok (.getfield 199, 3)) (kk : W p l e R s m args below meth c H locs ce sl Q (F0 m (pc + 3) ls (.int (T 1) :: rest))) : W p l e R s m args below meth c H locs ce sl Q (F0 m pc ls (.ref a :: rest)) :=
  va_get hx hb htg hwX3 hown hK hP q0 he rfl 1 (by decide) (htg _ fl11_199) (fun _ h => h) rfl hdg kk
theorem fl11_202 : Cond.fieldLink RX11 202 "SighChart$Duchy" "travellers" "I" ∈ gw := gw_t (tb2 104 rfl) rfl
theorem G11_202 {T : Nat → Int32} {r7 : Nat} {r8 : Nat} {r9 : Nat} {r10 : Nat} {r11 : Nat} {r12 : Nat} {r13 : Nat} {r14 : Nat} (hx : p.tables.exec = Jvm.exec) (hb : c.code = cc) (htg : ∀ w ∈ gw, w.before args s = true) (hown : s.vm.findClass RX11 = some m.cls) (hK : va_K E.1 vwCl (xTY E) s) (hP : va_P E.1 vwCl ws H) (q0 : Nat) (he : ws[q0]? = some (a, o3 T r7 r8 r9 r10 r11 r12 r13 r14)) (hdg : decode cc pc = .ok (.getfield 202, 3)) (kk : W p l e R s m args below meth c H locs ce sl Q (F0 m (pc + 3) ls (.int (T 4) :: rest))) : W p l e R s m args below meth c H locs ce sl Q (F0 m pc ls (.ref a :: rest)) :=
  va_get hx hb htg hwX3 hown hK hP q0 he rfl 4 (by decide) (htg _ fl11_202) (fun _ h => h) rfl hdg kk
theorem fl11_205 : Cond.fieldLink RX11 205 "SighChart$Duchy" "tellings" "I" ∈ gw := gw_t (tb2 114 rfl) rfl
theorem G11_205 {T : Nat → Int32} {r7 : Nat} {r8 : Nat} {r9 : Nat} {r10 : Nat} {r11 : Nat} {r12 : Nat} {r13 : Nat} {r14 : Nat} (hx : p.tables.exec = Jvm.exec) (hb : c.code = cc) (htg : ∀ w ∈ gw, w.before args s = true) (hown : s.vm.findClass RX11 = some m.cls) (hK : va_K E.1 vwCl (xTY E) s) (hP : va_P E.1 vwCl ws H) (q0 : Nat) (he : ws[q0]? = some (a, o3 T r7 r8 r9 r10 r11 r12 r13 r14)) (hdg : decode cc pc = .ok (.getfield 205, 3)) (kk : W p l e R s m args below meth c H locs ce sl Q (F0 m (pc + 3) ls (.int (T 6) :: rest))) : W p l e R s m args below meth c H locs ce sl Q (F0 m pc ls (.ref a :: rest)) :=
  va_get hx hb htg hwX3 hown hK hP q0 he rfl 6 (by decide) (htg _ fl11_205) (fun _ h => h) rfl hdg kk
theorem P11_205 {T : Nat → Int32} {r7 : Nat} {r8 : Nat} {r9 : Nat} {r10 : Nat} {r11 : Nat} {r12 : Nat} {r13 : Nat} {r14 : Nat} (hx : p.tables.exec = Jvm.exec) (hb : c.code = cc) (htg : ∀ w ∈ gw, w.before args s = true) (hown : s.vm.findClass RX11 = some m.cls) (hK : va_K E.1 vwCl (xTY E) s) (hP : va_P E.1 vwCl ws H) (hD : va_D A ws) (hS : va_S A s.heap H locs) (q0 : Nat) (he : ws[q0]? = some (a, o3 T r7 r8 r9 r10 r11 r12 r13 r14)) {v : Int32} (hdg : decode cc pc = .ok (.putfield 205, 3)) (kk : ∀ (H1 : Heap) (locs1 : List Loc), va_P E.1 vwCl (ws.set q0 (a, o3 (upd T 6 v) r7 r8 r9 r10 r11 r12 r13 r14)) H1 → va_D A (ws.set q0 (a, o3 (upd T 6 v) r7 r8 r9 r10 r11 r12 r13 r14)) → va_S A s.heap H1 locs1 → W p l e R s m args below meth c H1 locs1 ce sl Q (F0 m (pc + 3) ls rest)) : W p l e R s m args below meth c H locs ce sl Q (F0 m pc ls (.int v :: .ref a :: rest)) :=
  va_put (ty := .int) hx hb htg hwX3 tyX3 tyX3_ok nmX3 hown hK hP hD hS q0 he rfl 6 (by decide) (htg _ fl11_205) (fun _ h => h) rfl (by decide +kernel) rfl rfl (Nat.le_of_ble_eq_true rfl) hdg kk
theorem fl11_208 : Cond.fieldLink RX11 208 "SighChart$Duchy" "odds" "I" ∈ gw := gw_t (tb2 95 rfl) rfl
theorem G11_208 {T : Nat → Int32} {r7 : Nat} {r8 : Nat} {r9 : Nat} {r10 : Nat} {r11 : Nat} {r12 : Nat} {r13 : Nat} {r14 : Nat} (hx : p.tables.exec = Jvm.exec) (hb : c.code = cc) (htg : ∀ w ∈ gw, w.before args s = true) (hown : s.vm.findClass RX11 = some m.cls) (hK : va_K E.1 vwCl (xTY E) s) (hP : va_P E.1 vwCl ws H) (q0 : Nat) (he : ws[q0]? = some (a, o3 T r7 r8 r9 r10 r11 r12 r13 r14)) (hdg : decode cc pc = .ok (.getfield 208, 3)) (kk : W p l e R s m args below meth c H locs ce sl Q (F0 m (pc + 3) ls (.int (T 2) :: rest))) : W p l e R s m args below meth c H locs ce sl Q (F0 m pc ls (.ref a :: rest)) :=
  va_get hx hb htg hwX3 hown hK hP q0 he rfl 2 (by decide) (htg _ fl11_208) (fun _ h => h) rfl hdg kk
theorem P11_208 {T : Nat → Int32} {r7 : Nat} {r8 : Nat} {r9 : Nat} {r10 : Nat} {r11 : Nat} {r12 : Nat} {r13 : Nat} {r14 : Nat} (hx : p.tables.exec = Jvm.exec) (hb : c.code = cc) (htg : ∀ w ∈ gw, w.before args s = true) (hown : s.vm.findClass RX11 = some m.cls) (hK : va_K E.1 vwCl (xTY E) s) (hP : va_P E.1 vwCl ws H) (hD : va_D A ws) (hS : va_S A s.heap H locs) (q0 : Nat) (he : ws[q0]? = some (a, o3 T r7 r8 r9 r10 r11 r12 r13 r14)) {v : Int32} (hdg : decode cc pc = .ok (.putfield 208, 3)) (kk : ∀ (H1 : Heap) (locs1 : List Loc), va_P E.1 vwCl (ws.set q0 (a, o3 (upd T 2 v) r7 r8 r9 r10 r11 r12 r13 r14)) H1 → va_D A (ws.set q0 (a, o3 (upd T 2 v) r7 r8 r9 r10 r11 r12 r13 r14)) → va_S A s.heap H1 locs1 → W p l e R s m args below meth c H1 locs1 ce sl Q (F0 m (pc + 3) ls rest)) : W p l e R s m args below meth c H locs ce sl Q (F0 m pc ls (.int v :: .ref a :: rest)) :=
  va_put (ty := .int) hx hb htg hwX3 tyX3 tyX3_ok nmX3 hown hK hP hD hS q0 he rfl 2 (by decide) (htg _ fl11_208) (fun _ h => h) rfl (by decide +kernel) rfl rfl (Nat.le_of_ble_eq_true rfl) hdg kk
theorem fl11_211 : Cond.fieldLink RX11 211 "SighChart$Duchy" "harbour" "I" ∈ gw := gw_t (tb2 99 rfl) rfl
theorem G11_211 {T : Nat → Int32} {r7 : Nat} {r8 : Nat} {r9 : Nat} {r10 : Nat} {r11 : Nat} {r12 : Nat} {r13 : Nat} {r14 : Nat} (hx : p.tables.exec = Jvm.exec) (hb : c.code = cc) (htg : ∀ w ∈ gw, w.before args s = true) (hown : s.vm.findClass RX11 = some m.cls) (hK : va_K E.1 vwCl (xTY E) s) (hP : va_P E.1 vwCl ws H) (q0 : Nat) (he : ws[q0]? = some (a, o3 T r7 r8 r9 r10 r11 r12 r13 r14)) (hdg : decode cc pc = .ok (.getfield 211, 3)) (kk : W p l e R s m args below meth c H locs ce sl Q (F0 m (pc + 3) ls (.int (T 3) :: rest))) : W p l e R s m args below meth c H locs ce sl Q (F0 m pc ls (.ref a :: rest)) :=
  va_get hx hb htg hwX3 hown hK hP q0 he rfl 3 (by decide) (htg _ fl11_211) (fun _ h => h) rfl hdg kk
theorem P11_211 {T : Nat → Int32} {r7 : Nat} {r8 : Nat} {r9 : Nat} {r10 : Nat} {r11 : Nat} {r12 : Nat} {r13 : Nat} {r14 : Nat} (hx : p.tables.exec = Jvm.exec) (hb : c.code = cc) (htg : ∀ w ∈ gw, w.before args s = true) (hown : s.vm.findClass RX11 = some m.cls) (hK : va_K E.1 vwCl (xTY E) s) (hP : va_P E.1 vwCl ws H) (hD : va_D A ws) (hS : va_S A s.heap H locs) (q0 : Nat) (he : ws[q0]? = some (a, o3 T r7 r8 r9 r10 r11 r12 r13 r14)) {v : Int32} (hdg : decode cc pc = .ok (.putfield 211, 3)) (kk : ∀ (H1 : Heap) (locs1 : List Loc), va_P E.1 vwCl (ws.set q0 (a, o3 (upd T 3 v) r7 r8 r9 r10 r11 r12 r13 r14)) H1 → va_D A (ws.set q0 (a, o3 (upd T 3 v) r7 r8 r9 r10 r11 r12 r13 r14)) → va_S A s.heap H1 locs1 → W p l e R s m args below meth c H1 locs1 ce sl Q (F0 m (pc + 3) ls rest)) : W p l e R s m args below meth c H locs ce sl Q (F0 m pc ls (.int v :: .ref a :: rest)) :=
  va_put (ty := .int) hx hb htg hwX3 tyX3 tyX3_ok nmX3 hown hK hP hD hS q0 he rfl 3 (by decide) (htg _ fl11_211) (fun _ h => h) rfl (by decide +kernel) rfl rfl (Nat.le_of_ble_eq_true rfl) hdg kk
theorem fl11_214 : Cond.fieldLink RX11 214 "SighChart$Duchy" "heard" "I" ∈ gw := gw_t (tb2 108 rfl) rfl
theorem G11_214 {T : Nat → Int32} {r7 : Nat} {r8 : Nat} {r9 : Nat} {r10 : Nat} {r11 : Nat} {r12 : Nat} {r13 : Nat} {r14 : Nat} (hx : p.tables.exec = Jvm.exec) (hb : c.code = cc) (htg : ∀ w ∈ gw, w.before args s = true) (hown : s.vm.findClass RX11 = some m.cls) (hK : va_K E.1 vwCl (xTY E) s) (hP : va_P E.1 vwCl ws H) (q0 : Nat) (he : ws[q0]? = some (a, o3 T r7 r8 r9 r10 r11 r12 r13 r14)) (hdg : decode cc pc = .ok (.getfield 214, 3)) (kk : W p l e R s m args below meth c H locs ce sl Q (F0 m (pc + 3) ls (.int (T 5) :: rest))) : W p l e R s m args below meth c H locs ce sl Q (F0 m pc ls (.ref a :: rest)) :=
  va_get hx hb htg hwX3 hown hK hP q0 he rfl 5 (by decide) (htg _ fl11_214) (fun _ h => h) rfl hdg kk
theorem P11_214 {T : Nat → Int32} {r7 : Nat} {r8 : Nat} {r9 : Nat} {r10 : Nat} {r11 : Nat} {r12 : Nat} {r13 : Nat} {r14 : Nat} (hx : p.tables.exec = Jvm.exec) (hb : c.code = cc) (htg : ∀ w ∈ gw, w.before args s = true) (hown : s.vm.findClass RX11 = some m.cls) (hK : va_K E.1 vwCl (xTY E) s) (hP : va_P E.1 vwCl ws H) (hD : va_D A ws) (hS : va_S A s.heap H locs) (q0 : Nat) (he : ws[q0]? = some (a, o3 T r7 r8 r9 r10 r11 r12 r13 r14)) {v : Int32} (hdg : decode cc pc = .ok (.putfield 214, 3)) (kk : ∀ (H1 : Heap) (locs1 : List Loc), va_P E.1 vwCl (ws.set q0 (a, o3 (upd T 5 v) r7 r8 r9 r10 r11 r12 r13 r14)) H1 → va_D A (ws.set q0 (a, o3 (upd T 5 v) r7 r8 r9 r10 r11 r12 r13 r14)) → va_S A s.heap H1 locs1 → W p l e R s m args below meth c H1 locs1 ce sl Q (F0 m (pc + 3) ls rest)) : W p l e R s m args below meth c H locs ce sl Q (F0 m pc ls (.int v :: .ref a :: rest)) :=
  va_put (ty := .int) hx hb htg hwX3 tyX3 tyX3_ok nmX3 hown hK hP hD hS q0 he rfl 5 (by decide) (htg _ fl11_214) (fun _ h => h) rfl (by decide +kernel) rfl rfl (Nat.le_of_ble_eq_true rfl) hdg kk
theorem fl11_254 : Cond.fieldLink RX11 254 "SighChart$Duchy" "lies" "[I" ∈ gw := gw_t (tb2 121 rfl) rfl
theorem G11_254 {T : Nat → Int32} {r7 : Nat} {r8 : Nat} {r9 : Nat} {r10 : Nat} {r11 : Nat} {r12 : Nat} {r13 : Nat} {r14 : Nat} (hx : p.tables.exec = Jvm.exec) (hb : c.code = cc) (htg : ∀ w ∈ gw, w.before args s = true) (hown : s.vm.findClass RX11 = some m.cls) (hK : va_K E.1 vwCl (xTY E) s) (hP : va_P E.1 vwCl ws H) (q0 : Nat) (he : ws[q0]? = some (a, o3 T r7 r8 r9 r10 r11 r12 r13 r14)) (hdg : decode cc pc = .ok (.getfield 254, 3)) (kk : W p l e R s m args below meth c H locs ce sl Q (F0 m (pc + 3) ls (.ref r8 :: rest))) : W p l e R s m args below meth c H locs ce sl Q (F0 m pc ls (.ref a :: rest)) :=
  va_get hx hb htg hwX3 hown hK hP q0 he rfl 8 (by decide) (htg _ fl11_254) (fun _ h => h) rfl hdg kk
theorem fl11_267 : Cond.fieldLink RX11 267 "SighChart$Duchy" "tellers" "[I" ∈ gw := gw_t (tb2 127 rfl) rfl
theorem G11_267 {T : Nat → Int32} {r7 : Nat} {r8 : Nat} {r9 : Nat} {r10 : Nat} {r11 : Nat} {r12 : Nat} {r13 : Nat} {r14 : Nat} (hx : p.tables.exec = Jvm.exec) (hb : c.code = cc) (htg : ∀ w ∈ gw, w.before args s = true) (hown : s.vm.findClass RX11 = some m.cls) (hK : va_K E.1 vwCl (xTY E) s) (hP : va_P E.1 vwCl ws H) (q0 : Nat) (he : ws[q0]? = some (a, o3 T r7 r8 r9 r10 r11 r12 r13 r14)) (hdg : decode cc pc = .ok (.getfield 267, 3)) (kk : W p l e R s m args below meth c H locs ce sl Q (F0 m (pc + 3) ls (.ref r10 :: rest))) : W p l e R s m args below meth c H locs ce sl Q (F0 m pc ls (.ref a :: rest)) :=
  va_get hx hb htg hwX3 hown hK hP q0 he rfl 10 (by decide) (htg _ fl11_267) (fun _ h => h) rfl hdg kk
theorem fl11_270 : Cond.fieldLink RX11 270 "SighChart$Duchy" "toldCells" "[I" ∈ gw := gw_t (tb2 131 rfl) rfl
theorem G11_270 {T : Nat → Int32} {r7 : Nat} {r8 : Nat} {r9 : Nat} {r10 : Nat} {r11 : Nat} {r12 : Nat} {r13 : Nat} {r14 : Nat} (hx : p.tables.exec = Jvm.exec) (hb : c.code = cc) (htg : ∀ w ∈ gw, w.before args s = true) (hown : s.vm.findClass RX11 = some m.cls) (hK : va_K E.1 vwCl (xTY E) s) (hP : va_P E.1 vwCl ws H) (q0 : Nat) (he : ws[q0]? = some (a, o3 T r7 r8 r9 r10 r11 r12 r13 r14)) (hdg : decode cc pc = .ok (.getfield 270, 3)) (kk : W p l e R s m args below meth c H locs ce sl Q (F0 m (pc + 3) ls (.ref r11 :: rest))) : W p l e R s m args below meth c H locs ce sl Q (F0 m pc ls (.ref a :: rest)) :=
  va_get hx hb htg hwX3 hown hK hP q0 he rfl 11 (by decide) (htg _ fl11_270) (fun _ h => h) rfl hdg kk
theorem fl11_273 : Cond.fieldLink RX11 273 "SighChart$Duchy" "toldKinds" "[I" ∈ gw := gw_t (tb2 135 rfl) rfl
theorem G11_273 {T : Nat → Int32} {r7 : Nat} {r8 : Nat} {r9 : Nat} {r10 : Nat} {r11 : Nat} {r12 : Nat} {r13 : Nat} {r14 : Nat} (hx : p.tables.exec = Jvm.exec) (hb : c.code = cc) (htg : ∀ w ∈ gw, w.before args s = true) (hown : s.vm.findClass RX11 = some m.cls) (hK : va_K E.1 vwCl (xTY E) s) (hP : va_P E.1 vwCl ws H) (q0 : Nat) (he : ws[q0]? = some (a, o3 T r7 r8 r9 r10 r11 r12 r13 r14)) (hdg : decode cc pc = .ok (.getfield 273, 3)) (kk : W p l e R s m args below meth c H locs ce sl Q (F0 m (pc + 3) ls (.ref r12 :: rest))) : W p l e R s m args below meth c H locs ce sl Q (F0 m pc ls (.ref a :: rest)) :=
  va_get hx hb htg hwX3 hown hK hP q0 he rfl 12 (by decide) (htg _ fl11_273) (fun _ h => h) rfl hdg kk
theorem fl11_276 : Cond.fieldLink RX11 276 "SighChart$Duchy" "toldMissed" "[I" ∈ gw := gw_t (tb2 137 rfl) rfl
theorem G11_276 {T : Nat → Int32} {r7 : Nat} {r8 : Nat} {r9 : Nat} {r10 : Nat} {r11 : Nat} {r12 : Nat} {r13 : Nat} {r14 : Nat} (hx : p.tables.exec = Jvm.exec) (hb : c.code = cc) (htg : ∀ w ∈ gw, w.before args s = true) (hown : s.vm.findClass RX11 = some m.cls) (hK : va_K E.1 vwCl (xTY E) s) (hP : va_P E.1 vwCl ws H) (q0 : Nat) (he : ws[q0]? = some (a, o3 T r7 r8 r9 r10 r11 r12 r13 r14)) (hdg : decode cc pc = .ok (.getfield 276, 3)) (kk : W p l e R s m args below meth c H locs ce sl Q (F0 m (pc + 3) ls (.ref r13 :: rest))) : W p l e R s m args below meth c H locs ce sl Q (F0 m pc ls (.ref a :: rest)) :=
  va_get hx hb htg hwX3 hown hK hP q0 he rfl 13 (by decide) (htg _ fl11_276) (fun _ h => h) rfl hdg kk
theorem fl11_291 : Cond.fieldLink RX11 291 "SighChart$Duchy" "sea" "[I" ∈ gw := gw_t (tb2 117 rfl) rfl
theorem G11_291 {T : Nat → Int32} {r7 : Nat} {r8 : Nat} {r9 : Nat} {r10 : Nat} {r11 : Nat} {r12 : Nat} {r13 : Nat} {r14 : Nat} (hx : p.tables.exec = Jvm.exec) (hb : c.code = cc) (htg : ∀ w ∈ gw, w.before args s = true) (hown : s.vm.findClass RX11 = some m.cls) (hK : va_K E.1 vwCl (xTY E) s) (hP : va_P E.1 vwCl ws H) (q0 : Nat) (he : ws[q0]? = some (a, o3 T r7 r8 r9 r10 r11 r12 r13 r14)) (hdg : decode cc pc = .ok (.getfield 291, 3)) (kk : W p l e R s m args below meth c H locs ce sl Q (F0 m (pc + 3) ls (.ref r7 :: rest))) : W p l e R s m args below meth c H locs ce sl Q (F0 m pc ls (.ref a :: rest)) :=
  va_get hx hb htg hwX3 hown hK hP q0 he rfl 7 (by decide) (htg _ fl11_291) (fun _ h => h) rfl hdg kk
theorem fl11_369 : Cond.fieldLink RX11 369 "SighChart$Almanac" "told" "Z" ∈ gw := gw_t (tb2 55 rfl) rfl
theorem G11_369 {T : Nat → Int32} {r3 : Nat} {r4 : Nat} {r5 : Nat} {r6 : Nat} {r7 : Nat} (hx : p.tables.exec = Jvm.exec) (hb : c.code = cc) (htg : ∀ w ∈ gw, w.before args s = true) (hown : s.vm.findClass RX11 = some m.cls) (hK : va_K E.1 vwCl (xTY E) s) (hP : va_P E.1 vwCl ws H) (q0 : Nat) (he : ws[q0]? = some (a, o0 T r3 r4 r5 r6 r7)) (hdg : decode cc pc = .ok (.getfield 369, 3)) (kk : W p l e R s m args below meth c H locs ce sl Q (F0 m (pc + 3) ls (.int (T 0) :: rest))) : W p l e R s m args below meth c H locs ce sl Q (F0 m pc ls (.ref a :: rest)) :=
  va_get hx hb htg hwX0 hown hK hP q0 he rfl 0 (by decide) (htg _ fl11_369) (fun _ h => h) rfl hdg kk
theorem fl11_385 : Cond.fieldLink RX11 385 "SighChart" "marked" "I" ∈ gw := gw_t (tb2 184 rfl) rfl
theorem G11_385 {T : Nat → Int32} {j15 : Int64} {j16 : Int64} {r0 : Nat} {r1 : Nat} {r2 : Nat} {r3 : Nat} {r4 : Nat} {r5 : Nat} {r6 : Nat} {r7 : Nat} {r8 : Nat} {r9 : Nat} {r11 : Nat} {r12 : Nat} {r13 : Nat} (hx : p.tables.exec = Jvm.exec) (hb : c.code = cc) (htg : ∀ w ∈ gw, w.before args s = true) (hown : s.vm.findClass RX11 = some m.cls) (hK : va_K E.1 vwCl (xTY E) s) (hP : va_P E.1 vwCl ws H) (q0 : Nat) (he : ws[q0]? = some (a, o11 T j15 j16 r0 r1 r2 r3 r4 r5 r6 r7 r8 r9 r11 r12 r13)) (hdg : decode cc pc = .ok (.getfield 385, 3)) (kk : W p l e R s m args below meth c H locs ce sl Q (F0 m (pc + 3) ls (.int (T 10) :: rest))) : W p l e R s m args below meth c H locs ce sl Q (F0 m pc ls (.ref a :: rest)) :=
  va_get hx hb htg hwX11 hown hK hP q0 he rfl 10 (by decide) (htg _ fl11_385) (fun _ h => h) rfl hdg kk
theorem P11_385 {T : Nat → Int32} {j15 : Int64} {j16 : Int64} {r0 : Nat} {r1 : Nat} {r2 : Nat} {r3 : Nat} {r4 : Nat} {r5 : Nat} {r6 : Nat} {r7 : Nat} {r8 : Nat} {r9 : Nat} {r11 : Nat} {r12 : Nat} {r13 : Nat} (hx : p.tables.exec = Jvm.exec) (hb : c.code = cc) (htg : ∀ w ∈ gw, w.before args s = true) (hown : s.vm.findClass RX11 = some m.cls) (hK : va_K E.1 vwCl (xTY E) s) (hP : va_P E.1 vwCl ws H) (hD : va_D A ws) (hS : va_S A s.heap H locs) (q0 : Nat) (he : ws[q0]? = some (a, o11 T j15 j16 r0 r1 r2 r3 r4 r5 r6 r7 r8 r9 r11 r12 r13)) {v : Int32} (hdg : decode cc pc = .ok (.putfield 385, 3)) (kk : ∀ (H1 : Heap) (locs1 : List Loc), va_P E.1 vwCl (ws.set q0 (a, o11 (upd T 10 v) j15 j16 r0 r1 r2 r3 r4 r5 r6 r7 r8 r9 r11 r12 r13)) H1 → va_D A (ws.set q0 (a, o11 (upd T 10 v) j15 j16 r0 r1 r2 r3 r4 r5 r6 r7 r8 r9 r11 r12 r13)) → va_S A s.heap H1 locs1 → W p l e R s m args below meth c H1 locs1 ce sl Q (F0 m (pc + 3) ls rest)) : W p l e R s m args below meth c H locs ce sl Q (F0 m pc ls (.int v :: .ref a :: rest)) :=
  va_put (ty := .int) hx hb htg hwX11 tyX11 tyX11_ok nmX11 hown hK hP hD hS q0 he rfl 10 (by decide) (htg _ fl11_385) (fun _ h => h) rfl (by decide +kernel) rfl rfl (Nat.le_of_ble_eq_true rfl) hdg kk
theorem fl0_9 : Cond.fieldLink RX0 9 "SighChart$Almanac" "deeds" "[I" ∈ gw := gw_t (tb2 62 rfl) rfl
theorem G0_9 {T : Nat → Int32} {r3 : Nat} {r4 : Nat} {r5 : Nat} {r6 : Nat} {r7 : Nat} (hx : p.tables.exec = Jvm.exec) (hb : c.code = cc) (htg : ∀ w ∈ gw, w.before args s = true) (hown : s.vm.findClass RX0 = some m.cls) (hK : va_K E.1 vwCl (xTY E) s) (hP : va_P E.1 vwCl ws H) (q0 : Nat) (he : ws[q0]? = some (a, o0 T r3 r4 r5 r6 r7)) (hdg : decode cc pc = .ok (.getfield 9, 3)) (kk : W p l e R s m args below meth c H locs ce sl Q (F0 m (pc + 3) ls (.ref r3 :: rest))) : W p l e R s m args below meth c H locs ce sl Q (F0 m pc ls (.ref a :: rest)) :=
  va_get hx hb htg hwX0 hown hK hP q0 he rfl 3 (by decide) (htg _ fl0_9) (fun _ h => h) rfl hdg kk
theorem fl0_13 : Cond.fieldLink RX0 13 "SighChart$Almanac" "firsts" "[I" ∈ gw := gw_t (tb2 63 rfl) rfl
theorem G0_13 {T : Nat → Int32} {r3 : Nat} {r4 : Nat} {r5 : Nat} {r6 : Nat} {r7 : Nat} (hx : p.tables.exec = Jvm.exec) (hb : c.code = cc) (htg : ∀ w ∈ gw, w.before args s = true) (hown : s.vm.findClass RX0 = some m.cls) (hK : va_K E.1 vwCl (xTY E) s) (hP : va_P E.1 vwCl ws H) (q0 : Nat) (he : ws[q0]? = some (a, o0 T r3 r4 r5 r6 r7)) (hdg : decode cc pc = .ok (.getfield 13, 3)) (kk : W p l e R s m args below meth c H locs ce sl Q (F0 m (pc + 3) ls (.ref r4 :: rest))) : W p l e R s m args below meth c H locs ce sl Q (F0 m pc ls (.ref a :: rest)) :=
  va_get hx hb htg hwX0 hown hK hP q0 he rfl 4 (by decide) (htg _ fl0_13) (fun _ h => h) rfl hdg kk
theorem fl0_16 : Cond.fieldLink RX0 16 "SighChart$Almanac" "seconds" "[I" ∈ gw := gw_t (tb2 64 rfl) rfl
theorem G0_16 {T : Nat → Int32} {r3 : Nat} {r4 : Nat} {r5 : Nat} {r6 : Nat} {r7 : Nat} (hx : p.tables.exec = Jvm.exec) (hb : c.code = cc) (htg : ∀ w ∈ gw, w.before args s = true) (hown : s.vm.findClass RX0 = some m.cls) (hK : va_K E.1 vwCl (xTY E) s) (hP : va_P E.1 vwCl ws H) (q0 : Nat) (he : ws[q0]? = some (a, o0 T r3 r4 r5 r6 r7)) (hdg : decode cc pc = .ok (.getfield 16, 3)) (kk : W p l e R s m args below meth c H locs ce sl Q (F0 m (pc + 3) ls (.ref r5 :: rest))) : W p l e R s m args below meth c H locs ce sl Q (F0 m pc ls (.ref a :: rest)) :=
  va_get hx hb htg hwX0 hown hK hP q0 he rfl 5 (by decide) (htg _ fl0_16) (fun _ h => h) rfl hdg kk
theorem fl0_19 : Cond.fieldLink RX0 19 "SighChart$Almanac" "thirds" "[I" ∈ gw := gw_t (tb2 65 rfl) rfl
theorem G0_19 {T : Nat → Int32} {r3 : Nat} {r4 : Nat} {r5 : Nat} {r6 : Nat} {r7 : Nat} (hx : p.tables.exec = Jvm.exec) (hb : c.code = cc) (htg : ∀ w ∈ gw, w.before args s = true) (hown : s.vm.findClass RX0 = some m.cls) (hK : va_K E.1 vwCl (xTY E) s) (hP : va_P E.1 vwCl ws H) (q0 : Nat) (he : ws[q0]? = some (a, o0 T r3 r4 r5 r6 r7)) (hdg : decode cc pc = .ok (.getfield 19, 3)) (kk : W p l e R s m args below meth c H locs ce sl Q (F0 m (pc + 3) ls (.ref r6 :: rest))) : W p l e R s m args below meth c H locs ce sl Q (F0 m pc ls (.ref a :: rest)) :=
  va_get hx hb htg hwX0 hown hK hP q0 he rfl 6 (by decide) (htg _ fl0_19) (fun _ h => h) rfl hdg kk
theorem fl0_22 : Cond.fieldLink RX0 22 "SighChart$Almanac" "partners" "[I" ∈ gw := gw_t (tb2 66 rfl) rfl
theorem G0_22 {T : Nat → Int32} {r3 : Nat} {r4 : Nat} {r5 : Nat} {r6 : Nat} {r7 : Nat} (hx : p.tables.exec = Jvm.exec) (hb : c.code = cc) (htg : ∀ w ∈ gw, w.before args s = true) (hown : s.vm.findClass RX0 = some m.cls) (hK : va_K E.1 vwCl (xTY E) s) (hP : va_P E.1 vwCl ws H) (q0 : Nat) (he : ws[q0]? = some (a, o0 T r3 r4 r5 r6 r7)) (hdg : decode cc pc = .ok (.getfield 22, 3)) (kk : W p l e R s m args below meth c H locs ce sl Q (F0 m (pc + 3) ls (.ref r7 :: rest))) : W p l e R s m args below meth c H locs ce sl Q (F0 m pc ls (.ref a :: rest)) :=
  va_get hx hb htg hwX0 hown hK hP q0 he rfl 7 (by decide) (htg _ fl0_22) (fun _ h => h) rfl hdg kk
theorem fl0_25 : Cond.fieldLink RX0 25 "SighChart$Almanac" "told" "Z" ∈ gw := gw_t (tb2 53 rfl) rfl
theorem G0_25 {T : Nat → Int32} {r3 : Nat} {r4 : Nat} {r5 : Nat} {r6 : Nat} {r7 : Nat} (hx : p.tables.exec = Jvm.exec) (hb : c.code = cc) (htg : ∀ w ∈ gw, w.before args s = true) (hown : s.vm.findClass RX0 = some m.cls) (hK : va_K E.1 vwCl (xTY E) s) (hP : va_P E.1 vwCl ws H) (q0 : Nat) (he : ws[q0]? = some (a, o0 T r3 r4 r5 r6 r7)) (hdg : decode cc pc = .ok (.getfield 25, 3)) (kk : W p l e R s m args below meth c H locs ce sl Q (F0 m (pc + 3) ls (.int (T 0) :: rest))) : W p l e R s m args below meth c H locs ce sl Q (F0 m pc ls (.ref a :: rest)) :=
  va_get hx hb htg hwX0 hown hK hP q0 he rfl 0 (by decide) (htg _ fl0_25) (fun _ h => h) rfl hdg kk
theorem P0_25 {T : Nat → Int32} {r3 : Nat} {r4 : Nat} {r5 : Nat} {r6 : Nat} {r7 : Nat} (hx : p.tables.exec = Jvm.exec) (hb : c.code = cc) (htg : ∀ w ∈ gw, w.before args s = true) (hown : s.vm.findClass RX0 = some m.cls) (hK : va_K E.1 vwCl (xTY E) s) (hP : va_P E.1 vwCl ws H) (hD : va_D A ws) (hS : va_S A s.heap H locs) (q0 : Nat) (he : ws[q0]? = some (a, o0 T r3 r4 r5 r6 r7)) {v : Int32} (hz : bz v = true) (hdg : decode cc pc = .ok (.putfield 25, 3)) (kk : ∀ (H1 : Heap) (locs1 : List Loc), va_P E.1 vwCl (ws.set q0 (a, o0 (upd T 0 v) r3 r4 r5 r6 r7)) H1 → va_D A (ws.set q0 (a, o0 (upd T 0 v) r3 r4 r5 r6 r7)) → va_S A s.heap H1 locs1 → W p l e R s m args below meth c H1 locs1 ce sl Q (F0 m (pc + 3) ls rest)) : W p l e R s m args below meth c H locs ce sl Q (F0 m pc ls (.int v :: .ref a :: rest)) :=
  va_put (ty := .boolean) hx hb htg hwX0 tyX0 tyX0_ok nmX0 hown hK hP hD hS q0 he rfl 0 (by decide) (htg _ fl0_25) (fun _ h => h) rfl (by decide +kernel) (bz_n hz).1 (bz_n hz).2 (Nat.le_of_ble_eq_true rfl) hdg kk
theorem fl0_29 : Cond.fieldLink RX0 29 "SighChart$Almanac" "steps" "I" ∈ gw := gw_t (tb2 56 rfl) rfl
theorem G0_29 {T : Nat → Int32} {r3 : Nat} {r4 : Nat} {r5 : Nat} {r6 : Nat} {r7 : Nat} (hx : p.tables.exec = Jvm.exec) (hb : c.code = cc) (htg : ∀ w ∈ gw, w.before args s = true) (hown : s.vm.findClass RX0 = some m.cls) (hK : va_K E.1 vwCl (xTY E) s) (hP : va_P E.1 vwCl ws H) (q0 : Nat) (he : ws[q0]? = some (a, o0 T r3 r4 r5 r6 r7)) (hdg : decode cc pc = .ok (.getfield 29, 3)) (kk : W p l e R s m args below meth c H locs ce sl Q (F0 m (pc + 3) ls (.int (T 1) :: rest))) : W p l e R s m args below meth c H locs ce sl Q (F0 m pc ls (.ref a :: rest)) :=
  va_get hx hb htg hwX0 hown hK hP q0 he rfl 1 (by decide) (htg _ fl0_29) (fun _ h => h) rfl hdg kk
theorem P0_29 {T : Nat → Int32} {r3 : Nat} {r4 : Nat} {r5 : Nat} {r6 : Nat} {r7 : Nat} (hx : p.tables.exec = Jvm.exec) (hb : c.code = cc) (htg : ∀ w ∈ gw, w.before args s = true) (hown : s.vm.findClass RX0 = some m.cls) (hK : va_K E.1 vwCl (xTY E) s) (hP : va_P E.1 vwCl ws H) (hD : va_D A ws) (hS : va_S A s.heap H locs) (q0 : Nat) (he : ws[q0]? = some (a, o0 T r3 r4 r5 r6 r7)) {v : Int32} (hdg : decode cc pc = .ok (.putfield 29, 3)) (kk : ∀ (H1 : Heap) (locs1 : List Loc), va_P E.1 vwCl (ws.set q0 (a, o0 (upd T 1 v) r3 r4 r5 r6 r7)) H1 → va_D A (ws.set q0 (a, o0 (upd T 1 v) r3 r4 r5 r6 r7)) → va_S A s.heap H1 locs1 → W p l e R s m args below meth c H1 locs1 ce sl Q (F0 m (pc + 3) ls rest)) : W p l e R s m args below meth c H locs ce sl Q (F0 m pc ls (.int v :: .ref a :: rest)) :=
  va_put (ty := .int) hx hb htg hwX0 tyX0 tyX0_ok nmX0 hown hK hP hD hS q0 he rfl 1 (by decide) (htg _ fl0_29) (fun _ h => h) rfl (by decide +kernel) rfl rfl (Nat.le_of_ble_eq_true rfl) hdg kk
theorem fl0_33 : Cond.fieldLink RX0 33 "SighChart$Almanac" "lines" "I" ∈ gw := gw_t (tb2 59 rfl) rfl
theorem G0_33 {T : Nat → Int32} {r3 : Nat} {r4 : Nat} {r5 : Nat} {r6 : Nat} {r7 : Nat} (hx : p.tables.exec = Jvm.exec) (hb : c.code = cc) (htg : ∀ w ∈ gw, w.before args s = true) (hown : s.vm.findClass RX0 = some m.cls) (hK : va_K E.1 vwCl (xTY E) s) (hP : va_P E.1 vwCl ws H) (q0 : Nat) (he : ws[q0]? = some (a, o0 T r3 r4 r5 r6 r7)) (hdg : decode cc pc = .ok (.getfield 33, 3)) (kk : W p l e R s m args below meth c H locs ce sl Q (F0 m (pc + 3) ls (.int (T 2) :: rest))) : W p l e R s m args below meth c H locs ce sl Q (F0 m pc ls (.ref a :: rest)) :=
  va_get hx hb htg hwX0 hown hK hP q0 he rfl 2 (by decide) (htg _ fl0_33) (fun _ h => h) rfl hdg kk
theorem P0_33 {T : Nat → Int32} {r3 : Nat} {r4 : Nat} {r5 : Nat} {r6 : Nat} {r7 : Nat} (hx : p.tables.exec = Jvm.exec) (hb : c.code = cc) (htg : ∀ w ∈ gw, w.before args s = true) (hown : s.vm.findClass RX0 = some m.cls) (hK : va_K E.1 vwCl (xTY E) s) (hP : va_P E.1 vwCl ws H) (hD : va_D A ws) (hS : va_S A s.heap H locs) (q0 : Nat) (he : ws[q0]? = some (a, o0 T r3 r4 r5 r6 r7)) {v : Int32} (hdg : decode cc pc = .ok (.putfield 33, 3)) (kk : ∀ (H1 : Heap) (locs1 : List Loc), va_P E.1 vwCl (ws.set q0 (a, o0 (upd T 2 v) r3 r4 r5 r6 r7)) H1 → va_D A (ws.set q0 (a, o0 (upd T 2 v) r3 r4 r5 r6 r7)) → va_S A s.heap H1 locs1 → W p l e R s m args below meth c H1 locs1 ce sl Q (F0 m (pc + 3) ls rest)) : W p l e R s m args below meth c H locs ce sl Q (F0 m pc ls (.int v :: .ref a :: rest)) :=
  va_put (ty := .int) hx hb htg hwX0 tyX0 tyX0_ok nmX0 hown hK hP hD hS q0 he rfl 2 (by decide) (htg _ fl0_33) (fun _ h => h) rfl (by decide +kernel) rfl rfl (Nat.le_of_ble_eq_true rfl) hdg kk
theorem fl1_9 : Cond.fieldLink RX1 9 "SighChart$Belief" "weights" "[J" ∈ gw := gw_t (tb1 228 rfl) rfl
theorem G1_9 {r0 : Nat} {r1 : Nat} (hx : p.tables.exec = Jvm.exec) (hb : c.code = cc) (htg : ∀ w ∈ gw, w.before args s = true) (hown : s.vm.findClass RX1 = some m.cls) (hK : va_K E.1 vwCl (xTY E) s) (hP : va_P E.1 vwCl ws H) (q0 : Nat) (he : ws[q0]? = some (a, o1 r0 r1)) (hdg : decode cc pc = .ok (.getfield 9, 3)) (kk : W p l e R s m args below meth c H locs ce sl Q (F0 m (pc + 3) ls (.ref r0 :: rest))) : W p l e R s m args below meth c H locs ce sl Q (F0 m pc ls (.ref a :: rest)) :=
  va_get hx hb htg hwX1 hown hK hP q0 he rfl 0 (by decide) (htg _ fl1_9) (fun _ h => h) rfl hdg kk
theorem fl1_15 : Cond.fieldLink RX1 15 "SighChart$Belief" "sworn" "[J" ∈ gw := gw_t (tb1 229 rfl) rfl
theorem G1_15 {r0 : Nat} {r1 : Nat} (hx : p.tables.exec = Jvm.exec) (hb : c.code = cc) (htg : ∀ w ∈ gw, w.before args s = true) (hown : s.vm.findClass RX1 = some m.cls) (hK : va_K E.1 vwCl (xTY E) s) (hP : va_P E.1 vwCl ws H) (q0 : Nat) (he : ws[q0]? = some (a, o1 r0 r1)) (hdg : decode cc pc = .ok (.getfield 15, 3)) (kk : W p l e R s m args below meth c H locs ce sl Q (F0 m (pc + 3) ls (.ref r1 :: rest))) : W p l e R s m args below meth c H locs ce sl Q (F0 m pc ls (.ref a :: rest)) :=
  va_get hx hb htg hwX1 hown hK hP q0 he rfl 1 (by decide) (htg _ fl1_15) (fun _ h => h) rfl hdg kk
theorem fl1_24 : Cond.fieldLink RX1 24 "SighChart$Duchy" "tellings" "I" ∈ gw := gw_t (tb2 110 rfl) rfl
theorem G1_24 {T : Nat → Int32} {r7 : Nat} {r8 : Nat} {r9 : Nat} {r10 : Nat} {r11 : Nat} {r12 : Nat} {r13 : Nat} {r14 : Nat} (hx : p.tables.exec = Jvm.exec) (hb : c.code = cc) (htg : ∀ w ∈ gw, w.before args s = true) (hown : s.vm.findClass RX1 = some m.cls) (hK : va_K E.1 vwCl (xTY E) s) (hP : va_P E.1 vwCl ws H) (q0 : Nat) (he : ws[q0]? = some (a, o3 T r7 r8 r9 r10 r11 r12 r13 r14)) (hdg : decode cc pc = .ok (.getfield 24, 3)) (kk : W p l e R s m args below meth c H locs ce sl Q (F0 m (pc + 3) ls (.int (T 6) :: rest))) : W p l e R s m args below meth c H locs ce sl Q (F0 m pc ls (.ref a :: rest)) :=
  va_get hx hb htg hwX3 hown hK hP q0 he rfl 6 (by decide) (htg _ fl1_24) (fun _ h => h) rfl hdg kk
theorem fl1_30 : Cond.fieldLink RX1 30 "SighChart$Duchy" "tellers" "[I" ∈ gw := gw_t (tb2 124 rfl) rfl
theorem G1_30 {T : Nat → Int32} {r7 : Nat} {r8 : Nat} {r9 : Nat} {r10 : Nat} {r11 : Nat} {r12 : Nat} {r13 : Nat} {r14 : Nat} (hx : p.tables.exec = Jvm.exec) (hb : c.code = cc) (htg : ∀ w ∈ gw, w.before args s = true) (hown : s.vm.findClass RX1 = some m.cls) (hK : va_K E.1 vwCl (xTY E) s) (hP : va_P E.1 vwCl ws H) (q0 : Nat) (he : ws[q0]? = some (a, o3 T r7 r8 r9 r10 r11 r12 r13 r14)) (hdg : decode cc pc = .ok (.getfield 30, 3)) (kk : W p l e R s m args below meth c H locs ce sl Q (F0 m (pc + 3) ls (.ref r10 :: rest))) : W p l e R s m args below meth c H locs ce sl Q (F0 m pc ls (.ref a :: rest)) :=
  va_get hx hb htg hwX3 hown hK hP q0 he rfl 10 (by decide) (htg _ fl1_30) (fun _ h => h) rfl hdg kk
theorem fl1_34 : Cond.fieldLink RX1 34 "SighChart$Duchy" "toldCells" "[I" ∈ gw := gw_t (tb2 130 rfl) rfl
theorem G1_34 {T : Nat → Int32} {r7 : Nat} {r8 : Nat} {r9 : Nat} {r10 : Nat} {r11 : Nat} {r12 : Nat} {r13 : Nat} {r14 : Nat} (hx : p.tables.exec = Jvm.exec) (hb : c.code = cc) (htg : ∀ w ∈ gw, w.before args s = true) (hown : s.vm.findClass RX1 = some m.cls) (hK : va_K E.1 vwCl (xTY E) s) (hP : va_P E.1 vwCl ws H) (q0 : Nat) (he : ws[q0]? = some (a, o3 T r7 r8 r9 r10 r11 r12 r13 r14)) (hdg : decode cc pc = .ok (.getfield 34, 3)) (kk : W p l e R s m args below meth c H locs ce sl Q (F0 m (pc + 3) ls (.ref r11 :: rest))) : W p l e R s m args below meth c H locs ce sl Q (F0 m pc ls (.ref a :: rest)) :=
  va_get hx hb htg hwX3 hown hK hP q0 he rfl 11 (by decide) (htg _ fl1_34) (fun _ h => h) rfl hdg kk
theorem fl1_44 : Cond.fieldLink RX1 44 "SighChart$Duchy" "lies" "[I" ∈ gw := gw_t (tb2 119 rfl) rfl
theorem G1_44 {T : Nat → Int32} {r7 : Nat} {r8 : Nat} {r9 : Nat} {r10 : Nat} {r11 : Nat} {r12 : Nat} {r13 : Nat} {r14 : Nat} (hx : p.tables.exec = Jvm.exec) (hb : c.code = cc) (htg : ∀ w ∈ gw, w.before args s = true) (hown : s.vm.findClass RX1 = some m.cls) (hK : va_K E.1 vwCl (xTY E) s) (hP : va_P E.1 vwCl ws H) (q0 : Nat) (he : ws[q0]? = some (a, o3 T r7 r8 r9 r10 r11 r12 r13 r14)) (hdg : decode cc pc = .ok (.getfield 44, 3)) (kk : W p l e R s m args below meth c H locs ce sl Q (F0 m (pc + 3) ls (.ref r8 :: rest))) : W p l e R s m args below meth c H locs ce sl Q (F0 m pc ls (.ref a :: rest)) :=
  va_get hx hb htg hwX3 hown hK hP q0 he rfl 8 (by decide) (htg _ fl1_44) (fun _ h => h) rfl hdg kk
theorem fl1_47 : Cond.fieldLink RX1 47 "SighChart$Duchy" "toldKinds" "[I" ∈ gw := gw_t (tb2 134 rfl) rfl
theorem G1_47 {T : Nat → Int32} {r7 : Nat} {r8 : Nat} {r9 : Nat} {r10 : Nat} {r11 : Nat} {r12 : Nat} {r13 : Nat} {r14 : Nat} (hx : p.tables.exec = Jvm.exec) (hb : c.code = cc) (htg : ∀ w ∈ gw, w.before args s = true) (hown : s.vm.findClass RX1 = some m.cls) (hK : va_K E.1 vwCl (xTY E) s) (hP : va_P E.1 vwCl ws H) (q0 : Nat) (he : ws[q0]? = some (a, o3 T r7 r8 r9 r10 r11 r12 r13 r14)) (hdg : decode cc pc = .ok (.getfield 47, 3)) (kk : W p l e R s m args below meth c H locs ce sl Q (F0 m (pc + 3) ls (.ref r12 :: rest))) : W p l e R s m args below meth c H locs ce sl Q (F0 m pc ls (.ref a :: rest)) :=
  va_get hx hb htg hwX3 hown hK hP q0 he rfl 12 (by decide) (htg _ fl1_47) (fun _ h => h) rfl hdg kk
theorem fl2_11 : Cond.fieldLink RX2 11 "SighChart$Council" "known" "[I" ∈ gw := gw_t (tb2 1 rfl) rfl
theorem G2_11 {r0 : Nat} {r1 : Nat} (hx : p.tables.exec = Jvm.exec) (hb : c.code = cc) (htg : ∀ w ∈ gw, w.before args s = true) (hown : s.vm.findClass RX2 = some m.cls) (hK : va_K E.1 vwCl (xTY E) s) (hP : va_P E.1 vwCl ws H) (q0 : Nat) (he : ws[q0]? = some (a, o2 r0 r1)) (hdg : decode cc pc = .ok (.getfield 11, 3)) (kk : W p l e R s m args below meth c H locs ce sl Q (F0 m (pc + 3) ls (.ref r0 :: rest))) : W p l e R s m args below meth c H locs ce sl Q (F0 m pc ls (.ref a :: rest)) :=
  va_get hx hb htg hwX2 hown hK hP q0 he rfl 0 (by decide) (htg _ fl2_11) (fun _ h => h) rfl hdg kk
theorem fl2_15 : Cond.fieldLink RX2 15 "SighChart$Council" "worth" "[I" ∈ gw := gw_t (tb2 2 rfl) rfl
theorem G2_15 {r0 : Nat} {r1 : Nat} (hx : p.tables.exec = Jvm.exec) (hb : c.code = cc) (htg : ∀ w ∈ gw, w.before args s = true) (hown : s.vm.findClass RX2 = some m.cls) (hK : va_K E.1 vwCl (xTY E) s) (hP : va_P E.1 vwCl ws H) (q0 : Nat) (he : ws[q0]? = some (a, o2 r0 r1)) (hdg : decode cc pc = .ok (.getfield 15, 3)) (kk : W p l e R s m args below meth c H locs ce sl Q (F0 m (pc + 3) ls (.ref r1 :: rest))) : W p l e R s m args below meth c H locs ce sl Q (F0 m pc ls (.ref a :: rest)) :=
  va_get hx hb htg hwX2 hown hK hP q0 he rfl 1 (by decide) (htg _ fl2_15) (fun _ h => h) rfl hdg kk
theorem fl2_18 : Cond.fieldLink RX2 18 "SighChart$Duchy" "heard" "I" ∈ gw := gw_t (tb2 105 rfl) rfl
theorem G2_18 {T : Nat → Int32} {r7 : Nat} {r8 : Nat} {r9 : Nat} {r10 : Nat} {r11 : Nat} {r12 : Nat} {r13 : Nat} {r14 : Nat} (hx : p.tables.exec = Jvm.exec) (hb : c.code = cc) (htg : ∀ w ∈ gw, w.before args s = true) (hown : s.vm.findClass RX2 = some m.cls) (hK : va_K E.1 vwCl (xTY E) s) (hP : va_P E.1 vwCl ws H) (q0 : Nat) (he : ws[q0]? = some (a, o3 T r7 r8 r9 r10 r11 r12 r13 r14)) (hdg : decode cc pc = .ok (.getfield 18, 3)) (kk : W p l e R s m args below meth c H locs ce sl Q (F0 m (pc + 3) ls (.int (T 5) :: rest))) : W p l e R s m args below meth c H locs ce sl Q (F0 m pc ls (.ref a :: rest)) :=
  va_get hx hb htg hwX3 hown hK hP q0 he rfl 5 (by decide) (htg _ fl2_18) (fun _ h => h) rfl hdg kk
theorem fl2_50 : Cond.fieldLink RX2 50 "SighChart$Duchy" "tellings" "I" ∈ gw := gw_t (tb2 113 rfl) rfl
theorem G2_50 {T : Nat → Int32} {r7 : Nat} {r8 : Nat} {r9 : Nat} {r10 : Nat} {r11 : Nat} {r12 : Nat} {r13 : Nat} {r14 : Nat} (hx : p.tables.exec = Jvm.exec) (hb : c.code = cc) (htg : ∀ w ∈ gw, w.before args s = true) (hown : s.vm.findClass RX2 = some m.cls) (hK : va_K E.1 vwCl (xTY E) s) (hP : va_P E.1 vwCl ws H) (q0 : Nat) (he : ws[q0]? = some (a, o3 T r7 r8 r9 r10 r11 r12 r13 r14)) (hdg : decode cc pc = .ok (.getfield 50, 3)) (kk : W p l e R s m args below meth c H locs ce sl Q (F0 m (pc + 3) ls (.int (T 6) :: rest))) : W p l e R s m args below meth c H locs ce sl Q (F0 m pc ls (.ref a :: rest)) :=
  va_get hx hb htg hwX3 hown hK hP q0 he rfl 6 (by decide) (htg _ fl2_50) (fun _ h => h) rfl hdg kk
theorem fl2_53 : Cond.fieldLink RX2 53 "SighChart$Duchy" "tellers" "[I" ∈ gw := gw_t (tb2 126 rfl) rfl
theorem G2_53 {T : Nat → Int32} {r7 : Nat} {r8 : Nat} {r9 : Nat} {r10 : Nat} {r11 : Nat} {r12 : Nat} {r13 : Nat} {r14 : Nat} (hx : p.tables.exec = Jvm.exec) (hb : c.code = cc) (htg : ∀ w ∈ gw, w.before args s = true) (hown : s.vm.findClass RX2 = some m.cls) (hK : va_K E.1 vwCl (xTY E) s) (hP : va_P E.1 vwCl ws H) (q0 : Nat) (he : ws[q0]? = some (a, o3 T r7 r8 r9 r10 r11 r12 r13 r14)) (hdg : decode cc pc = .ok (.getfield 53, 3)) (kk : W p l e R s m args below meth c H locs ce sl Q (F0 m (pc + 3) ls (.ref r10 :: rest))) : W p l e R s m args below meth c H locs ce sl Q (F0 m pc ls (.ref a :: rest)) :=
  va_get hx hb htg hwX3 hown hK hP q0 he rfl 10 (by decide) (htg _ fl2_53) (fun _ h => h) rfl hdg kk
theorem fl2_69 : Cond.fieldLink RX2 69 "SighChart$Duchy" "travellers" "I" ∈ gw := gw_t (tb2 102 rfl) rfl
theorem G2_69 {T : Nat → Int32} {r7 : Nat} {r8 : Nat} {r9 : Nat} {r10 : Nat} {r11 : Nat} {r12 : Nat} {r13 : Nat} {r14 : Nat} (hx : p.tables.exec = Jvm.exec) (hb : c.code = cc) (htg : ∀ w ∈ gw, w.before args s = true) (hown : s.vm.findClass RX2 = some m.cls) (hK : va_K E.1 vwCl (xTY E) s) (hP : va_P E.1 vwCl ws H) (q0 : Nat) (he : ws[q0]? = some (a, o3 T r7 r8 r9 r10 r11 r12 r13 r14)) (hdg : decode cc pc = .ok (.getfield 69, 3)) (kk : W p l e R s m args below meth c H locs ce sl Q (F0 m (pc + 3) ls (.int (T 4) :: rest))) : W p l e R s m args below meth c H locs ce sl Q (F0 m pc ls (.ref a :: rest)) :=
  va_get hx hb htg hwX3 hown hK hP q0 he rfl 4 (by decide) (htg _ fl2_69) (fun _ h => h) rfl hdg kk
theorem fl3_11 : Cond.fieldLink RX3 11 "SighChart$Duchy" "odds" "I" ∈ gw := gw_t (tb2 93 rfl) rfl
theorem G3_11 {T : Nat → Int32} {r7 : Nat} {r8 : Nat} {r9 : Nat} {r10 : Nat} {r11 : Nat} {r12 : Nat} {r13 : Nat} {r14 : Nat} (hx : p.tables.exec = Jvm.exec) (hb : c.code = cc) (htg : ∀ w ∈ gw, w.before args s = true) (hown : s.vm.findClass RX3 = some m.cls) (hK : va_K E.1 vwCl (xTY E) s) (hP : va_P E.1 vwCl ws H) (q0 : Nat) (he : ws[q0]? = some (a, o3 T r7 r8 r9 r10 r11 r12 r13 r14)) (hdg : decode cc pc = .ok (.getfield 11, 3)) (kk : W p l e R s m args below meth c H locs ce sl Q (F0 m (pc + 3) ls (.int (T 2) :: rest))) : W p l e R s m args below meth c H locs ce sl Q (F0 m pc ls (.ref a :: rest)) :=
  va_get hx hb htg hwX3 hown hK hP q0 he rfl 2 (by decide) (htg _ fl3_11) (fun _ h => h) rfl hdg kk
theorem P3_11 {T : Nat → Int32} {r7 : Nat} {r8 : Nat} {r9 : Nat} {r10 : Nat} {r11 : Nat} {r12 : Nat} {r13 : Nat} {r14 : Nat} (hx : p.tables.exec = Jvm.exec) (hb : c.code = cc) (htg : ∀ w ∈ gw, w.before args s = true) (hown : s.vm.findClass RX3 = some m.cls) (hK : va_K E.1 vwCl (xTY E) s) (hP : va_P E.1 vwCl ws H) (hD : va_D A ws) (hS : va_S A s.heap H locs) (q0 : Nat) (he : ws[q0]? = some (a, o3 T r7 r8 r9 r10 r11 r12 r13 r14)) {v : Int32} (hdg : decode cc pc = .ok (.putfield 11, 3)) (kk : ∀ (H1 : Heap) (locs1 : List Loc), va_P E.1 vwCl (ws.set q0 (a, o3 (upd T 2 v) r7 r8 r9 r10 r11 r12 r13 r14)) H1 → va_D A (ws.set q0 (a, o3 (upd T 2 v) r7 r8 r9 r10 r11 r12 r13 r14)) → va_S A s.heap H1 locs1 → W p l e R s m args below meth c H1 locs1 ce sl Q (F0 m (pc + 3) ls rest)) : W p l e R s m args below meth c H locs ce sl Q (F0 m pc ls (.int v :: .ref a :: rest)) :=
  va_put (ty := .int) hx hb htg hwX3 tyX3 tyX3_ok nmX3 hown hK hP hD hS q0 he rfl 2 (by decide) (htg _ fl3_11) (fun _ h => h) rfl (by decide +kernel) rfl rfl (Nat.le_of_ble_eq_true rfl) hdg kk
theorem fl3_15 : Cond.fieldLink RX3 15 "SighChart$Duchy" "sea" "[I" ∈ gw := gw_t (tb2 115 rfl) rfl
theorem G3_15 {T : Nat → Int32} {r7 : Nat} {r8 : Nat} {r9 : Nat} {r10 : Nat} {r11 : Nat} {r12 : Nat} {r13 : Nat} {r14 : Nat} (hx : p.tables.exec = Jvm.exec) (hb : c.code = cc) (htg : ∀ w ∈ gw, w.before args s = true) (hown : s.vm.findClass RX3 = some m.cls) (hK : va_K E.1 vwCl (xTY E) s) (hP : va_P E.1 vwCl ws H) (q0 : Nat) (he : ws[q0]? = some (a, o3 T r7 r8 r9 r10 r11 r12 r13 r14)) (hdg : decode cc pc = .ok (.getfield 15, 3)) (kk : W p l e R s m args below meth c H locs ce sl Q (F0 m (pc + 3) ls (.ref r7 :: rest))) : W p l e R s m args below meth c H locs ce sl Q (F0 m pc ls (.ref a :: rest)) :=
  va_get hx hb htg hwX3 hown hK hP q0 he rfl 7 (by decide) (htg _ fl3_15) (fun _ h => h) rfl hdg kk
theorem fl3_19 : Cond.fieldLink RX3 19 "SighChart$Duchy" "lies" "[I" ∈ gw := gw_t (tb2 118 rfl) rfl
theorem G3_19 {T : Nat → Int32} {r7 : Nat} {r8 : Nat} {r9 : Nat} {r10 : Nat} {r11 : Nat} {r12 : Nat} {r13 : Nat} {r14 : Nat} (hx : p.tables.exec = Jvm.exec) (hb : c.code = cc) (htg : ∀ w ∈ gw, w.before args s = true) (hown : s.vm.findClass RX3 = some m.cls) (hK : va_K E.1 vwCl (xTY E) s) (hP : va_P E.1 vwCl ws H) (q0 : Nat) (he : ws[q0]? = some (a, o3 T r7 r8 r9 r10 r11 r12 r13 r14)) (hdg : decode cc pc = .ok (.getfield 19, 3)) (kk : W p l e R s m args below meth c H locs ce sl Q (F0 m (pc + 3) ls (.ref r8 :: rest))) : W p l e R s m args below meth c H locs ce sl Q (F0 m pc ls (.ref a :: rest)) :=
  va_get hx hb htg hwX3 hown hK hP q0 he rfl 8 (by decide) (htg _ fl3_19) (fun _ h => h) rfl hdg kk
theorem fl3_22 : Cond.fieldLink RX3 22 "SighChart$Duchy" "names" "[J" ∈ gw := gw_t (tb2 122 rfl) rfl
theorem G3_22 {T : Nat → Int32} {r7 : Nat} {r8 : Nat} {r9 : Nat} {r10 : Nat} {r11 : Nat} {r12 : Nat} {r13 : Nat} {r14 : Nat} (hx : p.tables.exec = Jvm.exec) (hb : c.code = cc) (htg : ∀ w ∈ gw, w.before args s = true) (hown : s.vm.findClass RX3 = some m.cls) (hK : va_K E.1 vwCl (xTY E) s) (hP : va_P E.1 vwCl ws H) (q0 : Nat) (he : ws[q0]? = some (a, o3 T r7 r8 r9 r10 r11 r12 r13 r14)) (hdg : decode cc pc = .ok (.getfield 22, 3)) (kk : W p l e R s m args below meth c H locs ce sl Q (F0 m (pc + 3) ls (.ref r9 :: rest))) : W p l e R s m args below meth c H locs ce sl Q (F0 m pc ls (.ref a :: rest)) :=
  va_get hx hb htg hwX3 hown hK hP q0 he rfl 9 (by decide) (htg _ fl3_22) (fun _ h => h) rfl hdg kk
theorem fl3_26 : Cond.fieldLink RX3 26 "SighChart$Duchy" "tellers" "[I" ∈ gw := gw_t (tb2 123 rfl) rfl
theorem G3_26 {T : Nat → Int32} {r7 : Nat} {r8 : Nat} {r9 : Nat} {r10 : Nat} {r11 : Nat} {r12 : Nat} {r13 : Nat} {r14 : Nat} (hx : p.tables.exec = Jvm.exec) (hb : c.code = cc) (htg : ∀ w ∈ gw, w.before args s = true) (hown : s.vm.findClass RX3 = some m.cls) (hK : va_K E.1 vwCl (xTY E) s) (hP : va_P E.1 vwCl ws H) (q0 : Nat) (he : ws[q0]? = some (a, o3 T r7 r8 r9 r10 r11 r12 r13 r14)) (hdg : decode cc pc = .ok (.getfield 26, 3)) (kk : W p l e R s m args below meth c H locs ce sl Q (F0 m (pc + 3) ls (.ref r10 :: rest))) : W p l e R s m args below meth c H locs ce sl Q (F0 m pc ls (.ref a :: rest)) :=
  va_get hx hb htg hwX3 hown hK hP q0 he rfl 10 (by decide) (htg _ fl3_26) (fun _ h => h) rfl hdg kk
theorem fl3_29 : Cond.fieldLink RX3 29 "SighChart$Duchy" "toldCells" "[I" ∈ gw := gw_t (tb2 128 rfl) rfl
theorem G3_29 {T : Nat → Int32} {r7 : Nat} {r8 : Nat} {r9 : Nat} {r10 : Nat} {r11 : Nat} {r12 : Nat} {r13 : Nat} {r14 : Nat} (hx : p.tables.exec = Jvm.exec) (hb : c.code = cc) (htg : ∀ w ∈ gw, w.before args s = true) (hown : s.vm.findClass RX3 = some m.cls) (hK : va_K E.1 vwCl (xTY E) s) (hP : va_P E.1 vwCl ws H) (q0 : Nat) (he : ws[q0]? = some (a, o3 T r7 r8 r9 r10 r11 r12 r13 r14)) (hdg : decode cc pc = .ok (.getfield 29, 3)) (kk : W p l e R s m args below meth c H locs ce sl Q (F0 m (pc + 3) ls (.ref r11 :: rest))) : W p l e R s m args below meth c H locs ce sl Q (F0 m pc ls (.ref a :: rest)) :=
  va_get hx hb htg hwX3 hown hK hP q0 he rfl 11 (by decide) (htg _ fl3_29) (fun _ h => h) rfl hdg kk
theorem fl3_32 : Cond.fieldLink RX3 32 "SighChart$Duchy" "toldKinds" "[I" ∈ gw := gw_t (tb2 132 rfl) rfl
theorem G3_32 {T : Nat → Int32} {r7 : Nat} {r8 : Nat} {r9 : Nat} {r10 : Nat} {r11 : Nat} {r12 : Nat} {r13 : Nat} {r14 : Nat} (hx : p.tables.exec = Jvm.exec) (hb : c.code = cc) (htg : ∀ w ∈ gw, w.before args s = true) (hown : s.vm.findClass RX3 = some m.cls) (hK : va_K E.1 vwCl (xTY E) s) (hP : va_P E.1 vwCl ws H) (q0 : Nat) (he : ws[q0]? = some (a, o3 T r7 r8 r9 r10 r11 r12 r13 r14)) (hdg : decode cc pc = .ok (.getfield 32, 3)) (kk : W p l e R s m args below meth c H locs ce sl Q (F0 m (pc + 3) ls (.ref r12 :: rest))) : W p l e R s m args below meth c H locs ce sl Q (F0 m pc ls (.ref a :: rest)) :=
  va_get hx hb htg hwX3 hown hK hP q0 he rfl 12 (by decide) (htg _ fl3_32) (fun _ h => h) rfl hdg kk
theorem fl3_35 : Cond.fieldLink RX3 35 "SighChart$Duchy" "toldMissed" "[I" ∈ gw := gw_t (tb2 136 rfl) rfl
theorem G3_35 {T : Nat → Int32} {r7 : Nat} {r8 : Nat} {r9 : Nat} {r10 : Nat} {r11 : Nat} {r12 : Nat} {r13 : Nat} {r14 : Nat} (hx : p.tables.exec = Jvm.exec) (hb : c.code = cc) (htg : ∀ w ∈ gw, w.before args s = true) (hown : s.vm.findClass RX3 = some m.cls) (hK : va_K E.1 vwCl (xTY E) s) (hP : va_P E.1 vwCl ws H) (q0 : Nat) (he : ws[q0]? = some (a, o3 T r7 r8 r9 r10 r11 r12 r13 r14)) (hdg : decode cc pc = .ok (.getfield 35, 3)) (kk : W p l e R s m args below meth c H locs ce sl Q (F0 m (pc + 3) ls (.ref r13 :: rest))) : W p l e R s m args below meth c H locs ce sl Q (F0 m pc ls (.ref a :: rest)) :=
  va_get hx hb htg hwX3 hown hK hP q0 he rfl 13 (by decide) (htg _ fl3_35) (fun _ h => h) rfl hdg kk
theorem fl3_41 : Cond.fieldLink RX3 41 "SighChart$Duchy" "almanac" "LSighChart$Almanac;" ∈ gw := gw_t (tb2 138 rfl) rfl
theorem G3_41 {T : Nat → Int32} {r7 : Nat} {r8 : Nat} {r9 : Nat} {r10 : Nat} {r11 : Nat} {r12 : Nat} {r13 : Nat} {r14 : Nat} (hx : p.tables.exec = Jvm.exec) (hb : c.code = cc) (htg : ∀ w ∈ gw, w.before args s = true) (hown : s.vm.findClass RX3 = some m.cls) (hK : va_K E.1 vwCl (xTY E) s) (hP : va_P E.1 vwCl ws H) (q0 : Nat) (he : ws[q0]? = some (a, o3 T r7 r8 r9 r10 r11 r12 r13 r14)) (hdg : decode cc pc = .ok (.getfield 41, 3)) (kk : W p l e R s m args below meth c H locs ce sl Q (F0 m (pc + 3) ls (.ref r14 :: rest))) : W p l e R s m args below meth c H locs ce sl Q (F0 m pc ls (.ref a :: rest)) :=
  va_get hx hb htg hwX3 hown hK hP q0 he rfl 14 (by decide) (htg _ fl3_41) (fun _ h => h) rfl hdg kk
theorem fl3_45 : Cond.fieldLink RX3 45 "SighChart$Duchy" "rows" "I" ∈ gw := gw_t (tb2 84 rfl) rfl
theorem G3_45 {T : Nat → Int32} {r7 : Nat} {r8 : Nat} {r9 : Nat} {r10 : Nat} {r11 : Nat} {r12 : Nat} {r13 : Nat} {r14 : Nat} (hx : p.tables.exec = Jvm.exec) (hb : c.code = cc) (htg : ∀ w ∈ gw, w.before args s = true) (hown : s.vm.findClass RX3 = some m.cls) (hK : va_K E.1 vwCl (xTY E) s) (hP : va_P E.1 vwCl ws H) (q0 : Nat) (he : ws[q0]? = some (a, o3 T r7 r8 r9 r10 r11 r12 r13 r14)) (hdg : decode cc pc = .ok (.getfield 45, 3)) (kk : W p l e R s m args below meth c H locs ce sl Q (F0 m (pc + 3) ls (.int (T 0) :: rest))) : W p l e R s m args below meth c H locs ce sl Q (F0 m pc ls (.ref a :: rest)) :=
  va_get hx hb htg hwX3 hown hK hP q0 he rfl 0 (by decide) (htg _ fl3_45) (fun _ h => h) rfl hdg kk
theorem P3_45 {T : Nat → Int32} {r7 : Nat} {r8 : Nat} {r9 : Nat} {r10 : Nat} {r11 : Nat} {r12 : Nat} {r13 : Nat} {r14 : Nat} (hx : p.tables.exec = Jvm.exec) (hb : c.code = cc) (htg : ∀ w ∈ gw, w.before args s = true) (hown : s.vm.findClass RX3 = some m.cls) (hK : va_K E.1 vwCl (xTY E) s) (hP : va_P E.1 vwCl ws H) (hD : va_D A ws) (hS : va_S A s.heap H locs) (q0 : Nat) (he : ws[q0]? = some (a, o3 T r7 r8 r9 r10 r11 r12 r13 r14)) {v : Int32} (hdg : decode cc pc = .ok (.putfield 45, 3)) (kk : ∀ (H1 : Heap) (locs1 : List Loc), va_P E.1 vwCl (ws.set q0 (a, o3 (upd T 0 v) r7 r8 r9 r10 r11 r12 r13 r14)) H1 → va_D A (ws.set q0 (a, o3 (upd T 0 v) r7 r8 r9 r10 r11 r12 r13 r14)) → va_S A s.heap H1 locs1 → W p l e R s m args below meth c H1 locs1 ce sl Q (F0 m (pc + 3) ls rest)) : W p l e R s m args below meth c H locs ce sl Q (F0 m pc ls (.int v :: .ref a :: rest)) :=
  va_put (ty := .int) hx hb htg hwX3 tyX3 tyX3_ok nmX3 hown hK hP hD hS q0 he rfl 0 (by decide) (htg _ fl3_45) (fun _ h => h) rfl (by decide +kernel) rfl rfl (Nat.le_of_ble_eq_true rfl) hdg kk
theorem fl3_48 : Cond.fieldLink RX3 48 "SighChart$Duchy" "columns" "I" ∈ gw := gw_t (tb2 89 rfl) rfl
theorem G3_48 {T : Nat → Int32} {r7 : Nat} {r8 : Nat} {r9 : Nat} {r10 : Nat} {r11 : Nat} {r12 : Nat} {r13 : Nat} {r14 : Nat} (hx : p.tables.exec = Jvm.exec) (hb : c.code = cc) (htg : ∀ w ∈ gw, w.before args s = true) (hown : s.vm.findClass RX3 = some m.cls) (hK : va_K E.1 vwCl (xTY E) s) (hP : va_P E.1 vwCl ws H) (q0 : Nat) (he : ws[q0]? = some (a, o3 T r7 r8 r9 r10 r11 r12 r13 r14)) (hdg : decode cc pc = .ok (.getfield 48, 3)) (kk : W p l e R s m args below meth c H locs ce sl Q (F0 m (pc + 3) ls (.int (T 1) :: rest))) : W p l e R s m args below meth c H locs ce sl Q (F0 m pc ls (.ref a :: rest)) :=
  va_get hx hb htg hwX3 hown hK hP q0 he rfl 1 (by decide) (htg _ fl3_48) (fun _ h => h) rfl hdg kk
theorem P3_48 {T : Nat → Int32} {r7 : Nat} {r8 : Nat} {r9 : Nat} {r10 : Nat} {r11 : Nat} {r12 : Nat} {r13 : Nat} {r14 : Nat} (hx : p.tables.exec = Jvm.exec) (hb : c.code = cc) (htg : ∀ w ∈ gw, w.before args s = true) (hown : s.vm.findClass RX3 = some m.cls) (hK : va_K E.1 vwCl (xTY E) s) (hP : va_P E.1 vwCl ws H) (hD : va_D A ws) (hS : va_S A s.heap H locs) (q0 : Nat) (he : ws[q0]? = some (a, o3 T r7 r8 r9 r10 r11 r12 r13 r14)) {v : Int32} (hdg : decode cc pc = .ok (.putfield 48, 3)) (kk : ∀ (H1 : Heap) (locs1 : List Loc), va_P E.1 vwCl (ws.set q0 (a, o3 (upd T 1 v) r7 r8 r9 r10 r11 r12 r13 r14)) H1 → va_D A (ws.set q0 (a, o3 (upd T 1 v) r7 r8 r9 r10 r11 r12 r13 r14)) → va_S A s.heap H1 locs1 → W p l e R s m args below meth c H1 locs1 ce sl Q (F0 m (pc + 3) ls rest)) : W p l e R s m args below meth c H locs ce sl Q (F0 m pc ls (.int v :: .ref a :: rest)) :=
  va_put (ty := .int) hx hb htg hwX3 tyX3 tyX3_ok nmX3 hown hK hP hD hS q0 he rfl 1 (by decide) (htg _ fl3_48) (fun _ h => h) rfl (by decide +kernel) rfl rfl (Nat.le_of_ble_eq_true rfl) hdg kk
theorem fl3_51 : Cond.fieldLink RX3 51 "SighChart$Duchy" "harbour" "I" ∈ gw := gw_t (tb2 96 rfl) rfl
theorem G3_51 {T : Nat → Int32} {r7 : Nat} {r8 : Nat} {r9 : Nat} {r10 : Nat} {r11 : Nat} {r12 : Nat} {r13 : Nat} {r14 : Nat} (hx : p.tables.exec = Jvm.exec) (hb : c.code = cc) (htg : ∀ w ∈ gw, w.before args s = true) (hown : s.vm.findClass RX3 = some m.cls) (hK : va_K E.1 vwCl (xTY E) s) (hP : va_P E.1 vwCl ws H) (q0 : Nat) (he : ws[q0]? = some (a, o3 T r7 r8 r9 r10 r11 r12 r13 r14)) (hdg : decode cc pc = .ok (.getfield 51, 3)) (kk : W p l e R s m args below meth c H locs ce sl Q (F0 m (pc + 3) ls (.int (T 3) :: rest))) : W p l e R s m args below meth c H locs ce sl Q (F0 m pc ls (.ref a :: rest)) :=
  va_get hx hb htg hwX3 hown hK hP q0 he rfl 3 (by decide) (htg _ fl3_51) (fun _ h => h) rfl hdg kk
theorem P3_51 {T : Nat → Int32} {r7 : Nat} {r8 : Nat} {r9 : Nat} {r10 : Nat} {r11 : Nat} {r12 : Nat} {r13 : Nat} {r14 : Nat} (hx : p.tables.exec = Jvm.exec) (hb : c.code = cc) (htg : ∀ w ∈ gw, w.before args s = true) (hown : s.vm.findClass RX3 = some m.cls) (hK : va_K E.1 vwCl (xTY E) s) (hP : va_P E.1 vwCl ws H) (hD : va_D A ws) (hS : va_S A s.heap H locs) (q0 : Nat) (he : ws[q0]? = some (a, o3 T r7 r8 r9 r10 r11 r12 r13 r14)) {v : Int32} (hdg : decode cc pc = .ok (.putfield 51, 3)) (kk : ∀ (H1 : Heap) (locs1 : List Loc), va_P E.1 vwCl (ws.set q0 (a, o3 (upd T 3 v) r7 r8 r9 r10 r11 r12 r13 r14)) H1 → va_D A (ws.set q0 (a, o3 (upd T 3 v) r7 r8 r9 r10 r11 r12 r13 r14)) → va_S A s.heap H1 locs1 → W p l e R s m args below meth c H1 locs1 ce sl Q (F0 m (pc + 3) ls rest)) : W p l e R s m args below meth c H locs ce sl Q (F0 m pc ls (.int v :: .ref a :: rest)) :=
  va_put (ty := .int) hx hb htg hwX3 tyX3 tyX3_ok nmX3 hown hK hP hD hS q0 he rfl 3 (by decide) (htg _ fl3_51) (fun _ h => h) rfl (by decide +kernel) rfl rfl (Nat.le_of_ble_eq_true rfl) hdg kk
theorem fl3_54 : Cond.fieldLink RX3 54 "SighChart$Duchy" "travellers" "I" ∈ gw := gw_t (tb2 100 rfl) rfl
theorem G3_54 {T : Nat → Int32} {r7 : Nat} {r8 : Nat} {r9 : Nat} {r10 : Nat} {r11 : Nat} {r12 : Nat} {r13 : Nat} {r14 : Nat} (hx : p.tables.exec = Jvm.exec) (hb : c.code = cc) (htg : ∀ w ∈ gw, w.before args s = true) (hown : s.vm.findClass RX3 = some m.cls) (hK : va_K E.1 vwCl (xTY E) s) (hP : va_P E.1 vwCl ws H) (q0 : Nat) (he : ws[q0]? = some (a, o3 T r7 r8 r9 r10 r11 r12 r13 r14)) (hdg : decode cc pc = .ok (.getfield 54, 3)) (kk : W p l e R s m args below meth c H locs ce sl Q (F0 m (pc + 3) ls (.int (T 4) :: rest))) : W p l e R s m args below meth c H locs ce sl Q (F0 m pc ls (.ref a :: rest)) :=
  va_get hx hb htg hwX3 hown hK hP q0 he rfl 4 (by decide) (htg _ fl3_54) (fun _ h => h) rfl hdg kk
theorem P3_54 {T : Nat → Int32} {r7 : Nat} {r8 : Nat} {r9 : Nat} {r10 : Nat} {r11 : Nat} {r12 : Nat} {r13 : Nat} {r14 : Nat} (hx : p.tables.exec = Jvm.exec) (hb : c.code = cc) (htg : ∀ w ∈ gw, w.before args s = true) (hown : s.vm.findClass RX3 = some m.cls) (hK : va_K E.1 vwCl (xTY E) s) (hP : va_P E.1 vwCl ws H) (hD : va_D A ws) (hS : va_S A s.heap H locs) (q0 : Nat) (he : ws[q0]? = some (a, o3 T r7 r8 r9 r10 r11 r12 r13 r14)) {v : Int32} (hdg : decode cc pc = .ok (.putfield 54, 3)) (kk : ∀ (H1 : Heap) (locs1 : List Loc), va_P E.1 vwCl (ws.set q0 (a, o3 (upd T 4 v) r7 r8 r9 r10 r11 r12 r13 r14)) H1 → va_D A (ws.set q0 (a, o3 (upd T 4 v) r7 r8 r9 r10 r11 r12 r13 r14)) → va_S A s.heap H1 locs1 → W p l e R s m args below meth c H1 locs1 ce sl Q (F0 m (pc + 3) ls rest)) : W p l e R s m args below meth c H locs ce sl Q (F0 m pc ls (.int v :: .ref a :: rest)) :=
  va_put (ty := .int) hx hb htg hwX3 tyX3 tyX3_ok nmX3 hown hK hP hD hS q0 he rfl 4 (by decide) (htg _ fl3_54) (fun _ h => h) rfl (by decide +kernel) rfl rfl (Nat.le_of_ble_eq_true rfl) hdg kk
theorem fl3_57 : Cond.fieldLink RX3 57 "SighChart$Duchy" "heard" "I" ∈ gw := gw_t (tb2 106 rfl) rfl
theorem G3_57 {T : Nat → Int32} {r7 : Nat} {r8 : Nat} {r9 : Nat} {r10 : Nat} {r11 : Nat} {r12 : Nat} {r13 : Nat} {r14 : Nat} (hx : p.tables.exec = Jvm.exec) (hb : c.code = cc) (htg : ∀ w ∈ gw, w.before args s = true) (hown : s.vm.findClass RX3 = some m.cls) (hK : va_K E.1 vwCl (xTY E) s) (hP : va_P E.1 vwCl ws H) (q0 : Nat) (he : ws[q0]? = some (a, o3 T r7 r8 r9 r10 r11 r12 r13 r14)) (hdg : decode cc pc = .ok (.getfield 57, 3)) (kk : W p l e R s m args below meth c H locs ce sl Q (F0 m (pc + 3) ls (.int (T 5) :: rest))) : W p l e R s m args below meth c H locs ce sl Q (F0 m pc ls (.ref a :: rest)) :=
  va_get hx hb htg hwX3 hown hK hP q0 he rfl 5 (by decide) (htg _ fl3_57) (fun _ h => h) rfl hdg kk
theorem P3_57 {T : Nat → Int32} {r7 : Nat} {r8 : Nat} {r9 : Nat} {r10 : Nat} {r11 : Nat} {r12 : Nat} {r13 : Nat} {r14 : Nat} (hx : p.tables.exec = Jvm.exec) (hb : c.code = cc) (htg : ∀ w ∈ gw, w.before args s = true) (hown : s.vm.findClass RX3 = some m.cls) (hK : va_K E.1 vwCl (xTY E) s) (hP : va_P E.1 vwCl ws H) (hD : va_D A ws) (hS : va_S A s.heap H locs) (q0 : Nat) (he : ws[q0]? = some (a, o3 T r7 r8 r9 r10 r11 r12 r13 r14)) {v : Int32} (hdg : decode cc pc = .ok (.putfield 57, 3)) (kk : ∀ (H1 : Heap) (locs1 : List Loc), va_P E.1 vwCl (ws.set q0 (a, o3 (upd T 5 v) r7 r8 r9 r10 r11 r12 r13 r14)) H1 → va_D A (ws.set q0 (a, o3 (upd T 5 v) r7 r8 r9 r10 r11 r12 r13 r14)) → va_S A s.heap H1 locs1 → W p l e R s m args below meth c H1 locs1 ce sl Q (F0 m (pc + 3) ls rest)) : W p l e R s m args below meth c H locs ce sl Q (F0 m pc ls (.int v :: .ref a :: rest)) :=
  va_put (ty := .int) hx hb htg hwX3 tyX3 tyX3_ok nmX3 hown hK hP hD hS q0 he rfl 5 (by decide) (htg _ fl3_57) (fun _ h => h) rfl (by decide +kernel) rfl rfl (Nat.le_of_ble_eq_true rfl) hdg kk
theorem fl3_60 : Cond.fieldLink RX3 60 "SighChart$Duchy" "tellings" "I" ∈ gw := gw_t (tb2 111 rfl) rfl
theorem G3_60 {T : Nat → Int32} {r7 : Nat} {r8 : Nat} {r9 : Nat} {r10 : Nat} {r11 : Nat} {r12 : Nat} {r13 : Nat} {r14 : Nat} (hx : p.tables.exec = Jvm.exec) (hb : c.code = cc) (htg : ∀ w ∈ gw, w.before args s = true) (hown : s.vm.findClass RX3 = some m.cls) (hK : va_K E.1 vwCl (xTY E) s) (hP : va_P E.1 vwCl ws H) (q0 : Nat) (he : ws[q0]? = some (a, o3 T r7 r8 r9 r10 r11 r12 r13 r14)) (hdg : decode cc pc = .ok (.getfield 60, 3)) (kk : W p l e R s m args below meth c H locs ce sl Q (F0 m (pc + 3) ls (.int (T 6) :: rest))) : W p l e R s m args below meth c H locs ce sl Q (F0 m pc ls (.ref a :: rest)) :=
  va_get hx hb htg hwX3 hown hK hP q0 he rfl 6 (by decide) (htg _ fl3_60) (fun _ h => h) rfl hdg kk
theorem P3_60 {T : Nat → Int32} {r7 : Nat} {r8 : Nat} {r9 : Nat} {r10 : Nat} {r11 : Nat} {r12 : Nat} {r13 : Nat} {r14 : Nat} (hx : p.tables.exec = Jvm.exec) (hb : c.code = cc) (htg : ∀ w ∈ gw, w.before args s = true) (hown : s.vm.findClass RX3 = some m.cls) (hK : va_K E.1 vwCl (xTY E) s) (hP : va_P E.1 vwCl ws H) (hD : va_D A ws) (hS : va_S A s.heap H locs) (q0 : Nat) (he : ws[q0]? = some (a, o3 T r7 r8 r9 r10 r11 r12 r13 r14)) {v : Int32} (hdg : decode cc pc = .ok (.putfield 60, 3)) (kk : ∀ (H1 : Heap) (locs1 : List Loc), va_P E.1 vwCl (ws.set q0 (a, o3 (upd T 6 v) r7 r8 r9 r10 r11 r12 r13 r14)) H1 → va_D A (ws.set q0 (a, o3 (upd T 6 v) r7 r8 r9 r10 r11 r12 r13 r14)) → va_S A s.heap H1 locs1 → W p l e R s m args below meth c H1 locs1 ce sl Q (F0 m (pc + 3) ls rest)) : W p l e R s m args below meth c H locs ce sl Q (F0 m pc ls (.int v :: .ref a :: rest)) :=
  va_put (ty := .int) hx hb htg hwX3 tyX3 tyX3_ok nmX3 hown hK hP hD hS q0 he rfl 6 (by decide) (htg _ fl3_60) (fun _ h => h) rfl (by decide +kernel) rfl rfl (Nat.le_of_ble_eq_true rfl) hdg kk
theorem fl4_14 : Cond.fieldLink RX4 14 "SighChart$DuchyReader" "oddsTold" "Z" ∈ gw := gw_t (tb1 152 rfl) rfl
theorem G4_14 {T : Nat → Int32} (hx : p.tables.exec = Jvm.exec) (hb : c.code = cc) (htg : ∀ w ∈ gw, w.before args s = true) (hown : s.vm.findClass RX4 = some m.cls) (hK : va_K E.1 vwCl (xTY E) s) (hP : va_P E.1 vwCl ws H) (q0 : Nat) (he : ws[q0]? = some (a, o4 T)) (hdg : decode cc pc = .ok (.getfield 14, 3)) (kk : W p l e R s m args below meth c H locs ce sl Q (F0 m (pc + 3) ls (.int (T 1) :: rest))) : W p l e R s m args below meth c H locs ce sl Q (F0 m pc ls (.ref a :: rest)) :=
  va_get hx hb htg hwX4 hown hK hP q0 he rfl 0 (by decide) (htg _ fl4_14) (fun _ h => h) rfl hdg kk
theorem P4_14 {T : Nat → Int32} (hx : p.tables.exec = Jvm.exec) (hb : c.code = cc) (htg : ∀ w ∈ gw, w.before args s = true) (hown : s.vm.findClass RX4 = some m.cls) (hK : va_K E.1 vwCl (xTY E) s) (hP : va_P E.1 vwCl ws H) (hD : va_D A ws) (hS : va_S A s.heap H locs) (q0 : Nat) (he : ws[q0]? = some (a, o4 T)) {v : Int32} (hz : bz v = true) (hdg : decode cc pc = .ok (.putfield 14, 3)) (kk : ∀ (H1 : Heap) (locs1 : List Loc), va_P E.1 vwCl (ws.set q0 (a, o4 (upd T 1 v))) H1 → va_D A (ws.set q0 (a, o4 (upd T 1 v))) → va_S A s.heap H1 locs1 → W p l e R s m args below meth c H1 locs1 ce sl Q (F0 m (pc + 3) ls rest)) : W p l e R s m args below meth c H locs ce sl Q (F0 m pc ls (.int v :: .ref a :: rest)) :=
  va_put (ty := .boolean) hx hb htg hwX4 tyX4 tyX4_ok nmX4 hown hK hP hD hS q0 he rfl 0 (by decide) (htg _ fl4_14) (fun _ h => h) rfl (by decide +kernel) (bz_n hz).1 (bz_n hz).2 (Nat.le_of_ble_eq_true rfl) hdg kk
theorem fl4_20 : Cond.fieldLink RX4 20 "SighChart$DuchyReader" "harbourTold" "Z" ∈ gw := gw_t (tb1 153 rfl) rfl
theorem G4_20 {T : Nat → Int32} (hx : p.tables.exec = Jvm.exec) (hb : c.code = cc) (htg : ∀ w ∈ gw, w.before args s = true) (hown : s.vm.findClass RX4 = some m.cls) (hK : va_K E.1 vwCl (xTY E) s) (hP : va_P E.1 vwCl ws H) (q0 : Nat) (he : ws[q0]? = some (a, o4 T)) (hdg : decode cc pc = .ok (.getfield 20, 3)) (kk : W p l e R s m args below meth c H locs ce sl Q (F0 m (pc + 3) ls (.int (T 2) :: rest))) : W p l e R s m args below meth c H locs ce sl Q (F0 m pc ls (.ref a :: rest)) :=
  va_get hx hb htg hwX4 hown hK hP q0 he rfl 1 (by decide) (htg _ fl4_20) (fun _ h => h) rfl hdg kk
theorem P4_20 {T : Nat → Int32} (hx : p.tables.exec = Jvm.exec) (hb : c.code = cc) (htg : ∀ w ∈ gw, w.before args s = true) (hown : s.vm.findClass RX4 = some m.cls) (hK : va_K E.1 vwCl (xTY E) s) (hP : va_P E.1 vwCl ws H) (hD : va_D A ws) (hS : va_S A s.heap H locs) (q0 : Nat) (he : ws[q0]? = some (a, o4 T)) {v : Int32} (hz : bz v = true) (hdg : decode cc pc = .ok (.putfield 20, 3)) (kk : ∀ (H1 : Heap) (locs1 : List Loc), va_P E.1 vwCl (ws.set q0 (a, o4 (upd T 2 v))) H1 → va_D A (ws.set q0 (a, o4 (upd T 2 v))) → va_S A s.heap H1 locs1 → W p l e R s m args below meth c H1 locs1 ce sl Q (F0 m (pc + 3) ls rest)) : W p l e R s m args below meth c H locs ce sl Q (F0 m pc ls (.int v :: .ref a :: rest)) :=
  va_put (ty := .boolean) hx hb htg hwX4 tyX4 tyX4_ok nmX4 hown hK hP hD hS q0 he rfl 1 (by decide) (htg _ fl4_20) (fun _ h => h) rfl (by decide +kernel) (bz_n hz).1 (bz_n hz).2 (Nat.le_of_ble_eq_true rfl) hdg kk
theorem fl4_63 : Cond.fieldLink RX4 63 "SighChart$Duchy" "tellings" "I" ∈ gw := gw_t (tb2 112 rfl) rfl
theorem G4_63 {T : Nat → Int32} {r7 : Nat} {r8 : Nat} {r9 : Nat} {r10 : Nat} {r11 : Nat} {r12 : Nat} {r13 : Nat} {r14 : Nat} (hx : p.tables.exec = Jvm.exec) (hb : c.code = cc) (htg : ∀ w ∈ gw, w.before args s = true) (hown : s.vm.findClass RX4 = some m.cls) (hK : va_K E.1 vwCl (xTY E) s) (hP : va_P E.1 vwCl ws H) (q0 : Nat) (he : ws[q0]? = some (a, o3 T r7 r8 r9 r10 r11 r12 r13 r14)) (hdg : decode cc pc = .ok (.getfield 63, 3)) (kk : W p l e R s m args below meth c H locs ce sl Q (F0 m (pc + 3) ls (.int (T 6) :: rest))) : W p l e R s m args below meth c H locs ce sl Q (F0 m pc ls (.ref a :: rest)) :=
  va_get hx hb htg hwX3 hown hK hP q0 he rfl 6 (by decide) (htg _ fl4_63) (fun _ h => h) rfl hdg kk
theorem fl4_67 : Cond.fieldLink RX4 67 "SighChart$Duchy" "rows" "I" ∈ gw := gw_t (tb2 85 rfl) rfl
theorem G4_67 {T : Nat → Int32} {r7 : Nat} {r8 : Nat} {r9 : Nat} {r10 : Nat} {r11 : Nat} {r12 : Nat} {r13 : Nat} {r14 : Nat} (hx : p.tables.exec = Jvm.exec) (hb : c.code = cc) (htg : ∀ w ∈ gw, w.before args s = true) (hown : s.vm.findClass RX4 = some m.cls) (hK : va_K E.1 vwCl (xTY E) s) (hP : va_P E.1 vwCl ws H) (q0 : Nat) (he : ws[q0]? = some (a, o3 T r7 r8 r9 r10 r11 r12 r13 r14)) (hdg : decode cc pc = .ok (.getfield 67, 3)) (kk : W p l e R s m args below meth c H locs ce sl Q (F0 m (pc + 3) ls (.int (T 0) :: rest))) : W p l e R s m args below meth c H locs ce sl Q (F0 m pc ls (.ref a :: rest)) :=
  va_get hx hb htg hwX3 hown hK hP q0 he rfl 0 (by decide) (htg _ fl4_67) (fun _ h => h) rfl hdg kk
theorem P4_67 {T : Nat → Int32} {r7 : Nat} {r8 : Nat} {r9 : Nat} {r10 : Nat} {r11 : Nat} {r12 : Nat} {r13 : Nat} {r14 : Nat} (hx : p.tables.exec = Jvm.exec) (hb : c.code = cc) (htg : ∀ w ∈ gw, w.before args s = true) (hown : s.vm.findClass RX4 = some m.cls) (hK : va_K E.1 vwCl (xTY E) s) (hP : va_P E.1 vwCl ws H) (hD : va_D A ws) (hS : va_S A s.heap H locs) (q0 : Nat) (he : ws[q0]? = some (a, o3 T r7 r8 r9 r10 r11 r12 r13 r14)) {v : Int32} (hdg : decode cc pc = .ok (.putfield 67, 3)) (kk : ∀ (H1 : Heap) (locs1 : List Loc), va_P E.1 vwCl (ws.set q0 (a, o3 (upd T 0 v) r7 r8 r9 r10 r11 r12 r13 r14)) H1 → va_D A (ws.set q0 (a, o3 (upd T 0 v) r7 r8 r9 r10 r11 r12 r13 r14)) → va_S A s.heap H1 locs1 → W p l e R s m args below meth c H1 locs1 ce sl Q (F0 m (pc + 3) ls rest)) : W p l e R s m args below meth c H locs ce sl Q (F0 m pc ls (.int v :: .ref a :: rest)) :=
  va_put (ty := .int) hx hb htg hwX3 tyX3 tyX3_ok nmX3 hown hK hP hD hS q0 he rfl 0 (by decide) (htg _ fl4_67) (fun _ h => h) rfl (by decide +kernel) rfl rfl (Nat.le_of_ble_eq_true rfl) hdg kk
theorem fl4_79 : Cond.fieldLink RX4 79 "SighChart$Duchy" "columns" "I" ∈ gw := gw_t (tb2 90 rfl) rfl
theorem G4_79 {T : Nat → Int32} {r7 : Nat} {r8 : Nat} {r9 : Nat} {r10 : Nat} {r11 : Nat} {r12 : Nat} {r13 : Nat} {r14 : Nat} (hx : p.tables.exec = Jvm.exec) (hb : c.code = cc) (htg : ∀ w ∈ gw, w.before args s = true) (hown : s.vm.findClass RX4 = some m.cls) (hK : va_K E.1 vwCl (xTY E) s) (hP : va_P E.1 vwCl ws H) (q0 : Nat) (he : ws[q0]? = some (a, o3 T r7 r8 r9 r10 r11 r12 r13 r14)) (hdg : decode cc pc = .ok (.getfield 79, 3)) (kk : W p l e R s m args below meth c H locs ce sl Q (F0 m (pc + 3) ls (.int (T 1) :: rest))) : W p l e R s m args below meth c H locs ce sl Q (F0 m pc ls (.ref a :: rest)) :=
  va_get hx hb htg hwX3 hown hK hP q0 he rfl 1 (by decide) (htg _ fl4_79) (fun _ h => h) rfl hdg kk
theorem P4_79 {T : Nat → Int32} {r7 : Nat} {r8 : Nat} {r9 : Nat} {r10 : Nat} {r11 : Nat} {r12 : Nat} {r13 : Nat} {r14 : Nat} (hx : p.tables.exec = Jvm.exec) (hb : c.code = cc) (htg : ∀ w ∈ gw, w.before args s = true) (hown : s.vm.findClass RX4 = some m.cls) (hK : va_K E.1 vwCl (xTY E) s) (hP : va_P E.1 vwCl ws H) (hD : va_D A ws) (hS : va_S A s.heap H locs) (q0 : Nat) (he : ws[q0]? = some (a, o3 T r7 r8 r9 r10 r11 r12 r13 r14)) {v : Int32} (hdg : decode cc pc = .ok (.putfield 79, 3)) (kk : ∀ (H1 : Heap) (locs1 : List Loc), va_P E.1 vwCl (ws.set q0 (a, o3 (upd T 1 v) r7 r8 r9 r10 r11 r12 r13 r14)) H1 → va_D A (ws.set q0 (a, o3 (upd T 1 v) r7 r8 r9 r10 r11 r12 r13 r14)) → va_S A s.heap H1 locs1 → W p l e R s m args below meth c H1 locs1 ce sl Q (F0 m (pc + 3) ls rest)) : W p l e R s m args below meth c H locs ce sl Q (F0 m pc ls (.int v :: .ref a :: rest)) :=
  va_put (ty := .int) hx hb htg hwX3 tyX3 tyX3_ok nmX3 hown hK hP hD hS q0 he rfl 1 (by decide) (htg _ fl4_79) (fun _ h => h) rfl (by decide +kernel) rfl rfl (Nat.le_of_ble_eq_true rfl) hdg kk
theorem fl4_96 : Cond.fieldLink RX4 96 "SighChart$Duchy" "sea" "[I" ∈ gw := gw_t (tb2 116 rfl) rfl
theorem G4_96 {T : Nat → Int32} {r7 : Nat} {r8 : Nat} {r9 : Nat} {r10 : Nat} {r11 : Nat} {r12 : Nat} {r13 : Nat} {r14 : Nat} (hx : p.tables.exec = Jvm.exec) (hb : c.code = cc) (htg : ∀ w ∈ gw, w.before args s = true) (hown : s.vm.findClass RX4 = some m.cls) (hK : va_K E.1 vwCl (xTY E) s) (hP : va_P E.1 vwCl ws H) (q0 : Nat) (he : ws[q0]? = some (a, o3 T r7 r8 r9 r10 r11 r12 r13 r14)) (hdg : decode cc pc = .ok (.getfield 96, 3)) (kk : W p l e R s m args below meth c H locs ce sl Q (F0 m (pc + 3) ls (.ref r7 :: rest))) : W p l e R s m args below meth c H locs ce sl Q (F0 m pc ls (.ref a :: rest)) :=
  va_get hx hb htg hwX3 hown hK hP q0 he rfl 7 (by decide) (htg _ fl4_96) (fun _ h => h) rfl hdg kk
theorem fl4_107 : Cond.fieldLink RX4 107 "SighChart$Duchy" "odds" "I" ∈ gw := gw_t (tb2 94 rfl) rfl
theorem P4_107 {T : Nat → Int32} {r7 : Nat} {r8 : Nat} {r9 : Nat} {r10 : Nat} {r11 : Nat} {r12 : Nat} {r13 : Nat} {r14 : Nat} (hx : p.tables.exec = Jvm.exec) (hb : c.code = cc) (htg : ∀ w ∈ gw, w.before args s = true) (hown : s.vm.findClass RX4 = some m.cls) (hK : va_K E.1 vwCl (xTY E) s) (hP : va_P E.1 vwCl ws H) (hD : va_D A ws) (hS : va_S A s.heap H locs) (q0 : Nat) (he : ws[q0]? = some (a, o3 T r7 r8 r9 r10 r11 r12 r13 r14)) {v : Int32} (hdg : decode cc pc = .ok (.putfield 107, 3)) (kk : ∀ (H1 : Heap) (locs1 : List Loc), va_P E.1 vwCl (ws.set q0 (a, o3 (upd T 2 v) r7 r8 r9 r10 r11 r12 r13 r14)) H1 → va_D A (ws.set q0 (a, o3 (upd T 2 v) r7 r8 r9 r10 r11 r12 r13 r14)) → va_S A s.heap H1 locs1 → W p l e R s m args below meth c H1 locs1 ce sl Q (F0 m (pc + 3) ls rest)) : W p l e R s m args below meth c H locs ce sl Q (F0 m pc ls (.int v :: .ref a :: rest)) :=
  va_put (ty := .int) hx hb htg hwX3 tyX3 tyX3_ok nmX3 hown hK hP hD hS q0 he rfl 2 (by decide) (htg _ fl4_107) (fun _ h => h) rfl (by decide +kernel) rfl rfl (Nat.le_of_ble_eq_true rfl) hdg kk
theorem fl4_110 : Cond.fieldLink RX4 110 "SighChart$Duchy" "harbour" "I" ∈ gw := gw_t (tb2 98 rfl) rfl
theorem P4_110 {T : Nat → Int32} {r7 : Nat} {r8 : Nat} {r9 : Nat} {r10 : Nat} {r11 : Nat} {r12 : Nat} {r13 : Nat} {r14 : Nat} (hx : p.tables.exec = Jvm.exec) (hb : c.code = cc) (htg : ∀ w ∈ gw, w.before args s = true) (hown : s.vm.findClass RX4 = some m.cls) (hK : va_K E.1 vwCl (xTY E) s) (hP : va_P E.1 vwCl ws H) (hD : va_D A ws) (hS : va_S A s.heap H locs) (q0 : Nat) (he : ws[q0]? = some (a, o3 T r7 r8 r9 r10 r11 r12 r13 r14)) {v : Int32} (hdg : decode cc pc = .ok (.putfield 110, 3)) (kk : ∀ (H1 : Heap) (locs1 : List Loc), va_P E.1 vwCl (ws.set q0 (a, o3 (upd T 3 v) r7 r8 r9 r10 r11 r12 r13 r14)) H1 → va_D A (ws.set q0 (a, o3 (upd T 3 v) r7 r8 r9 r10 r11 r12 r13 r14)) → va_S A s.heap H1 locs1 → W p l e R s m args below meth c H1 locs1 ce sl Q (F0 m (pc + 3) ls rest)) : W p l e R s m args below meth c H locs ce sl Q (F0 m pc ls (.int v :: .ref a :: rest)) :=
  va_put (ty := .int) hx hb htg hwX3 tyX3 tyX3_ok nmX3 hown hK hP hD hS q0 he rfl 3 (by decide) (htg _ fl4_110) (fun _ h => h) rfl (by decide +kernel) rfl rfl (Nat.le_of_ble_eq_true rfl) hdg kk
theorem fl4_113 : Cond.fieldLink RX4 113 "SighChart$Duchy" "travellers" "I" ∈ gw := gw_t (tb2 101 rfl) rfl
theorem G4_113 {T : Nat → Int32} {r7 : Nat} {r8 : Nat} {r9 : Nat} {r10 : Nat} {r11 : Nat} {r12 : Nat} {r13 : Nat} {r14 : Nat} (hx : p.tables.exec = Jvm.exec) (hb : c.code = cc) (htg : ∀ w ∈ gw, w.before args s = true) (hown : s.vm.findClass RX4 = some m.cls) (hK : va_K E.1 vwCl (xTY E) s) (hP : va_P E.1 vwCl ws H) (q0 : Nat) (he : ws[q0]? = some (a, o3 T r7 r8 r9 r10 r11 r12 r13 r14)) (hdg : decode cc pc = .ok (.getfield 113, 3)) (kk : W p l e R s m args below meth c H locs ce sl Q (F0 m (pc + 3) ls (.int (T 4) :: rest))) : W p l e R s m args below meth c H locs ce sl Q (F0 m pc ls (.ref a :: rest)) :=
  va_get hx hb htg hwX3 hown hK hP q0 he rfl 4 (by decide) (htg _ fl4_113) (fun _ h => h) rfl hdg kk
theorem fl5_11 : Cond.fieldLink RX5 11 "SighChart$Life" "deeds" "[I" ∈ gw := gw_t (tb2 18 rfl) rfl
theorem G5_11 {T : Nat → Int32} {r0 : Nat} {r1 : Nat} {r3 : Nat} {r4 : Nat} {r5 : Nat} (hx : p.tables.exec = Jvm.exec) (hb : c.code = cc) (htg : ∀ w ∈ gw, w.before args s = true) (hown : s.vm.findClass RX5 = some m.cls) (hK : va_K E.1 vwCl (xTY E) s) (hP : va_P E.1 vwCl ws H) (q0 : Nat) (he : ws[q0]? = some (a, o5 T r0 r1 r3 r4 r5)) (hdg : decode cc pc = .ok (.getfield 11, 3)) (kk : W p l e R s m args below meth c H locs ce sl Q (F0 m (pc + 3) ls (.ref r0 :: rest))) : W p l e R s m args below meth c H locs ce sl Q (F0 m pc ls (.ref a :: rest)) :=
  va_get hx hb htg hwX5 hown hK hP q0 he rfl 0 (by decide) (htg _ fl5_11) (fun _ h => h) rfl hdg kk
theorem fl5_15 : Cond.fieldLink RX5 15 "SighChart$Life" "keptDeeds" "[I" ∈ gw := gw_t (tb2 19 rfl) rfl
theorem G5_15 {T : Nat → Int32} {r0 : Nat} {r1 : Nat} {r3 : Nat} {r4 : Nat} {r5 : Nat} (hx : p.tables.exec = Jvm.exec) (hb : c.code = cc) (htg : ∀ w ∈ gw, w.before args s = true) (hown : s.vm.findClass RX5 = some m.cls) (hK : va_K E.1 vwCl (xTY E) s) (hP : va_P E.1 vwCl ws H) (q0 : Nat) (he : ws[q0]? = some (a, o5 T r0 r1 r3 r4 r5)) (hdg : decode cc pc = .ok (.getfield 15, 3)) (kk : W p l e R s m args below meth c H locs ce sl Q (F0 m (pc + 3) ls (.ref r1 :: rest))) : W p l e R s m args below meth c H locs ce sl Q (F0 m pc ls (.ref a :: rest)) :=
  va_get hx hb htg hwX5 hown hK hP q0 he rfl 1 (by decide) (htg _ fl5_15) (fun _ h => h) rfl hdg kk
theorem fl5_20 : Cond.fieldLink RX5 20 "SighChart$Life" "roundsLeft" "[I" ∈ gw := gw_t (tb2 21 rfl) rfl
theorem G5_20 {T : Nat → Int32} {r0 : Nat} {r1 : Nat} {r3 : Nat} {r4 : Nat} {r5 : Nat} (hx : p.tables.exec = Jvm.exec) (hb : c.code = cc) (htg : ∀ w ∈ gw, w.before args s = true) (hown : s.vm.findClass RX5 = some m.cls) (hK : va_K E.1 vwCl (xTY E) s) (hP : va_P E.1 vwCl ws H) (q0 : Nat) (he : ws[q0]? = some (a, o5 T r0 r1 r3 r4 r5)) (hdg : decode cc pc = .ok (.getfield 20, 3)) (kk : W p l e R s m args below meth c H locs ce sl Q (F0 m (pc + 3) ls (.ref r3 :: rest))) : W p l e R s m args below meth c H locs ce sl Q (F0 m pc ls (.ref a :: rest)) :=
  va_get hx hb htg hwX5 hown hK hP q0 he rfl 3 (by decide) (htg _ fl5_20) (fun _ h => h) rfl hdg kk
theorem fl5_26 : Cond.fieldLink RX5 26 "SighChart$Life" "survey" "LSighChart$Survey;" ∈ gw := gw_t (tb2 22 rfl) rfl
theorem G5_26 {T : Nat → Int32} {r0 : Nat} {r1 : Nat} {r3 : Nat} {r4 : Nat} {r5 : Nat} (hx : p.tables.exec = Jvm.exec) (hb : c.code = cc) (htg : ∀ w ∈ gw, w.before args s = true) (hown : s.vm.findClass RX5 = some m.cls) (hK : va_K E.1 vwCl (xTY E) s) (hP : va_P E.1 vwCl ws H) (q0 : Nat) (he : ws[q0]? = some (a, o5 T r0 r1 r3 r4 r5)) (hdg : decode cc pc = .ok (.getfield 26, 3)) (kk : W p l e R s m args below meth c H locs ce sl Q (F0 m (pc + 3) ls (.ref r4 :: rest))) : W p l e R s m args below meth c H locs ce sl Q (F0 m pc ls (.ref a :: rest)) :=
  va_get hx hb htg hwX5 hown hK hP q0 he rfl 4 (by decide) (htg _ fl5_26) (fun _ h => h) rfl hdg kk
theorem fl5_33 : Cond.fieldLink RX5 33 "SighChart$Life" "route" "LSighChart$Route;" ∈ gw := gw_t (tb2 23 rfl) rfl
theorem G5_33 {T : Nat → Int32} {r0 : Nat} {r1 : Nat} {r3 : Nat} {r4 : Nat} {r5 : Nat} (hx : p.tables.exec = Jvm.exec) (hb : c.code = cc) (htg : ∀ w ∈ gw, w.before args s = true) (hown : s.vm.findClass RX5 = some m.cls) (hK : va_K E.1 vwCl (xTY E) s) (hP : va_P E.1 vwCl ws H) (q0 : Nat) (he : ws[q0]? = some (a, o5 T r0 r1 r3 r4 r5)) (hdg : decode cc pc = .ok (.getfield 33, 3)) (kk : W p l e R s m args below meth c H locs ce sl Q (F0 m (pc + 3) ls (.ref r5 :: rest))) : W p l e R s m args below meth c H locs ce sl Q (F0 m pc ls (.ref a :: rest)) :=
  va_get hx hb htg hwX5 hown hK hP q0 he rfl 5 (by decide) (htg _ fl5_33) (fun _ h => h) rfl hdg kk
theorem fl5_43 : Cond.fieldLink RX5 43 "SighChart$Life" "kept" "Z" ∈ gw := gw_t (tb2 20 rfl) rfl
theorem G5_43 {T : Nat → Int32} {r0 : Nat} {r1 : Nat} {r3 : Nat} {r4 : Nat} {r5 : Nat} (hx : p.tables.exec = Jvm.exec) (hb : c.code = cc) (htg : ∀ w ∈ gw, w.before args s = true) (hown : s.vm.findClass RX5 = some m.cls) (hK : va_K E.1 vwCl (xTY E) s) (hP : va_P E.1 vwCl ws H) (q0 : Nat) (he : ws[q0]? = some (a, o5 T r0 r1 r3 r4 r5)) (hdg : decode cc pc = .ok (.getfield 43, 3)) (kk : W p l e R s m args below meth c H locs ce sl Q (F0 m (pc + 3) ls (.int (T 2) :: rest))) : W p l e R s m args below meth c H locs ce sl Q (F0 m pc ls (.ref a :: rest)) :=
  va_get hx hb htg hwX5 hown hK hP q0 he rfl 2 (by decide) (htg _ fl5_43) (fun _ h => h) rfl hdg kk
theorem P5_43 {T : Nat → Int32} {r0 : Nat} {r1 : Nat} {r3 : Nat} {r4 : Nat} {r5 : Nat} (hx : p.tables.exec = Jvm.exec) (hb : c.code = cc) (htg : ∀ w ∈ gw, w.before args s = true) (hown : s.vm.findClass RX5 = some m.cls) (hK : va_K E.1 vwCl (xTY E) s) (hP : va_P E.1 vwCl ws H) (hD : va_D A ws) (hS : va_S A s.heap H locs) (q0 : Nat) (he : ws[q0]? = some (a, o5 T r0 r1 r3 r4 r5)) {v : Int32} (hz : bz v = true) (hdg : decode cc pc = .ok (.putfield 43, 3)) (kk : ∀ (H1 : Heap) (locs1 : List Loc), va_P E.1 vwCl (ws.set q0 (a, o5 (upd T 2 v) r0 r1 r3 r4 r5)) H1 → va_D A (ws.set q0 (a, o5 (upd T 2 v) r0 r1 r3 r4 r5)) → va_S A s.heap H1 locs1 → W p l e R s m args below meth c H1 locs1 ce sl Q (F0 m (pc + 3) ls rest)) : W p l e R s m args below meth c H locs ce sl Q (F0 m pc ls (.int v :: .ref a :: rest)) :=
  va_put (ty := .boolean) hx hb htg hwX5 tyX5 tyX5_ok nmX5 hown hK hP hD hS q0 he rfl 2 (by decide) (htg _ fl5_43) (fun _ h => h) rfl (by decide +kernel) (bz_n hz).1 (bz_n hz).2 (Nat.le_of_ble_eq_true rfl) hdg kk
theorem fl5_57 : Cond.fieldLink RX5 57 "SighChart$Life" "drawn" "I" ∈ gw := gw_t (tb2 24 rfl) rfl
theorem G5_57 {T : Nat → Int32} {r0 : Nat} {r1 : Nat} {r3 : Nat} {r4 : Nat} {r5 : Nat} (hx : p.tables.exec = Jvm.exec) (hb : c.code = cc) (htg : ∀ w ∈ gw, w.before args s = true) (hown : s.vm.findClass RX5 = some m.cls) (hK : va_K E.1 vwCl (xTY E) s) (hP : va_P E.1 vwCl ws H) (q0 : Nat) (he : ws[q0]? = some (a, o5 T r0 r1 r3 r4 r5)) (hdg : decode cc pc = .ok (.getfield 57, 3)) (kk : W p l e R s m args below meth c H locs ce sl Q (F0 m (pc + 3) ls (.int (T 6) :: rest))) : W p l e R s m args below meth c H locs ce sl Q (F0 m pc ls (.ref a :: rest)) :=
  va_get hx hb htg hwX5 hown hK hP q0 he rfl 6 (by decide) (htg _ fl5_57) (fun _ h => h) rfl hdg kk
theorem P5_57 {T : Nat → Int32} {r0 : Nat} {r1 : Nat} {r3 : Nat} {r4 : Nat} {r5 : Nat} (hx : p.tables.exec = Jvm.exec) (hb : c.code = cc) (htg : ∀ w ∈ gw, w.before args s = true) (hown : s.vm.findClass RX5 = some m.cls) (hK : va_K E.1 vwCl (xTY E) s) (hP : va_P E.1 vwCl ws H) (hD : va_D A ws) (hS : va_S A s.heap H locs) (q0 : Nat) (he : ws[q0]? = some (a, o5 T r0 r1 r3 r4 r5)) {v : Int32} (hdg : decode cc pc = .ok (.putfield 57, 3)) (kk : ∀ (H1 : Heap) (locs1 : List Loc), va_P E.1 vwCl (ws.set q0 (a, o5 (upd T 6 v) r0 r1 r3 r4 r5)) H1 → va_D A (ws.set q0 (a, o5 (upd T 6 v) r0 r1 r3 r4 r5)) → va_S A s.heap H1 locs1 → W p l e R s m args below meth c H1 locs1 ce sl Q (F0 m (pc + 3) ls rest)) : W p l e R s m args below meth c H locs ce sl Q (F0 m pc ls (.int v :: .ref a :: rest)) :=
  va_put (ty := .int) hx hb htg hwX5 tyX5 tyX5_ok nmX5 hown hK hP hD hS q0 he rfl 6 (by decide) (htg _ fl5_57) (fun _ h => h) rfl (by decide +kernel) rfl rfl (Nat.le_of_ble_eq_true rfl) hdg kk
theorem fl5_61 : Cond.fieldLink RX5 61 "SighChart$Duchy" "almanac" "LSighChart$Almanac;" ∈ gw := gw_t (tb2 139 rfl) rfl
theorem G5_61 {T : Nat → Int32} {r7 : Nat} {r8 : Nat} {r9 : Nat} {r10 : Nat} {r11 : Nat} {r12 : Nat} {r13 : Nat} {r14 : Nat} (hx : p.tables.exec = Jvm.exec) (hb : c.code = cc) (htg : ∀ w ∈ gw, w.before args s = true) (hown : s.vm.findClass RX5 = some m.cls) (hK : va_K E.1 vwCl (xTY E) s) (hP : va_P E.1 vwCl ws H) (q0 : Nat) (he : ws[q0]? = some (a, o3 T r7 r8 r9 r10 r11 r12 r13 r14)) (hdg : decode cc pc = .ok (.getfield 61, 3)) (kk : W p l e R s m args below meth c H locs ce sl Q (F0 m (pc + 3) ls (.ref r14 :: rest))) : W p l e R s m args below meth c H locs ce sl Q (F0 m pc ls (.ref a :: rest)) :=
  va_get hx hb htg hwX3 hown hK hP q0 he rfl 14 (by decide) (htg _ fl5_61) (fun _ h => h) rfl hdg kk
theorem fl5_121 : Cond.fieldLink RX5 121 "SighChart$Almanac" "lines" "I" ∈ gw := gw_t (tb2 61 rfl) rfl
theorem G5_121 {T : Nat → Int32} {r3 : Nat} {r4 : Nat} {r5 : Nat} {r6 : Nat} {r7 : Nat} (hx : p.tables.exec = Jvm.exec) (hb : c.code = cc) (htg : ∀ w ∈ gw, w.before args s = true) (hown : s.vm.findClass RX5 = some m.cls) (hK : va_K E.1 vwCl (xTY E) s) (hP : va_P E.1 vwCl ws H) (q0 : Nat) (he : ws[q0]? = some (a, o0 T r3 r4 r5 r6 r7)) (hdg : decode cc pc = .ok (.getfield 121, 3)) (kk : W p l e R s m args below meth c H locs ce sl Q (F0 m (pc + 3) ls (.int (T 2) :: rest))) : W p l e R s m args below meth c H locs ce sl Q (F0 m pc ls (.ref a :: rest)) :=
  va_get hx hb htg hwX0 hown hK hP q0 he rfl 2 (by decide) (htg _ fl5_121) (fun _ h => h) rfl hdg kk
theorem fl5_128 : Cond.fieldLink RX5 128 "SighChart$Duchy" "heard" "I" ∈ gw := gw_t (tb2 107 rfl) rfl
theorem G5_128 {T : Nat → Int32} {r7 : Nat} {r8 : Nat} {r9 : Nat} {r10 : Nat} {r11 : Nat} {r12 : Nat} {r13 : Nat} {r14 : Nat} (hx : p.tables.exec = Jvm.exec) (hb : c.code = cc) (htg : ∀ w ∈ gw, w.before args s = true) (hown : s.vm.findClass RX5 = some m.cls) (hK : va_K E.1 vwCl (xTY E) s) (hP : va_P E.1 vwCl ws H) (q0 : Nat) (he : ws[q0]? = some (a, o3 T r7 r8 r9 r10 r11 r12 r13 r14)) (hdg : decode cc pc = .ok (.getfield 128, 3)) (kk : W p l e R s m args below meth c H locs ce sl Q (F0 m (pc + 3) ls (.int (T 5) :: rest))) : W p l e R s m args below meth c H locs ce sl Q (F0 m pc ls (.ref a :: rest)) :=
  va_get hx hb htg hwX3 hown hK hP q0 he rfl 5 (by decide) (htg _ fl5_128) (fun _ h => h) rfl hdg kk
theorem fl5_149 : Cond.fieldLink RX5 149 "SighChart$Duchy" "travellers" "I" ∈ gw := gw_t (tb2 103 rfl) rfl
theorem G5_149 {T : Nat → Int32} {r7 : Nat} {r8 : Nat} {r9 : Nat} {r10 : Nat} {r11 : Nat} {r12 : Nat} {r13 : Nat} {r14 : Nat} (hx : p.tables.exec = Jvm.exec) (hb : c.code = cc) (htg : ∀ w ∈ gw, w.before args s = true) (hown : s.vm.findClass RX5 = some m.cls) (hK : va_K E.1 vwCl (xTY E) s) (hP : va_P E.1 vwCl ws H) (q0 : Nat) (he : ws[q0]? = some (a, o3 T r7 r8 r9 r10 r11 r12 r13 r14)) (hdg : decode cc pc = .ok (.getfield 149, 3)) (kk : W p l e R s m args below meth c H locs ce sl Q (F0 m (pc + 3) ls (.int (T 4) :: rest))) : W p l e R s m args below meth c H locs ce sl Q (F0 m pc ls (.ref a :: rest)) :=
  va_get hx hb htg hwX3 hown hK hP q0 he rfl 4 (by decide) (htg _ fl5_149) (fun _ h => h) rfl hdg kk
theorem fl5_161 : Cond.fieldLink RX5 161 "SighChart$Duchy" "lies" "[I" ∈ gw := gw_t (tb2 120 rfl) rfl
theorem G5_161 {T : Nat → Int32} {r7 : Nat} {r8 : Nat} {r9 : Nat} {r10 : Nat} {r11 : Nat} {r12 : Nat} {r13 : Nat} {r14 : Nat} (hx : p.tables.exec = Jvm.exec) (hb : c.code = cc) (htg : ∀ w ∈ gw, w.before args s = true) (hown : s.vm.findClass RX5 = some m.cls) (hK : va_K E.1 vwCl (xTY E) s) (hP : va_P E.1 vwCl ws H) (q0 : Nat) (he : ws[q0]? = some (a, o3 T r7 r8 r9 r10 r11 r12 r13 r14)) (hdg : decode cc pc = .ok (.getfield 161, 3)) (kk : W p l e R s m args below meth c H locs ce sl Q (F0 m (pc + 3) ls (.ref r8 :: rest))) : W p l e R s m args below meth c H locs ce sl Q (F0 m pc ls (.ref a :: rest)) :=
  va_get hx hb htg hwX3 hown hK hP q0 he rfl 8 (by decide) (htg _ fl5_161) (fun _ h => h) rfl hdg kk
theorem fl6_9 : Cond.fieldLink RX6 9 "SighChart$Route" "entry" "[I" ∈ gw := gw_t (tb1 203 rfl) rfl
theorem G6_9 {T : Nat → Int32} {r0 : Nat} {r1 : Nat} {r2 : Nat} (hx : p.tables.exec = Jvm.exec) (hb : c.code = cc) (htg : ∀ w ∈ gw, w.before args s = true) (hown : s.vm.findClass RX6 = some m.cls) (hK : va_K E.1 vwCl (xTY E) s) (hP : va_P E.1 vwCl ws H) (q0 : Nat) (he : ws[q0]? = some (a, o6 T r0 r1 r2)) (hdg : decode cc pc = .ok (.getfield 9, 3)) (kk : W p l e R s m args below meth c H locs ce sl Q (F0 m (pc + 3) ls (.ref r0 :: rest))) : W p l e R s m args below meth c H locs ce sl Q (F0 m pc ls (.ref a :: rest)) :=
  va_get hx hb htg hwX6 hown hK hP q0 he rfl 0 (by decide) (htg _ fl6_9) (fun _ h => h) rfl hdg kk
theorem fl6_15 : Cond.fieldLink RX6 15 "SighChart$Route" "cost" "[I" ∈ gw := gw_t (tb1 204 rfl) rfl
theorem G6_15 {T : Nat → Int32} {r0 : Nat} {r1 : Nat} {r2 : Nat} (hx : p.tables.exec = Jvm.exec) (hb : c.code = cc) (htg : ∀ w ∈ gw, w.before args s = true) (hown : s.vm.findClass RX6 = some m.cls) (hK : va_K E.1 vwCl (xTY E) s) (hP : va_P E.1 vwCl ws H) (q0 : Nat) (he : ws[q0]? = some (a, o6 T r0 r1 r2)) (hdg : decode cc pc = .ok (.getfield 15, 3)) (kk : W p l e R s m args below meth c H locs ce sl Q (F0 m (pc + 3) ls (.ref r1 :: rest))) : W p l e R s m args below meth c H locs ce sl Q (F0 m pc ls (.ref a :: rest)) :=
  va_get hx hb htg hwX6 hown hK hP q0 he rfl 1 (by decide) (htg _ fl6_15) (fun _ h => h) rfl hdg kk
theorem fl6_18 : Cond.fieldLink RX6 18 "SighChart$Route" "path" "[I" ∈ gw := gw_t (tb1 205 rfl) rfl
theorem G6_18 {T : Nat → Int32} {r0 : Nat} {r1 : Nat} {r2 : Nat} (hx : p.tables.exec = Jvm.exec) (hb : c.code = cc) (htg : ∀ w ∈ gw, w.before args s = true) (hown : s.vm.findClass RX6 = some m.cls) (hK : va_K E.1 vwCl (xTY E) s) (hP : va_P E.1 vwCl ws H) (q0 : Nat) (he : ws[q0]? = some (a, o6 T r0 r1 r2)) (hdg : decode cc pc = .ok (.getfield 18, 3)) (kk : W p l e R s m args below meth c H locs ce sl Q (F0 m (pc + 3) ls (.ref r2 :: rest))) : W p l e R s m args below meth c H locs ce sl Q (F0 m pc ls (.ref a :: rest)) :=
  va_get hx hb htg hwX6 hown hK hP q0 he rfl 2 (by decide) (htg _ fl6_18) (fun _ h => h) rfl hdg kk
theorem fl6_21 : Cond.fieldLink RX6 21 "SighChart$Duchy" "columns" "I" ∈ gw := gw_t (tb2 88 rfl) rfl
theorem G6_21 {T : Nat → Int32} {r7 : Nat} {r8 : Nat} {r9 : Nat} {r10 : Nat} {r11 : Nat} {r12 : Nat} {r13 : Nat} {r14 : Nat} (hx : p.tables.exec = Jvm.exec) (hb : c.code = cc) (htg : ∀ w ∈ gw, w.before args s = true) (hown : s.vm.findClass RX6 = some m.cls) (hK : va_K E.1 vwCl (xTY E) s) (hP : va_P E.1 vwCl ws H) (q0 : Nat) (he : ws[q0]? = some (a, o3 T r7 r8 r9 r10 r11 r12 r13 r14)) (hdg : decode cc pc = .ok (.getfield 21, 3)) (kk : W p l e R s m args below meth c H locs ce sl Q (F0 m (pc + 3) ls (.int (T 1) :: rest))) : W p l e R s m args below meth c H locs ce sl Q (F0 m pc ls (.ref a :: rest)) :=
  va_get hx hb htg hwX3 hown hK hP q0 he rfl 1 (by decide) (htg _ fl6_21) (fun _ h => h) rfl hdg kk
theorem fl6_27 : Cond.fieldLink RX6 27 "SighChart$Route" "columns" "I" ∈ gw := gw_t (tb1 206 rfl) rfl
theorem G6_27 {T : Nat → Int32} {r0 : Nat} {r1 : Nat} {r2 : Nat} (hx : p.tables.exec = Jvm.exec) (hb : c.code = cc) (htg : ∀ w ∈ gw, w.before args s = true) (hown : s.vm.findClass RX6 = some m.cls) (hK : va_K E.1 vwCl (xTY E) s) (hP : va_P E.1 vwCl ws H) (q0 : Nat) (he : ws[q0]? = some (a, o6 T r0 r1 r2)) (hdg : decode cc pc = .ok (.getfield 27, 3)) (kk : W p l e R s m args below meth c H locs ce sl Q (F0 m (pc + 3) ls (.int (T 3) :: rest))) : W p l e R s m args below meth c H locs ce sl Q (F0 m pc ls (.ref a :: rest)) :=
  va_get hx hb htg hwX6 hown hK hP q0 he rfl 3 (by decide) (htg _ fl6_27) (fun _ h => h) rfl hdg kk
theorem P6_27 {T : Nat → Int32} {r0 : Nat} {r1 : Nat} {r2 : Nat} (hx : p.tables.exec = Jvm.exec) (hb : c.code = cc) (htg : ∀ w ∈ gw, w.before args s = true) (hown : s.vm.findClass RX6 = some m.cls) (hK : va_K E.1 vwCl (xTY E) s) (hP : va_P E.1 vwCl ws H) (hD : va_D A ws) (hS : va_S A s.heap H locs) (q0 : Nat) (he : ws[q0]? = some (a, o6 T r0 r1 r2)) {v : Int32} (hdg : decode cc pc = .ok (.putfield 27, 3)) (kk : ∀ (H1 : Heap) (locs1 : List Loc), va_P E.1 vwCl (ws.set q0 (a, o6 (upd T 3 v) r0 r1 r2)) H1 → va_D A (ws.set q0 (a, o6 (upd T 3 v) r0 r1 r2)) → va_S A s.heap H1 locs1 → W p l e R s m args below meth c H1 locs1 ce sl Q (F0 m (pc + 3) ls rest)) : W p l e R s m args below meth c H locs ce sl Q (F0 m pc ls (.int v :: .ref a :: rest)) :=
  va_put (ty := .int) hx hb htg hwX6 tyX6 tyX6_ok nmX6 hown hK hP hD hS q0 he rfl 3 (by decide) (htg _ fl6_27) (fun _ h => h) rfl (by decide +kernel) rfl rfl (Nat.le_of_ble_eq_true rfl) hdg kk
theorem fl6_32 : Cond.fieldLink RX6 32 "SighChart$Route" "count" "I" ∈ gw := gw_t (tb1 207 rfl) rfl
theorem G6_32 {T : Nat → Int32} {r0 : Nat} {r1 : Nat} {r2 : Nat} (hx : p.tables.exec = Jvm.exec) (hb : c.code = cc) (htg : ∀ w ∈ gw, w.before args s = true) (hown : s.vm.findClass RX6 = some m.cls) (hK : va_K E.1 vwCl (xTY E) s) (hP : va_P E.1 vwCl ws H) (q0 : Nat) (he : ws[q0]? = some (a, o6 T r0 r1 r2)) (hdg : decode cc pc = .ok (.getfield 32, 3)) (kk : W p l e R s m args below meth c H locs ce sl Q (F0 m (pc + 3) ls (.int (T 4) :: rest))) : W p l e R s m args below meth c H locs ce sl Q (F0 m pc ls (.ref a :: rest)) :=
  va_get hx hb htg hwX6 hown hK hP q0 he rfl 4 (by decide) (htg _ fl6_32) (fun _ h => h) rfl hdg kk
theorem P6_32 {T : Nat → Int32} {r0 : Nat} {r1 : Nat} {r2 : Nat} (hx : p.tables.exec = Jvm.exec) (hb : c.code = cc) (htg : ∀ w ∈ gw, w.before args s = true) (hown : s.vm.findClass RX6 = some m.cls) (hK : va_K E.1 vwCl (xTY E) s) (hP : va_P E.1 vwCl ws H) (hD : va_D A ws) (hS : va_S A s.heap H locs) (q0 : Nat) (he : ws[q0]? = some (a, o6 T r0 r1 r2)) {v : Int32} (hdg : decode cc pc = .ok (.putfield 32, 3)) (kk : ∀ (H1 : Heap) (locs1 : List Loc), va_P E.1 vwCl (ws.set q0 (a, o6 (upd T 4 v) r0 r1 r2)) H1 → va_D A (ws.set q0 (a, o6 (upd T 4 v) r0 r1 r2)) → va_S A s.heap H1 locs1 → W p l e R s m args below meth c H1 locs1 ce sl Q (F0 m (pc + 3) ls rest)) : W p l e R s m args below meth c H locs ce sl Q (F0 m pc ls (.int v :: .ref a :: rest)) :=
  va_put (ty := .int) hx hb htg hwX6 tyX6 tyX6_ok nmX6 hown hK hP hD hS q0 he rfl 4 (by decide) (htg _ fl6_32) (fun _ h => h) rfl (by decide +kernel) rfl rfl (Nat.le_of_ble_eq_true rfl) hdg kk
theorem fl6_35 : Cond.fieldLink RX6 35 "SighChart$Route" "cells" "I" ∈ gw := gw_t (tb1 208 rfl) rfl
theorem G6_35 {T : Nat → Int32} {r0 : Nat} {r1 : Nat} {r2 : Nat} (hx : p.tables.exec = Jvm.exec) (hb : c.code = cc) (htg : ∀ w ∈ gw, w.before args s = true) (hown : s.vm.findClass RX6 = some m.cls) (hK : va_K E.1 vwCl (xTY E) s) (hP : va_P E.1 vwCl ws H) (q0 : Nat) (he : ws[q0]? = some (a, o6 T r0 r1 r2)) (hdg : decode cc pc = .ok (.getfield 35, 3)) (kk : W p l e R s m args below meth c H locs ce sl Q (F0 m (pc + 3) ls (.int (T 5) :: rest))) : W p l e R s m args below meth c H locs ce sl Q (F0 m pc ls (.ref a :: rest)) :=
  va_get hx hb htg hwX6 hown hK hP q0 he rfl 5 (by decide) (htg _ fl6_35) (fun _ h => h) rfl hdg kk
theorem P6_35 {T : Nat → Int32} {r0 : Nat} {r1 : Nat} {r2 : Nat} (hx : p.tables.exec = Jvm.exec) (hb : c.code = cc) (htg : ∀ w ∈ gw, w.before args s = true) (hown : s.vm.findClass RX6 = some m.cls) (hK : va_K E.1 vwCl (xTY E) s) (hP : va_P E.1 vwCl ws H) (hD : va_D A ws) (hS : va_S A s.heap H locs) (q0 : Nat) (he : ws[q0]? = some (a, o6 T r0 r1 r2)) {v : Int32} (hdg : decode cc pc = .ok (.putfield 35, 3)) (kk : ∀ (H1 : Heap) (locs1 : List Loc), va_P E.1 vwCl (ws.set q0 (a, o6 (upd T 5 v) r0 r1 r2)) H1 → va_D A (ws.set q0 (a, o6 (upd T 5 v) r0 r1 r2)) → va_S A s.heap H1 locs1 → W p l e R s m args below meth c H1 locs1 ce sl Q (F0 m (pc + 3) ls rest)) : W p l e R s m args below meth c H locs ce sl Q (F0 m pc ls (.int v :: .ref a :: rest)) :=
  va_put (ty := .int) hx hb htg hwX6 tyX6 tyX6_ok nmX6 hown hK hP hD hS q0 he rfl 5 (by decide) (htg _ fl6_35) (fun _ h => h) rfl (by decide +kernel) rfl rfl (Nat.le_of_ble_eq_true rfl) hdg kk
theorem fl6_38 : Cond.fieldLink RX6 38 "SighChart$Duchy" "harbour" "I" ∈ gw := gw_t (tb2 97 rfl) rfl
theorem G6_38 {T : Nat → Int32} {r7 : Nat} {r8 : Nat} {r9 : Nat} {r10 : Nat} {r11 : Nat} {r12 : Nat} {r13 : Nat} {r14 : Nat} (hx : p.tables.exec = Jvm.exec) (hb : c.code = cc) (htg : ∀ w ∈ gw, w.before args s = true) (hown : s.vm.findClass RX6 = some m.cls) (hK : va_K E.1 vwCl (xTY E) s) (hP : va_P E.1 vwCl ws H) (q0 : Nat) (he : ws[q0]? = some (a, o3 T r7 r8 r9 r10 r11 r12 r13 r14)) (hdg : decode cc pc = .ok (.getfield 38, 3)) (kk : W p l e R s m args below meth c H locs ce sl Q (F0 m (pc + 3) ls (.int (T 3) :: rest))) : W p l e R s m args below meth c H locs ce sl Q (F0 m pc ls (.ref a :: rest)) :=
  va_get hx hb htg hwX3 hown hK hP q0 he rfl 3 (by decide) (htg _ fl6_38) (fun _ h => h) rfl hdg kk
theorem fl7_9 : Cond.fieldLink RX7 9 "SighChart$Survey" "tally" "[I" ∈ gw := gw_t (tb1 193 rfl) rfl
theorem G7_9 {r0 : Nat} (hx : p.tables.exec = Jvm.exec) (hb : c.code = cc) (htg : ∀ w ∈ gw, w.before args s = true) (hown : s.vm.findClass RX7 = some m.cls) (hK : va_K E.1 vwCl (xTY E) s) (hP : va_P E.1 vwCl ws H) (q0 : Nat) (he : ws[q0]? = some (a, o7 r0)) (hdg : decode cc pc = .ok (.getfield 9, 3)) (kk : W p l e R s m args below meth c H locs ce sl Q (F0 m (pc + 3) ls (.ref r0 :: rest))) : W p l e R s m args below meth c H locs ce sl Q (F0 m pc ls (.ref a :: rest)) :=
  va_get hx hb htg hwX7 hown hK hP q0 he rfl 0 (by decide) (htg _ fl7_9) (fun _ h => h) rfl hdg kk
theorem fl7_21 : Cond.fieldLink RX7 21 "SighChart$Duchy" "tellings" "I" ∈ gw := gw_t (tb2 109 rfl) rfl
theorem G7_21 {T : Nat → Int32} {r7 : Nat} {r8 : Nat} {r9 : Nat} {r10 : Nat} {r11 : Nat} {r12 : Nat} {r13 : Nat} {r14 : Nat} (hx : p.tables.exec = Jvm.exec) (hb : c.code = cc) (htg : ∀ w ∈ gw, w.before args s = true) (hown : s.vm.findClass RX7 = some m.cls) (hK : va_K E.1 vwCl (xTY E) s) (hP : va_P E.1 vwCl ws H) (q0 : Nat) (he : ws[q0]? = some (a, o3 T r7 r8 r9 r10 r11 r12 r13 r14)) (hdg : decode cc pc = .ok (.getfield 21, 3)) (kk : W p l e R s m args below meth c H locs ce sl Q (F0 m (pc + 3) ls (.int (T 6) :: rest))) : W p l e R s m args below meth c H locs ce sl Q (F0 m pc ls (.ref a :: rest)) :=
  va_get hx hb htg hwX3 hown hK hP q0 he rfl 6 (by decide) (htg _ fl7_21) (fun _ h => h) rfl hdg kk
theorem fl7_27 : Cond.fieldLink RX7 27 "SighChart$Duchy" "toldCells" "[I" ∈ gw := gw_t (tb2 129 rfl) rfl
theorem G7_27 {T : Nat → Int32} {r7 : Nat} {r8 : Nat} {r9 : Nat} {r10 : Nat} {r11 : Nat} {r12 : Nat} {r13 : Nat} {r14 : Nat} (hx : p.tables.exec = Jvm.exec) (hb : c.code = cc) (htg : ∀ w ∈ gw, w.before args s = true) (hown : s.vm.findClass RX7 = some m.cls) (hK : va_K E.1 vwCl (xTY E) s) (hP : va_P E.1 vwCl ws H) (q0 : Nat) (he : ws[q0]? = some (a, o3 T r7 r8 r9 r10 r11 r12 r13 r14)) (hdg : decode cc pc = .ok (.getfield 27, 3)) (kk : W p l e R s m args below meth c H locs ce sl Q (F0 m (pc + 3) ls (.ref r11 :: rest))) : W p l e R s m args below meth c H locs ce sl Q (F0 m pc ls (.ref a :: rest)) :=
  va_get hx hb htg hwX3 hown hK hP q0 he rfl 11 (by decide) (htg _ fl7_27) (fun _ h => h) rfl hdg kk
theorem fl7_30 : Cond.fieldLink RX7 30 "SighChart$Duchy" "toldKinds" "[I" ∈ gw := gw_t (tb2 133 rfl) rfl
theorem G7_30 {T : Nat → Int32} {r7 : Nat} {r8 : Nat} {r9 : Nat} {r10 : Nat} {r11 : Nat} {r12 : Nat} {r13 : Nat} {r14 : Nat} (hx : p.tables.exec = Jvm.exec) (hb : c.code = cc) (htg : ∀ w ∈ gw, w.before args s = true) (hown : s.vm.findClass RX7 = some m.cls) (hK : va_K E.1 vwCl (xTY E) s) (hP : va_P E.1 vwCl ws H) (q0 : Nat) (he : ws[q0]? = some (a, o3 T r7 r8 r9 r10 r11 r12 r13 r14)) (hdg : decode cc pc = .ok (.getfield 30, 3)) (kk : W p l e R s m args below meth c H locs ce sl Q (F0 m (pc + 3) ls (.ref r12 :: rest))) : W p l e R s m args below meth c H locs ce sl Q (F0 m pc ls (.ref a :: rest)) :=
  va_get hx hb htg hwX3 hown hK hP q0 he rfl 12 (by decide) (htg _ fl7_30) (fun _ h => h) rfl hdg kk
theorem fl7_33 : Cond.fieldLink RX7 33 "SighChart$Duchy" "tellers" "[I" ∈ gw := gw_t (tb2 125 rfl) rfl
theorem G7_33 {T : Nat → Int32} {r7 : Nat} {r8 : Nat} {r9 : Nat} {r10 : Nat} {r11 : Nat} {r12 : Nat} {r13 : Nat} {r14 : Nat} (hx : p.tables.exec = Jvm.exec) (hb : c.code = cc) (htg : ∀ w ∈ gw, w.before args s = true) (hown : s.vm.findClass RX7 = some m.cls) (hK : va_K E.1 vwCl (xTY E) s) (hP : va_P E.1 vwCl ws H) (q0 : Nat) (he : ws[q0]? = some (a, o3 T r7 r8 r9 r10 r11 r12 r13 r14)) (hdg : decode cc pc = .ok (.getfield 33, 3)) (kk : W p l e R s m args below meth c H locs ce sl Q (F0 m (pc + 3) ls (.ref r10 :: rest))) : W p l e R s m args below meth c H locs ce sl Q (F0 m pc ls (.ref a :: rest)) :=
  va_get hx hb htg hwX3 hown hK hP q0 he rfl 10 (by decide) (htg _ fl7_33) (fun _ h => h) rfl hdg kk
theorem fl8_11 : Cond.fieldLink RX8 11 "SighChart$Tape" "bytes" "[B" ∈ gw := gw_t (tb1 111 rfl) rfl
theorem G8_11 {T : Nat → Int32} {j8 : Int64} {r0 : Nat} {r1 : Nat} (hx : p.tables.exec = Jvm.exec) (hb : c.code = cc) (htg : ∀ w ∈ gw, w.before args s = true) (hown : s.vm.findClass RX8 = some m.cls) (hK : va_K E.1 vwCl (xTY E) s) (hP : va_P E.1 vwCl ws H) (q0 : Nat) (he : ws[q0]? = some (a, o8 T j8 r0 r1)) (hdg : decode cc pc = .ok (.getfield 11, 3)) (kk : W p l e R s m args below meth c H locs ce sl Q (F0 m (pc + 3) ls (.ref r0 :: rest))) : W p l e R s m args below meth c H locs ce sl Q (F0 m pc ls (.ref a :: rest)) :=
  va_get hx hb htg hwX8 hown hK hP q0 he rfl 0 (by decide) (htg _ fl8_11) (fun _ h => h) rfl hdg kk
theorem fl8_15 : Cond.fieldLink RX8 15 "SighChart$Tape" "codes" "[J" ∈ gw := gw_t (tb1 112 rfl) rfl
theorem G8_15 {T : Nat → Int32} {j8 : Int64} {r0 : Nat} {r1 : Nat} (hx : p.tables.exec = Jvm.exec) (hb : c.code = cc) (htg : ∀ w ∈ gw, w.before args s = true) (hown : s.vm.findClass RX8 = some m.cls) (hK : va_K E.1 vwCl (xTY E) s) (hP : va_P E.1 vwCl ws H) (q0 : Nat) (he : ws[q0]? = some (a, o8 T j8 r0 r1)) (hdg : decode cc pc = .ok (.getfield 15, 3)) (kk : W p l e R s m args below meth c H locs ce sl Q (F0 m (pc + 3) ls (.ref r1 :: rest))) : W p l e R s m args below meth c H locs ce sl Q (F0 m pc ls (.ref a :: rest)) :=
  va_get hx hb htg hwX8 hown hK hP q0 he rfl 1 (by decide) (htg _ fl8_15) (fun _ h => h) rfl hdg kk
theorem fl8_35 : Cond.fieldLink RX8 35 "SighChart$Tape" "length" "I" ∈ gw := gw_t (tb1 113 rfl) rfl
theorem G8_35 {T : Nat → Int32} {j8 : Int64} {r0 : Nat} {r1 : Nat} (hx : p.tables.exec = Jvm.exec) (hb : c.code = cc) (htg : ∀ w ∈ gw, w.before args s = true) (hown : s.vm.findClass RX8 = some m.cls) (hK : va_K E.1 vwCl (xTY E) s) (hP : va_P E.1 vwCl ws H) (q0 : Nat) (he : ws[q0]? = some (a, o8 T j8 r0 r1)) (hdg : decode cc pc = .ok (.getfield 35, 3)) (kk : W p l e R s m args below meth c H locs ce sl Q (F0 m (pc + 3) ls (.int (T 2) :: rest))) : W p l e R s m args below meth c H locs ce sl Q (F0 m pc ls (.ref a :: rest)) :=
  va_get hx hb htg hwX8 hown hK hP q0 he rfl 2 (by decide) (htg _ fl8_35) (fun _ h => h) rfl hdg kk
theorem P8_35 {T : Nat → Int32} {j8 : Int64} {r0 : Nat} {r1 : Nat} (hx : p.tables.exec = Jvm.exec) (hb : c.code = cc) (htg : ∀ w ∈ gw, w.before args s = true) (hown : s.vm.findClass RX8 = some m.cls) (hK : va_K E.1 vwCl (xTY E) s) (hP : va_P E.1 vwCl ws H) (hD : va_D A ws) (hS : va_S A s.heap H locs) (q0 : Nat) (he : ws[q0]? = some (a, o8 T j8 r0 r1)) {v : Int32} (hdg : decode cc pc = .ok (.putfield 35, 3)) (kk : ∀ (H1 : Heap) (locs1 : List Loc), va_P E.1 vwCl (ws.set q0 (a, o8 (upd T 2 v) j8 r0 r1)) H1 → va_D A (ws.set q0 (a, o8 (upd T 2 v) j8 r0 r1)) → va_S A s.heap H1 locs1 → W p l e R s m args below meth c H1 locs1 ce sl Q (F0 m (pc + 3) ls rest)) : W p l e R s m args below meth c H locs ce sl Q (F0 m pc ls (.int v :: .ref a :: rest)) :=
  va_put (ty := .int) hx hb htg hwX8 tyX8 tyX8_ok nmX8 hown hK hP hD hS q0 he rfl 2 (by decide) (htg _ fl8_35) (fun _ h => h) rfl (by decide +kernel) rfl rfl (Nat.le_of_ble_eq_true rfl) hdg kk
theorem fl8_47 : Cond.fieldLink RX8 47 "SighChart$Tape" "end" "I" ∈ gw := gw_t (tb1 114 rfl) rfl
theorem G8_47 {T : Nat → Int32} {j8 : Int64} {r0 : Nat} {r1 : Nat} (hx : p.tables.exec = Jvm.exec) (hb : c.code = cc) (htg : ∀ w ∈ gw, w.before args s = true) (hown : s.vm.findClass RX8 = some m.cls) (hK : va_K E.1 vwCl (xTY E) s) (hP : va_P E.1 vwCl ws H) (q0 : Nat) (he : ws[q0]? = some (a, o8 T j8 r0 r1)) (hdg : decode cc pc = .ok (.getfield 47, 3)) (kk : W p l e R s m args below meth c H locs ce sl Q (F0 m (pc + 3) ls (.int (T 3) :: rest))) : W p l e R s m args below meth c H locs ce sl Q (F0 m pc ls (.ref a :: rest)) :=
  va_get hx hb htg hwX8 hown hK hP q0 he rfl 3 (by decide) (htg _ fl8_47) (fun _ h => h) rfl hdg kk
theorem P8_47 {T : Nat → Int32} {j8 : Int64} {r0 : Nat} {r1 : Nat} (hx : p.tables.exec = Jvm.exec) (hb : c.code = cc) (htg : ∀ w ∈ gw, w.before args s = true) (hown : s.vm.findClass RX8 = some m.cls) (hK : va_K E.1 vwCl (xTY E) s) (hP : va_P E.1 vwCl ws H) (hD : va_D A ws) (hS : va_S A s.heap H locs) (q0 : Nat) (he : ws[q0]? = some (a, o8 T j8 r0 r1)) {v : Int32} (hdg : decode cc pc = .ok (.putfield 47, 3)) (kk : ∀ (H1 : Heap) (locs1 : List Loc), va_P E.1 vwCl (ws.set q0 (a, o8 (upd T 3 v) j8 r0 r1)) H1 → va_D A (ws.set q0 (a, o8 (upd T 3 v) j8 r0 r1)) → va_S A s.heap H1 locs1 → W p l e R s m args below meth c H1 locs1 ce sl Q (F0 m (pc + 3) ls rest)) : W p l e R s m args below meth c H locs ce sl Q (F0 m pc ls (.int v :: .ref a :: rest)) :=
  va_put (ty := .int) hx hb htg hwX8 tyX8 tyX8_ok nmX8 hown hK hP hD hS q0 he rfl 3 (by decide) (htg _ fl8_47) (fun _ h => h) rfl (by decide +kernel) rfl rfl (Nat.le_of_ble_eq_true rfl) hdg kk
theorem fl8_50 : Cond.fieldLink RX8 50 "SighChart$Tape" "behind" "I" ∈ gw := gw_t (tb1 117 rfl) rfl
theorem G8_50 {T : Nat → Int32} {j8 : Int64} {r0 : Nat} {r1 : Nat} (hx : p.tables.exec = Jvm.exec) (hb : c.code = cc) (htg : ∀ w ∈ gw, w.before args s = true) (hown : s.vm.findClass RX8 = some m.cls) (hK : va_K E.1 vwCl (xTY E) s) (hP : va_P E.1 vwCl ws H) (q0 : Nat) (he : ws[q0]? = some (a, o8 T j8 r0 r1)) (hdg : decode cc pc = .ok (.getfield 50, 3)) (kk : W p l e R s m args below meth c H locs ce sl Q (F0 m (pc + 3) ls (.int (T 6) :: rest))) : W p l e R s m args below meth c H locs ce sl Q (F0 m pc ls (.ref a :: rest)) :=
  va_get hx hb htg hwX8 hown hK hP q0 he rfl 6 (by decide) (htg _ fl8_50) (fun _ h => h) rfl hdg kk
theorem P8_50 {T : Nat → Int32} {j8 : Int64} {r0 : Nat} {r1 : Nat} (hx : p.tables.exec = Jvm.exec) (hb : c.code = cc) (htg : ∀ w ∈ gw, w.before args s = true) (hown : s.vm.findClass RX8 = some m.cls) (hK : va_K E.1 vwCl (xTY E) s) (hP : va_P E.1 vwCl ws H) (hD : va_D A ws) (hS : va_S A s.heap H locs) (q0 : Nat) (he : ws[q0]? = some (a, o8 T j8 r0 r1)) {v : Int32} (hdg : decode cc pc = .ok (.putfield 50, 3)) (kk : ∀ (H1 : Heap) (locs1 : List Loc), va_P E.1 vwCl (ws.set q0 (a, o8 (upd T 6 v) j8 r0 r1)) H1 → va_D A (ws.set q0 (a, o8 (upd T 6 v) j8 r0 r1)) → va_S A s.heap H1 locs1 → W p l e R s m args below meth c H1 locs1 ce sl Q (F0 m (pc + 3) ls rest)) : W p l e R s m args below meth c H locs ce sl Q (F0 m pc ls (.int v :: .ref a :: rest)) :=
  va_put (ty := .int) hx hb htg hwX8 tyX8 tyX8_ok nmX8 hown hK hP hD hS q0 he rfl 6 (by decide) (htg _ fl8_50) (fun _ h => h) rfl (by decide +kernel) rfl rfl (Nat.le_of_ble_eq_true rfl) hdg kk
theorem fl8_53 : Cond.fieldLink RX8 53 "SighChart$Tape" "fault" "I" ∈ gw := gw_t (tb1 120 rfl) rfl
theorem G8_53 {T : Nat → Int32} {j8 : Int64} {r0 : Nat} {r1 : Nat} (hx : p.tables.exec = Jvm.exec) (hb : c.code = cc) (htg : ∀ w ∈ gw, w.before args s = true) (hown : s.vm.findClass RX8 = some m.cls) (hK : va_K E.1 vwCl (xTY E) s) (hP : va_P E.1 vwCl ws H) (q0 : Nat) (he : ws[q0]? = some (a, o8 T j8 r0 r1)) (hdg : decode cc pc = .ok (.getfield 53, 3)) (kk : W p l e R s m args below meth c H locs ce sl Q (F0 m (pc + 3) ls (.int (T 9) :: rest))) : W p l e R s m args below meth c H locs ce sl Q (F0 m pc ls (.ref a :: rest)) :=
  va_get hx hb htg hwX8 hown hK hP q0 he rfl 9 (by decide) (htg _ fl8_53) (fun _ h => h) rfl hdg kk
theorem P8_53 {T : Nat → Int32} {j8 : Int64} {r0 : Nat} {r1 : Nat} (hx : p.tables.exec = Jvm.exec) (hb : c.code = cc) (htg : ∀ w ∈ gw, w.before args s = true) (hown : s.vm.findClass RX8 = some m.cls) (hK : va_K E.1 vwCl (xTY E) s) (hP : va_P E.1 vwCl ws H) (hD : va_D A ws) (hS : va_S A s.heap H locs) (q0 : Nat) (he : ws[q0]? = some (a, o8 T j8 r0 r1)) {v : Int32} (hdg : decode cc pc = .ok (.putfield 53, 3)) (kk : ∀ (H1 : Heap) (locs1 : List Loc), va_P E.1 vwCl (ws.set q0 (a, o8 (upd T 9 v) j8 r0 r1)) H1 → va_D A (ws.set q0 (a, o8 (upd T 9 v) j8 r0 r1)) → va_S A s.heap H1 locs1 → W p l e R s m args below meth c H1 locs1 ce sl Q (F0 m (pc + 3) ls rest)) : W p l e R s m args below meth c H locs ce sl Q (F0 m pc ls (.int v :: .ref a :: rest)) :=
  va_put (ty := .int) hx hb htg hwX8 tyX8 tyX8_ok nmX8 hown hK hP hD hS q0 he rfl 9 (by decide) (htg _ fl8_53) (fun _ h => h) rfl (by decide +kernel) rfl rfl (Nat.le_of_ble_eq_true rfl) hdg kk
theorem fl8_56 : Cond.fieldLink RX8 56 "SighChart$Tape" "faultPlace" "I" ∈ gw := gw_t (tb1 121 rfl) rfl
theorem G8_56 {T : Nat → Int32} {j8 : Int64} {r0 : Nat} {r1 : Nat} (hx : p.tables.exec = Jvm.exec) (hb : c.code = cc) (htg : ∀ w ∈ gw, w.before args s = true) (hown : s.vm.findClass RX8 = some m.cls) (hK : va_K E.1 vwCl (xTY E) s) (hP : va_P E.1 vwCl ws H) (q0 : Nat) (he : ws[q0]? = some (a, o8 T j8 r0 r1)) (hdg : decode cc pc = .ok (.getfield 56, 3)) (kk : W p l e R s m args below meth c H locs ce sl Q (F0 m (pc + 3) ls (.int (T 10) :: rest))) : W p l e R s m args below meth c H locs ce sl Q (F0 m pc ls (.ref a :: rest)) :=
  va_get hx hb htg hwX8 hown hK hP q0 he rfl 10 (by decide) (htg _ fl8_56) (fun _ h => h) rfl hdg kk
theorem P8_56 {T : Nat → Int32} {j8 : Int64} {r0 : Nat} {r1 : Nat} (hx : p.tables.exec = Jvm.exec) (hb : c.code = cc) (htg : ∀ w ∈ gw, w.before args s = true) (hown : s.vm.findClass RX8 = some m.cls) (hK : va_K E.1 vwCl (xTY E) s) (hP : va_P E.1 vwCl ws H) (hD : va_D A ws) (hS : va_S A s.heap H locs) (q0 : Nat) (he : ws[q0]? = some (a, o8 T j8 r0 r1)) {v : Int32} (hdg : decode cc pc = .ok (.putfield 56, 3)) (kk : ∀ (H1 : Heap) (locs1 : List Loc), va_P E.1 vwCl (ws.set q0 (a, o8 (upd T 10 v) j8 r0 r1)) H1 → va_D A (ws.set q0 (a, o8 (upd T 10 v) j8 r0 r1)) → va_S A s.heap H1 locs1 → W p l e R s m args below meth c H1 locs1 ce sl Q (F0 m (pc + 3) ls rest)) : W p l e R s m args below meth c H locs ce sl Q (F0 m pc ls (.int v :: .ref a :: rest)) :=
  va_put (ty := .int) hx hb htg hwX8 tyX8 tyX8_ok nmX8 hown hK hP hD hS q0 he rfl 10 (by decide) (htg _ fl8_56) (fun _ h => h) rfl (by decide +kernel) rfl rfl (Nat.le_of_ble_eq_true rfl) hdg kk
theorem fl8_62 : Cond.fieldLink RX8 62 "SighChart$Tape" "kind" "I" ∈ gw := gw_t (tb1 115 rfl) rfl
theorem G8_62 {T : Nat → Int32} {j8 : Int64} {r0 : Nat} {r1 : Nat} (hx : p.tables.exec = Jvm.exec) (hb : c.code = cc) (htg : ∀ w ∈ gw, w.before args s = true) (hown : s.vm.findClass RX8 = some m.cls) (hK : va_K E.1 vwCl (xTY E) s) (hP : va_P E.1 vwCl ws H) (q0 : Nat) (he : ws[q0]? = some (a, o8 T j8 r0 r1)) (hdg : decode cc pc = .ok (.getfield 62, 3)) (kk : W p l e R s m args below meth c H locs ce sl Q (F0 m (pc + 3) ls (.int (T 4) :: rest))) : W p l e R s m args below meth c H locs ce sl Q (F0 m pc ls (.ref a :: rest)) :=
  va_get hx hb htg hwX8 hown hK hP q0 he rfl 4 (by decide) (htg _ fl8_62) (fun _ h => h) rfl hdg kk
theorem P8_62 {T : Nat → Int32} {j8 : Int64} {r0 : Nat} {r1 : Nat} (hx : p.tables.exec = Jvm.exec) (hb : c.code = cc) (htg : ∀ w ∈ gw, w.before args s = true) (hown : s.vm.findClass RX8 = some m.cls) (hK : va_K E.1 vwCl (xTY E) s) (hP : va_P E.1 vwCl ws H) (hD : va_D A ws) (hS : va_S A s.heap H locs) (q0 : Nat) (he : ws[q0]? = some (a, o8 T j8 r0 r1)) {v : Int32} (hdg : decode cc pc = .ok (.putfield 62, 3)) (kk : ∀ (H1 : Heap) (locs1 : List Loc), va_P E.1 vwCl (ws.set q0 (a, o8 (upd T 4 v) j8 r0 r1)) H1 → va_D A (ws.set q0 (a, o8 (upd T 4 v) j8 r0 r1)) → va_S A s.heap H1 locs1 → W p l e R s m args below meth c H1 locs1 ce sl Q (F0 m (pc + 3) ls rest)) : W p l e R s m args below meth c H locs ce sl Q (F0 m pc ls (.int v :: .ref a :: rest)) :=
  va_put (ty := .int) hx hb htg hwX8 tyX8 tyX8_ok nmX8 hown hK hP hD hS q0 he rfl 4 (by decide) (htg _ fl8_62) (fun _ h => h) rfl (by decide +kernel) rfl rfl (Nat.le_of_ble_eq_true rfl) hdg kk
theorem fl8_65 : Cond.fieldLink RX8 65 "SighChart$Tape" "place" "I" ∈ gw := gw_t (tb1 116 rfl) rfl
theorem G8_65 {T : Nat → Int32} {j8 : Int64} {r0 : Nat} {r1 : Nat} (hx : p.tables.exec = Jvm.exec) (hb : c.code = cc) (htg : ∀ w ∈ gw, w.before args s = true) (hown : s.vm.findClass RX8 = some m.cls) (hK : va_K E.1 vwCl (xTY E) s) (hP : va_P E.1 vwCl ws H) (q0 : Nat) (he : ws[q0]? = some (a, o8 T j8 r0 r1)) (hdg : decode cc pc = .ok (.getfield 65, 3)) (kk : W p l e R s m args below meth c H locs ce sl Q (F0 m (pc + 3) ls (.int (T 5) :: rest))) : W p l e R s m args below meth c H locs ce sl Q (F0 m pc ls (.ref a :: rest)) :=
  va_get hx hb htg hwX8 hown hK hP q0 he rfl 5 (by decide) (htg _ fl8_65) (fun _ h => h) rfl hdg kk
theorem P8_65 {T : Nat → Int32} {j8 : Int64} {r0 : Nat} {r1 : Nat} (hx : p.tables.exec = Jvm.exec) (hb : c.code = cc) (htg : ∀ w ∈ gw, w.before args s = true) (hown : s.vm.findClass RX8 = some m.cls) (hK : va_K E.1 vwCl (xTY E) s) (hP : va_P E.1 vwCl ws H) (hD : va_D A ws) (hS : va_S A s.heap H locs) (q0 : Nat) (he : ws[q0]? = some (a, o8 T j8 r0 r1)) {v : Int32} (hdg : decode cc pc = .ok (.putfield 65, 3)) (kk : ∀ (H1 : Heap) (locs1 : List Loc), va_P E.1 vwCl (ws.set q0 (a, o8 (upd T 5 v) j8 r0 r1)) H1 → va_D A (ws.set q0 (a, o8 (upd T 5 v) j8 r0 r1)) → va_S A s.heap H1 locs1 → W p l e R s m args below meth c H1 locs1 ce sl Q (F0 m (pc + 3) ls rest)) : W p l e R s m args below meth c H locs ce sl Q (F0 m pc ls (.int v :: .ref a :: rest)) :=
  va_put (ty := .int) hx hb htg hwX8 tyX8 tyX8_ok nmX8 hown hK hP hD hS q0 he rfl 5 (by decide) (htg _ fl8_65) (fun _ h => h) rfl (by decide +kernel) rfl rfl (Nat.le_of_ble_eq_true rfl) hdg kk
theorem fl8_68 : Cond.fieldLink RX8 68 "SighChart$Tape" "value" "I" ∈ gw := gw_t (tb1 118 rfl) rfl
theorem G8_68 {T : Nat → Int32} {j8 : Int64} {r0 : Nat} {r1 : Nat} (hx : p.tables.exec = Jvm.exec) (hb : c.code = cc) (htg : ∀ w ∈ gw, w.before args s = true) (hown : s.vm.findClass RX8 = some m.cls) (hK : va_K E.1 vwCl (xTY E) s) (hP : va_P E.1 vwCl ws H) (q0 : Nat) (he : ws[q0]? = some (a, o8 T j8 r0 r1)) (hdg : decode cc pc = .ok (.getfield 68, 3)) (kk : W p l e R s m args below meth c H locs ce sl Q (F0 m (pc + 3) ls (.int (T 7) :: rest))) : W p l e R s m args below meth c H locs ce sl Q (F0 m pc ls (.ref a :: rest)) :=
  va_get hx hb htg hwX8 hown hK hP q0 he rfl 7 (by decide) (htg _ fl8_68) (fun _ h => h) rfl hdg kk
theorem P8_68 {T : Nat → Int32} {j8 : Int64} {r0 : Nat} {r1 : Nat} (hx : p.tables.exec = Jvm.exec) (hb : c.code = cc) (htg : ∀ w ∈ gw, w.before args s = true) (hown : s.vm.findClass RX8 = some m.cls) (hK : va_K E.1 vwCl (xTY E) s) (hP : va_P E.1 vwCl ws H) (hD : va_D A ws) (hS : va_S A s.heap H locs) (q0 : Nat) (he : ws[q0]? = some (a, o8 T j8 r0 r1)) {v : Int32} (hdg : decode cc pc = .ok (.putfield 68, 3)) (kk : ∀ (H1 : Heap) (locs1 : List Loc), va_P E.1 vwCl (ws.set q0 (a, o8 (upd T 7 v) j8 r0 r1)) H1 → va_D A (ws.set q0 (a, o8 (upd T 7 v) j8 r0 r1)) → va_S A s.heap H1 locs1 → W p l e R s m args below meth c H1 locs1 ce sl Q (F0 m (pc + 3) ls rest)) : W p l e R s m args below meth c H locs ce sl Q (F0 m pc ls (.int v :: .ref a :: rest)) :=
  va_put (ty := .int) hx hb htg hwX8 tyX8 tyX8_ok nmX8 hown hK hP hD hS q0 he rfl 7 (by decide) (htg _ fl8_68) (fun _ h => h) rfl (by decide +kernel) rfl rfl (Nat.le_of_ble_eq_true rfl) hdg kk
theorem fl8_78 : Cond.fieldLink RX8 78 "SighChart$Tape" "code" "J" ∈ gw := gw_t (tb1 119 rfl) rfl
theorem G8_78 {T : Nat → Int32} {j8 : Int64} {r0 : Nat} {r1 : Nat} (hx : p.tables.exec = Jvm.exec) (hb : c.code = cc) (htg : ∀ w ∈ gw, w.before args s = true) (hown : s.vm.findClass RX8 = some m.cls) (hK : va_K E.1 vwCl (xTY E) s) (hP : va_P E.1 vwCl ws H) (q0 : Nat) (he : ws[q0]? = some (a, o8 T j8 r0 r1)) (hdg : decode cc pc = .ok (.getfield 78, 3)) (kk : W p l e R s m args below meth c H locs ce sl Q (F0 m (pc + 3) ls (.long j8 :: rest))) : W p l e R s m args below meth c H locs ce sl Q (F0 m pc ls (.ref a :: rest)) :=
  va_get hx hb htg hwX8 hown hK hP q0 he rfl 8 (by decide) (htg _ fl8_78) (fun _ h => h) rfl hdg kk
theorem P8_78 {T : Nat → Int32} {j8 : Int64} {r0 : Nat} {r1 : Nat} (hx : p.tables.exec = Jvm.exec) (hb : c.code = cc) (htg : ∀ w ∈ gw, w.before args s = true) (hown : s.vm.findClass RX8 = some m.cls) (hK : va_K E.1 vwCl (xTY E) s) (hP : va_P E.1 vwCl ws H) (hD : va_D A ws) (hS : va_S A s.heap H locs) (q0 : Nat) (he : ws[q0]? = some (a, o8 T j8 r0 r1)) {v : Int64} (hdg : decode cc pc = .ok (.putfield 78, 3)) (kk : ∀ (H1 : Heap) (locs1 : List Loc), va_P E.1 vwCl (ws.set q0 (a, o8 T v r0 r1)) H1 → va_D A (ws.set q0 (a, o8 T v r0 r1)) → va_S A s.heap H1 locs1 → W p l e R s m args below meth c H1 locs1 ce sl Q (F0 m (pc + 3) ls rest)) : W p l e R s m args below meth c H locs ce sl Q (F0 m pc ls (.long v :: .ref a :: rest)) :=
  va_put (ty := .long) hx hb htg hwX8 tyX8 tyX8_ok nmX8 hown hK hP hD hS q0 he rfl 8 (by decide) (htg _ fl8_78) (fun _ h => h) rfl (by decide +kernel) rfl rfl (Nat.le_of_ble_eq_true rfl) hdg kk
theorem fl9_13 : Cond.fieldLink RX9 13 "SighChart$Trays" "rows" "[[J" ∈ gw := gw_t (tb1 42 rfl) rfl
theorem G9_13 {r0 : Nat} {r1 : Nat} {r2 : Nat} (hx : p.tables.exec = Jvm.exec) (hb : c.code = cc) (htg : ∀ w ∈ gw, w.before args s = true) (hown : s.vm.findClass RX9 = some m.cls) (hK : va_K E.1 vwCl (xTY E) s) (hP : va_P E.1 vwCl ws H) (q0 : Nat) (he : ws[q0]? = some (a, o9 r0 r1 r2)) (hdg : decode cc pc = .ok (.getfield 13, 3)) (kk : W p l e R s m args below meth c H locs ce sl Q (F0 m (pc + 3) ls (.ref r0 :: rest))) : W p l e R s m args below meth c H locs ce sl Q (F0 m pc ls (.ref a :: rest)) :=
  va_get hx hb htg hwX9 hown hK hP q0 he rfl 0 (by decide) (htg _ fl9_13) (fun _ h => h) rfl hdg kk
theorem fl9_16 : Cond.fieldLink RX9 16 "SighChart$Trays" "sorts" "[I" ∈ gw := gw_t (tb1 43 rfl) rfl
theorem G9_16 {r0 : Nat} {r1 : Nat} {r2 : Nat} (hx : p.tables.exec = Jvm.exec) (hb : c.code = cc) (htg : ∀ w ∈ gw, w.before args s = true) (hown : s.vm.findClass RX9 = some m.cls) (hK : va_K E.1 vwCl (xTY E) s) (hP : va_P E.1 vwCl ws H) (q0 : Nat) (he : ws[q0]? = some (a, o9 r0 r1 r2)) (hdg : decode cc pc = .ok (.getfield 16, 3)) (kk : W p l e R s m args below meth c H locs ce sl Q (F0 m (pc + 3) ls (.ref r1 :: rest))) : W p l e R s m args below meth c H locs ce sl Q (F0 m pc ls (.ref a :: rest)) :=
  va_get hx hb htg hwX9 hown hK hP q0 he rfl 1 (by decide) (htg _ fl9_16) (fun _ h => h) rfl hdg kk
theorem fl9_20 : Cond.fieldLink RX9 20 "SighChart$Trays" "lengths" "[I" ∈ gw := gw_t (tb1 44 rfl) rfl
theorem G9_20 {r0 : Nat} {r1 : Nat} {r2 : Nat} (hx : p.tables.exec = Jvm.exec) (hb : c.code = cc) (htg : ∀ w ∈ gw, w.before args s = true) (hown : s.vm.findClass RX9 = some m.cls) (hK : va_K E.1 vwCl (xTY E) s) (hP : va_P E.1 vwCl ws H) (q0 : Nat) (he : ws[q0]? = some (a, o9 r0 r1 r2)) (hdg : decode cc pc = .ok (.getfield 20, 3)) (kk : W p l e R s m args below meth c H locs ce sl Q (F0 m (pc + 3) ls (.ref r2 :: rest))) : W p l e R s m args below meth c H locs ce sl Q (F0 m pc ls (.ref a :: rest)) :=
  va_get hx hb htg hwX9 hown hK hP q0 he rfl 2 (by decide) (htg _ fl9_20) (fun _ h => h) rfl hdg kk
theorem fl10_11 : Cond.fieldLink RX10 11 "SighChart$YearsReader" "open" "[I" ∈ gw := gw_t (tb1 165 rfl) rfl
theorem G10_11 {T : Nat → Int32} {r0 : Nat} (hx : p.tables.exec = Jvm.exec) (hb : c.code = cc) (htg : ∀ w ∈ gw, w.before args s = true) (hown : s.vm.findClass RX10 = some m.cls) (hK : va_K E.1 vwCl (xTY E) s) (hP : va_P E.1 vwCl ws H) (q0 : Nat) (he : ws[q0]? = some (a, o10 T r0)) (hdg : decode cc pc = .ok (.getfield 11, 3)) (kk : W p l e R s m args below meth c H locs ce sl Q (F0 m (pc + 3) ls (.ref r0 :: rest))) : W p l e R s m args below meth c H locs ce sl Q (F0 m pc ls (.ref a :: rest)) :=
  va_get hx hb htg hwX10 hown hK hP q0 he rfl 0 (by decide) (htg _ fl10_11) (fun _ h => h) rfl hdg kk
theorem fl10_20 : Cond.fieldLink RX10 20 "SighChart$YearsReader" "depth" "I" ∈ gw := gw_t (tb1 166 rfl) rfl
theorem G10_20 {T : Nat → Int32} {r0 : Nat} (hx : p.tables.exec = Jvm.exec) (hb : c.code = cc) (htg : ∀ w ∈ gw, w.before args s = true) (hown : s.vm.findClass RX10 = some m.cls) (hK : va_K E.1 vwCl (xTY E) s) (hP : va_P E.1 vwCl ws H) (q0 : Nat) (he : ws[q0]? = some (a, o10 T r0)) (hdg : decode cc pc = .ok (.getfield 20, 3)) (kk : W p l e R s m args below meth c H locs ce sl Q (F0 m (pc + 3) ls (.int (T 3) :: rest))) : W p l e R s m args below meth c H locs ce sl Q (F0 m pc ls (.ref a :: rest)) :=
  va_get hx hb htg hwX10 hown hK hP q0 he rfl 1 (by decide) (htg _ fl10_20) (fun _ h => h) rfl hdg kk
theorem P10_20 {T : Nat → Int32} {r0 : Nat} (hx : p.tables.exec = Jvm.exec) (hb : c.code = cc) (htg : ∀ w ∈ gw, w.before args s = true) (hown : s.vm.findClass RX10 = some m.cls) (hK : va_K E.1 vwCl (xTY E) s) (hP : va_P E.1 vwCl ws H) (hD : va_D A ws) (hS : va_S A s.heap H locs) (q0 : Nat) (he : ws[q0]? = some (a, o10 T r0)) {v : Int32} (hdg : decode cc pc = .ok (.putfield 20, 3)) (kk : ∀ (H1 : Heap) (locs1 : List Loc), va_P E.1 vwCl (ws.set q0 (a, o10 (upd T 3 v) r0)) H1 → va_D A (ws.set q0 (a, o10 (upd T 3 v) r0)) → va_S A s.heap H1 locs1 → W p l e R s m args below meth c H1 locs1 ce sl Q (F0 m (pc + 3) ls rest)) : W p l e R s m args below meth c H locs ce sl Q (F0 m pc ls (.int v :: .ref a :: rest)) :=
  va_put (ty := .int) hx hb htg hwX10 tyX10 tyX10_ok nmX10 hown hK hP hD hS q0 he rfl 1 (by decide) (htg _ fl10_20) (fun _ h => h) rfl (by decide +kernel) rfl rfl (Nat.le_of_ble_eq_true rfl) hdg kk
theorem fl10_49 : Cond.fieldLink RX10 49 "SighChart$Almanac" "told" "Z" ∈ gw := gw_t (tb2 54 rfl) rfl
theorem P10_49 {T : Nat → Int32} {r3 : Nat} {r4 : Nat} {r5 : Nat} {r6 : Nat} {r7 : Nat} (hx : p.tables.exec = Jvm.exec) (hb : c.code = cc) (htg : ∀ w ∈ gw, w.before args s = true) (hown : s.vm.findClass RX10 = some m.cls) (hK : va_K E.1 vwCl (xTY E) s) (hP : va_P E.1 vwCl ws H) (hD : va_D A ws) (hS : va_S A s.heap H locs) (q0 : Nat) (he : ws[q0]? = some (a, o0 T r3 r4 r5 r6 r7)) {v : Int32} (hz : bz v = true) (hdg : decode cc pc = .ok (.putfield 49, 3)) (kk : ∀ (H1 : Heap) (locs1 : List Loc), va_P E.1 vwCl (ws.set q0 (a, o0 (upd T 0 v) r3 r4 r5 r6 r7)) H1 → va_D A (ws.set q0 (a, o0 (upd T 0 v) r3 r4 r5 r6 r7)) → va_S A s.heap H1 locs1 → W p l e R s m args below meth c H1 locs1 ce sl Q (F0 m (pc + 3) ls rest)) : W p l e R s m args below meth c H locs ce sl Q (F0 m pc ls (.int v :: .ref a :: rest)) :=
  va_put (ty := .boolean) hx hb htg hwX0 tyX0 tyX0_ok nmX0 hown hK hP hD hS q0 he rfl 0 (by decide) (htg _ fl10_49) (fun _ h => h) rfl (by decide +kernel) (bz_n hz).1 (bz_n hz).2 (Nat.le_of_ble_eq_true rfl) hdg kk
theorem fl10_69 : Cond.fieldLink RX10 69 "SighChart$Almanac" "steps" "I" ∈ gw := gw_t (tb2 57 rfl) rfl
theorem G10_69 {T : Nat → Int32} {r3 : Nat} {r4 : Nat} {r5 : Nat} {r6 : Nat} {r7 : Nat} (hx : p.tables.exec = Jvm.exec) (hb : c.code = cc) (htg : ∀ w ∈ gw, w.before args s = true) (hown : s.vm.findClass RX10 = some m.cls) (hK : va_K E.1 vwCl (xTY E) s) (hP : va_P E.1 vwCl ws H) (q0 : Nat) (he : ws[q0]? = some (a, o0 T r3 r4 r5 r6 r7)) (hdg : decode cc pc = .ok (.getfield 69, 3)) (kk : W p l e R s m args below meth c H locs ce sl Q (F0 m (pc + 3) ls (.int (T 1) :: rest))) : W p l e R s m args below meth c H locs ce sl Q (F0 m pc ls (.ref a :: rest)) :=
  va_get hx hb htg hwX0 hown hK hP q0 he rfl 1 (by decide) (htg _ fl10_69) (fun _ h => h) rfl hdg kk
theorem fl10_72 : Cond.fieldLink RX10 72 "SighChart$Almanac" "lines" "I" ∈ gw := gw_t (tb2 60 rfl) rfl
theorem G10_72 {T : Nat → Int32} {r3 : Nat} {r4 : Nat} {r5 : Nat} {r6 : Nat} {r7 : Nat} (hx : p.tables.exec = Jvm.exec) (hb : c.code = cc) (htg : ∀ w ∈ gw, w.before args s = true) (hown : s.vm.findClass RX10 = some m.cls) (hK : va_K E.1 vwCl (xTY E) s) (hP : va_P E.1 vwCl ws H) (q0 : Nat) (he : ws[q0]? = some (a, o0 T r3 r4 r5 r6 r7)) (hdg : decode cc pc = .ok (.getfield 72, 3)) (kk : W p l e R s m args below meth c H locs ce sl Q (F0 m (pc + 3) ls (.int (T 2) :: rest))) : W p l e R s m args below meth c H locs ce sl Q (F0 m pc ls (.ref a :: rest)) :=
  va_get hx hb htg hwX0 hown hK hP q0 he rfl 2 (by decide) (htg _ fl10_72) (fun _ h => h) rfl hdg kk
theorem fl10_90 : Cond.fieldLink RX10 90 "SighChart$YearsReader" "traveller" "I" ∈ gw := gw_t (tb1 167 rfl) rfl
theorem G10_90 {T : Nat → Int32} {r0 : Nat} (hx : p.tables.exec = Jvm.exec) (hb : c.code = cc) (htg : ∀ w ∈ gw, w.before args s = true) (hown : s.vm.findClass RX10 = some m.cls) (hK : va_K E.1 vwCl (xTY E) s) (hP : va_P E.1 vwCl ws H) (q0 : Nat) (he : ws[q0]? = some (a, o10 T r0)) (hdg : decode cc pc = .ok (.getfield 90, 3)) (kk : W p l e R s m args below meth c H locs ce sl Q (F0 m (pc + 3) ls (.int (T 4) :: rest))) : W p l e R s m args below meth c H locs ce sl Q (F0 m pc ls (.ref a :: rest)) :=
  va_get hx hb htg hwX10 hown hK hP q0 he rfl 2 (by decide) (htg _ fl10_90) (fun _ h => h) rfl hdg kk
theorem P10_90 {T : Nat → Int32} {r0 : Nat} (hx : p.tables.exec = Jvm.exec) (hb : c.code = cc) (htg : ∀ w ∈ gw, w.before args s = true) (hown : s.vm.findClass RX10 = some m.cls) (hK : va_K E.1 vwCl (xTY E) s) (hP : va_P E.1 vwCl ws H) (hD : va_D A ws) (hS : va_S A s.heap H locs) (q0 : Nat) (he : ws[q0]? = some (a, o10 T r0)) {v : Int32} (hdg : decode cc pc = .ok (.putfield 90, 3)) (kk : ∀ (H1 : Heap) (locs1 : List Loc), va_P E.1 vwCl (ws.set q0 (a, o10 (upd T 4 v) r0)) H1 → va_D A (ws.set q0 (a, o10 (upd T 4 v) r0)) → va_S A s.heap H1 locs1 → W p l e R s m args below meth c H1 locs1 ce sl Q (F0 m (pc + 3) ls rest)) : W p l e R s m args below meth c H locs ce sl Q (F0 m pc ls (.int v :: .ref a :: rest)) :=
  va_put (ty := .int) hx hb htg hwX10 tyX10 tyX10_ok nmX10 hown hK hP hD hS q0 he rfl 2 (by decide) (htg _ fl10_90) (fun _ h => h) rfl (by decide +kernel) rfl rfl (Nat.le_of_ble_eq_true rfl) hdg kk
theorem fl10_104 : Cond.fieldLink RX10 104 "SighChart$YearsReader" "cell" "I" ∈ gw := gw_t (tb1 168 rfl) rfl
theorem G10_104 {T : Nat → Int32} {r0 : Nat} (hx : p.tables.exec = Jvm.exec) (hb : c.code = cc) (htg : ∀ w ∈ gw, w.before args s = true) (hown : s.vm.findClass RX10 = some m.cls) (hK : va_K E.1 vwCl (xTY E) s) (hP : va_P E.1 vwCl ws H) (q0 : Nat) (he : ws[q0]? = some (a, o10 T r0)) (hdg : decode cc pc = .ok (.getfield 104, 3)) (kk : W p l e R s m args below meth c H locs ce sl Q (F0 m (pc + 3) ls (.int (T 5) :: rest))) : W p l e R s m args below meth c H locs ce sl Q (F0 m pc ls (.ref a :: rest)) :=
  va_get hx hb htg hwX10 hown hK hP q0 he rfl 3 (by decide) (htg _ fl10_104) (fun _ h => h) rfl hdg kk
theorem P10_104 {T : Nat → Int32} {r0 : Nat} (hx : p.tables.exec = Jvm.exec) (hb : c.code = cc) (htg : ∀ w ∈ gw, w.before args s = true) (hown : s.vm.findClass RX10 = some m.cls) (hK : va_K E.1 vwCl (xTY E) s) (hP : va_P E.1 vwCl ws H) (hD : va_D A ws) (hS : va_S A s.heap H locs) (q0 : Nat) (he : ws[q0]? = some (a, o10 T r0)) {v : Int32} (hdg : decode cc pc = .ok (.putfield 104, 3)) (kk : ∀ (H1 : Heap) (locs1 : List Loc), va_P E.1 vwCl (ws.set q0 (a, o10 (upd T 5 v) r0)) H1 → va_D A (ws.set q0 (a, o10 (upd T 5 v) r0)) → va_S A s.heap H1 locs1 → W p l e R s m args below meth c H1 locs1 ce sl Q (F0 m (pc + 3) ls rest)) : W p l e R s m args below meth c H locs ce sl Q (F0 m pc ls (.int v :: .ref a :: rest)) :=
  va_put (ty := .int) hx hb htg hwX10 tyX10 tyX10_ok nmX10 hown hK hP hD hS q0 he rfl 3 (by decide) (htg _ fl10_104) (fun _ h => h) rfl (by decide +kernel) rfl rfl (Nat.le_of_ble_eq_true rfl) hdg kk
theorem fl10_107 : Cond.fieldLink RX10 107 "SighChart$YearsReader" "kind" "I" ∈ gw := gw_t (tb1 169 rfl) rfl
theorem G10_107 {T : Nat → Int32} {r0 : Nat} (hx : p.tables.exec = Jvm.exec) (hb : c.code = cc) (htg : ∀ w ∈ gw, w.before args s = true) (hown : s.vm.findClass RX10 = some m.cls) (hK : va_K E.1 vwCl (xTY E) s) (hP : va_P E.1 vwCl ws H) (q0 : Nat) (he : ws[q0]? = some (a, o10 T r0)) (hdg : decode cc pc = .ok (.getfield 107, 3)) (kk : W p l e R s m args below meth c H locs ce sl Q (F0 m (pc + 3) ls (.int (T 6) :: rest))) : W p l e R s m args below meth c H locs ce sl Q (F0 m pc ls (.ref a :: rest)) :=
  va_get hx hb htg hwX10 hown hK hP q0 he rfl 4 (by decide) (htg _ fl10_107) (fun _ h => h) rfl hdg kk
theorem P10_107 {T : Nat → Int32} {r0 : Nat} (hx : p.tables.exec = Jvm.exec) (hb : c.code = cc) (htg : ∀ w ∈ gw, w.before args s = true) (hown : s.vm.findClass RX10 = some m.cls) (hK : va_K E.1 vwCl (xTY E) s) (hP : va_P E.1 vwCl ws H) (hD : va_D A ws) (hS : va_S A s.heap H locs) (q0 : Nat) (he : ws[q0]? = some (a, o10 T r0)) {v : Int32} (hdg : decode cc pc = .ok (.putfield 107, 3)) (kk : ∀ (H1 : Heap) (locs1 : List Loc), va_P E.1 vwCl (ws.set q0 (a, o10 (upd T 6 v) r0)) H1 → va_D A (ws.set q0 (a, o10 (upd T 6 v) r0)) → va_S A s.heap H1 locs1 → W p l e R s m args below meth c H1 locs1 ce sl Q (F0 m (pc + 3) ls rest)) : W p l e R s m args below meth c H locs ce sl Q (F0 m pc ls (.int v :: .ref a :: rest)) :=
  va_put (ty := .int) hx hb htg hwX10 tyX10 tyX10_ok nmX10 hown hK hP hD hS q0 he rfl 4 (by decide) (htg _ fl10_107) (fun _ h => h) rfl (by decide +kernel) rfl rfl (Nat.le_of_ble_eq_true rfl) hdg kk
theorem fl10_114 : Cond.fieldLink RX10 114 "SighChart$YearsReader" "number" "I" ∈ gw := gw_t (tb1 171 rfl) rfl
theorem G10_114 {T : Nat → Int32} {r0 : Nat} (hx : p.tables.exec = Jvm.exec) (hb : c.code = cc) (htg : ∀ w ∈ gw, w.before args s = true) (hown : s.vm.findClass RX10 = some m.cls) (hK : va_K E.1 vwCl (xTY E) s) (hP : va_P E.1 vwCl ws H) (q0 : Nat) (he : ws[q0]? = some (a, o10 T r0)) (hdg : decode cc pc = .ok (.getfield 114, 3)) (kk : W p l e R s m args below meth c H locs ce sl Q (F0 m (pc + 3) ls (.int (T 8) :: rest))) : W p l e R s m args below meth c H locs ce sl Q (F0 m pc ls (.ref a :: rest)) :=
  va_get hx hb htg hwX10 hown hK hP q0 he rfl 6 (by decide) (htg _ fl10_114) (fun _ h => h) rfl hdg kk
theorem P10_114 {T : Nat → Int32} {r0 : Nat} (hx : p.tables.exec = Jvm.exec) (hb : c.code = cc) (htg : ∀ w ∈ gw, w.before args s = true) (hown : s.vm.findClass RX10 = some m.cls) (hK : va_K E.1 vwCl (xTY E) s) (hP : va_P E.1 vwCl ws H) (hD : va_D A ws) (hS : va_S A s.heap H locs) (q0 : Nat) (he : ws[q0]? = some (a, o10 T r0)) {v : Int32} (hdg : decode cc pc = .ok (.putfield 114, 3)) (kk : ∀ (H1 : Heap) (locs1 : List Loc), va_P E.1 vwCl (ws.set q0 (a, o10 (upd T 8 v) r0)) H1 → va_D A (ws.set q0 (a, o10 (upd T 8 v) r0)) → va_S A s.heap H1 locs1 → W p l e R s m args below meth c H1 locs1 ce sl Q (F0 m (pc + 3) ls rest)) : W p l e R s m args below meth c H locs ce sl Q (F0 m pc ls (.int v :: .ref a :: rest)) :=
  va_put (ty := .int) hx hb htg hwX10 tyX10 tyX10_ok nmX10 hown hK hP hD hS q0 he rfl 6 (by decide) (htg _ fl10_114) (fun _ h => h) rfl (by decide +kernel) rfl rfl (Nat.le_of_ble_eq_true rfl) hdg kk
theorem fl10_120 : Cond.fieldLink RX10 120 "SighChart$YearsReader" "comparison" "I" ∈ gw := gw_t (tb1 170 rfl) rfl
theorem G10_120 {T : Nat → Int32} {r0 : Nat} (hx : p.tables.exec = Jvm.exec) (hb : c.code = cc) (htg : ∀ w ∈ gw, w.before args s = true) (hown : s.vm.findClass RX10 = some m.cls) (hK : va_K E.1 vwCl (xTY E) s) (hP : va_P E.1 vwCl ws H) (q0 : Nat) (he : ws[q0]? = some (a, o10 T r0)) (hdg : decode cc pc = .ok (.getfield 120, 3)) (kk : W p l e R s m args below meth c H locs ce sl Q (F0 m (pc + 3) ls (.int (T 7) :: rest))) : W p l e R s m args below meth c H locs ce sl Q (F0 m pc ls (.ref a :: rest)) :=
  va_get hx hb htg hwX10 hown hK hP q0 he rfl 5 (by decide) (htg _ fl10_120) (fun _ h => h) rfl hdg kk
theorem P10_120 {T : Nat → Int32} {r0 : Nat} (hx : p.tables.exec = Jvm.exec) (hb : c.code = cc) (htg : ∀ w ∈ gw, w.before args s = true) (hown : s.vm.findClass RX10 = some m.cls) (hK : va_K E.1 vwCl (xTY E) s) (hP : va_P E.1 vwCl ws H) (hD : va_D A ws) (hS : va_S A s.heap H locs) (q0 : Nat) (he : ws[q0]? = some (a, o10 T r0)) {v : Int32} (hdg : decode cc pc = .ok (.putfield 120, 3)) (kk : ∀ (H1 : Heap) (locs1 : List Loc), va_P E.1 vwCl (ws.set q0 (a, o10 (upd T 7 v) r0)) H1 → va_D A (ws.set q0 (a, o10 (upd T 7 v) r0)) → va_S A s.heap H1 locs1 → W p l e R s m args below meth c H1 locs1 ce sl Q (F0 m (pc + 3) ls rest)) : W p l e R s m args below meth c H locs ce sl Q (F0 m pc ls (.int v :: .ref a :: rest)) :=
  va_put (ty := .int) hx hb htg hwX10 tyX10 tyX10_ok nmX10 hown hK hP hD hS q0 he rfl 5 (by decide) (htg _ fl10_120) (fun _ h => h) rfl (by decide +kernel) rfl rfl (Nat.le_of_ble_eq_true rfl) hdg kk
theorem fl10_136 : Cond.fieldLink RX10 136 "SighChart$Duchy" "rows" "I" ∈ gw := gw_t (tb2 86 rfl) rfl
theorem G10_136 {T : Nat → Int32} {r7 : Nat} {r8 : Nat} {r9 : Nat} {r10 : Nat} {r11 : Nat} {r12 : Nat} {r13 : Nat} {r14 : Nat} (hx : p.tables.exec = Jvm.exec) (hb : c.code = cc) (htg : ∀ w ∈ gw, w.before args s = true) (hown : s.vm.findClass RX10 = some m.cls) (hK : va_K E.1 vwCl (xTY E) s) (hP : va_P E.1 vwCl ws H) (q0 : Nat) (he : ws[q0]? = some (a, o3 T r7 r8 r9 r10 r11 r12 r13 r14)) (hdg : decode cc pc = .ok (.getfield 136, 3)) (kk : W p l e R s m args below meth c H locs ce sl Q (F0 m (pc + 3) ls (.int (T 0) :: rest))) : W p l e R s m args below meth c H locs ce sl Q (F0 m pc ls (.ref a :: rest)) :=
  va_get hx hb htg hwX3 hown hK hP q0 he rfl 0 (by decide) (htg _ fl10_136) (fun _ h => h) rfl hdg kk
theorem fl10_145 : Cond.fieldLink RX10 145 "SighChart$Duchy" "columns" "I" ∈ gw := gw_t (tb2 91 rfl) rfl
theorem G10_145 {T : Nat → Int32} {r7 : Nat} {r8 : Nat} {r9 : Nat} {r10 : Nat} {r11 : Nat} {r12 : Nat} {r13 : Nat} {r14 : Nat} (hx : p.tables.exec = Jvm.exec) (hb : c.code = cc) (htg : ∀ w ∈ gw, w.before args s = true) (hown : s.vm.findClass RX10 = some m.cls) (hK : va_K E.1 vwCl (xTY E) s) (hP : va_P E.1 vwCl ws H) (q0 : Nat) (he : ws[q0]? = some (a, o3 T r7 r8 r9 r10 r11 r12 r13 r14)) (hdg : decode cc pc = .ok (.getfield 145, 3)) (kk : W p l e R s m args below meth c H locs ce sl Q (F0 m (pc + 3) ls (.int (T 1) :: rest))) : W p l e R s m args below meth c H locs ce sl Q (F0 m pc ls (.ref a :: rest)) :=
  va_get hx hb htg hwX3 hown hK hP q0 he rfl 1 (by decide) (htg _ fl10_145) (fun _ h => h) rfl hdg kk
theorem fl12_7 : Cond.fieldLink RX12 7 "SighChartModel" "under" "J" ∈ gw := gw_t (tb6 189 rfl) rfl
theorem G12_7 {T : Nat → Int32} {j2 : Int64} {j3 : Int64} {j19 : Int64} {r4 : Nat} {r5 : Nat} {r6 : Nat} {r7 : Nat} {r20 : Nat} {r21 : Nat} {r22 : Nat} {r27 : Nat} {r28 : Nat} {r31 : Nat} {r32 : Nat} (hx : p.tables.exec = Jvm.exec) (hb : c.code = cc) (htg : ∀ w ∈ gw, w.before args s = true) (hown : s.vm.findClass RX12 = some m.cls) (hK : va_K E.1 vwCl (xTY E) s) (hP : va_P E.1 vwCl ws H) (q0 : Nat) (he : ws[q0]? = some (a, o12 T j2 j3 j19 r4 r5 r6 r7 r20 r21 r22 r27 r28 r31 r32)) (hdg : decode cc pc = .ok (.getfield 7, 3)) (kk : W p l e R s m args below meth c H locs ce sl Q (F0 m (pc + 3) ls (.long j3 :: rest))) : W p l e R s m args below meth c H locs ce sl Q (F0 m pc ls (.ref a :: rest)) :=
  va_get hx hb htg hwX12 hown hK hP q0 he rfl 3 (by decide) (htg _ fl12_7) (fun _ h => h) rfl hdg kk
theorem P12_7 {T : Nat → Int32} {j2 : Int64} {j3 : Int64} {j19 : Int64} {r4 : Nat} {r5 : Nat} {r6 : Nat} {r7 : Nat} {r20 : Nat} {r21 : Nat} {r22 : Nat} {r27 : Nat} {r28 : Nat} {r31 : Nat} {r32 : Nat} (hx : p.tables.exec = Jvm.exec) (hb : c.code = cc) (htg : ∀ w ∈ gw, w.before args s = true) (hown : s.vm.findClass RX12 = some m.cls) (hK : va_K E.1 vwCl (xTY E) s) (hP : va_P E.1 vwCl ws H) (hD : va_D A ws) (hS : va_S A s.heap H locs) (q0 : Nat) (he : ws[q0]? = some (a, o12 T j2 j3 j19 r4 r5 r6 r7 r20 r21 r22 r27 r28 r31 r32)) {v : Int64} (hdg : decode cc pc = .ok (.putfield 7, 3)) (kk : ∀ (H1 : Heap) (locs1 : List Loc), va_P E.1 vwCl (ws.set q0 (a, o12 T j2 v j19 r4 r5 r6 r7 r20 r21 r22 r27 r28 r31 r32)) H1 → va_D A (ws.set q0 (a, o12 T j2 v j19 r4 r5 r6 r7 r20 r21 r22 r27 r28 r31 r32)) → va_S A s.heap H1 locs1 → W p l e R s m args below meth c H1 locs1 ce sl Q (F0 m (pc + 3) ls rest)) : W p l e R s m args below meth c H locs ce sl Q (F0 m pc ls (.long v :: .ref a :: rest)) :=
  va_put (ty := .long) hx hb htg hwX12 tyX12 tyX12_ok nmX12 hown hK hP hD hS q0 he rfl 3 (by decide) (htg _ fl12_7) (fun _ h => h) rfl (by decide +kernel) rfl rfl (Nat.le_of_ble_eq_true rfl) hdg kk
theorem fl12_13 : Cond.fieldLink RX12 13 "SighChartModel" "traySort" "[I" ∈ gw := gw_t (tb6 190 rfl) rfl
theorem G12_13 {T : Nat → Int32} {j2 : Int64} {j3 : Int64} {j19 : Int64} {r4 : Nat} {r5 : Nat} {r6 : Nat} {r7 : Nat} {r20 : Nat} {r21 : Nat} {r22 : Nat} {r27 : Nat} {r28 : Nat} {r31 : Nat} {r32 : Nat} (hx : p.tables.exec = Jvm.exec) (hb : c.code = cc) (htg : ∀ w ∈ gw, w.before args s = true) (hown : s.vm.findClass RX12 = some m.cls) (hK : va_K E.1 vwCl (xTY E) s) (hP : va_P E.1 vwCl ws H) (q0 : Nat) (he : ws[q0]? = some (a, o12 T j2 j3 j19 r4 r5 r6 r7 r20 r21 r22 r27 r28 r31 r32)) (hdg : decode cc pc = .ok (.getfield 13, 3)) (kk : W p l e R s m args below meth c H locs ce sl Q (F0 m (pc + 3) ls (.ref r4 :: rest))) : W p l e R s m args below meth c H locs ce sl Q (F0 m pc ls (.ref a :: rest)) :=
  va_get hx hb htg hwX12 hown hK hP q0 he rfl 4 (by decide) (htg _ fl12_13) (fun _ h => h) rfl hdg kk
theorem fl12_17 : Cond.fieldLink RX12 17 "SighChartModel" "trayMany" "[I" ∈ gw := gw_t (tb6 191 rfl) rfl
theorem G12_17 {T : Nat → Int32} {j2 : Int64} {j3 : Int64} {j19 : Int64} {r4 : Nat} {r5 : Nat} {r6 : Nat} {r7 : Nat} {r20 : Nat} {r21 : Nat} {r22 : Nat} {r27 : Nat} {r28 : Nat} {r31 : Nat} {r32 : Nat} (hx : p.tables.exec = Jvm.exec) (hb : c.code = cc) (htg : ∀ w ∈ gw, w.before args s = true) (hown : s.vm.findClass RX12 = some m.cls) (hK : va_K E.1 vwCl (xTY E) s) (hP : va_P E.1 vwCl ws H) (q0 : Nat) (he : ws[q0]? = some (a, o12 T j2 j3 j19 r4 r5 r6 r7 r20 r21 r22 r27 r28 r31 r32)) (hdg : decode cc pc = .ok (.getfield 17, 3)) (kk : W p l e R s m args below meth c H locs ce sl Q (F0 m (pc + 3) ls (.ref r5 :: rest))) : W p l e R s m args below meth c H locs ce sl Q (F0 m pc ls (.ref a :: rest)) :=
  va_get hx hb htg hwX12 hown hK hP q0 he rfl 5 (by decide) (htg _ fl12_17) (fun _ h => h) rfl hdg kk
theorem fl12_20 : Cond.fieldLink RX12 20 "SighChartModel" "numbers" "[J" ∈ gw := gw_t (tb6 192 rfl) rfl
theorem G12_20 {T : Nat → Int32} {j2 : Int64} {j3 : Int64} {j19 : Int64} {r4 : Nat} {r5 : Nat} {r6 : Nat} {r7 : Nat} {r20 : Nat} {r21 : Nat} {r22 : Nat} {r27 : Nat} {r28 : Nat} {r31 : Nat} {r32 : Nat} (hx : p.tables.exec = Jvm.exec) (hb : c.code = cc) (htg : ∀ w ∈ gw, w.before args s = true) (hown : s.vm.findClass RX12 = some m.cls) (hK : va_K E.1 vwCl (xTY E) s) (hP : va_P E.1 vwCl ws H) (q0 : Nat) (he : ws[q0]? = some (a, o12 T j2 j3 j19 r4 r5 r6 r7 r20 r21 r22 r27 r28 r31 r32)) (hdg : decode cc pc = .ok (.getfield 20, 3)) (kk : W p l e R s m args below meth c H locs ce sl Q (F0 m (pc + 3) ls (.ref r6 :: rest))) : W p l e R s m args below meth c H locs ce sl Q (F0 m pc ls (.ref a :: rest)) :=
  va_get hx hb htg hwX12 hown hK hP q0 he rfl 6 (by decide) (htg _ fl12_20) (fun _ h => h) rfl hdg kk
theorem fl12_24 : Cond.fieldLink RX12 24 "SighChartModel" "tape" "[B" ∈ gw := gw_t (tb6 193 rfl) rfl
theorem G12_24 {T : Nat → Int32} {j2 : Int64} {j3 : Int64} {j19 : Int64} {r4 : Nat} {r5 : Nat} {r6 : Nat} {r7 : Nat} {r20 : Nat} {r21 : Nat} {r22 : Nat} {r27 : Nat} {r28 : Nat} {r31 : Nat} {r32 : Nat} (hx : p.tables.exec = Jvm.exec) (hb : c.code = cc) (htg : ∀ w ∈ gw, w.before args s = true) (hown : s.vm.findClass RX12 = some m.cls) (hK : va_K E.1 vwCl (xTY E) s) (hP : va_P E.1 vwCl ws H) (q0 : Nat) (he : ws[q0]? = some (a, o12 T j2 j3 j19 r4 r5 r6 r7 r20 r21 r22 r27 r28 r31 r32)) (hdg : decode cc pc = .ok (.getfield 24, 3)) (kk : W p l e R s m args below meth c H locs ce sl Q (F0 m (pc + 3) ls (.ref r7 :: rest))) : W p l e R s m args below meth c H locs ce sl Q (F0 m pc ls (.ref a :: rest)) :=
  va_get hx hb htg hwX12 hown hK hP q0 he rfl 7 (by decide) (htg _ fl12_24) (fun _ h => h) rfl hdg kk
theorem fl12_28 : Cond.fieldLink RX12 28 "SighChartModel" "faultKind" "I" ∈ gw := gw_t (tb6 196 rfl) rfl
theorem G12_28 {T : Nat → Int32} {j2 : Int64} {j3 : Int64} {j19 : Int64} {r4 : Nat} {r5 : Nat} {r6 : Nat} {r7 : Nat} {r20 : Nat} {r21 : Nat} {r22 : Nat} {r27 : Nat} {r28 : Nat} {r31 : Nat} {r32 : Nat} (hx : p.tables.exec = Jvm.exec) (hb : c.code = cc) (htg : ∀ w ∈ gw, w.before args s = true) (hown : s.vm.findClass RX12 = some m.cls) (hK : va_K E.1 vwCl (xTY E) s) (hP : va_P E.1 vwCl ws H) (q0 : Nat) (he : ws[q0]? = some (a, o12 T j2 j3 j19 r4 r5 r6 r7 r20 r21 r22 r27 r28 r31 r32)) (hdg : decode cc pc = .ok (.getfield 28, 3)) (kk : W p l e R s m args below meth c H locs ce sl Q (F0 m (pc + 3) ls (.int (T 10) :: rest))) : W p l e R s m args below meth c H locs ce sl Q (F0 m pc ls (.ref a :: rest)) :=
  va_get hx hb htg hwX12 hown hK hP q0 he rfl 10 (by decide) (htg _ fl12_28) (fun _ h => h) rfl hdg kk
theorem P12_28 {T : Nat → Int32} {j2 : Int64} {j3 : Int64} {j19 : Int64} {r4 : Nat} {r5 : Nat} {r6 : Nat} {r7 : Nat} {r20 : Nat} {r21 : Nat} {r22 : Nat} {r27 : Nat} {r28 : Nat} {r31 : Nat} {r32 : Nat} (hx : p.tables.exec = Jvm.exec) (hb : c.code = cc) (htg : ∀ w ∈ gw, w.before args s = true) (hown : s.vm.findClass RX12 = some m.cls) (hK : va_K E.1 vwCl (xTY E) s) (hP : va_P E.1 vwCl ws H) (hD : va_D A ws) (hS : va_S A s.heap H locs) (q0 : Nat) (he : ws[q0]? = some (a, o12 T j2 j3 j19 r4 r5 r6 r7 r20 r21 r22 r27 r28 r31 r32)) {v : Int32} (hdg : decode cc pc = .ok (.putfield 28, 3)) (kk : ∀ (H1 : Heap) (locs1 : List Loc), va_P E.1 vwCl (ws.set q0 (a, o12 (upd T 10 v) j2 j3 j19 r4 r5 r6 r7 r20 r21 r22 r27 r28 r31 r32)) H1 → va_D A (ws.set q0 (a, o12 (upd T 10 v) j2 j3 j19 r4 r5 r6 r7 r20 r21 r22 r27 r28 r31 r32)) → va_S A s.heap H1 locs1 → W p l e R s m args below meth c H1 locs1 ce sl Q (F0 m (pc + 3) ls rest)) : W p l e R s m args below meth c H locs ce sl Q (F0 m pc ls (.int v :: .ref a :: rest)) :=
  va_put (ty := .int) hx hb htg hwX12 tyX12 tyX12_ok nmX12 hown hK hP hD hS q0 he rfl 10 (by decide) (htg _ fl12_28) (fun _ h => h) rfl (by decide +kernel) rfl rfl (Nat.le_of_ble_eq_true rfl) hdg kk
theorem fl12_32 : Cond.fieldLink RX12 32 "SighChartModel" "faultAt" "I" ∈ gw := gw_t (tb6 197 rfl) rfl
theorem G12_32 {T : Nat → Int32} {j2 : Int64} {j3 : Int64} {j19 : Int64} {r4 : Nat} {r5 : Nat} {r6 : Nat} {r7 : Nat} {r20 : Nat} {r21 : Nat} {r22 : Nat} {r27 : Nat} {r28 : Nat} {r31 : Nat} {r32 : Nat} (hx : p.tables.exec = Jvm.exec) (hb : c.code = cc) (htg : ∀ w ∈ gw, w.before args s = true) (hown : s.vm.findClass RX12 = some m.cls) (hK : va_K E.1 vwCl (xTY E) s) (hP : va_P E.1 vwCl ws H) (q0 : Nat) (he : ws[q0]? = some (a, o12 T j2 j3 j19 r4 r5 r6 r7 r20 r21 r22 r27 r28 r31 r32)) (hdg : decode cc pc = .ok (.getfield 32, 3)) (kk : W p l e R s m args below meth c H locs ce sl Q (F0 m (pc + 3) ls (.int (T 11) :: rest))) : W p l e R s m args below meth c H locs ce sl Q (F0 m pc ls (.ref a :: rest)) :=
  va_get hx hb htg hwX12 hown hK hP q0 he rfl 11 (by decide) (htg _ fl12_32) (fun _ h => h) rfl hdg kk
theorem P12_32 {T : Nat → Int32} {j2 : Int64} {j3 : Int64} {j19 : Int64} {r4 : Nat} {r5 : Nat} {r6 : Nat} {r7 : Nat} {r20 : Nat} {r21 : Nat} {r22 : Nat} {r27 : Nat} {r28 : Nat} {r31 : Nat} {r32 : Nat} (hx : p.tables.exec = Jvm.exec) (hb : c.code = cc) (htg : ∀ w ∈ gw, w.before args s = true) (hown : s.vm.findClass RX12 = some m.cls) (hK : va_K E.1 vwCl (xTY E) s) (hP : va_P E.1 vwCl ws H) (hD : va_D A ws) (hS : va_S A s.heap H locs) (q0 : Nat) (he : ws[q0]? = some (a, o12 T j2 j3 j19 r4 r5 r6 r7 r20 r21 r22 r27 r28 r31 r32)) {v : Int32} (hdg : decode cc pc = .ok (.putfield 32, 3)) (kk : ∀ (H1 : Heap) (locs1 : List Loc), va_P E.1 vwCl (ws.set q0 (a, o12 (upd T 11 v) j2 j3 j19 r4 r5 r6 r7 r20 r21 r22 r27 r28 r31 r32)) H1 → va_D A (ws.set q0 (a, o12 (upd T 11 v) j2 j3 j19 r4 r5 r6 r7 r20 r21 r22 r27 r28 r31 r32)) → va_S A s.heap H1 locs1 → W p l e R s m args below meth c H1 locs1 ce sl Q (F0 m (pc + 3) ls rest)) : W p l e R s m args below meth c H locs ce sl Q (F0 m pc ls (.int v :: .ref a :: rest)) :=
  va_put (ty := .int) hx hb htg hwX12 tyX12 tyX12_ok nmX12 hown hK hP hD hS q0 he rfl 11 (by decide) (htg _ fl12_32) (fun _ h => h) rfl (by decide +kernel) rfl rfl (Nat.le_of_ble_eq_true rfl) hdg kk
theorem fl12_35 : Cond.fieldLink RX12 35 "SighChartModel" "c" "[I" ∈ gw := gw_t (tb6 206 rfl) rfl
theorem G12_35 {T : Nat → Int32} {j2 : Int64} {j3 : Int64} {j19 : Int64} {r4 : Nat} {r5 : Nat} {r6 : Nat} {r7 : Nat} {r20 : Nat} {r21 : Nat} {r22 : Nat} {r27 : Nat} {r28 : Nat} {r31 : Nat} {r32 : Nat} (hx : p.tables.exec = Jvm.exec) (hb : c.code = cc) (htg : ∀ w ∈ gw, w.before args s = true) (hown : s.vm.findClass RX12 = some m.cls) (hK : va_K E.1 vwCl (xTY E) s) (hP : va_P E.1 vwCl ws H) (q0 : Nat) (he : ws[q0]? = some (a, o12 T j2 j3 j19 r4 r5 r6 r7 r20 r21 r22 r27 r28 r31 r32)) (hdg : decode cc pc = .ok (.getfield 35, 3)) (kk : W p l e R s m args below meth c H locs ce sl Q (F0 m (pc + 3) ls (.ref r20 :: rest))) : W p l e R s m args below meth c H locs ce sl Q (F0 m pc ls (.ref a :: rest)) :=
  va_get hx hb htg hwX12 hown hK hP q0 he rfl 20 (by decide) (htg _ fl12_35) (fun _ h => h) rfl hdg kk
theorem fl12_38 : Cond.fieldLink RX12 38 "SighChartModel" "before" "[I" ∈ gw := gw_t (tb6 207 rfl) rfl
theorem G12_38 {T : Nat → Int32} {j2 : Int64} {j3 : Int64} {j19 : Int64} {r4 : Nat} {r5 : Nat} {r6 : Nat} {r7 : Nat} {r20 : Nat} {r21 : Nat} {r22 : Nat} {r27 : Nat} {r28 : Nat} {r31 : Nat} {r32 : Nat} (hx : p.tables.exec = Jvm.exec) (hb : c.code = cc) (htg : ∀ w ∈ gw, w.before args s = true) (hown : s.vm.findClass RX12 = some m.cls) (hK : va_K E.1 vwCl (xTY E) s) (hP : va_P E.1 vwCl ws H) (q0 : Nat) (he : ws[q0]? = some (a, o12 T j2 j3 j19 r4 r5 r6 r7 r20 r21 r22 r27 r28 r31 r32)) (hdg : decode cc pc = .ok (.getfield 38, 3)) (kk : W p l e R s m args below meth c H locs ce sl Q (F0 m (pc + 3) ls (.ref r21 :: rest))) : W p l e R s m args below meth c H locs ce sl Q (F0 m pc ls (.ref a :: rest)) :=
  va_get hx hb htg hwX12 hown hK hP q0 he rfl 21 (by decide) (htg _ fl12_38) (fun _ h => h) rfl hdg kk
theorem fl12_41 : Cond.fieldLink RX12 41 "SighChartModel" "words" "[J" ∈ gw := gw_t (tb6 208 rfl) rfl
theorem G12_41 {T : Nat → Int32} {j2 : Int64} {j3 : Int64} {j19 : Int64} {r4 : Nat} {r5 : Nat} {r6 : Nat} {r7 : Nat} {r20 : Nat} {r21 : Nat} {r22 : Nat} {r27 : Nat} {r28 : Nat} {r31 : Nat} {r32 : Nat} (hx : p.tables.exec = Jvm.exec) (hb : c.code = cc) (htg : ∀ w ∈ gw, w.before args s = true) (hown : s.vm.findClass RX12 = some m.cls) (hK : va_K E.1 vwCl (xTY E) s) (hP : va_P E.1 vwCl ws H) (q0 : Nat) (he : ws[q0]? = some (a, o12 T j2 j3 j19 r4 r5 r6 r7 r20 r21 r22 r27 r28 r31 r32)) (hdg : decode cc pc = .ok (.getfield 41, 3)) (kk : W p l e R s m args below meth c H locs ce sl Q (F0 m (pc + 3) ls (.ref r22 :: rest))) : W p l e R s m args below meth c H locs ce sl Q (F0 m pc ls (.ref a :: rest)) :=
  va_get hx hb htg hwX12 hown hK hP q0 he rfl 22 (by decide) (htg _ fl12_41) (fun _ h => h) rfl hdg kk
theorem fl12_44 : Cond.fieldLink RX12 44 "SighChartModel" "costTo" "[I" ∈ gw := gw_t (tb6 213 rfl) rfl
theorem G12_44 {T : Nat → Int32} {j2 : Int64} {j3 : Int64} {j19 : Int64} {r4 : Nat} {r5 : Nat} {r6 : Nat} {r7 : Nat} {r20 : Nat} {r21 : Nat} {r22 : Nat} {r27 : Nat} {r28 : Nat} {r31 : Nat} {r32 : Nat} (hx : p.tables.exec = Jvm.exec) (hb : c.code = cc) (htg : ∀ w ∈ gw, w.before args s = true) (hown : s.vm.findClass RX12 = some m.cls) (hK : va_K E.1 vwCl (xTY E) s) (hP : va_P E.1 vwCl ws H) (q0 : Nat) (he : ws[q0]? = some (a, o12 T j2 j3 j19 r4 r5 r6 r7 r20 r21 r22 r27 r28 r31 r32)) (hdg : decode cc pc = .ok (.getfield 44, 3)) (kk : W p l e R s m args below meth c H locs ce sl Q (F0 m (pc + 3) ls (.ref r27 :: rest))) : W p l e R s m args below meth c H locs ce sl Q (F0 m pc ls (.ref a :: rest)) :=
  va_get hx hb htg hwX12 hown hK hP q0 he rfl 27 (by decide) (htg _ fl12_44) (fun _ h => h) rfl hdg kk
theorem fl12_47 : Cond.fieldLink RX12 47 "SighChartModel" "risks" "[I" ∈ gw := gw_t (tb6 214 rfl) rfl
theorem G12_47 {T : Nat → Int32} {j2 : Int64} {j3 : Int64} {j19 : Int64} {r4 : Nat} {r5 : Nat} {r6 : Nat} {r7 : Nat} {r20 : Nat} {r21 : Nat} {r22 : Nat} {r27 : Nat} {r28 : Nat} {r31 : Nat} {r32 : Nat} (hx : p.tables.exec = Jvm.exec) (hb : c.code = cc) (htg : ∀ w ∈ gw, w.before args s = true) (hown : s.vm.findClass RX12 = some m.cls) (hK : va_K E.1 vwCl (xTY E) s) (hP : va_P E.1 vwCl ws H) (q0 : Nat) (he : ws[q0]? = some (a, o12 T j2 j3 j19 r4 r5 r6 r7 r20 r21 r22 r27 r28 r31 r32)) (hdg : decode cc pc = .ok (.getfield 47, 3)) (kk : W p l e R s m args below meth c H locs ce sl Q (F0 m (pc + 3) ls (.ref r28 :: rest))) : W p l e R s m args below meth c H locs ce sl Q (F0 m pc ls (.ref a :: rest)) :=
  va_get hx hb htg hwX12 hown hK hP q0 he rfl 28 (by decide) (htg _ fl12_47) (fun _ h => h) rfl hdg kk
theorem fl12_50 : Cond.fieldLink RX12 50 "SighChartModel" "swearing" "[J" ∈ gw := gw_t (tb6 217 rfl) rfl
theorem G12_50 {T : Nat → Int32} {j2 : Int64} {j3 : Int64} {j19 : Int64} {r4 : Nat} {r5 : Nat} {r6 : Nat} {r7 : Nat} {r20 : Nat} {r21 : Nat} {r22 : Nat} {r27 : Nat} {r28 : Nat} {r31 : Nat} {r32 : Nat} (hx : p.tables.exec = Jvm.exec) (hb : c.code = cc) (htg : ∀ w ∈ gw, w.before args s = true) (hown : s.vm.findClass RX12 = some m.cls) (hK : va_K E.1 vwCl (xTY E) s) (hP : va_P E.1 vwCl ws H) (q0 : Nat) (he : ws[q0]? = some (a, o12 T j2 j3 j19 r4 r5 r6 r7 r20 r21 r22 r27 r28 r31 r32)) (hdg : decode cc pc = .ok (.getfield 50, 3)) (kk : W p l e R s m args below meth c H locs ce sl Q (F0 m (pc + 3) ls (.ref r31 :: rest))) : W p l e R s m args below meth c H locs ce sl Q (F0 m pc ls (.ref a :: rest)) :=
  va_get hx hb htg hwX12 hown hK hP q0 he rfl 31 (by decide) (htg _ fl12_50) (fun _ h => h) rfl hdg kk
theorem fl12_53 : Cond.fieldLink RX12 53 "SighChartModel" "livedLast" "[I" ∈ gw := gw_t (tb6 218 rfl) rfl
theorem G12_53 {T : Nat → Int32} {j2 : Int64} {j3 : Int64} {j19 : Int64} {r4 : Nat} {r5 : Nat} {r6 : Nat} {r7 : Nat} {r20 : Nat} {r21 : Nat} {r22 : Nat} {r27 : Nat} {r28 : Nat} {r31 : Nat} {r32 : Nat} (hx : p.tables.exec = Jvm.exec) (hb : c.code = cc) (htg : ∀ w ∈ gw, w.before args s = true) (hown : s.vm.findClass RX12 = some m.cls) (hK : va_K E.1 vwCl (xTY E) s) (hP : va_P E.1 vwCl ws H) (q0 : Nat) (he : ws[q0]? = some (a, o12 T j2 j3 j19 r4 r5 r6 r7 r20 r21 r22 r27 r28 r31 r32)) (hdg : decode cc pc = .ok (.getfield 53, 3)) (kk : W p l e R s m args below meth c H locs ce sl Q (F0 m (pc + 3) ls (.ref r32 :: rest))) : W p l e R s m args below meth c H locs ce sl Q (F0 m pc ls (.ref a :: rest)) :=
  va_get hx hb htg hwX12 hown hK hP q0 he rfl 32 (by decide) (htg _ fl12_53) (fun _ h => h) rfl hdg kk
theorem fl12_60 : Cond.fieldLink RX12 60 "SighChartModel" "thrown" "I" ∈ gw := gw_t (tb6 187 rfl) rfl
theorem P12_60 {T : Nat → Int32} {j2 : Int64} {j3 : Int64} {j19 : Int64} {r4 : Nat} {r5 : Nat} {r6 : Nat} {r7 : Nat} {r20 : Nat} {r21 : Nat} {r22 : Nat} {r27 : Nat} {r28 : Nat} {r31 : Nat} {r32 : Nat} (hx : p.tables.exec = Jvm.exec) (hb : c.code = cc) (htg : ∀ w ∈ gw, w.before args s = true) (hown : s.vm.findClass RX12 = some m.cls) (hK : va_K E.1 vwCl (xTY E) s) (hP : va_P E.1 vwCl ws H) (hD : va_D A ws) (hS : va_S A s.heap H locs) (q0 : Nat) (he : ws[q0]? = some (a, o12 T j2 j3 j19 r4 r5 r6 r7 r20 r21 r22 r27 r28 r31 r32)) {v : Int32} (hdg : decode cc pc = .ok (.putfield 60, 3)) (kk : ∀ (H1 : Heap) (locs1 : List Loc), va_P E.1 vwCl (ws.set q0 (a, o12 (upd T 1 v) j2 j3 j19 r4 r5 r6 r7 r20 r21 r22 r27 r28 r31 r32)) H1 → va_D A (ws.set q0 (a, o12 (upd T 1 v) j2 j3 j19 r4 r5 r6 r7 r20 r21 r22 r27 r28 r31 r32)) → va_S A s.heap H1 locs1 → W p l e R s m args below meth c H1 locs1 ce sl Q (F0 m (pc + 3) ls rest)) : W p l e R s m args below meth c H locs ce sl Q (F0 m pc ls (.int v :: .ref a :: rest)) :=
  va_put (ty := .int) hx hb htg hwX12 tyX12 tyX12_ok nmX12 hown hK hP hD hS q0 he rfl 1 (by decide) (htg _ fl12_60) (fun _ h => h) rfl (by decide +kernel) rfl rfl (Nat.le_of_ble_eq_true rfl) hdg kk
theorem fl12_63 : Cond.fieldLink RX12 63 "SighChartModel" "status" "I" ∈ gw := gw_t (tb6 186 rfl) rfl
theorem G12_63 {T : Nat → Int32} {j2 : Int64} {j3 : Int64} {j19 : Int64} {r4 : Nat} {r5 : Nat} {r6 : Nat} {r7 : Nat} {r20 : Nat} {r21 : Nat} {r22 : Nat} {r27 : Nat} {r28 : Nat} {r31 : Nat} {r32 : Nat} (hx : p.tables.exec = Jvm.exec) (hb : c.code = cc) (htg : ∀ w ∈ gw, w.before args s = true) (hown : s.vm.findClass RX12 = some m.cls) (hK : va_K E.1 vwCl (xTY E) s) (hP : va_P E.1 vwCl ws H) (q0 : Nat) (he : ws[q0]? = some (a, o12 T j2 j3 j19 r4 r5 r6 r7 r20 r21 r22 r27 r28 r31 r32)) (hdg : decode cc pc = .ok (.getfield 63, 3)) (kk : W p l e R s m args below meth c H locs ce sl Q (F0 m (pc + 3) ls (.int (T 0) :: rest))) : W p l e R s m args below meth c H locs ce sl Q (F0 m pc ls (.ref a :: rest)) :=
  va_get hx hb htg hwX12 hown hK hP q0 he rfl 0 (by decide) (htg _ fl12_63) (fun _ h => h) rfl hdg kk
theorem P12_63 {T : Nat → Int32} {j2 : Int64} {j3 : Int64} {j19 : Int64} {r4 : Nat} {r5 : Nat} {r6 : Nat} {r7 : Nat} {r20 : Nat} {r21 : Nat} {r22 : Nat} {r27 : Nat} {r28 : Nat} {r31 : Nat} {r32 : Nat} (hx : p.tables.exec = Jvm.exec) (hb : c.code = cc) (htg : ∀ w ∈ gw, w.before args s = true) (hown : s.vm.findClass RX12 = some m.cls) (hK : va_K E.1 vwCl (xTY E) s) (hP : va_P E.1 vwCl ws H) (hD : va_D A ws) (hS : va_S A s.heap H locs) (q0 : Nat) (he : ws[q0]? = some (a, o12 T j2 j3 j19 r4 r5 r6 r7 r20 r21 r22 r27 r28 r31 r32)) {v : Int32} (hdg : decode cc pc = .ok (.putfield 63, 3)) (kk : ∀ (H1 : Heap) (locs1 : List Loc), va_P E.1 vwCl (ws.set q0 (a, o12 (upd T 0 v) j2 j3 j19 r4 r5 r6 r7 r20 r21 r22 r27 r28 r31 r32)) H1 → va_D A (ws.set q0 (a, o12 (upd T 0 v) j2 j3 j19 r4 r5 r6 r7 r20 r21 r22 r27 r28 r31 r32)) → va_S A s.heap H1 locs1 → W p l e R s m args below meth c H1 locs1 ce sl Q (F0 m (pc + 3) ls rest)) : W p l e R s m args below meth c H locs ce sl Q (F0 m pc ls (.int v :: .ref a :: rest)) :=
  va_put (ty := .int) hx hb htg hwX12 tyX12 tyX12_ok nmX12 hown hK hP hD hS q0 he rfl 0 (by decide) (htg _ fl12_63) (fun _ h => h) rfl (by decide +kernel) rfl rfl (Nat.le_of_ble_eq_true rfl) hdg kk
theorem fl12_66 : Cond.fieldLink RX12 66 "SighChartModel" "above" "J" ∈ gw := gw_t (tb6 188 rfl) rfl
theorem G12_66 {T : Nat → Int32} {j2 : Int64} {j3 : Int64} {j19 : Int64} {r4 : Nat} {r5 : Nat} {r6 : Nat} {r7 : Nat} {r20 : Nat} {r21 : Nat} {r22 : Nat} {r27 : Nat} {r28 : Nat} {r31 : Nat} {r32 : Nat} (hx : p.tables.exec = Jvm.exec) (hb : c.code = cc) (htg : ∀ w ∈ gw, w.before args s = true) (hown : s.vm.findClass RX12 = some m.cls) (hK : va_K E.1 vwCl (xTY E) s) (hP : va_P E.1 vwCl ws H) (q0 : Nat) (he : ws[q0]? = some (a, o12 T j2 j3 j19 r4 r5 r6 r7 r20 r21 r22 r27 r28 r31 r32)) (hdg : decode cc pc = .ok (.getfield 66, 3)) (kk : W p l e R s m args below meth c H locs ce sl Q (F0 m (pc + 3) ls (.long j2 :: rest))) : W p l e R s m args below meth c H locs ce sl Q (F0 m pc ls (.ref a :: rest)) :=
  va_get hx hb htg hwX12 hown hK hP q0 he rfl 2 (by decide) (htg _ fl12_66) (fun _ h => h) rfl hdg kk
theorem P12_66 {T : Nat → Int32} {j2 : Int64} {j3 : Int64} {j19 : Int64} {r4 : Nat} {r5 : Nat} {r6 : Nat} {r7 : Nat} {r20 : Nat} {r21 : Nat} {r22 : Nat} {r27 : Nat} {r28 : Nat} {r31 : Nat} {r32 : Nat} (hx : p.tables.exec = Jvm.exec) (hb : c.code = cc) (htg : ∀ w ∈ gw, w.before args s = true) (hown : s.vm.findClass RX12 = some m.cls) (hK : va_K E.1 vwCl (xTY E) s) (hP : va_P E.1 vwCl ws H) (hD : va_D A ws) (hS : va_S A s.heap H locs) (q0 : Nat) (he : ws[q0]? = some (a, o12 T j2 j3 j19 r4 r5 r6 r7 r20 r21 r22 r27 r28 r31 r32)) {v : Int64} (hdg : decode cc pc = .ok (.putfield 66, 3)) (kk : ∀ (H1 : Heap) (locs1 : List Loc), va_P E.1 vwCl (ws.set q0 (a, o12 T v j3 j19 r4 r5 r6 r7 r20 r21 r22 r27 r28 r31 r32)) H1 → va_D A (ws.set q0 (a, o12 T v j3 j19 r4 r5 r6 r7 r20 r21 r22 r27 r28 r31 r32)) → va_S A s.heap H1 locs1 → W p l e R s m args below meth c H1 locs1 ce sl Q (F0 m (pc + 3) ls rest)) : W p l e R s m args below meth c H locs ce sl Q (F0 m pc ls (.long v :: .ref a :: rest)) :=
  va_put (ty := .long) hx hb htg hwX12 tyX12 tyX12_ok nmX12 hown hK hP hD hS q0 he rfl 2 (by decide) (htg _ fl12_66) (fun _ h => h) rfl (by decide +kernel) rfl rfl (Nat.le_of_ble_eq_true rfl) hdg kk
theorem fl12_103 : Cond.fieldLink RX12 103 "SighChartModel" "textEnd" "I" ∈ gw := gw_t (tb6 195 rfl) rfl
theorem G12_103 {T : Nat → Int32} {j2 : Int64} {j3 : Int64} {j19 : Int64} {r4 : Nat} {r5 : Nat} {r6 : Nat} {r7 : Nat} {r20 : Nat} {r21 : Nat} {r22 : Nat} {r27 : Nat} {r28 : Nat} {r31 : Nat} {r32 : Nat} (hx : p.tables.exec = Jvm.exec) (hb : c.code = cc) (htg : ∀ w ∈ gw, w.before args s = true) (hown : s.vm.findClass RX12 = some m.cls) (hK : va_K E.1 vwCl (xTY E) s) (hP : va_P E.1 vwCl ws H) (q0 : Nat) (he : ws[q0]? = some (a, o12 T j2 j3 j19 r4 r5 r6 r7 r20 r21 r22 r27 r28 r31 r32)) (hdg : decode cc pc = .ok (.getfield 103, 3)) (kk : W p l e R s m args below meth c H locs ce sl Q (F0 m (pc + 3) ls (.int (T 9) :: rest))) : W p l e R s m args below meth c H locs ce sl Q (F0 m pc ls (.ref a :: rest)) :=
  va_get hx hb htg hwX12 hown hK hP q0 he rfl 9 (by decide) (htg _ fl12_103) (fun _ h => h) rfl hdg kk
theorem P12_103 {T : Nat → Int32} {j2 : Int64} {j3 : Int64} {j19 : Int64} {r4 : Nat} {r5 : Nat} {r6 : Nat} {r7 : Nat} {r20 : Nat} {r21 : Nat} {r22 : Nat} {r27 : Nat} {r28 : Nat} {r31 : Nat} {r32 : Nat} (hx : p.tables.exec = Jvm.exec) (hb : c.code = cc) (htg : ∀ w ∈ gw, w.before args s = true) (hown : s.vm.findClass RX12 = some m.cls) (hK : va_K E.1 vwCl (xTY E) s) (hP : va_P E.1 vwCl ws H) (hD : va_D A ws) (hS : va_S A s.heap H locs) (q0 : Nat) (he : ws[q0]? = some (a, o12 T j2 j3 j19 r4 r5 r6 r7 r20 r21 r22 r27 r28 r31 r32)) {v : Int32} (hdg : decode cc pc = .ok (.putfield 103, 3)) (kk : ∀ (H1 : Heap) (locs1 : List Loc), va_P E.1 vwCl (ws.set q0 (a, o12 (upd T 9 v) j2 j3 j19 r4 r5 r6 r7 r20 r21 r22 r27 r28 r31 r32)) H1 → va_D A (ws.set q0 (a, o12 (upd T 9 v) j2 j3 j19 r4 r5 r6 r7 r20 r21 r22 r27 r28 r31 r32)) → va_S A s.heap H1 locs1 → W p l e R s m args below meth c H1 locs1 ce sl Q (F0 m (pc + 3) ls rest)) : W p l e R s m args below meth c H locs ce sl Q (F0 m pc ls (.int v :: .ref a :: rest)) :=
  va_put (ty := .int) hx hb htg hwX12 tyX12 tyX12_ok nmX12 hown hK hP hD hS q0 he rfl 9 (by decide) (htg _ fl12_103) (fun _ h => h) rfl (by decide +kernel) rfl rfl (Nat.le_of_ble_eq_true rfl) hdg kk
theorem fl12_106 : Cond.fieldLink RX12 106 "SighChartModel" "behind" "I" ∈ gw := gw_t (tb6 202 rfl) rfl
theorem G12_106 {T : Nat → Int32} {j2 : Int64} {j3 : Int64} {j19 : Int64} {r4 : Nat} {r5 : Nat} {r6 : Nat} {r7 : Nat} {r20 : Nat} {r21 : Nat} {r22 : Nat} {r27 : Nat} {r28 : Nat} {r31 : Nat} {r32 : Nat} (hx : p.tables.exec = Jvm.exec) (hb : c.code = cc) (htg : ∀ w ∈ gw, w.before args s = true) (hown : s.vm.findClass RX12 = some m.cls) (hK : va_K E.1 vwCl (xTY E) s) (hP : va_P E.1 vwCl ws H) (q0 : Nat) (he : ws[q0]? = some (a, o12 T j2 j3 j19 r4 r5 r6 r7 r20 r21 r22 r27 r28 r31 r32)) (hdg : decode cc pc = .ok (.getfield 106, 3)) (kk : W p l e R s m args below meth c H locs ce sl Q (F0 m (pc + 3) ls (.int (T 16) :: rest))) : W p l e R s m args below meth c H locs ce sl Q (F0 m pc ls (.ref a :: rest)) :=
  va_get hx hb htg hwX12 hown hK hP q0 he rfl 16 (by decide) (htg _ fl12_106) (fun _ h => h) rfl hdg kk
theorem P12_106 {T : Nat → Int32} {j2 : Int64} {j3 : Int64} {j19 : Int64} {r4 : Nat} {r5 : Nat} {r6 : Nat} {r7 : Nat} {r20 : Nat} {r21 : Nat} {r22 : Nat} {r27 : Nat} {r28 : Nat} {r31 : Nat} {r32 : Nat} (hx : p.tables.exec = Jvm.exec) (hb : c.code = cc) (htg : ∀ w ∈ gw, w.before args s = true) (hown : s.vm.findClass RX12 = some m.cls) (hK : va_K E.1 vwCl (xTY E) s) (hP : va_P E.1 vwCl ws H) (hD : va_D A ws) (hS : va_S A s.heap H locs) (q0 : Nat) (he : ws[q0]? = some (a, o12 T j2 j3 j19 r4 r5 r6 r7 r20 r21 r22 r27 r28 r31 r32)) {v : Int32} (hdg : decode cc pc = .ok (.putfield 106, 3)) (kk : ∀ (H1 : Heap) (locs1 : List Loc), va_P E.1 vwCl (ws.set q0 (a, o12 (upd T 16 v) j2 j3 j19 r4 r5 r6 r7 r20 r21 r22 r27 r28 r31 r32)) H1 → va_D A (ws.set q0 (a, o12 (upd T 16 v) j2 j3 j19 r4 r5 r6 r7 r20 r21 r22 r27 r28 r31 r32)) → va_S A s.heap H1 locs1 → W p l e R s m args below meth c H1 locs1 ce sl Q (F0 m (pc + 3) ls rest)) : W p l e R s m args below meth c H locs ce sl Q (F0 m pc ls (.int v :: .ref a :: rest)) :=
  va_put (ty := .int) hx hb htg hwX12 tyX12 tyX12_ok nmX12 hown hK hP hD hS q0 he rfl 16 (by decide) (htg _ fl12_106) (fun _ h => h) rfl (by decide +kernel) rfl rfl (Nat.le_of_ble_eq_true rfl) hdg kk
theorem fl12_109 : Cond.fieldLink RX12 109 "SighChartModel" "at" "I" ∈ gw := gw_t (tb6 201 rfl) rfl
theorem G12_109 {T : Nat → Int32} {j2 : Int64} {j3 : Int64} {j19 : Int64} {r4 : Nat} {r5 : Nat} {r6 : Nat} {r7 : Nat} {r20 : Nat} {r21 : Nat} {r22 : Nat} {r27 : Nat} {r28 : Nat} {r31 : Nat} {r32 : Nat} (hx : p.tables.exec = Jvm.exec) (hb : c.code = cc) (htg : ∀ w ∈ gw, w.before args s = true) (hown : s.vm.findClass RX12 = some m.cls) (hK : va_K E.1 vwCl (xTY E) s) (hP : va_P E.1 vwCl ws H) (q0 : Nat) (he : ws[q0]? = some (a, o12 T j2 j3 j19 r4 r5 r6 r7 r20 r21 r22 r27 r28 r31 r32)) (hdg : decode cc pc = .ok (.getfield 109, 3)) (kk : W p l e R s m args below meth c H locs ce sl Q (F0 m (pc + 3) ls (.int (T 15) :: rest))) : W p l e R s m args below meth c H locs ce sl Q (F0 m pc ls (.ref a :: rest)) :=
  va_get hx hb htg hwX12 hown hK hP q0 he rfl 15 (by decide) (htg _ fl12_109) (fun _ h => h) rfl hdg kk
theorem P12_109 {T : Nat → Int32} {j2 : Int64} {j3 : Int64} {j19 : Int64} {r4 : Nat} {r5 : Nat} {r6 : Nat} {r7 : Nat} {r20 : Nat} {r21 : Nat} {r22 : Nat} {r27 : Nat} {r28 : Nat} {r31 : Nat} {r32 : Nat} (hx : p.tables.exec = Jvm.exec) (hb : c.code = cc) (htg : ∀ w ∈ gw, w.before args s = true) (hown : s.vm.findClass RX12 = some m.cls) (hK : va_K E.1 vwCl (xTY E) s) (hP : va_P E.1 vwCl ws H) (hD : va_D A ws) (hS : va_S A s.heap H locs) (q0 : Nat) (he : ws[q0]? = some (a, o12 T j2 j3 j19 r4 r5 r6 r7 r20 r21 r22 r27 r28 r31 r32)) {v : Int32} (hdg : decode cc pc = .ok (.putfield 109, 3)) (kk : ∀ (H1 : Heap) (locs1 : List Loc), va_P E.1 vwCl (ws.set q0 (a, o12 (upd T 15 v) j2 j3 j19 r4 r5 r6 r7 r20 r21 r22 r27 r28 r31 r32)) H1 → va_D A (ws.set q0 (a, o12 (upd T 15 v) j2 j3 j19 r4 r5 r6 r7 r20 r21 r22 r27 r28 r31 r32)) → va_S A s.heap H1 locs1 → W p l e R s m args below meth c H1 locs1 ce sl Q (F0 m (pc + 3) ls rest)) : W p l e R s m args below meth c H locs ce sl Q (F0 m pc ls (.int v :: .ref a :: rest)) :=
  va_put (ty := .int) hx hb htg hwX12 tyX12 tyX12_ok nmX12 hown hK hP hD hS q0 he rfl 15 (by decide) (htg _ fl12_109) (fun _ h => h) rfl (by decide +kernel) rfl rfl (Nat.le_of_ble_eq_true rfl) hdg kk
theorem fl12_115 : Cond.fieldLink RX12 115 "SighChartModel" "token" "I" ∈ gw := gw_t (tb6 200 rfl) rfl
theorem G12_115 {T : Nat → Int32} {j2 : Int64} {j3 : Int64} {j19 : Int64} {r4 : Nat} {r5 : Nat} {r6 : Nat} {r7 : Nat} {r20 : Nat} {r21 : Nat} {r22 : Nat} {r27 : Nat} {r28 : Nat} {r31 : Nat} {r32 : Nat} (hx : p.tables.exec = Jvm.exec) (hb : c.code = cc) (htg : ∀ w ∈ gw, w.before args s = true) (hown : s.vm.findClass RX12 = some m.cls) (hK : va_K E.1 vwCl (xTY E) s) (hP : va_P E.1 vwCl ws H) (q0 : Nat) (he : ws[q0]? = some (a, o12 T j2 j3 j19 r4 r5 r6 r7 r20 r21 r22 r27 r28 r31 r32)) (hdg : decode cc pc = .ok (.getfield 115, 3)) (kk : W p l e R s m args below meth c H locs ce sl Q (F0 m (pc + 3) ls (.int (T 14) :: rest))) : W p l e R s m args below meth c H locs ce sl Q (F0 m pc ls (.ref a :: rest)) :=
  va_get hx hb htg hwX12 hown hK hP q0 he rfl 14 (by decide) (htg _ fl12_115) (fun _ h => h) rfl hdg kk
theorem P12_115 {T : Nat → Int32} {j2 : Int64} {j3 : Int64} {j19 : Int64} {r4 : Nat} {r5 : Nat} {r6 : Nat} {r7 : Nat} {r20 : Nat} {r21 : Nat} {r22 : Nat} {r27 : Nat} {r28 : Nat} {r31 : Nat} {r32 : Nat} (hx : p.tables.exec = Jvm.exec) (hb : c.code = cc) (htg : ∀ w ∈ gw, w.before args s = true) (hown : s.vm.findClass RX12 = some m.cls) (hK : va_K E.1 vwCl (xTY E) s) (hP : va_P E.1 vwCl ws H) (hD : va_D A ws) (hS : va_S A s.heap H locs) (q0 : Nat) (he : ws[q0]? = some (a, o12 T j2 j3 j19 r4 r5 r6 r7 r20 r21 r22 r27 r28 r31 r32)) {v : Int32} (hdg : decode cc pc = .ok (.putfield 115, 3)) (kk : ∀ (H1 : Heap) (locs1 : List Loc), va_P E.1 vwCl (ws.set q0 (a, o12 (upd T 14 v) j2 j3 j19 r4 r5 r6 r7 r20 r21 r22 r27 r28 r31 r32)) H1 → va_D A (ws.set q0 (a, o12 (upd T 14 v) j2 j3 j19 r4 r5 r6 r7 r20 r21 r22 r27 r28 r31 r32)) → va_S A s.heap H1 locs1 → W p l e R s m args below meth c H1 locs1 ce sl Q (F0 m (pc + 3) ls rest)) : W p l e R s m args below meth c H locs ce sl Q (F0 m pc ls (.int v :: .ref a :: rest)) :=
  va_put (ty := .int) hx hb htg hwX12 tyX12 tyX12_ok nmX12 hown hK hP hD hS q0 he rfl 14 (by decide) (htg _ fl12_115) (fun _ h => h) rfl (by decide +kernel) rfl rfl (Nat.le_of_ble_eq_true rfl) hdg kk
theorem fl12_121 : Cond.fieldLink RX12 121 "SighChartModel" "word" "J" ∈ gw := gw_t (tb6 205 rfl) rfl
theorem G12_121 {T : Nat → Int32} {j2 : Int64} {j3 : Int64} {j19 : Int64} {r4 : Nat} {r5 : Nat} {r6 : Nat} {r7 : Nat} {r20 : Nat} {r21 : Nat} {r22 : Nat} {r27 : Nat} {r28 : Nat} {r31 : Nat} {r32 : Nat} (hx : p.tables.exec = Jvm.exec) (hb : c.code = cc) (htg : ∀ w ∈ gw, w.before args s = true) (hown : s.vm.findClass RX12 = some m.cls) (hK : va_K E.1 vwCl (xTY E) s) (hP : va_P E.1 vwCl ws H) (q0 : Nat) (he : ws[q0]? = some (a, o12 T j2 j3 j19 r4 r5 r6 r7 r20 r21 r22 r27 r28 r31 r32)) (hdg : decode cc pc = .ok (.getfield 121, 3)) (kk : W p l e R s m args below meth c H locs ce sl Q (F0 m (pc + 3) ls (.long j19 :: rest))) : W p l e R s m args below meth c H locs ce sl Q (F0 m pc ls (.ref a :: rest)) :=
  va_get hx hb htg hwX12 hown hK hP q0 he rfl 19 (by decide) (htg _ fl12_121) (fun _ h => h) rfl hdg kk
theorem P12_121 {T : Nat → Int32} {j2 : Int64} {j3 : Int64} {j19 : Int64} {r4 : Nat} {r5 : Nat} {r6 : Nat} {r7 : Nat} {r20 : Nat} {r21 : Nat} {r22 : Nat} {r27 : Nat} {r28 : Nat} {r31 : Nat} {r32 : Nat} (hx : p.tables.exec = Jvm.exec) (hb : c.code = cc) (htg : ∀ w ∈ gw, w.before args s = true) (hown : s.vm.findClass RX12 = some m.cls) (hK : va_K E.1 vwCl (xTY E) s) (hP : va_P E.1 vwCl ws H) (hD : va_D A ws) (hS : va_S A s.heap H locs) (q0 : Nat) (he : ws[q0]? = some (a, o12 T j2 j3 j19 r4 r5 r6 r7 r20 r21 r22 r27 r28 r31 r32)) {v : Int64} (hdg : decode cc pc = .ok (.putfield 121, 3)) (kk : ∀ (H1 : Heap) (locs1 : List Loc), va_P E.1 vwCl (ws.set q0 (a, o12 T j2 j3 v r4 r5 r6 r7 r20 r21 r22 r27 r28 r31 r32)) H1 → va_D A (ws.set q0 (a, o12 T j2 j3 v r4 r5 r6 r7 r20 r21 r22 r27 r28 r31 r32)) → va_S A s.heap H1 locs1 → W p l e R s m args below meth c H1 locs1 ce sl Q (F0 m (pc + 3) ls rest)) : W p l e R s m args below meth c H locs ce sl Q (F0 m pc ls (.long v :: .ref a :: rest)) :=
  va_put (ty := .long) hx hb htg hwX12 tyX12 tyX12_ok nmX12 hown hK hP hD hS q0 he rfl 19 (by decide) (htg _ fl12_121) (fun _ h => h) rfl (by decide +kernel) rfl rfl (Nat.le_of_ble_eq_true rfl) hdg kk
theorem fl12_128 : Cond.fieldLink RX12 128 "SighChartModel" "letters" "I" ∈ gw := gw_t (tb6 204 rfl) rfl
theorem G12_128 {T : Nat → Int32} {j2 : Int64} {j3 : Int64} {j19 : Int64} {r4 : Nat} {r5 : Nat} {r6 : Nat} {r7 : Nat} {r20 : Nat} {r21 : Nat} {r22 : Nat} {r27 : Nat} {r28 : Nat} {r31 : Nat} {r32 : Nat} (hx : p.tables.exec = Jvm.exec) (hb : c.code = cc) (htg : ∀ w ∈ gw, w.before args s = true) (hown : s.vm.findClass RX12 = some m.cls) (hK : va_K E.1 vwCl (xTY E) s) (hP : va_P E.1 vwCl ws H) (q0 : Nat) (he : ws[q0]? = some (a, o12 T j2 j3 j19 r4 r5 r6 r7 r20 r21 r22 r27 r28 r31 r32)) (hdg : decode cc pc = .ok (.getfield 128, 3)) (kk : W p l e R s m args below meth c H locs ce sl Q (F0 m (pc + 3) ls (.int (T 18) :: rest))) : W p l e R s m args below meth c H locs ce sl Q (F0 m pc ls (.ref a :: rest)) :=
  va_get hx hb htg hwX12 hown hK hP q0 he rfl 18 (by decide) (htg _ fl12_128) (fun _ h => h) rfl hdg kk
theorem P12_128 {T : Nat → Int32} {j2 : Int64} {j3 : Int64} {j19 : Int64} {r4 : Nat} {r5 : Nat} {r6 : Nat} {r7 : Nat} {r20 : Nat} {r21 : Nat} {r22 : Nat} {r27 : Nat} {r28 : Nat} {r31 : Nat} {r32 : Nat} (hx : p.tables.exec = Jvm.exec) (hb : c.code = cc) (htg : ∀ w ∈ gw, w.before args s = true) (hown : s.vm.findClass RX12 = some m.cls) (hK : va_K E.1 vwCl (xTY E) s) (hP : va_P E.1 vwCl ws H) (hD : va_D A ws) (hS : va_S A s.heap H locs) (q0 : Nat) (he : ws[q0]? = some (a, o12 T j2 j3 j19 r4 r5 r6 r7 r20 r21 r22 r27 r28 r31 r32)) {v : Int32} (hdg : decode cc pc = .ok (.putfield 128, 3)) (kk : ∀ (H1 : Heap) (locs1 : List Loc), va_P E.1 vwCl (ws.set q0 (a, o12 (upd T 18 v) j2 j3 j19 r4 r5 r6 r7 r20 r21 r22 r27 r28 r31 r32)) H1 → va_D A (ws.set q0 (a, o12 (upd T 18 v) j2 j3 j19 r4 r5 r6 r7 r20 r21 r22 r27 r28 r31 r32)) → va_S A s.heap H1 locs1 → W p l e R s m args below meth c H1 locs1 ce sl Q (F0 m (pc + 3) ls rest)) : W p l e R s m args below meth c H locs ce sl Q (F0 m pc ls (.int v :: .ref a :: rest)) :=
  va_put (ty := .int) hx hb htg hwX12 tyX12 tyX12_ok nmX12 hown hK hP hD hS q0 he rfl 18 (by decide) (htg _ fl12_128) (fun _ h => h) rfl (by decide +kernel) rfl rfl (Nat.le_of_ble_eq_true rfl) hdg kk
theorem fl12_134 : Cond.fieldLink RX12 134 "SighChartModel" "number" "I" ∈ gw := gw_t (tb6 203 rfl) rfl
theorem G12_134 {T : Nat → Int32} {j2 : Int64} {j3 : Int64} {j19 : Int64} {r4 : Nat} {r5 : Nat} {r6 : Nat} {r7 : Nat} {r20 : Nat} {r21 : Nat} {r22 : Nat} {r27 : Nat} {r28 : Nat} {r31 : Nat} {r32 : Nat} (hx : p.tables.exec = Jvm.exec) (hb : c.code = cc) (htg : ∀ w ∈ gw, w.before args s = true) (hown : s.vm.findClass RX12 = some m.cls) (hK : va_K E.1 vwCl (xTY E) s) (hP : va_P E.1 vwCl ws H) (q0 : Nat) (he : ws[q0]? = some (a, o12 T j2 j3 j19 r4 r5 r6 r7 r20 r21 r22 r27 r28 r31 r32)) (hdg : decode cc pc = .ok (.getfield 134, 3)) (kk : W p l e R s m args below meth c H locs ce sl Q (F0 m (pc + 3) ls (.int (T 17) :: rest))) : W p l e R s m args below meth c H locs ce sl Q (F0 m pc ls (.ref a :: rest)) :=
  va_get hx hb htg hwX12 hown hK hP q0 he rfl 17 (by decide) (htg _ fl12_134) (fun _ h => h) rfl hdg kk
theorem P12_134 {T : Nat → Int32} {j2 : Int64} {j3 : Int64} {j19 : Int64} {r4 : Nat} {r5 : Nat} {r6 : Nat} {r7 : Nat} {r20 : Nat} {r21 : Nat} {r22 : Nat} {r27 : Nat} {r28 : Nat} {r31 : Nat} {r32 : Nat} (hx : p.tables.exec = Jvm.exec) (hb : c.code = cc) (htg : ∀ w ∈ gw, w.before args s = true) (hown : s.vm.findClass RX12 = some m.cls) (hK : va_K E.1 vwCl (xTY E) s) (hP : va_P E.1 vwCl ws H) (hD : va_D A ws) (hS : va_S A s.heap H locs) (q0 : Nat) (he : ws[q0]? = some (a, o12 T j2 j3 j19 r4 r5 r6 r7 r20 r21 r22 r27 r28 r31 r32)) {v : Int32} (hdg : decode cc pc = .ok (.putfield 134, 3)) (kk : ∀ (H1 : Heap) (locs1 : List Loc), va_P E.1 vwCl (ws.set q0 (a, o12 (upd T 17 v) j2 j3 j19 r4 r5 r6 r7 r20 r21 r22 r27 r28 r31 r32)) H1 → va_D A (ws.set q0 (a, o12 (upd T 17 v) j2 j3 j19 r4 r5 r6 r7 r20 r21 r22 r27 r28 r31 r32)) → va_S A s.heap H1 locs1 → W p l e R s m args below meth c H1 locs1 ce sl Q (F0 m (pc + 3) ls rest)) : W p l e R s m args below meth c H locs ce sl Q (F0 m pc ls (.int v :: .ref a :: rest)) :=
  va_put (ty := .int) hx hb htg hwX12 tyX12 tyX12_ok nmX12 hown hK hP hD hS q0 he rfl 17 (by decide) (htg _ fl12_134) (fun _ h => h) rfl (by decide +kernel) rfl rfl (Nat.le_of_ble_eq_true rfl) hdg kk
theorem fl12_191 : Cond.fieldLink RX12 191 "SighChartModel" "bad" "I" ∈ gw := gw_t (tb6 198 rfl) rfl
theorem G12_191 {T : Nat → Int32} {j2 : Int64} {j3 : Int64} {j19 : Int64} {r4 : Nat} {r5 : Nat} {r6 : Nat} {r7 : Nat} {r20 : Nat} {r21 : Nat} {r22 : Nat} {r27 : Nat} {r28 : Nat} {r31 : Nat} {r32 : Nat} (hx : p.tables.exec = Jvm.exec) (hb : c.code = cc) (htg : ∀ w ∈ gw, w.before args s = true) (hown : s.vm.findClass RX12 = some m.cls) (hK : va_K E.1 vwCl (xTY E) s) (hP : va_P E.1 vwCl ws H) (q0 : Nat) (he : ws[q0]? = some (a, o12 T j2 j3 j19 r4 r5 r6 r7 r20 r21 r22 r27 r28 r31 r32)) (hdg : decode cc pc = .ok (.getfield 191, 3)) (kk : W p l e R s m args below meth c H locs ce sl Q (F0 m (pc + 3) ls (.int (T 12) :: rest))) : W p l e R s m args below meth c H locs ce sl Q (F0 m pc ls (.ref a :: rest)) :=
  va_get hx hb htg hwX12 hown hK hP q0 he rfl 12 (by decide) (htg _ fl12_191) (fun _ h => h) rfl hdg kk
theorem P12_191 {T : Nat → Int32} {j2 : Int64} {j3 : Int64} {j19 : Int64} {r4 : Nat} {r5 : Nat} {r6 : Nat} {r7 : Nat} {r20 : Nat} {r21 : Nat} {r22 : Nat} {r27 : Nat} {r28 : Nat} {r31 : Nat} {r32 : Nat} (hx : p.tables.exec = Jvm.exec) (hb : c.code = cc) (htg : ∀ w ∈ gw, w.before args s = true) (hown : s.vm.findClass RX12 = some m.cls) (hK : va_K E.1 vwCl (xTY E) s) (hP : va_P E.1 vwCl ws H) (hD : va_D A ws) (hS : va_S A s.heap H locs) (q0 : Nat) (he : ws[q0]? = some (a, o12 T j2 j3 j19 r4 r5 r6 r7 r20 r21 r22 r27 r28 r31 r32)) {v : Int32} (hdg : decode cc pc = .ok (.putfield 191, 3)) (kk : ∀ (H1 : Heap) (locs1 : List Loc), va_P E.1 vwCl (ws.set q0 (a, o12 (upd T 12 v) j2 j3 j19 r4 r5 r6 r7 r20 r21 r22 r27 r28 r31 r32)) H1 → va_D A (ws.set q0 (a, o12 (upd T 12 v) j2 j3 j19 r4 r5 r6 r7 r20 r21 r22 r27 r28 r31 r32)) → va_S A s.heap H1 locs1 → W p l e R s m args below meth c H1 locs1 ce sl Q (F0 m (pc + 3) ls rest)) : W p l e R s m args below meth c H locs ce sl Q (F0 m pc ls (.int v :: .ref a :: rest)) :=
  va_put (ty := .int) hx hb htg hwX12 tyX12 tyX12_ok nmX12 hown hK hP hD hS q0 he rfl 12 (by decide) (htg _ fl12_191) (fun _ h => h) rfl (by decide +kernel) rfl rfl (Nat.le_of_ble_eq_true rfl) hdg kk
theorem fl12_194 : Cond.fieldLink RX12 194 "SighChartModel" "badAt" "I" ∈ gw := gw_t (tb6 199 rfl) rfl
theorem G12_194 {T : Nat → Int32} {j2 : Int64} {j3 : Int64} {j19 : Int64} {r4 : Nat} {r5 : Nat} {r6 : Nat} {r7 : Nat} {r20 : Nat} {r21 : Nat} {r22 : Nat} {r27 : Nat} {r28 : Nat} {r31 : Nat} {r32 : Nat} (hx : p.tables.exec = Jvm.exec) (hb : c.code = cc) (htg : ∀ w ∈ gw, w.before args s = true) (hown : s.vm.findClass RX12 = some m.cls) (hK : va_K E.1 vwCl (xTY E) s) (hP : va_P E.1 vwCl ws H) (q0 : Nat) (he : ws[q0]? = some (a, o12 T j2 j3 j19 r4 r5 r6 r7 r20 r21 r22 r27 r28 r31 r32)) (hdg : decode cc pc = .ok (.getfield 194, 3)) (kk : W p l e R s m args below meth c H locs ce sl Q (F0 m (pc + 3) ls (.int (T 13) :: rest))) : W p l e R s m args below meth c H locs ce sl Q (F0 m pc ls (.ref a :: rest)) :=
  va_get hx hb htg hwX12 hown hK hP q0 he rfl 13 (by decide) (htg _ fl12_194) (fun _ h => h) rfl hdg kk
theorem P12_194 {T : Nat → Int32} {j2 : Int64} {j3 : Int64} {j19 : Int64} {r4 : Nat} {r5 : Nat} {r6 : Nat} {r7 : Nat} {r20 : Nat} {r21 : Nat} {r22 : Nat} {r27 : Nat} {r28 : Nat} {r31 : Nat} {r32 : Nat} (hx : p.tables.exec = Jvm.exec) (hb : c.code = cc) (htg : ∀ w ∈ gw, w.before args s = true) (hown : s.vm.findClass RX12 = some m.cls) (hK : va_K E.1 vwCl (xTY E) s) (hP : va_P E.1 vwCl ws H) (hD : va_D A ws) (hS : va_S A s.heap H locs) (q0 : Nat) (he : ws[q0]? = some (a, o12 T j2 j3 j19 r4 r5 r6 r7 r20 r21 r22 r27 r28 r31 r32)) {v : Int32} (hdg : decode cc pc = .ok (.putfield 194, 3)) (kk : ∀ (H1 : Heap) (locs1 : List Loc), va_P E.1 vwCl (ws.set q0 (a, o12 (upd T 13 v) j2 j3 j19 r4 r5 r6 r7 r20 r21 r22 r27 r28 r31 r32)) H1 → va_D A (ws.set q0 (a, o12 (upd T 13 v) j2 j3 j19 r4 r5 r6 r7 r20 r21 r22 r27 r28 r31 r32)) → va_S A s.heap H1 locs1 → W p l e R s m args below meth c H1 locs1 ce sl Q (F0 m (pc + 3) ls rest)) : W p l e R s m args below meth c H locs ce sl Q (F0 m pc ls (.int v :: .ref a :: rest)) :=
  va_put (ty := .int) hx hb htg hwX12 tyX12 tyX12_ok nmX12 hown hK hP hD hS q0 he rfl 13 (by decide) (htg _ fl12_194) (fun _ h => h) rfl (by decide +kernel) rfl rfl (Nat.le_of_ble_eq_true rfl) hdg kk
theorem fl12_214 : Cond.fieldLink RX12 214 "SighChartModel" "taped" "I" ∈ gw := gw_t (tb6 194 rfl) rfl
theorem G12_214 {T : Nat → Int32} {j2 : Int64} {j3 : Int64} {j19 : Int64} {r4 : Nat} {r5 : Nat} {r6 : Nat} {r7 : Nat} {r20 : Nat} {r21 : Nat} {r22 : Nat} {r27 : Nat} {r28 : Nat} {r31 : Nat} {r32 : Nat} (hx : p.tables.exec = Jvm.exec) (hb : c.code = cc) (htg : ∀ w ∈ gw, w.before args s = true) (hown : s.vm.findClass RX12 = some m.cls) (hK : va_K E.1 vwCl (xTY E) s) (hP : va_P E.1 vwCl ws H) (q0 : Nat) (he : ws[q0]? = some (a, o12 T j2 j3 j19 r4 r5 r6 r7 r20 r21 r22 r27 r28 r31 r32)) (hdg : decode cc pc = .ok (.getfield 214, 3)) (kk : W p l e R s m args below meth c H locs ce sl Q (F0 m (pc + 3) ls (.int (T 8) :: rest))) : W p l e R s m args below meth c H locs ce sl Q (F0 m pc ls (.ref a :: rest)) :=
  va_get hx hb htg hwX12 hown hK hP q0 he rfl 8 (by decide) (htg _ fl12_214) (fun _ h => h) rfl hdg kk
theorem P12_214 {T : Nat → Int32} {j2 : Int64} {j3 : Int64} {j19 : Int64} {r4 : Nat} {r5 : Nat} {r6 : Nat} {r7 : Nat} {r20 : Nat} {r21 : Nat} {r22 : Nat} {r27 : Nat} {r28 : Nat} {r31 : Nat} {r32 : Nat} (hx : p.tables.exec = Jvm.exec) (hb : c.code = cc) (htg : ∀ w ∈ gw, w.before args s = true) (hown : s.vm.findClass RX12 = some m.cls) (hK : va_K E.1 vwCl (xTY E) s) (hP : va_P E.1 vwCl ws H) (hD : va_D A ws) (hS : va_S A s.heap H locs) (q0 : Nat) (he : ws[q0]? = some (a, o12 T j2 j3 j19 r4 r5 r6 r7 r20 r21 r22 r27 r28 r31 r32)) {v : Int32} (hdg : decode cc pc = .ok (.putfield 214, 3)) (kk : ∀ (H1 : Heap) (locs1 : List Loc), va_P E.1 vwCl (ws.set q0 (a, o12 (upd T 8 v) j2 j3 j19 r4 r5 r6 r7 r20 r21 r22 r27 r28 r31 r32)) H1 → va_D A (ws.set q0 (a, o12 (upd T 8 v) j2 j3 j19 r4 r5 r6 r7 r20 r21 r22 r27 r28 r31 r32)) → va_S A s.heap H1 locs1 → W p l e R s m args below meth c H1 locs1 ce sl Q (F0 m (pc + 3) ls rest)) : W p l e R s m args below meth c H locs ce sl Q (F0 m pc ls (.int v :: .ref a :: rest)) :=
  va_put (ty := .int) hx hb htg hwX12 tyX12 tyX12_ok nmX12 hown hK hP hD hS q0 he rfl 8 (by decide) (htg _ fl12_214) (fun _ h => h) rfl (by decide +kernel) rfl rfl (Nat.le_of_ble_eq_true rfl) hdg kk
theorem fl12_232 : Cond.fieldLink RX12 232 "SighChartModel" "toldHarbour" "Z" ∈ gw := gw_t (tb6 211 rfl) rfl
theorem G12_232 {T : Nat → Int32} {j2 : Int64} {j3 : Int64} {j19 : Int64} {r4 : Nat} {r5 : Nat} {r6 : Nat} {r7 : Nat} {r20 : Nat} {r21 : Nat} {r22 : Nat} {r27 : Nat} {r28 : Nat} {r31 : Nat} {r32 : Nat} (hx : p.tables.exec = Jvm.exec) (hb : c.code = cc) (htg : ∀ w ∈ gw, w.before args s = true) (hown : s.vm.findClass RX12 = some m.cls) (hK : va_K E.1 vwCl (xTY E) s) (hP : va_P E.1 vwCl ws H) (q0 : Nat) (he : ws[q0]? = some (a, o12 T j2 j3 j19 r4 r5 r6 r7 r20 r21 r22 r27 r28 r31 r32)) (hdg : decode cc pc = .ok (.getfield 232, 3)) (kk : W p l e R s m args below meth c H locs ce sl Q (F0 m (pc + 3) ls (.int (T 25) :: rest))) : W p l e R s m args below meth c H locs ce sl Q (F0 m pc ls (.ref a :: rest)) :=
  va_get hx hb htg hwX12 hown hK hP q0 he rfl 25 (by decide) (htg _ fl12_232) (fun _ h => h) rfl hdg kk
theorem P12_232 {T : Nat → Int32} {j2 : Int64} {j3 : Int64} {j19 : Int64} {r4 : Nat} {r5 : Nat} {r6 : Nat} {r7 : Nat} {r20 : Nat} {r21 : Nat} {r22 : Nat} {r27 : Nat} {r28 : Nat} {r31 : Nat} {r32 : Nat} (hx : p.tables.exec = Jvm.exec) (hb : c.code = cc) (htg : ∀ w ∈ gw, w.before args s = true) (hown : s.vm.findClass RX12 = some m.cls) (hK : va_K E.1 vwCl (xTY E) s) (hP : va_P E.1 vwCl ws H) (hD : va_D A ws) (hS : va_S A s.heap H locs) (q0 : Nat) (he : ws[q0]? = some (a, o12 T j2 j3 j19 r4 r5 r6 r7 r20 r21 r22 r27 r28 r31 r32)) {v : Int32} (hz : bz v = true) (hdg : decode cc pc = .ok (.putfield 232, 3)) (kk : ∀ (H1 : Heap) (locs1 : List Loc), va_P E.1 vwCl (ws.set q0 (a, o12 (upd T 25 v) j2 j3 j19 r4 r5 r6 r7 r20 r21 r22 r27 r28 r31 r32)) H1 → va_D A (ws.set q0 (a, o12 (upd T 25 v) j2 j3 j19 r4 r5 r6 r7 r20 r21 r22 r27 r28 r31 r32)) → va_S A s.heap H1 locs1 → W p l e R s m args below meth c H1 locs1 ce sl Q (F0 m (pc + 3) ls rest)) : W p l e R s m args below meth c H locs ce sl Q (F0 m pc ls (.int v :: .ref a :: rest)) :=
  va_put (ty := .boolean) hx hb htg hwX12 tyX12 tyX12_ok nmX12 hown hK hP hD hS q0 he rfl 25 (by decide) (htg _ fl12_232) (fun _ h => h) rfl (by decide +kernel) (bz_n hz).1 (bz_n hz).2 (Nat.le_of_ble_eq_true rfl) hdg kk
theorem fl12_239 : Cond.fieldLink RX12 239 "SighChartModel" "toldOdds" "Z" ∈ gw := gw_t (tb6 210 rfl) rfl
theorem G12_239 {T : Nat → Int32} {j2 : Int64} {j3 : Int64} {j19 : Int64} {r4 : Nat} {r5 : Nat} {r6 : Nat} {r7 : Nat} {r20 : Nat} {r21 : Nat} {r22 : Nat} {r27 : Nat} {r28 : Nat} {r31 : Nat} {r32 : Nat} (hx : p.tables.exec = Jvm.exec) (hb : c.code = cc) (htg : ∀ w ∈ gw, w.before args s = true) (hown : s.vm.findClass RX12 = some m.cls) (hK : va_K E.1 vwCl (xTY E) s) (hP : va_P E.1 vwCl ws H) (q0 : Nat) (he : ws[q0]? = some (a, o12 T j2 j3 j19 r4 r5 r6 r7 r20 r21 r22 r27 r28 r31 r32)) (hdg : decode cc pc = .ok (.getfield 239, 3)) (kk : W p l e R s m args below meth c H locs ce sl Q (F0 m (pc + 3) ls (.int (T 24) :: rest))) : W p l e R s m args below meth c H locs ce sl Q (F0 m pc ls (.ref a :: rest)) :=
  va_get hx hb htg hwX12 hown hK hP q0 he rfl 24 (by decide) (htg _ fl12_239) (fun _ h => h) rfl hdg kk
theorem P12_239 {T : Nat → Int32} {j2 : Int64} {j3 : Int64} {j19 : Int64} {r4 : Nat} {r5 : Nat} {r6 : Nat} {r7 : Nat} {r20 : Nat} {r21 : Nat} {r22 : Nat} {r27 : Nat} {r28 : Nat} {r31 : Nat} {r32 : Nat} (hx : p.tables.exec = Jvm.exec) (hb : c.code = cc) (htg : ∀ w ∈ gw, w.before args s = true) (hown : s.vm.findClass RX12 = some m.cls) (hK : va_K E.1 vwCl (xTY E) s) (hP : va_P E.1 vwCl ws H) (hD : va_D A ws) (hS : va_S A s.heap H locs) (q0 : Nat) (he : ws[q0]? = some (a, o12 T j2 j3 j19 r4 r5 r6 r7 r20 r21 r22 r27 r28 r31 r32)) {v : Int32} (hz : bz v = true) (hdg : decode cc pc = .ok (.putfield 239, 3)) (kk : ∀ (H1 : Heap) (locs1 : List Loc), va_P E.1 vwCl (ws.set q0 (a, o12 (upd T 24 v) j2 j3 j19 r4 r5 r6 r7 r20 r21 r22 r27 r28 r31 r32)) H1 → va_D A (ws.set q0 (a, o12 (upd T 24 v) j2 j3 j19 r4 r5 r6 r7 r20 r21 r22 r27 r28 r31 r32)) → va_S A s.heap H1 locs1 → W p l e R s m args below meth c H1 locs1 ce sl Q (F0 m (pc + 3) ls rest)) : W p l e R s m args below meth c H locs ce sl Q (F0 m pc ls (.int v :: .ref a :: rest)) :=
  va_put (ty := .boolean) hx hb htg hwX12 tyX12 tyX12_ok nmX12 hown hK hP hD hS q0 he rfl 24 (by decide) (htg _ fl12_239) (fun _ h => h) rfl (by decide +kernel) (bz_n hz).1 (bz_n hz).2 (Nat.le_of_ble_eq_true rfl) hdg kk
theorem fl12_301 : Cond.fieldLink RX12 301 "SighChartModel" "newSteps" "I" ∈ gw := gw_t (tb6 212 rfl) rfl
theorem G12_301 {T : Nat → Int32} {j2 : Int64} {j3 : Int64} {j19 : Int64} {r4 : Nat} {r5 : Nat} {r6 : Nat} {r7 : Nat} {r20 : Nat} {r21 : Nat} {r22 : Nat} {r27 : Nat} {r28 : Nat} {r31 : Nat} {r32 : Nat} (hx : p.tables.exec = Jvm.exec) (hb : c.code = cc) (htg : ∀ w ∈ gw, w.before args s = true) (hown : s.vm.findClass RX12 = some m.cls) (hK : va_K E.1 vwCl (xTY E) s) (hP : va_P E.1 vwCl ws H) (q0 : Nat) (he : ws[q0]? = some (a, o12 T j2 j3 j19 r4 r5 r6 r7 r20 r21 r22 r27 r28 r31 r32)) (hdg : decode cc pc = .ok (.getfield 301, 3)) (kk : W p l e R s m args below meth c H locs ce sl Q (F0 m (pc + 3) ls (.int (T 26) :: rest))) : W p l e R s m args below meth c H locs ce sl Q (F0 m pc ls (.ref a :: rest)) :=
  va_get hx hb htg hwX12 hown hK hP q0 he rfl 26 (by decide) (htg _ fl12_301) (fun _ h => h) rfl hdg kk
theorem P12_301 {T : Nat → Int32} {j2 : Int64} {j3 : Int64} {j19 : Int64} {r4 : Nat} {r5 : Nat} {r6 : Nat} {r7 : Nat} {r20 : Nat} {r21 : Nat} {r22 : Nat} {r27 : Nat} {r28 : Nat} {r31 : Nat} {r32 : Nat} (hx : p.tables.exec = Jvm.exec) (hb : c.code = cc) (htg : ∀ w ∈ gw, w.before args s = true) (hown : s.vm.findClass RX12 = some m.cls) (hK : va_K E.1 vwCl (xTY E) s) (hP : va_P E.1 vwCl ws H) (hD : va_D A ws) (hS : va_S A s.heap H locs) (q0 : Nat) (he : ws[q0]? = some (a, o12 T j2 j3 j19 r4 r5 r6 r7 r20 r21 r22 r27 r28 r31 r32)) {v : Int32} (hdg : decode cc pc = .ok (.putfield 301, 3)) (kk : ∀ (H1 : Heap) (locs1 : List Loc), va_P E.1 vwCl (ws.set q0 (a, o12 (upd T 26 v) j2 j3 j19 r4 r5 r6 r7 r20 r21 r22 r27 r28 r31 r32)) H1 → va_D A (ws.set q0 (a, o12 (upd T 26 v) j2 j3 j19 r4 r5 r6 r7 r20 r21 r22 r27 r28 r31 r32)) → va_S A s.heap H1 locs1 → W p l e R s m args below meth c H1 locs1 ce sl Q (F0 m (pc + 3) ls rest)) : W p l e R s m args below meth c H locs ce sl Q (F0 m pc ls (.int v :: .ref a :: rest)) :=
  va_put (ty := .int) hx hb htg hwX12 tyX12 tyX12_ok nmX12 hown hK hP hD hS q0 he rfl 26 (by decide) (htg _ fl12_301) (fun _ h => h) rfl (by decide +kernel) rfl rfl (Nat.le_of_ble_eq_true rfl) hdg kk
theorem fl12_425 : Cond.fieldLink RX12 425 "SighChartModel" "planned" "I" ∈ gw := gw_t (tb6 215 rfl) rfl
theorem G12_425 {T : Nat → Int32} {j2 : Int64} {j3 : Int64} {j19 : Int64} {r4 : Nat} {r5 : Nat} {r6 : Nat} {r7 : Nat} {r20 : Nat} {r21 : Nat} {r22 : Nat} {r27 : Nat} {r28 : Nat} {r31 : Nat} {r32 : Nat} (hx : p.tables.exec = Jvm.exec) (hb : c.code = cc) (htg : ∀ w ∈ gw, w.before args s = true) (hown : s.vm.findClass RX12 = some m.cls) (hK : va_K E.1 vwCl (xTY E) s) (hP : va_P E.1 vwCl ws H) (q0 : Nat) (he : ws[q0]? = some (a, o12 T j2 j3 j19 r4 r5 r6 r7 r20 r21 r22 r27 r28 r31 r32)) (hdg : decode cc pc = .ok (.getfield 425, 3)) (kk : W p l e R s m args below meth c H locs ce sl Q (F0 m (pc + 3) ls (.int (T 29) :: rest))) : W p l e R s m args below meth c H locs ce sl Q (F0 m pc ls (.ref a :: rest)) :=
  va_get hx hb htg hwX12 hown hK hP q0 he rfl 29 (by decide) (htg _ fl12_425) (fun _ h => h) rfl hdg kk
theorem P12_425 {T : Nat → Int32} {j2 : Int64} {j3 : Int64} {j19 : Int64} {r4 : Nat} {r5 : Nat} {r6 : Nat} {r7 : Nat} {r20 : Nat} {r21 : Nat} {r22 : Nat} {r27 : Nat} {r28 : Nat} {r31 : Nat} {r32 : Nat} (hx : p.tables.exec = Jvm.exec) (hb : c.code = cc) (htg : ∀ w ∈ gw, w.before args s = true) (hown : s.vm.findClass RX12 = some m.cls) (hK : va_K E.1 vwCl (xTY E) s) (hP : va_P E.1 vwCl ws H) (hD : va_D A ws) (hS : va_S A s.heap H locs) (q0 : Nat) (he : ws[q0]? = some (a, o12 T j2 j3 j19 r4 r5 r6 r7 r20 r21 r22 r27 r28 r31 r32)) {v : Int32} (hdg : decode cc pc = .ok (.putfield 425, 3)) (kk : ∀ (H1 : Heap) (locs1 : List Loc), va_P E.1 vwCl (ws.set q0 (a, o12 (upd T 29 v) j2 j3 j19 r4 r5 r6 r7 r20 r21 r22 r27 r28 r31 r32)) H1 → va_D A (ws.set q0 (a, o12 (upd T 29 v) j2 j3 j19 r4 r5 r6 r7 r20 r21 r22 r27 r28 r31 r32)) → va_S A s.heap H1 locs1 → W p l e R s m args below meth c H1 locs1 ce sl Q (F0 m (pc + 3) ls rest)) : W p l e R s m args below meth c H locs ce sl Q (F0 m pc ls (.int v :: .ref a :: rest)) :=
  va_put (ty := .int) hx hb htg hwX12 tyX12 tyX12_ok nmX12 hown hK hP hD hS q0 he rfl 29 (by decide) (htg _ fl12_425) (fun _ h => h) rfl (by decide +kernel) rfl rfl (Nat.le_of_ble_eq_true rfl) hdg kk
theorem fl12_436 : Cond.fieldLink RX12 436 "SighChartModel" "firstMove" "I" ∈ gw := gw_t (tb6 216 rfl) rfl
theorem G12_436 {T : Nat → Int32} {j2 : Int64} {j3 : Int64} {j19 : Int64} {r4 : Nat} {r5 : Nat} {r6 : Nat} {r7 : Nat} {r20 : Nat} {r21 : Nat} {r22 : Nat} {r27 : Nat} {r28 : Nat} {r31 : Nat} {r32 : Nat} (hx : p.tables.exec = Jvm.exec) (hb : c.code = cc) (htg : ∀ w ∈ gw, w.before args s = true) (hown : s.vm.findClass RX12 = some m.cls) (hK : va_K E.1 vwCl (xTY E) s) (hP : va_P E.1 vwCl ws H) (q0 : Nat) (he : ws[q0]? = some (a, o12 T j2 j3 j19 r4 r5 r6 r7 r20 r21 r22 r27 r28 r31 r32)) (hdg : decode cc pc = .ok (.getfield 436, 3)) (kk : W p l e R s m args below meth c H locs ce sl Q (F0 m (pc + 3) ls (.int (T 30) :: rest))) : W p l e R s m args below meth c H locs ce sl Q (F0 m pc ls (.ref a :: rest)) :=
  va_get hx hb htg hwX12 hown hK hP q0 he rfl 30 (by decide) (htg _ fl12_436) (fun _ h => h) rfl hdg kk
theorem P12_436 {T : Nat → Int32} {j2 : Int64} {j3 : Int64} {j19 : Int64} {r4 : Nat} {r5 : Nat} {r6 : Nat} {r7 : Nat} {r20 : Nat} {r21 : Nat} {r22 : Nat} {r27 : Nat} {r28 : Nat} {r31 : Nat} {r32 : Nat} (hx : p.tables.exec = Jvm.exec) (hb : c.code = cc) (htg : ∀ w ∈ gw, w.before args s = true) (hown : s.vm.findClass RX12 = some m.cls) (hK : va_K E.1 vwCl (xTY E) s) (hP : va_P E.1 vwCl ws H) (hD : va_D A ws) (hS : va_S A s.heap H locs) (q0 : Nat) (he : ws[q0]? = some (a, o12 T j2 j3 j19 r4 r5 r6 r7 r20 r21 r22 r27 r28 r31 r32)) {v : Int32} (hdg : decode cc pc = .ok (.putfield 436, 3)) (kk : ∀ (H1 : Heap) (locs1 : List Loc), va_P E.1 vwCl (ws.set q0 (a, o12 (upd T 30 v) j2 j3 j19 r4 r5 r6 r7 r20 r21 r22 r27 r28 r31 r32)) H1 → va_D A (ws.set q0 (a, o12 (upd T 30 v) j2 j3 j19 r4 r5 r6 r7 r20 r21 r22 r27 r28 r31 r32)) → va_S A s.heap H1 locs1 → W p l e R s m args below meth c H1 locs1 ce sl Q (F0 m (pc + 3) ls rest)) : W p l e R s m args below meth c H locs ce sl Q (F0 m pc ls (.int v :: .ref a :: rest)) :=
  va_put (ty := .int) hx hb htg hwX12 tyX12 tyX12_ok nmX12 hown hK hP hD hS q0 he rfl 30 (by decide) (htg _ fl12_436) (fun _ h => h) rfl (by decide +kernel) rfl rfl (Nat.le_of_ble_eq_true rfl) hdg kk
theorem fl12_441 : Cond.fieldLink RX12 441 "SighChartModel" "random" "I" ∈ gw := gw_t (tb6 221 rfl) rfl
theorem G12_441 {T : Nat → Int32} {j2 : Int64} {j3 : Int64} {j19 : Int64} {r4 : Nat} {r5 : Nat} {r6 : Nat} {r7 : Nat} {r20 : Nat} {r21 : Nat} {r22 : Nat} {r27 : Nat} {r28 : Nat} {r31 : Nat} {r32 : Nat} (hx : p.tables.exec = Jvm.exec) (hb : c.code = cc) (htg : ∀ w ∈ gw, w.before args s = true) (hown : s.vm.findClass RX12 = some m.cls) (hK : va_K E.1 vwCl (xTY E) s) (hP : va_P E.1 vwCl ws H) (q0 : Nat) (he : ws[q0]? = some (a, o12 T j2 j3 j19 r4 r5 r6 r7 r20 r21 r22 r27 r28 r31 r32)) (hdg : decode cc pc = .ok (.getfield 441, 3)) (kk : W p l e R s m args below meth c H locs ce sl Q (F0 m (pc + 3) ls (.int (T 35) :: rest))) : W p l e R s m args below meth c H locs ce sl Q (F0 m pc ls (.ref a :: rest)) :=
  va_get hx hb htg hwX12 hown hK hP q0 he rfl 35 (by decide) (htg _ fl12_441) (fun _ h => h) rfl hdg kk
theorem P12_441 {T : Nat → Int32} {j2 : Int64} {j3 : Int64} {j19 : Int64} {r4 : Nat} {r5 : Nat} {r6 : Nat} {r7 : Nat} {r20 : Nat} {r21 : Nat} {r22 : Nat} {r27 : Nat} {r28 : Nat} {r31 : Nat} {r32 : Nat} (hx : p.tables.exec = Jvm.exec) (hb : c.code = cc) (htg : ∀ w ∈ gw, w.before args s = true) (hown : s.vm.findClass RX12 = some m.cls) (hK : va_K E.1 vwCl (xTY E) s) (hP : va_P E.1 vwCl ws H) (hD : va_D A ws) (hS : va_S A s.heap H locs) (q0 : Nat) (he : ws[q0]? = some (a, o12 T j2 j3 j19 r4 r5 r6 r7 r20 r21 r22 r27 r28 r31 r32)) {v : Int32} (hdg : decode cc pc = .ok (.putfield 441, 3)) (kk : ∀ (H1 : Heap) (locs1 : List Loc), va_P E.1 vwCl (ws.set q0 (a, o12 (upd T 35 v) j2 j3 j19 r4 r5 r6 r7 r20 r21 r22 r27 r28 r31 r32)) H1 → va_D A (ws.set q0 (a, o12 (upd T 35 v) j2 j3 j19 r4 r5 r6 r7 r20 r21 r22 r27 r28 r31 r32)) → va_S A s.heap H1 locs1 → W p l e R s m args below meth c H1 locs1 ce sl Q (F0 m (pc + 3) ls rest)) : W p l e R s m args below meth c H locs ce sl Q (F0 m pc ls (.int v :: .ref a :: rest)) :=
  va_put (ty := .int) hx hb htg hwX12 tyX12 tyX12_ok nmX12 hown hK hP hD hS q0 he rfl 35 (by decide) (htg _ fl12_441) (fun _ h => h) rfl (by decide +kernel) rfl rfl (Nat.le_of_ble_eq_true rfl) hdg kk
theorem fl12_445 : Cond.fieldLink RX12 445 "SighChartModel" "cameNow" "I" ∈ gw := gw_t (tb6 224 rfl) rfl
theorem G12_445 {T : Nat → Int32} {j2 : Int64} {j3 : Int64} {j19 : Int64} {r4 : Nat} {r5 : Nat} {r6 : Nat} {r7 : Nat} {r20 : Nat} {r21 : Nat} {r22 : Nat} {r27 : Nat} {r28 : Nat} {r31 : Nat} {r32 : Nat} (hx : p.tables.exec = Jvm.exec) (hb : c.code = cc) (htg : ∀ w ∈ gw, w.before args s = true) (hown : s.vm.findClass RX12 = some m.cls) (hK : va_K E.1 vwCl (xTY E) s) (hP : va_P E.1 vwCl ws H) (q0 : Nat) (he : ws[q0]? = some (a, o12 T j2 j3 j19 r4 r5 r6 r7 r20 r21 r22 r27 r28 r31 r32)) (hdg : decode cc pc = .ok (.getfield 445, 3)) (kk : W p l e R s m args below meth c H locs ce sl Q (F0 m (pc + 3) ls (.int (T 38) :: rest))) : W p l e R s m args below meth c H locs ce sl Q (F0 m pc ls (.ref a :: rest)) :=
  va_get hx hb htg hwX12 hown hK hP q0 he rfl 38 (by decide) (htg _ fl12_445) (fun _ h => h) rfl hdg kk
theorem P12_445 {T : Nat → Int32} {j2 : Int64} {j3 : Int64} {j19 : Int64} {r4 : Nat} {r5 : Nat} {r6 : Nat} {r7 : Nat} {r20 : Nat} {r21 : Nat} {r22 : Nat} {r27 : Nat} {r28 : Nat} {r31 : Nat} {r32 : Nat} (hx : p.tables.exec = Jvm.exec) (hb : c.code = cc) (htg : ∀ w ∈ gw, w.before args s = true) (hown : s.vm.findClass RX12 = some m.cls) (hK : va_K E.1 vwCl (xTY E) s) (hP : va_P E.1 vwCl ws H) (hD : va_D A ws) (hS : va_S A s.heap H locs) (q0 : Nat) (he : ws[q0]? = some (a, o12 T j2 j3 j19 r4 r5 r6 r7 r20 r21 r22 r27 r28 r31 r32)) {v : Int32} (hdg : decode cc pc = .ok (.putfield 445, 3)) (kk : ∀ (H1 : Heap) (locs1 : List Loc), va_P E.1 vwCl (ws.set q0 (a, o12 (upd T 38 v) j2 j3 j19 r4 r5 r6 r7 r20 r21 r22 r27 r28 r31 r32)) H1 → va_D A (ws.set q0 (a, o12 (upd T 38 v) j2 j3 j19 r4 r5 r6 r7 r20 r21 r22 r27 r28 r31 r32)) → va_S A s.heap H1 locs1 → W p l e R s m args below meth c H1 locs1 ce sl Q (F0 m (pc + 3) ls rest)) : W p l e R s m args below meth c H locs ce sl Q (F0 m pc ls (.int v :: .ref a :: rest)) :=
  va_put (ty := .int) hx hb htg hwX12 tyX12 tyX12_ok nmX12 hown hK hP hD hS q0 he rfl 38 (by decide) (htg _ fl12_445) (fun _ h => h) rfl (by decide +kernel) rfl rfl (Nat.le_of_ble_eq_true rfl) hdg kk
theorem fl12_448 : Cond.fieldLink RX12 448 "SighChartModel" "sailedNow" "I" ∈ gw := gw_t (tb6 225 rfl) rfl
theorem G12_448 {T : Nat → Int32} {j2 : Int64} {j3 : Int64} {j19 : Int64} {r4 : Nat} {r5 : Nat} {r6 : Nat} {r7 : Nat} {r20 : Nat} {r21 : Nat} {r22 : Nat} {r27 : Nat} {r28 : Nat} {r31 : Nat} {r32 : Nat} (hx : p.tables.exec = Jvm.exec) (hb : c.code = cc) (htg : ∀ w ∈ gw, w.before args s = true) (hown : s.vm.findClass RX12 = some m.cls) (hK : va_K E.1 vwCl (xTY E) s) (hP : va_P E.1 vwCl ws H) (q0 : Nat) (he : ws[q0]? = some (a, o12 T j2 j3 j19 r4 r5 r6 r7 r20 r21 r22 r27 r28 r31 r32)) (hdg : decode cc pc = .ok (.getfield 448, 3)) (kk : W p l e R s m args below meth c H locs ce sl Q (F0 m (pc + 3) ls (.int (T 39) :: rest))) : W p l e R s m args below meth c H locs ce sl Q (F0 m pc ls (.ref a :: rest)) :=
  va_get hx hb htg hwX12 hown hK hP q0 he rfl 39 (by decide) (htg _ fl12_448) (fun _ h => h) rfl hdg kk
theorem P12_448 {T : Nat → Int32} {j2 : Int64} {j3 : Int64} {j19 : Int64} {r4 : Nat} {r5 : Nat} {r6 : Nat} {r7 : Nat} {r20 : Nat} {r21 : Nat} {r22 : Nat} {r27 : Nat} {r28 : Nat} {r31 : Nat} {r32 : Nat} (hx : p.tables.exec = Jvm.exec) (hb : c.code = cc) (htg : ∀ w ∈ gw, w.before args s = true) (hown : s.vm.findClass RX12 = some m.cls) (hK : va_K E.1 vwCl (xTY E) s) (hP : va_P E.1 vwCl ws H) (hD : va_D A ws) (hS : va_S A s.heap H locs) (q0 : Nat) (he : ws[q0]? = some (a, o12 T j2 j3 j19 r4 r5 r6 r7 r20 r21 r22 r27 r28 r31 r32)) {v : Int32} (hdg : decode cc pc = .ok (.putfield 448, 3)) (kk : ∀ (H1 : Heap) (locs1 : List Loc), va_P E.1 vwCl (ws.set q0 (a, o12 (upd T 39 v) j2 j3 j19 r4 r5 r6 r7 r20 r21 r22 r27 r28 r31 r32)) H1 → va_D A (ws.set q0 (a, o12 (upd T 39 v) j2 j3 j19 r4 r5 r6 r7 r20 r21 r22 r27 r28 r31 r32)) → va_S A s.heap H1 locs1 → W p l e R s m args below meth c H1 locs1 ce sl Q (F0 m (pc + 3) ls rest)) : W p l e R s m args below meth c H locs ce sl Q (F0 m pc ls (.int v :: .ref a :: rest)) :=
  va_put (ty := .int) hx hb htg hwX12 tyX12 tyX12_ok nmX12 hown hK hP hD hS q0 he rfl 39 (by decide) (htg _ fl12_448) (fun _ h => h) rfl (by decide +kernel) rfl rfl (Nat.le_of_ble_eq_true rfl) hdg kk
theorem fl12_451 : Cond.fieldLink RX12 451 "SighChartModel" "wreckedNow" "I" ∈ gw := gw_t (tb6 226 rfl) rfl
theorem G12_451 {T : Nat → Int32} {j2 : Int64} {j3 : Int64} {j19 : Int64} {r4 : Nat} {r5 : Nat} {r6 : Nat} {r7 : Nat} {r20 : Nat} {r21 : Nat} {r22 : Nat} {r27 : Nat} {r28 : Nat} {r31 : Nat} {r32 : Nat} (hx : p.tables.exec = Jvm.exec) (hb : c.code = cc) (htg : ∀ w ∈ gw, w.before args s = true) (hown : s.vm.findClass RX12 = some m.cls) (hK : va_K E.1 vwCl (xTY E) s) (hP : va_P E.1 vwCl ws H) (q0 : Nat) (he : ws[q0]? = some (a, o12 T j2 j3 j19 r4 r5 r6 r7 r20 r21 r22 r27 r28 r31 r32)) (hdg : decode cc pc = .ok (.getfield 451, 3)) (kk : W p l e R s m args below meth c H locs ce sl Q (F0 m (pc + 3) ls (.int (T 40) :: rest))) : W p l e R s m args below meth c H locs ce sl Q (F0 m pc ls (.ref a :: rest)) :=
  va_get hx hb htg hwX12 hown hK hP q0 he rfl 40 (by decide) (htg _ fl12_451) (fun _ h => h) rfl hdg kk
theorem P12_451 {T : Nat → Int32} {j2 : Int64} {j3 : Int64} {j19 : Int64} {r4 : Nat} {r5 : Nat} {r6 : Nat} {r7 : Nat} {r20 : Nat} {r21 : Nat} {r22 : Nat} {r27 : Nat} {r28 : Nat} {r31 : Nat} {r32 : Nat} (hx : p.tables.exec = Jvm.exec) (hb : c.code = cc) (htg : ∀ w ∈ gw, w.before args s = true) (hown : s.vm.findClass RX12 = some m.cls) (hK : va_K E.1 vwCl (xTY E) s) (hP : va_P E.1 vwCl ws H) (hD : va_D A ws) (hS : va_S A s.heap H locs) (q0 : Nat) (he : ws[q0]? = some (a, o12 T j2 j3 j19 r4 r5 r6 r7 r20 r21 r22 r27 r28 r31 r32)) {v : Int32} (hdg : decode cc pc = .ok (.putfield 451, 3)) (kk : ∀ (H1 : Heap) (locs1 : List Loc), va_P E.1 vwCl (ws.set q0 (a, o12 (upd T 40 v) j2 j3 j19 r4 r5 r6 r7 r20 r21 r22 r27 r28 r31 r32)) H1 → va_D A (ws.set q0 (a, o12 (upd T 40 v) j2 j3 j19 r4 r5 r6 r7 r20 r21 r22 r27 r28 r31 r32)) → va_S A s.heap H1 locs1 → W p l e R s m args below meth c H1 locs1 ce sl Q (F0 m (pc + 3) ls rest)) : W p l e R s m args below meth c H locs ce sl Q (F0 m pc ls (.int v :: .ref a :: rest)) :=
  va_put (ty := .int) hx hb htg hwX12 tyX12 tyX12_ok nmX12 hown hK hP hD hS q0 he rfl 40 (by decide) (htg _ fl12_451) (fun _ h => h) rfl (by decide +kernel) rfl rfl (Nat.le_of_ble_eq_true rfl) hdg kk
theorem fl12_470 : Cond.fieldLink RX12 470 "SighChartModel" "done" "I" ∈ gw := gw_t (tb6 222 rfl) rfl
theorem G12_470 {T : Nat → Int32} {j2 : Int64} {j3 : Int64} {j19 : Int64} {r4 : Nat} {r5 : Nat} {r6 : Nat} {r7 : Nat} {r20 : Nat} {r21 : Nat} {r22 : Nat} {r27 : Nat} {r28 : Nat} {r31 : Nat} {r32 : Nat} (hx : p.tables.exec = Jvm.exec) (hb : c.code = cc) (htg : ∀ w ∈ gw, w.before args s = true) (hown : s.vm.findClass RX12 = some m.cls) (hK : va_K E.1 vwCl (xTY E) s) (hP : va_P E.1 vwCl ws H) (q0 : Nat) (he : ws[q0]? = some (a, o12 T j2 j3 j19 r4 r5 r6 r7 r20 r21 r22 r27 r28 r31 r32)) (hdg : decode cc pc = .ok (.getfield 470, 3)) (kk : W p l e R s m args below meth c H locs ce sl Q (F0 m (pc + 3) ls (.int (T 36) :: rest))) : W p l e R s m args below meth c H locs ce sl Q (F0 m pc ls (.ref a :: rest)) :=
  va_get hx hb htg hwX12 hown hK hP q0 he rfl 36 (by decide) (htg _ fl12_470) (fun _ h => h) rfl hdg kk
theorem P12_470 {T : Nat → Int32} {j2 : Int64} {j3 : Int64} {j19 : Int64} {r4 : Nat} {r5 : Nat} {r6 : Nat} {r7 : Nat} {r20 : Nat} {r21 : Nat} {r22 : Nat} {r27 : Nat} {r28 : Nat} {r31 : Nat} {r32 : Nat} (hx : p.tables.exec = Jvm.exec) (hb : c.code = cc) (htg : ∀ w ∈ gw, w.before args s = true) (hown : s.vm.findClass RX12 = some m.cls) (hK : va_K E.1 vwCl (xTY E) s) (hP : va_P E.1 vwCl ws H) (hD : va_D A ws) (hS : va_S A s.heap H locs) (q0 : Nat) (he : ws[q0]? = some (a, o12 T j2 j3 j19 r4 r5 r6 r7 r20 r21 r22 r27 r28 r31 r32)) {v : Int32} (hdg : decode cc pc = .ok (.putfield 470, 3)) (kk : ∀ (H1 : Heap) (locs1 : List Loc), va_P E.1 vwCl (ws.set q0 (a, o12 (upd T 36 v) j2 j3 j19 r4 r5 r6 r7 r20 r21 r22 r27 r28 r31 r32)) H1 → va_D A (ws.set q0 (a, o12 (upd T 36 v) j2 j3 j19 r4 r5 r6 r7 r20 r21 r22 r27 r28 r31 r32)) → va_S A s.heap H1 locs1 → W p l e R s m args below meth c H1 locs1 ce sl Q (F0 m (pc + 3) ls rest)) : W p l e R s m args below meth c H locs ce sl Q (F0 m pc ls (.int v :: .ref a :: rest)) :=
  va_put (ty := .int) hx hb htg hwX12 tyX12 tyX12_ok nmX12 hown hK hP hD hS q0 he rfl 36 (by decide) (htg _ fl12_470) (fun _ h => h) rfl (by decide +kernel) rfl rfl (Nat.le_of_ble_eq_true rfl) hdg kk
theorem fl12_473 : Cond.fieldLink RX12 473 "SighChartModel" "isOver" "Z" ∈ gw := gw_t (tb6 220 rfl) rfl
theorem G12_473 {T : Nat → Int32} {j2 : Int64} {j3 : Int64} {j19 : Int64} {r4 : Nat} {r5 : Nat} {r6 : Nat} {r7 : Nat} {r20 : Nat} {r21 : Nat} {r22 : Nat} {r27 : Nat} {r28 : Nat} {r31 : Nat} {r32 : Nat} (hx : p.tables.exec = Jvm.exec) (hb : c.code = cc) (htg : ∀ w ∈ gw, w.before args s = true) (hown : s.vm.findClass RX12 = some m.cls) (hK : va_K E.1 vwCl (xTY E) s) (hP : va_P E.1 vwCl ws H) (q0 : Nat) (he : ws[q0]? = some (a, o12 T j2 j3 j19 r4 r5 r6 r7 r20 r21 r22 r27 r28 r31 r32)) (hdg : decode cc pc = .ok (.getfield 473, 3)) (kk : W p l e R s m args below meth c H locs ce sl Q (F0 m (pc + 3) ls (.int (T 34) :: rest))) : W p l e R s m args below meth c H locs ce sl Q (F0 m pc ls (.ref a :: rest)) :=
  va_get hx hb htg hwX12 hown hK hP q0 he rfl 34 (by decide) (htg _ fl12_473) (fun _ h => h) rfl hdg kk
theorem P12_473 {T : Nat → Int32} {j2 : Int64} {j3 : Int64} {j19 : Int64} {r4 : Nat} {r5 : Nat} {r6 : Nat} {r7 : Nat} {r20 : Nat} {r21 : Nat} {r22 : Nat} {r27 : Nat} {r28 : Nat} {r31 : Nat} {r32 : Nat} (hx : p.tables.exec = Jvm.exec) (hb : c.code = cc) (htg : ∀ w ∈ gw, w.before args s = true) (hown : s.vm.findClass RX12 = some m.cls) (hK : va_K E.1 vwCl (xTY E) s) (hP : va_P E.1 vwCl ws H) (hD : va_D A ws) (hS : va_S A s.heap H locs) (q0 : Nat) (he : ws[q0]? = some (a, o12 T j2 j3 j19 r4 r5 r6 r7 r20 r21 r22 r27 r28 r31 r32)) {v : Int32} (hz : bz v = true) (hdg : decode cc pc = .ok (.putfield 473, 3)) (kk : ∀ (H1 : Heap) (locs1 : List Loc), va_P E.1 vwCl (ws.set q0 (a, o12 (upd T 34 v) j2 j3 j19 r4 r5 r6 r7 r20 r21 r22 r27 r28 r31 r32)) H1 → va_D A (ws.set q0 (a, o12 (upd T 34 v) j2 j3 j19 r4 r5 r6 r7 r20 r21 r22 r27 r28 r31 r32)) → va_S A s.heap H1 locs1 → W p l e R s m args below meth c H1 locs1 ce sl Q (F0 m (pc + 3) ls rest)) : W p l e R s m args below meth c H locs ce sl Q (F0 m pc ls (.int v :: .ref a :: rest)) :=
  va_put (ty := .boolean) hx hb htg hwX12 tyX12 tyX12_ok nmX12 hown hK hP hD hS q0 he rfl 34 (by decide) (htg _ fl12_473) (fun _ h => h) rfl (by decide +kernel) (bz_n hz).1 (bz_n hz).2 (Nat.le_of_ble_eq_true rfl) hdg kk
theorem fl12_476 : Cond.fieldLink RX12 476 "SighChartModel" "leftOver" "I" ∈ gw := gw_t (tb6 227 rfl) rfl
theorem G12_476 {T : Nat → Int32} {j2 : Int64} {j3 : Int64} {j19 : Int64} {r4 : Nat} {r5 : Nat} {r6 : Nat} {r7 : Nat} {r20 : Nat} {r21 : Nat} {r22 : Nat} {r27 : Nat} {r28 : Nat} {r31 : Nat} {r32 : Nat} (hx : p.tables.exec = Jvm.exec) (hb : c.code = cc) (htg : ∀ w ∈ gw, w.before args s = true) (hown : s.vm.findClass RX12 = some m.cls) (hK : va_K E.1 vwCl (xTY E) s) (hP : va_P E.1 vwCl ws H) (q0 : Nat) (he : ws[q0]? = some (a, o12 T j2 j3 j19 r4 r5 r6 r7 r20 r21 r22 r27 r28 r31 r32)) (hdg : decode cc pc = .ok (.getfield 476, 3)) (kk : W p l e R s m args below meth c H locs ce sl Q (F0 m (pc + 3) ls (.int (T 41) :: rest))) : W p l e R s m args below meth c H locs ce sl Q (F0 m pc ls (.ref a :: rest)) :=
  va_get hx hb htg hwX12 hown hK hP q0 he rfl 41 (by decide) (htg _ fl12_476) (fun _ h => h) rfl hdg kk
theorem P12_476 {T : Nat → Int32} {j2 : Int64} {j3 : Int64} {j19 : Int64} {r4 : Nat} {r5 : Nat} {r6 : Nat} {r7 : Nat} {r20 : Nat} {r21 : Nat} {r22 : Nat} {r27 : Nat} {r28 : Nat} {r31 : Nat} {r32 : Nat} (hx : p.tables.exec = Jvm.exec) (hb : c.code = cc) (htg : ∀ w ∈ gw, w.before args s = true) (hown : s.vm.findClass RX12 = some m.cls) (hK : va_K E.1 vwCl (xTY E) s) (hP : va_P E.1 vwCl ws H) (hD : va_D A ws) (hS : va_S A s.heap H locs) (q0 : Nat) (he : ws[q0]? = some (a, o12 T j2 j3 j19 r4 r5 r6 r7 r20 r21 r22 r27 r28 r31 r32)) {v : Int32} (hdg : decode cc pc = .ok (.putfield 476, 3)) (kk : ∀ (H1 : Heap) (locs1 : List Loc), va_P E.1 vwCl (ws.set q0 (a, o12 (upd T 41 v) j2 j3 j19 r4 r5 r6 r7 r20 r21 r22 r27 r28 r31 r32)) H1 → va_D A (ws.set q0 (a, o12 (upd T 41 v) j2 j3 j19 r4 r5 r6 r7 r20 r21 r22 r27 r28 r31 r32)) → va_S A s.heap H1 locs1 → W p l e R s m args below meth c H1 locs1 ce sl Q (F0 m (pc + 3) ls rest)) : W p l e R s m args below meth c H locs ce sl Q (F0 m pc ls (.int v :: .ref a :: rest)) :=
  va_put (ty := .int) hx hb htg hwX12 tyX12 tyX12_ok nmX12 hown hK hP hD hS q0 he rfl 41 (by decide) (htg _ fl12_476) (fun _ h => h) rfl (by decide +kernel) rfl rfl (Nat.le_of_ble_eq_true rfl) hdg kk
theorem fl12_479 : Cond.fieldLink RX12 479 "SighChartModel" "missed" "I" ∈ gw := gw_t (tb6 223 rfl) rfl
theorem G12_479 {T : Nat → Int32} {j2 : Int64} {j3 : Int64} {j19 : Int64} {r4 : Nat} {r5 : Nat} {r6 : Nat} {r7 : Nat} {r20 : Nat} {r21 : Nat} {r22 : Nat} {r27 : Nat} {r28 : Nat} {r31 : Nat} {r32 : Nat} (hx : p.tables.exec = Jvm.exec) (hb : c.code = cc) (htg : ∀ w ∈ gw, w.before args s = true) (hown : s.vm.findClass RX12 = some m.cls) (hK : va_K E.1 vwCl (xTY E) s) (hP : va_P E.1 vwCl ws H) (q0 : Nat) (he : ws[q0]? = some (a, o12 T j2 j3 j19 r4 r5 r6 r7 r20 r21 r22 r27 r28 r31 r32)) (hdg : decode cc pc = .ok (.getfield 479, 3)) (kk : W p l e R s m args below meth c H locs ce sl Q (F0 m (pc + 3) ls (.int (T 37) :: rest))) : W p l e R s m args below meth c H locs ce sl Q (F0 m pc ls (.ref a :: rest)) :=
  va_get hx hb htg hwX12 hown hK hP q0 he rfl 37 (by decide) (htg _ fl12_479) (fun _ h => h) rfl hdg kk
theorem P12_479 {T : Nat → Int32} {j2 : Int64} {j3 : Int64} {j19 : Int64} {r4 : Nat} {r5 : Nat} {r6 : Nat} {r7 : Nat} {r20 : Nat} {r21 : Nat} {r22 : Nat} {r27 : Nat} {r28 : Nat} {r31 : Nat} {r32 : Nat} (hx : p.tables.exec = Jvm.exec) (hb : c.code = cc) (htg : ∀ w ∈ gw, w.before args s = true) (hown : s.vm.findClass RX12 = some m.cls) (hK : va_K E.1 vwCl (xTY E) s) (hP : va_P E.1 vwCl ws H) (hD : va_D A ws) (hS : va_S A s.heap H locs) (q0 : Nat) (he : ws[q0]? = some (a, o12 T j2 j3 j19 r4 r5 r6 r7 r20 r21 r22 r27 r28 r31 r32)) {v : Int32} (hdg : decode cc pc = .ok (.putfield 479, 3)) (kk : ∀ (H1 : Heap) (locs1 : List Loc), va_P E.1 vwCl (ws.set q0 (a, o12 (upd T 37 v) j2 j3 j19 r4 r5 r6 r7 r20 r21 r22 r27 r28 r31 r32)) H1 → va_D A (ws.set q0 (a, o12 (upd T 37 v) j2 j3 j19 r4 r5 r6 r7 r20 r21 r22 r27 r28 r31 r32)) → va_S A s.heap H1 locs1 → W p l e R s m args below meth c H1 locs1 ce sl Q (F0 m (pc + 3) ls rest)) : W p l e R s m args below meth c H locs ce sl Q (F0 m pc ls (.int v :: .ref a :: rest)) :=
  va_put (ty := .int) hx hb htg hwX12 tyX12 tyX12_ok nmX12 hown hK hP hD hS q0 he rfl 37 (by decide) (htg _ fl12_479) (fun _ h => h) rfl (by decide +kernel) rfl rfl (Nat.le_of_ble_eq_true rfl) hdg kk
theorem fl12_499 : Cond.fieldLink RX12 499 "SighChartModel" "hasLived" "Z" ∈ gw := gw_t (tb6 219 rfl) rfl
theorem G12_499 {T : Nat → Int32} {j2 : Int64} {j3 : Int64} {j19 : Int64} {r4 : Nat} {r5 : Nat} {r6 : Nat} {r7 : Nat} {r20 : Nat} {r21 : Nat} {r22 : Nat} {r27 : Nat} {r28 : Nat} {r31 : Nat} {r32 : Nat} (hx : p.tables.exec = Jvm.exec) (hb : c.code = cc) (htg : ∀ w ∈ gw, w.before args s = true) (hown : s.vm.findClass RX12 = some m.cls) (hK : va_K E.1 vwCl (xTY E) s) (hP : va_P E.1 vwCl ws H) (q0 : Nat) (he : ws[q0]? = some (a, o12 T j2 j3 j19 r4 r5 r6 r7 r20 r21 r22 r27 r28 r31 r32)) (hdg : decode cc pc = .ok (.getfield 499, 3)) (kk : W p l e R s m args below meth c H locs ce sl Q (F0 m (pc + 3) ls (.int (T 33) :: rest))) : W p l e R s m args below meth c H locs ce sl Q (F0 m pc ls (.ref a :: rest)) :=
  va_get hx hb htg hwX12 hown hK hP q0 he rfl 33 (by decide) (htg _ fl12_499) (fun _ h => h) rfl hdg kk
theorem P12_499 {T : Nat → Int32} {j2 : Int64} {j3 : Int64} {j19 : Int64} {r4 : Nat} {r5 : Nat} {r6 : Nat} {r7 : Nat} {r20 : Nat} {r21 : Nat} {r22 : Nat} {r27 : Nat} {r28 : Nat} {r31 : Nat} {r32 : Nat} (hx : p.tables.exec = Jvm.exec) (hb : c.code = cc) (htg : ∀ w ∈ gw, w.before args s = true) (hown : s.vm.findClass RX12 = some m.cls) (hK : va_K E.1 vwCl (xTY E) s) (hP : va_P E.1 vwCl ws H) (hD : va_D A ws) (hS : va_S A s.heap H locs) (q0 : Nat) (he : ws[q0]? = some (a, o12 T j2 j3 j19 r4 r5 r6 r7 r20 r21 r22 r27 r28 r31 r32)) {v : Int32} (hz : bz v = true) (hdg : decode cc pc = .ok (.putfield 499, 3)) (kk : ∀ (H1 : Heap) (locs1 : List Loc), va_P E.1 vwCl (ws.set q0 (a, o12 (upd T 33 v) j2 j3 j19 r4 r5 r6 r7 r20 r21 r22 r27 r28 r31 r32)) H1 → va_D A (ws.set q0 (a, o12 (upd T 33 v) j2 j3 j19 r4 r5 r6 r7 r20 r21 r22 r27 r28 r31 r32)) → va_S A s.heap H1 locs1 → W p l e R s m args below meth c H1 locs1 ce sl Q (F0 m (pc + 3) ls rest)) : W p l e R s m args below meth c H locs ce sl Q (F0 m pc ls (.int v :: .ref a :: rest)) :=
  va_put (ty := .boolean) hx hb htg hwX12 tyX12 tyX12_ok nmX12 hown hK hP hD hS q0 he rfl 33 (by decide) (htg _ fl12_499) (fun _ h => h) rfl (by decide +kernel) (bz_n hz).1 (bz_n hz).2 (Nat.le_of_ble_eq_true rfl) hdg kk
theorem fl12_504 : Cond.fieldLink RX12 504 "SighChartModel" "markMany" "I" ∈ gw := gw_t (tb6 209 rfl) rfl
theorem G12_504 {T : Nat → Int32} {j2 : Int64} {j3 : Int64} {j19 : Int64} {r4 : Nat} {r5 : Nat} {r6 : Nat} {r7 : Nat} {r20 : Nat} {r21 : Nat} {r22 : Nat} {r27 : Nat} {r28 : Nat} {r31 : Nat} {r32 : Nat} (hx : p.tables.exec = Jvm.exec) (hb : c.code = cc) (htg : ∀ w ∈ gw, w.before args s = true) (hown : s.vm.findClass RX12 = some m.cls) (hK : va_K E.1 vwCl (xTY E) s) (hP : va_P E.1 vwCl ws H) (q0 : Nat) (he : ws[q0]? = some (a, o12 T j2 j3 j19 r4 r5 r6 r7 r20 r21 r22 r27 r28 r31 r32)) (hdg : decode cc pc = .ok (.getfield 504, 3)) (kk : W p l e R s m args below meth c H locs ce sl Q (F0 m (pc + 3) ls (.int (T 23) :: rest))) : W p l e R s m args below meth c H locs ce sl Q (F0 m pc ls (.ref a :: rest)) :=
  va_get hx hb htg hwX12 hown hK hP q0 he rfl 23 (by decide) (htg _ fl12_504) (fun _ h => h) rfl hdg kk
theorem P12_504 {T : Nat → Int32} {j2 : Int64} {j3 : Int64} {j19 : Int64} {r4 : Nat} {r5 : Nat} {r6 : Nat} {r7 : Nat} {r20 : Nat} {r21 : Nat} {r22 : Nat} {r27 : Nat} {r28 : Nat} {r31 : Nat} {r32 : Nat} (hx : p.tables.exec = Jvm.exec) (hb : c.code = cc) (htg : ∀ w ∈ gw, w.before args s = true) (hown : s.vm.findClass RX12 = some m.cls) (hK : va_K E.1 vwCl (xTY E) s) (hP : va_P E.1 vwCl ws H) (hD : va_D A ws) (hS : va_S A s.heap H locs) (q0 : Nat) (he : ws[q0]? = some (a, o12 T j2 j3 j19 r4 r5 r6 r7 r20 r21 r22 r27 r28 r31 r32)) {v : Int32} (hdg : decode cc pc = .ok (.putfield 504, 3)) (kk : ∀ (H1 : Heap) (locs1 : List Loc), va_P E.1 vwCl (ws.set q0 (a, o12 (upd T 23 v) j2 j3 j19 r4 r5 r6 r7 r20 r21 r22 r27 r28 r31 r32)) H1 → va_D A (ws.set q0 (a, o12 (upd T 23 v) j2 j3 j19 r4 r5 r6 r7 r20 r21 r22 r27 r28 r31 r32)) → va_S A s.heap H1 locs1 → W p l e R s m args below meth c H1 locs1 ce sl Q (F0 m (pc + 3) ls rest)) : W p l e R s m args below meth c H locs ce sl Q (F0 m pc ls (.int v :: .ref a :: rest)) :=
  va_put (ty := .int) hx hb htg hwX12 tyX12 tyX12_ok nmX12 hown hK hP hD hS q0 he rfl 23 (by decide) (htg _ fl12_504) (fun _ h => h) rfl (by decide +kernel) rfl rfl (Nat.le_of_ble_eq_true rfl) hdg kk
end FLD
theorem cwX0_init : Cond.code yX0_init cX0_init 1 none ∈ gw := gw_t (tb2 51 rfl) rfl
theorem cwX0_clear : Cond.code yX0_clear cX0_clear 1 none ∈ gw := gw_t (tb3 116 rfl) rfl
theorem cwX0_copyFrom : Cond.code yX0_copyFrom cX0_copyFrom 2 none ∈ gw := gw_t (tb6 170 rfl) rfl
theorem cwX0_addStep : Cond.code yX0_addStep cX0_addStep 5 (some .boolean) ∈ gw := gw_t (tb4 148 rfl) rfl
theorem cwX0_addEnd : Cond.code yX0_addEnd cX0_addEnd 2 none ∈ gw := gw_t (tb4 113 rfl) rfl
theorem cwX0_addLine : Cond.code yX0_addLine cX0_addLine 5 (some .boolean) ∈ gw := gw_t (tb4 122 rfl) rfl
theorem cwX0_hasLine : Cond.code yX0_hasLine cX0_hasLine 2 (some .boolean) ∈ gw := gw_t (tb4 117 rfl) rfl
theorem cwX0_deed : Cond.code yX0_deed cX0_deed 2 (some .int) ∈ gw := gw_t (tb6 71 rfl) rfl
theorem cwX0_first : Cond.code yX0_first cX0_first 2 (some .int) ∈ gw := gw_t (tb6 88 rfl) rfl
theorem cwX0_second : Cond.code yX0_second cX0_second 2 (some .int) ∈ gw := gw_t (tb6 97 rfl) rfl
theorem cwX0_third : Cond.code yX0_third cX0_third 2 (some .int) ∈ gw := gw_t (tb6 101 rfl) rfl
theorem cwX0_partner : Cond.code yX0_partner cX0_partner 2 (some .int) ∈ gw := gw_t (tb6 79 rfl) rfl
theorem cwX1_init : Cond.code yX1_init cX1_init 1 none ∈ gw := gw_t (tb1 226 rfl) rfl
theorem cwX1_weigh : Cond.code yX1_weigh cX1_weigh 7 none ∈ gw := gw_t (tb5 82 rfl) rfl
theorem cwX1_sum : Cond.code yX1_sum cX1_sum 4 (some .long) ∈ gw := gw_t (tb5 89 rfl) rfl
theorem cwX1_weightOf : Cond.code yX1_weightOf cX1_weightOf 2 (some .long) ∈ gw := gw_t (tb5 93 rfl) rfl
theorem cwX1_likeliestKind : Cond.code yX1_likeliestKind cX1_likeliestKind 3 (some .int) ∈ gw := gw_t (tb5 109 rfl) rfl
theorem cwX1_leastSureCell : Cond.code yX1_leastSureCell cX1_leastSureCell 13 (some .int) ∈ gw := gw_t (tb5 117 rfl) rfl
theorem cwX1_waysToSwear : Cond.code yX1_waysToSwear cX1_waysToSwear 8 (some .long) ∈ gw := gw_t (tb6 48 rfl) rfl
theorem cwX2_init : Cond.code yX2_init cX2_init 1 none ∈ gw := gw_t (tb1 239 rfl) rfl
theorem cwX2_weigh : Cond.code yX2_weigh cX2_weigh 4 none ∈ gw := gw_t (tb5 227 rfl) rfl
theorem cwX2_knownBy : Cond.code yX2_knownBy cX2_knownBy 2 (some .int) ∈ gw := gw_t (tb6 2 rfl) rfl
theorem cwX2_bestSet : Cond.code yX2_bestSet cX2_bestSet 6 (some .int) ∈ gw := gw_t (tb5 234 rfl) rfl
theorem cwX2_hoursOf : Cond.code yX2_hoursOf cX2_hoursOf 4 (some .int) ∈ gw := gw_t (tb5 237 rfl) rfl
theorem cwX2_play : Cond.code yX2_play cX2_play 5 none ∈ gw := gw_t (tb6 16 rfl) rfl
theorem cwX2_creditFrom : Cond.code yX2_creditFrom cX2_creditFrom 2 (some .int) ∈ gw := gw_t (tb6 25 rfl) rfl
theorem cwX2_firstBestMove : Cond.code yX2_firstBestMove cX2_firstBestMove 4 (some .int) ∈ gw := gw_t (tb6 39 rfl) rfl
theorem cwX2_bestCredit : Cond.code yX2_bestCredit cX2_bestCredit 5 (some .int) ∈ gw := gw_t (tb6 21 rfl) rfl
theorem cwX2_creditOfMove : Cond.code yX2_creditOfMove cX2_creditOfMove 4 (some .int) ∈ gw := gw_t (tb6 29 rfl) rfl
theorem cwX3_init : Cond.code yX3_init cX3_init 1 none ∈ gw := gw_t (tb2 45 rfl) rfl
theorem cwX3_clear : Cond.code yX3_clear cX3_clear 1 none ∈ gw := gw_t (tb3 112 rfl) rfl
theorem cwX3_copyFrom : Cond.code yX3_copyFrom cX3_copyFrom 2 none ∈ gw := gw_t (tb6 165 rfl) rfl
theorem cwX3_cellCount : Cond.code yX3_cellCount cX3_cellCount 1 (some .int) ∈ gw := gw_t (tb4 87 rfl) rfl
theorem cwX3_hasCell : Cond.code yX3_hasCell cX3_hasCell 2 (some .boolean) ∈ gw := gw_t (tb4 222 rfl) rfl
theorem cwX3_kindAt : Cond.code yX3_kindAt cX3_kindAt 2 (some .int) ∈ gw := gw_t (tb4 213 rfl) rfl
theorem cwX3_hasTraveller : Cond.code yX3_hasTraveller cX3_hasTraveller 2 (some .boolean) ∈ gw := gw_t (tb5 17 rfl) rfl
theorem cwX3_sets : Cond.code yX3_sets cX3_sets 1 (some .int) ∈ gw := gw_t (tb5 134 rfl) rfl
theorem cwX3_isHeard : Cond.code yX3_isHeard cX3_isHeard 2 (some .boolean) ∈ gw := gw_t (tb5 1 rfl) rfl
theorem cwX3_setHeard : Cond.code yX3_setHeard cX3_setHeard 3 (some .boolean) ∈ gw := gw_t (tb5 43 rfl) rfl
theorem cwX3_addTraveller : Cond.code yX3_addTraveller cX3_addTraveller 5 (some .boolean) ∈ gw := gw_t (tb4 46 rfl) rfl
theorem cwX3_travellerNamed : Cond.code yX3_travellerNamed cX3_travellerNamed 4 (some .int) ∈ gw := gw_t (tb4 38 rfl) rfl
theorem cwX3_addTelling : Cond.code yX3_addTelling cX3_addTelling 5 (some .boolean) ∈ gw := gw_t (tb4 66 rfl) rfl
theorem cwX3_tellingsOf : Cond.code yX3_tellingsOf cX3_tellingsOf 4 (some .int) ∈ gw := gw_t (tb4 54 rfl) rfl
theorem cwX3_tellingsBy : Cond.code yX3_tellingsBy cX3_tellingsBy 4 (some .int) ∈ gw := gw_t (tb5 22 rfl) rfl
theorem cwX3_falseBy : Cond.code yX3_falseBy cX3_falseBy 4 (some .int) ∈ gw := gw_t (tb5 26 rfl) rfl
theorem cwX3_sizeOf : Cond.code yX3_sizeOf cX3_sizeOf 4 (some .int) ∈ gw := gw_t (tb4 237 rfl) rfl
theorem cwX3_clashesWithout : Cond.code yX3_clashesWithout cX3_clashesWithout 6 (some .int) ∈ gw := gw_t (tb5 144 rfl) rfl
theorem cwX3_fewestLiars : Cond.code yX3_fewestLiars cX3_fewestLiars 4 (some .int) ∈ gw := gw_t (tb5 130 rfl) rfl
theorem cwX3_isIn : Cond.code yX3_isIn cX3_isIn 2 (some .boolean) ∈ gw := gw_t (tb4 195 rfl) rfl
theorem cwX4_init : Cond.code yX4_init cX4_init 1 none ∈ gw := gw_t (tb1 150 rfl) rfl
theorem cwX4_take : Cond.code yX4_take cX4_take 5 (some .boolean) ∈ gw := gw_t (tb3 108 rfl) rfl
theorem cwX4_takePart : Cond.code yX4_takePart cX4_takePart 3 (some .boolean) ∈ gw := gw_t (tb3 155 rfl) rfl
theorem cwX4_takeRow : Cond.code yX4_takeRow cX4_takeRow 6 (some .boolean) ∈ gw := gw_t (tb3 163 rfl) rfl
theorem cwX4_takeOdds : Cond.code yX4_takeOdds cX4_takeOdds 3 (some .boolean) ∈ gw := gw_t (tb4 10 rfl) rfl
theorem cwX4_takeHarbour : Cond.code yX4_takeHarbour cX4_takeHarbour 4 (some .boolean) ∈ gw := gw_t (tb4 22 rfl) rfl
theorem cwX4_takeTraveller : Cond.code yX4_takeTraveller cX4_takeTraveller 7 (some .boolean) ∈ gw := gw_t (tb4 26 rfl) rfl
theorem cwX4_takeTold : Cond.code yX4_takeTold cX4_takeTold 6 (some .boolean) ∈ gw := gw_t (tb4 50 rfl) rfl
theorem cwX4_takeFeeling : Cond.code yX4_takeFeeling cX4_takeFeeling 7 (some .boolean) ∈ gw := gw_t (tb4 58 rfl) rfl
theorem cwX5_init : Cond.code yX5_init cX5_init 1 none ∈ gw := gw_t (tb2 12 rfl) rfl
theorem cwX5_keepDeeds : Cond.code yX5_keepDeeds cX5_keepDeeds 1 none ∈ gw := gw_t (tb6 140 rfl) rfl
theorem cwX5_hasKept : Cond.code yX5_hasKept cX5_hasKept 1 (some .boolean) ∈ gw := gw_t (tb6 149 rfl) rfl
theorem cwX5_keptDeed : Cond.code yX5_keptDeed cX5_keptDeed 2 (some .int) ∈ gw := gw_t (tb6 153 rfl) rfl
theorem cwX5_pass : Cond.code yX5_pass cX5_pass 7 (some .int) ∈ gw := gw_t (tb6 64 rfl) rfl
theorem cwX5_behindEnd : Cond.code yX5_behindEnd cX5_behindEnd 5 (some .int) ∈ gw := gw_t (tb6 75 rfl) rfl
theorem cwX5_behindStep : Cond.code yX5_behindStep cX5_behindStep 4 (some .int) ∈ gw := gw_t (tb6 84 rfl) rfl
theorem cwX5_count : Cond.code yX5_count cX5_count 2 none ∈ gw := gw_t (tb6 93 rfl) rfl
theorem cwX5_countTelling : Cond.code yX5_countTelling cX5_countTelling 2 none ∈ gw := gw_t (tb6 106 rfl) rfl
theorem cwX5_sailTo : Cond.code yX5_sailTo cX5_sailTo 5 none ∈ gw := gw_t (tb6 110 rfl) rfl
theorem cwX5_anyTells : Cond.code yX5_anyTells cX5_anyTells 7 none ∈ gw := gw_t (tb6 119 rfl) rfl
theorem cwX5_holds : Cond.code yX5_holds cX5_holds 6 (some .boolean) ∈ gw := gw_t (tb6 130 rfl) rfl
theorem cwX5_draw : Cond.code yX5_draw cX5_draw 2 (some .int) ∈ gw := gw_t (tb6 124 rfl) rfl
theorem cwX6_init : Cond.code yX6_init cX6_init 1 none ∈ gw := gw_t (tb1 201 rfl) rfl
theorem cwX6_find : Cond.code yX6_find cX6_find 6 (some .boolean) ∈ gw := gw_t (tb5 166 rfl) rfl
theorem cwX6_lowerCosts : Cond.code yX6_lowerCosts cX6_lowerCosts 5 (some .boolean) ∈ gw := gw_t (tb5 175 rfl) rfl
theorem cwX6_follow : Cond.code yX6_follow cX6_follow 8 (some .boolean) ∈ gw := gw_t (tb5 183 rfl) rfl
theorem cwX6_neighbour : Cond.code yX6_neighbour cX6_neighbour 5 (some .int) ∈ gw := gw_t (tb5 179 rfl) rfl
theorem cwX6_cells : Cond.code yX6_cells cX6_cells 1 (some .int) ∈ gw := gw_t (tb5 196 rfl) rfl
theorem cwX6_cellAt : Cond.code yX6_cellAt cX6_cellAt 2 (some .int) ∈ gw := gw_t (tb5 204 rfl) rfl
theorem cwX6_risk : Cond.code yX6_risk cX6_risk 1 (some .int) ∈ gw := gw_t (tb5 187 rfl) rfl
theorem cwX6_sailedTo : Cond.code yX6_sailedTo cX6_sailedTo 3 (some .int) ∈ gw := gw_t (tb5 217 rfl) rfl
theorem cwX7_init : Cond.code yX7_init cX7_init 1 none ∈ gw := gw_t (tb1 191 rfl) rfl
theorem cwX7_take : Cond.code yX7_take cX7_take 5 none ∈ gw := gw_t (tb4 191 rfl) rfl
theorem cwX7_votesFor : Cond.code yX7_votesFor cX7_votesFor 4 (some .int) ∈ gw := gw_t (tb4 233 rfl) rfl
theorem cwX7_drawnAs : Cond.code yX7_drawnAs cX7_drawnAs 7 (some .int) ∈ gw := gw_t (tb4 205 rfl) rfl
theorem cwX7_riskOf : Cond.code yX7_riskOf cX7_riskOf 5 (some .int) ∈ gw := gw_t (tb4 229 rfl) rfl
theorem cwX7_knownCells : Cond.code yX7_knownCells cX7_knownCells 4 (some .int) ∈ gw := gw_t (tb4 200 rfl) rfl
theorem cwX7_rightCells : Cond.code yX7_rightCells cX7_rightCells 4 (some .int) ∈ gw := gw_t (tb4 209 rfl) rfl
theorem cwX8_init : Cond.code yX8_init cX8_init 4 none ∈ gw := gw_t (tb1 58 rfl) rfl
theorem cwX8_length : Cond.code yX8_length cX8_length 1 (some .int) ∈ gw := gw_t (tb3 100 rfl) rfl
theorem cwX8_hasRoom : Cond.code yX8_hasRoom cX8_hasRoom 1 (some .boolean) ∈ gw := gw_t (tb3 92 rfl) rfl
theorem cwX8_empty : Cond.code yX8_empty cX8_empty 1 none ∈ gw := gw_t (tb4 83 rfl) rfl
theorem cwX8_add : Cond.code yX8_add cX8_add 3 none ∈ gw := gw_t (tb3 96 rfl) rfl
theorem cwX8_begin : Cond.code yX8_begin cX8_begin 2 none ∈ gw := gw_t (tb3 120 rfl) rfl
theorem cwX8_blamedFor : Cond.code yX8_blamedFor cX8_blamedFor 1 (some .int) ∈ gw := gw_t (tb4 75 rfl) rfl
theorem cwX8_blamedAt : Cond.code yX8_blamedAt cX8_blamedAt 1 (some .int) ∈ gw := gw_t (tb4 79 rfl) rfl
theorem cwX8_blame : Cond.code yX8_blame cX8_blame 2 (some .boolean) ∈ gw := gw_t (tb3 167 rfl) rfl
theorem cwX8_atEnd : Cond.code yX8_atEnd cX8_atEnd 1 (some .boolean) ∈ gw := gw_t (tb3 151 rfl) rfl
theorem cwX8_isAnyWord : Cond.code yX8_isAnyWord cX8_isAnyWord 1 (some .boolean) ∈ gw := gw_t (tb3 172 rfl) rfl
theorem cwX8_isWord : Cond.code yX8_isWord cX8_isWord 2 (some .boolean) ∈ gw := gw_t (tb4 42 rfl) rfl
theorem cwX8_word : Cond.code yX8_word cX8_word 1 (some .int) ∈ gw := gw_t (tb3 159 rfl) rfl
theorem cwX8_letters : Cond.code yX8_letters cX8_letters 1 (some .int) ∈ gw := gw_t (tb3 176 rfl) rfl
theorem cwX8_letter : Cond.code yX8_letter cX8_letter 2 (some .int) ∈ gw := gw_t (tb3 181 rfl) rfl
theorem cwX8_isName : Cond.code yX8_isName cX8_isName 1 (some .boolean) ∈ gw := gw_t (tb4 30 rfl) rfl
theorem cwX8_nameCode : Cond.code yX8_nameCode cX8_nameCode 1 (some .long) ∈ gw := gw_t (tb4 34 rfl) rfl
theorem cwX8_passSign : Cond.code yX8_passSign cX8_passSign 2 (some .boolean) ∈ gw := gw_t (tb4 5 rfl) rfl
theorem cwX8_comparison : Cond.code yX8_comparison cX8_comparison 1 (some .int) ∈ gw := gw_t (tb4 167 rfl) rfl
theorem cwX8_isNumber : Cond.code yX8_isNumber cX8_isNumber 3 (some .boolean) ∈ gw := gw_t (tb4 14 rfl) rfl
theorem cwX8_number : Cond.code yX8_number cX8_number 1 (some .int) ∈ gw := gw_t (tb4 18 rfl) rfl
theorem cwX8_feeling : Cond.code yX8_feeling cX8_feeling 1 (some .int) ∈ gw := gw_t (tb4 62 rfl) rfl
theorem cwX8_advance : Cond.code yX8_advance cX8_advance 1 none ∈ gw := gw_t (tb3 130 rfl) rfl
theorem cwX8_readWord : Cond.code yX8_readWord cX8_readWord 2 none ∈ gw := gw_t (tb3 143 rfl) rfl
theorem cwX8_readNumber : Cond.code yX8_readNumber cX8_readNumber 2 none ∈ gw := gw_t (tb3 147 rfl) rfl
theorem cwX8_kindOf : Cond.code yX8_kindOf cX8_kindOf 1 (some .int) ∈ gw := gw_t (tb3 136 rfl) rfl
theorem cwX8_isLong : Cond.code yX8_isLong cX8_isLong 1 (some .boolean) ∈ gw := gw_t (tb3 139 rfl) rfl
theorem cwX8_isBlank : Cond.code yX8_isBlank cX8_isBlank 1 (some .boolean) ∈ gw := gw_t (tb3 133 rfl) rfl
theorem cwX9_init : Cond.code yX9_init cX9_init 1 none ∈ gw := gw_t (tb1 35 rfl) rfl
theorem cwX9_isTray : Cond.code yX9_isTray cX9_isTray 2 (some .boolean) ∈ gw := gw_t (tb3 11 rfl) rfl
theorem cwX9_isMissing : Cond.code yX9_isMissing cX9_isMissing 2 (some .boolean) ∈ gw := gw_t (tb3 43 rfl) rfl
theorem cwX9_sortOf : Cond.code yX9_sortOf cX9_sortOf 2 (some .int) ∈ gw := gw_t (tb3 76 rfl) rfl
theorem cwX9_hasPlaces : Cond.code yX9_hasPlaces cX9_hasPlaces 4 (some .boolean) ∈ gw := gw_t (tb3 47 rfl) rfl
theorem cwX9_whyNoPlace : Cond.code yX9_whyNoPlace cX9_whyNoPlace 3 (some .int) ∈ gw := gw_t (tb3 39 rfl) rfl
theorem cwX9_lay : Cond.code yX9_lay cX9_lay 4 none ∈ gw := gw_t (tb3 23 rfl) rfl
theorem cwX9_put : Cond.code yX9_put cX9_put 5 none ∈ gw := gw_t (tb3 51 rfl) rfl
theorem cwX9_get : Cond.code yX9_get cX9_get 3 (some .long) ∈ gw := gw_t (tb3 66 rfl) rfl
theorem cwX9_move : Cond.code yX9_move cX9_move 6 none ∈ gw := gw_t (tb3 81 rfl) rfl
theorem cwX9_cut : Cond.code yX9_cut cX9_cut 3 (some .long) ∈ gw := gw_t (tb3 54 rfl) rfl
theorem cwX10_init : Cond.code yX10_init cX10_init 1 none ∈ gw := gw_t (tb1 163 rfl) rfl
theorem cwX10_take : Cond.code yX10_take cX10_take 7 (some .boolean) ∈ gw := gw_t (tb4 100 rfl) rfl
theorem cwX10_takeEnd : Cond.code yX10_takeEnd cX10_takeEnd 3 (some .boolean) ∈ gw := gw_t (tb4 108 rfl) rfl
theorem cwX10_takeStep : Cond.code yX10_takeStep cX10_takeStep 6 (some .boolean) ∈ gw := gw_t (tb4 128 rfl) rfl
theorem cwX10_beginsStep : Cond.code yX10_beginsStep cX10_beginsStep 1 (some .boolean) ∈ gw := gw_t (tb4 132 rfl) rfl
theorem cwX10_takeRest : Cond.code yX10_takeRest cX10_takeRest 5 (some .boolean) ∈ gw := gw_t (tb4 175 rfl) rfl
theorem cwX10_takeTest : Cond.code yX10_takeTest cX10_takeTest 5 (some .boolean) ∈ gw := gw_t (tb4 137 rfl) rfl
theorem cwX10_takeName : Cond.code yX10_takeName cX10_takeName 3 (some .boolean) ∈ gw := gw_t (tb4 141 rfl) rfl
theorem cwX10_takeCell : Cond.code yX10_takeCell cX10_takeCell 4 (some .boolean) ∈ gw := gw_t (tb4 152 rfl) rfl
theorem cwX10_takeFeeling : Cond.code yX10_takeFeeling cX10_takeFeeling 2 (some .boolean) ∈ gw := gw_t (tb4 158 rfl) rfl
theorem cwX10_takeComparison : Cond.code yX10_takeComparison cX10_takeComparison 2 (some .boolean) ∈ gw := gw_t (tb4 163 rfl) rfl
theorem cwX10_takeNumber : Cond.code yX10_takeNumber cX10_takeNumber 4 (some .boolean) ∈ gw := gw_t (tb4 171 rfl) rfl
theorem cwX11_init : Cond.code yX11_init cX11_init 2 none ∈ gw := gw_t (tb1 27 rfl) rfl
theorem cwX11_status : Cond.code yX11_status cX11_status 1 (some .int) ∈ gw := gw_t (tb2 235 rfl) rfl
theorem cwX11_top : Cond.code yX11_top cX11_top 1 (some .long) ∈ gw := gw_t (tb2 239 rfl) rfl
theorem cwX11_bottom : Cond.code yX11_bottom cX11_bottom 1 (some .long) ∈ gw := gw_t (tb3 3 rfl) rfl
theorem cwX11_tray : Cond.code yX11_tray cX11_tray 4 (some .boolean) ∈ gw := gw_t (tb3 7 rfl) rfl
theorem cwX11_write : Cond.code yX11_write cX11_write 6 (some .boolean) ∈ gw := gw_t (tb3 35 rfl) rfl
theorem cwX11_read : Cond.code yX11_read cX11_read 4 (some .long) ∈ gw := gw_t (tb3 58 rfl) rfl
theorem cwX11_pour : Cond.code yX11_pour cX11_pour 6 (some .boolean) ∈ gw := gw_t (tb3 71 rfl) rfl
theorem cwX11_feed : Cond.code yX11_feed cX11_feed 6 (some .int) ∈ gw := gw_t (tb3 88 rfl) rfl
theorem cwX11_duchy : Cond.code yX11_duchy cX11_duchy 4 (some .int) ∈ gw := gw_t (tb3 104 rfl) rfl
theorem cwX11_years : Cond.code yX11_years cX11_years 4 (some .int) ∈ gw := gw_t (tb4 95 rfl) rfl
theorem cwX11_fault : Cond.code yX11_fault cX11_fault 2 (some .int) ∈ gw := gw_t (tb4 179 rfl) rfl
theorem cwX11_many : Cond.code yX11_many cX11_many 2 (some .int) ∈ gw := gw_t (tb4 183 rfl) rfl
theorem cwX11_cell : Cond.code yX11_cell cX11_cell 3 (some .int) ∈ gw := gw_t (tb4 218 rfl) rfl
theorem cwX11_votes : Cond.code yX11_votes cX11_votes 3 (some .int) ∈ gw := gw_t (tb5 7 rfl) rfl
theorem cwX11_traveller : Cond.code yX11_traveller cX11_traveller 3 (some .int) ∈ gw := gw_t (tb5 13 rfl) rfl
theorem cwX11_telling : Cond.code yX11_telling cX11_telling 3 (some .int) ∈ gw := gw_t (tb5 31 rfl) rfl
theorem cwX11_copyChart : Cond.code yX11_copyChart cX11_copyChart 4 (some .int) ∈ gw := gw_t (tb5 35 rfl) rfl
theorem cwX11_hear : Cond.code yX11_hear cX11_hear 2 (some .int) ∈ gw := gw_t (tb5 39 rfl) rfl
theorem cwX11_forget : Cond.code yX11_forget cX11_forget 2 (some .int) ∈ gw := gw_t (tb5 48 rfl) rfl
theorem cwX11_tell : Cond.code yX11_tell cX11_tell 5 (some .int) ∈ gw := gw_t (tb5 52 rfl) rfl
theorem cwX11_come : Cond.code yX11_come cX11_come 2 (some .int) ∈ gw := gw_t (tb5 57 rfl) rfl
theorem cwX11_change : Cond.code yX11_change cX11_change 4 (some .int) ∈ gw := gw_t (tb5 62 rfl) rfl
theorem cwX11_trust : Cond.code yX11_trust cX11_trust 4 (some .int) ∈ gw := gw_t (tb5 66 rfl) rfl
theorem cwX11_moor : Cond.code yX11_moor cX11_moor 3 (some .int) ∈ gw := gw_t (tb5 70 rfl) rfl
theorem cwX11_rule : Cond.code yX11_rule cX11_rule 2 (some .boolean) ∈ gw := gw_t (tb5 74 rfl) rfl
theorem cwX11_oddsThat : Cond.code yX11_oddsThat cX11_oddsThat 3 (some .boolean) ∈ gw := gw_t (tb5 78 rfl) rfl
theorem cwX11_likeliest : Cond.code yX11_likeliest cX11_likeliest 2 (some .int) ∈ gw := gw_t (tb5 105 rfl) rfl
theorem cwX11_ask : Cond.code yX11_ask cX11_ask 2 (some .int) ∈ gw := gw_t (tb5 113 rfl) rfl
theorem cwX11_liars : Cond.code yX11_liars cX11_liars 1 (some .int) ∈ gw := gw_t (tb5 126 rfl) rfl
theorem cwX11_liarSet : Cond.code yX11_liarSet cX11_liarSet 1 (some .int) ∈ gw := gw_t (tb5 149 rfl) rfl
theorem cwX11_clashes : Cond.code yX11_clashes cX11_clashes 1 (some .int) ∈ gw := gw_t (tb5 153 rfl) rfl
theorem cwX11_way : Cond.code yX11_way cX11_way 3 (some .int) ∈ gw := gw_t (tb5 158 rfl) rfl
theorem cwX11_wayLong : Cond.code yX11_wayLong cX11_wayLong 3 (some .int) ∈ gw := gw_t (tb5 192 rfl) rfl
theorem cwX11_wayAt : Cond.code yX11_wayAt cX11_wayAt 4 (some .int) ∈ gw := gw_t (tb5 200 rfl) rfl
theorem cwX11_comesIn : Cond.code yX11_comesIn cX11_comesIn 8 (some .boolean) ∈ gw := gw_t (tb5 208 rfl) rfl
theorem cwX11_sail : Cond.code yX11_sail cX11_sail 3 (some .int) ∈ gw := gw_t (tb5 213 rfl) rfl
theorem cwX11_plan : Cond.code yX11_plan cX11_plan 3 (some .int) ∈ gw := gw_t (tb5 223 rfl) rfl
theorem cwX11_planSet : Cond.code yX11_planSet cX11_planSet 2 (some .int) ∈ gw := gw_t (tb6 8 rfl) rfl
theorem cwX11_game : Cond.code yX11_game cX11_game 2 (some .int) ∈ gw := gw_t (tb6 12 rfl) rfl
theorem cwX11_moveOf : Cond.code yX11_moveOf cX11_moveOf 3 (some .int) ∈ gw := gw_t (tb6 35 rfl) rfl
theorem cwX11_swear : Cond.code yX11_swear cX11_swear 3 (some .boolean) ∈ gw := gw_t (tb6 44 rfl) rfl
theorem cwX11_share : Cond.code yX11_share cX11_share 2 (some .boolean) ∈ gw := gw_t (tb6 56 rfl) rfl
theorem cwX11_live : Cond.code yX11_live cX11_live 3 (some .int) ∈ gw := gw_t (tb6 60 rfl) rfl
theorem cwX11_lived : Cond.code yX11_lived cX11_lived 2 (some .int) ∈ gw := gw_t (tb6 145 rfl) rfl
theorem cwX11_mean : Cond.code yX11_mean cX11_mean 7 (some .boolean) ∈ gw := gw_t (tb6 157 rfl) rfl
theorem cwX11_mark : Cond.code yX11_mark cX11_mark 1 (some .int) ∈ gw := gw_t (tb6 161 rfl) rfl
theorem cwX11_back : Cond.code yX11_back cX11_back 2 (some .int) ∈ gw := gw_t (tb6 175 rfl) rfl
theorem cwX11_answer : Cond.code yX11_answer cX11_answer 2 (some .int) ∈ gw := gw_t (tb4 91 rfl) rfl
theorem cwX11_refused : Cond.code yX11_refused cX11_refused 2 (some .int) ∈ gw := gw_t (tb3 62 rfl) rfl
theorem cwX11_done : Cond.code yX11_done cX11_done 1 (some .boolean) ∈ gw := gw_t (tb3 31 rfl) rfl
theorem cwX11_denied : Cond.code yX11_denied cX11_denied 2 (some .boolean) ∈ gw := gw_t (tb3 19 rfl) rfl
theorem cwX11_toldFraction : Cond.code yX11_toldFraction cX11_toldFraction 7 (some .boolean) ∈ gw := gw_t (tb5 98 rfl) rfl
theorem cwX11_endReading : Cond.code yX11_endReading cX11_endReading 1 none ∈ gw := gw_t (tb4 71 rfl) rfl
theorem cwX11_knownNow : Cond.code yX11_knownNow cX11_knownNow 1 (some .int) ∈ gw := gw_t (tb4 187 rfl) rfl
theorem cwX11_whyNoWay : Cond.code yX11_whyNoWay cX11_whyNoWay 2 (some .int) ∈ gw := gw_t (tb5 162 rfl) rfl
theorem cwX11_within : Cond.code yX11_within cX11_within 3 (some .boolean) ∈ gw := gw_t (tb3 14 rfl) rfl
theorem cwX11_isKind : Cond.code yX11_isKind cX11_isKind 1 (some .boolean) ∈ gw := gw_t (tb4 1 rfl) rfl
theorem cwX11_power : Cond.code yX11_power cX11_power 5 (some .long) ∈ gw := gw_t (tb6 52 rfl) rfl
theorem cwX11_commonDivisor : Cond.code yX11_commonDivisor cX11_commonDivisor 11 (some .long) ∈ gw := gw_t (tb5 101 rfl) rfl
theorem cwX12_init : Cond.code yX12_init cX12_init 2 none ∈ gw := gw_t (tb6 180 rfl) rfl
theorem cwX12_status : Cond.code yX12_status cX12_status 1 (some .int) ∈ gw := gw_t (tb7 76 rfl) rfl
theorem cwX12_top : Cond.code yX12_top cX12_top 1 (some .long) ∈ gw := gw_t (tb7 80 rfl) rfl
theorem cwX12_bottom : Cond.code yX12_bottom cX12_bottom 1 (some .long) ∈ gw := gw_t (tb7 84 rfl) rfl
theorem cwX12_refuse : Cond.code yX12_refuse cX12_refuse 2 (some .int) ∈ gw := gw_t (tb8 104 rfl) rfl
theorem cwX12_no : Cond.code yX12_no cX12_no 2 (some .boolean) ∈ gw := gw_t (tb7 92 rfl) rfl
theorem cwX12_isIn : Cond.code yX12_isIn cX12_isIn 6 (some .boolean) ∈ gw := gw_t (tb7 209 rfl) rfl
theorem cwX12_fraction : Cond.code yX12_fraction cX12_fraction 11 (some .boolean) ∈ gw := gw_t (tb9 5 rfl) rfl
theorem cwX12_cut : Cond.code yX12_cut cX12_cut 3 (some .long) ∈ gw := gw_t (tb7 107 rfl) rfl
theorem cwX12_tray : Cond.code yX12_tray cX12_tray 5 (some .boolean) ∈ gw := gw_t (tb7 88 rfl) rfl
theorem cwX12_trayed : Cond.code yX12_trayed cX12_trayed 2 (some .int) ∈ gw := gw_t (tb7 104 rfl) rfl
theorem cwX12_placed : Cond.code yX12_placed cX12_placed 4 (some .int) ∈ gw := gw_t (tb7 100 rfl) rfl
theorem cwX12_write : Cond.code yX12_write cX12_write 5 (some .boolean) ∈ gw := gw_t (tb7 96 rfl) rfl
theorem cwX12_read : Cond.code yX12_read cX12_read 3 (some .long) ∈ gw := gw_t (tb7 111 rfl) rfl
theorem cwX12_pour : Cond.code yX12_pour cX12_pour 9 (some .boolean) ∈ gw := gw_t (tb7 116 rfl) rfl
theorem cwX12_isTray : Cond.code yX12_isTray cX12_isTray 2 (some .boolean) ∈ gw := gw_t (tb8 174 rfl) rfl
theorem cwX12_has : Cond.code yX12_has cX12_has 2 (some .boolean) ∈ gw := gw_t (tb9 34 rfl) rfl
theorem cwX12_sizeOf : Cond.code yX12_sizeOf cX12_sizeOf 3 (some .int) ∈ gw := gw_t (tb9 31 rfl) rfl
theorem cwX12_look2 : Cond.code yX12_look2 cX12_look2 2 (some .int) ∈ gw := gw_t (tb7 144 rfl) rfl
theorem cwX12_isLetter : Cond.code yX12_isLetter cX12_isLetter 1 (some .boolean) ∈ gw := gw_t (tb7 147 rfl) rfl
theorem cwX12_isDigit : Cond.code yX12_isDigit cX12_isDigit 1 (some .boolean) ∈ gw := gw_t (tb7 152 rfl) rfl
theorem cwX12_isSignByte : Cond.code yX12_isSignByte cX12_isSignByte 2 (some .boolean) ∈ gw := gw_t (tb7 156 rfl) rfl
theorem cwX12_advance : Cond.code yX12_advance cX12_advance 2 none ∈ gw := gw_t (tb7 140 rfl) rfl
theorem cwX12_isSign : Cond.code yX12_isSign cX12_isSign 2 (some .boolean) ∈ gw := gw_t (tb8 67 rfl) rfl
theorem cwX12_spelled : Cond.code yX12_spelled cX12_spelled 8 (some .long) ∈ gw := gw_t (tb7 167 rfl) rfl
theorem cwX12_isWord : Cond.code yX12_isWord cX12_isWord 3 (some .boolean) ∈ gw := gw_t (tb7 171 rfl) rfl
theorem cwX12_isRow : Cond.code yX12_isRow cX12_isRow 1 (some .boolean) ∈ gw := gw_t (tb7 164 rfl) rfl
theorem cwX12_isOdds : Cond.code yX12_isOdds cX12_isOdds 1 (some .boolean) ∈ gw := gw_t (tb7 198 rfl) rfl
theorem cwX12_isHarbour : Cond.code yX12_isHarbour cX12_isHarbour 1 (some .boolean) ∈ gw := gw_t (tb7 213 rfl) rfl
theorem cwX12_isTraveller : Cond.code yX12_isTraveller cX12_isTraveller 2 (some .boolean) ∈ gw := gw_t (tb7 230 rfl) rfl
theorem cwX12_isLies : Cond.code yX12_isLies cX12_isLies 1 (some .boolean) ∈ gw := gw_t (tb8 6 rfl) rfl
theorem cwX12_isHeard : Cond.code yX12_isHeard cX12_isHeard 1 (some .boolean) ∈ gw := gw_t (tb8 30 rfl) rfl
theorem cwX12_isTold : Cond.code yX12_isTold cX12_isTold 1 (some .boolean) ∈ gw := gw_t (tb8 22 rfl) rfl
theorem cwX12_isMissed : Cond.code yX12_isMissed cX12_isMissed 1 (some .boolean) ∈ gw := gw_t (tb8 10 rfl) rfl
theorem cwX12_feelingWord : Cond.code yX12_feelingWord cX12_feelingWord 1 (some .int) ∈ gw := gw_t (tb8 14 rfl) rfl
theorem cwX12_stepWord : Cond.code yX12_stepWord cX12_stepWord 1 (some .int) ∈ gw := gw_t (tb8 18 rfl) rfl
theorem cwX12_testWord : Cond.code yX12_testWord cX12_testWord 1 (some .int) ∈ gw := gw_t (tb8 26 rfl) rfl
theorem cwX12_isEnd : Cond.code yX12_isEnd cX12_isEnd 1 (some .boolean) ∈ gw := gw_t (tb8 34 rfl) rfl
theorem cwX12_isKept : Cond.code yX12_isKept cX12_isKept 1 (some .boolean) ∈ gw := gw_t (tb8 2 rfl) rfl
theorem cwX12_isName : Cond.code yX12_isName cX12_isName 1 (some .boolean) ∈ gw := gw_t (tb7 238 rfl) rfl
theorem cwX12_fail : Cond.code yX12_fail cX12_fail 3 none ∈ gw := gw_t (tb7 179 rfl) rfl
theorem cwX12_amiss : Cond.code yX12_amiss cX12_amiss 1 none ∈ gw := gw_t (tb7 187 rfl) rfl
theorem cwX12_must : Cond.code yX12_must cX12_must 2 none ∈ gw := gw_t (tb7 183 rfl) rfl
theorem cwX12_count : Cond.code yX12_count cX12_count 4 (some .int) ∈ gw := gw_t (tb7 206 rfl) rfl
theorem cwX12_perhaps : Cond.code yX12_perhaps cX12_perhaps 2 (some .boolean) ∈ gw := gw_t (tb8 42 rfl) rfl
theorem cwX12_feed : Cond.code yX12_feed cX12_feed 6 (some .int) ∈ gw := gw_t (tb7 120 rfl) rfl
theorem cwX12_lay : Cond.code yX12_lay cX12_lay 3 none ∈ gw := gw_t (tb7 124 rfl) rfl
theorem cwX12_starts : Cond.code yX12_starts cX12_starts 3 (some .boolean) ∈ gw := gw_t (tb7 136 rfl) rfl
theorem cwX12_isWell : Cond.code yX12_isWell cX12_isWell 1 (some .boolean) ∈ gw := gw_t (tb8 71 rfl) rfl
theorem cwX12_fault : Cond.code yX12_fault cX12_fault 2 (some .int) ∈ gw := gw_t (tb7 128 rfl) rfl
theorem cwX12_readFeeling : Cond.code yX12_readFeeling cX12_readFeeling 2 (some .int) ∈ gw := gw_t (tb8 59 rfl) rfl
theorem cwX12_empties : Cond.code yX12_empties cX12_empties 3 none ∈ gw := gw_t (tb6 185 rfl) rfl
theorem cwX12_named : Cond.code yX12_named cX12_named 3 (some .int) ∈ gw := gw_t (tb8 38 rfl) rfl
theorem cwX12_readTraveller : Cond.code yX12_readTraveller cX12_readTraveller 3 (some .int) ∈ gw := gw_t (tb8 50 rfl) rfl
theorem cwX12_kindOf : Cond.code yX12_kindOf cX12_kindOf 1 (some .int) ∈ gw := gw_t (tb7 194 rfl) rfl
theorem cwX12_areCells : Cond.code yX12_areCells cX12_areCells 2 (some .boolean) ∈ gw := gw_t (tb7 191 rfl) rfl
theorem cwX12_readRow : Cond.code yX12_readRow cX12_readRow 2 none ∈ gw := gw_t (tb7 175 rfl) rfl
theorem cwX12_readOdds : Cond.code yX12_readOdds cX12_readOdds 2 none ∈ gw := gw_t (tb7 202 rfl) rfl
theorem cwX12_readCell : Cond.code yX12_readCell cX12_readCell 3 (some .int) ∈ gw := gw_t (tb7 226 rfl) rfl
theorem cwX12_cellHere : Cond.code yX12_cellHere cX12_cellHere 3 (some .int) ∈ gw := gw_t (tb7 222 rfl) rfl
theorem cwX12_readHarbour : Cond.code yX12_readHarbour cX12_readHarbour 2 none ∈ gw := gw_t (tb7 218 rfl) rfl
theorem cwX12_readNew : Cond.code yX12_readNew cX12_readNew 4 none ∈ gw := gw_t (tb7 234 rfl) rfl
theorem cwX12_tellingsOf : Cond.code yX12_tellingsOf cX12_tellingsOf 5 (some .int) ∈ gw := gw_t (tb8 55 rfl) rfl
theorem cwX12_tells : Cond.code yX12_tells cX12_tells 7 none ∈ gw := gw_t (tb8 63 rfl) rfl
theorem cwX12_readTelling : Cond.code yX12_readTelling cX12_readTelling 5 none ∈ gw := gw_t (tb8 46 rfl) rfl
theorem cwX12_readPart : Cond.code yX12_readPart cX12_readPart 1 none ∈ gw := gw_t (tb7 160 rfl) rfl
theorem cwX12_duchy : Cond.code yX12_duchy cX12_duchy 2 (some .int) ∈ gw := gw_t (tb7 132 rfl) rfl
theorem cwX12_readTest : Cond.code yX12_readTest cX12_readTest 3 none ∈ gw := gw_t (tb8 95 rfl) rfl
theorem cwX12_readRest : Cond.code yX12_readRest cX12_readRest 3 none ∈ gw := gw_t (tb8 91 rfl) rfl
theorem cwX12_readStep : Cond.code yX12_readStep cX12_readStep 5 none ∈ gw := gw_t (tb8 87 rfl) rfl
theorem cwX12_years : Cond.code yX12_years cX12_years 3 (some .int) ∈ gw := gw_t (tb8 83 rfl) rfl
theorem cwX12_cells : Cond.code yX12_cells cX12_cells 1 (some .int) ∈ gw := gw_t (tb8 79 rfl) rfl
theorem cwX12_isCell : Cond.code yX12_isCell cX12_isCell 2 (some .boolean) ∈ gw := gw_t (tb8 132 rfl) rfl
theorem cwX12_isTravellerAt : Cond.code yX12_isTravellerAt cX12_isTravellerAt 2 (some .boolean) ∈ gw := gw_t (tb8 158 rfl) rfl
theorem cwX12_isKind : Cond.code yX12_isKind cX12_isKind 2 (some .boolean) ∈ gw := gw_t (tb8 149 rfl) rfl
theorem cwX12_heardOnes : Cond.code yX12_heardOnes cX12_heardOnes 3 (some .int) ∈ gw := gw_t (tb8 108 rfl) rfl
theorem cwX12_votesOf : Cond.code yX12_votesOf cX12_votesOf 5 (some .int) ∈ gw := gw_t (tb8 120 rfl) rfl
theorem cwX12_drawn : Cond.code yX12_drawn cX12_drawn 6 (some .int) ∈ gw := gw_t (tb8 116 rfl) rfl
theorem cwX12_riskOf : Cond.code yX12_riskOf cX12_riskOf 5 (some .int) ∈ gw := gw_t (tb8 137 rfl) rfl
theorem cwX12_sizeAt : Cond.code yX12_sizeAt cX12_sizeAt 4 (some .int) ∈ gw := gw_t (tb8 141 rfl) rfl
theorem cwX12_whites : Cond.code yX12_whites cX12_whites 3 (some .int) ∈ gw := gw_t (tb8 112 rfl) rfl
theorem cwX12_knowns : Cond.code yX12_knowns cX12_knowns 1 (some .int) ∈ gw := gw_t (tb8 191 rfl) rfl
theorem cwX12_rights : Cond.code yX12_rights cX12_rights 3 (some .int) ∈ gw := gw_t (tb8 124 rfl) rfl
theorem cwX12_many : Cond.code yX12_many cX12_many 2 (some .int) ∈ gw := gw_t (tb8 99 rfl) rfl
theorem cwX12_cell : Cond.code yX12_cell cX12_cell 3 (some .int) ∈ gw := gw_t (tb8 128 rfl) rfl
theorem cwX12_votes : Cond.code yX12_votes cX12_votes 3 (some .int) ∈ gw := gw_t (tb8 145 rfl) rfl
theorem cwX12_told : Cond.code yX12_told cX12_told 5 (some .int) ∈ gw := gw_t (tb8 162 rfl) rfl
theorem cwX12_traveller : Cond.code yX12_traveller cX12_traveller 3 (some .int) ∈ gw := gw_t (tb8 154 rfl) rfl
theorem cwX12_telling : Cond.code yX12_telling cX12_telling 3 (some .int) ∈ gw := gw_t (tb8 166 rfl) rfl
theorem cwX12_copyChart : Cond.code yX12_copyChart cX12_copyChart 3 (some .int) ∈ gw := gw_t (tb8 170 rfl) rfl
theorem cwX12_hears : Cond.code yX12_hears cX12_hears 3 (some .boolean) ∈ gw := gw_t (tb8 187 rfl) rfl
theorem cwX12_hearing : Cond.code yX12_hearing cX12_hearing 3 (some .int) ∈ gw := gw_t (tb8 183 rfl) rfl
theorem cwX12_hear : Cond.code yX12_hear cX12_hear 2 (some .int) ∈ gw := gw_t (tb8 179 rfl) rfl
theorem cwX12_forget : Cond.code yX12_forget cX12_forget 2 (some .int) ∈ gw := gw_t (tb8 195 rfl) rfl
theorem cwX12_canTell : Cond.code yX12_canTell cX12_canTell 2 (some .boolean) ∈ gw := gw_t (tb8 204 rfl) rfl
theorem cwX12_tell : Cond.code yX12_tell cX12_tell 5 (some .int) ∈ gw := gw_t (tb8 199 rfl) rfl
theorem cwX12_come : Cond.code yX12_come cX12_come 3 (some .int) ∈ gw := gw_t (tb8 208 rfl) rfl
theorem cwX12_becomes : Cond.code yX12_becomes cX12_becomes 4 (some .int) ∈ gw := gw_t (tb8 217 rfl) rfl
theorem cwX12_change : Cond.code yX12_change cX12_change 3 (some .int) ∈ gw := gw_t (tb8 213 rfl) rfl
theorem cwX12_trust : Cond.code yX12_trust cX12_trust 3 (some .int) ∈ gw := gw_t (tb8 221 rfl) rfl
theorem cwX12_moor : Cond.code yX12_moor cX12_moor 2 (some .int) ∈ gw := gw_t (tb8 225 rfl) rfl
theorem cwX12_rule : Cond.code yX12_rule cX12_rule 2 (some .boolean) ∈ gw := gw_t (tb8 229 rfl) rfl
theorem cwX12_likely : Cond.code yX12_likely cX12_likely 7 (some .long) ∈ gw := gw_t (tb9 1 rfl) rfl
theorem cwX12_likelyAll : Cond.code yX12_likelyAll cX12_likelyAll 5 (some .long) ∈ gw := gw_t (tb8 237 rfl) rfl
theorem cwX12_likeliestOf : Cond.code yX12_likeliestOf cX12_likeliestOf 4 (some .int) ∈ gw := gw_t (tb9 16 rfl) rfl
theorem cwX12_oddsThat : Cond.code yX12_oddsThat cX12_oddsThat 5 (some .boolean) ∈ gw := gw_t (tb8 233 rfl) rfl
theorem cwX12_likeliest : Cond.code yX12_likeliest cX12_likeliest 2 (some .int) ∈ gw := gw_t (tb9 12 rfl) rfl
theorem cwX12_ask : Cond.code yX12_ask cX12_ask 11 (some .int) ∈ gw := gw_t (tb9 20 rfl) rfl
theorem cwX12_clashesBut : Cond.code yX12_clashesBut cX12_clashesBut 6 (some .int) ∈ gw := gw_t (tb9 38 rfl) rfl
theorem cwX12_liarsNow : Cond.code yX12_liarsNow cX12_liarsNow 3 (some .int) ∈ gw := gw_t (tb9 28 rfl) rfl
theorem cwX12_liars : Cond.code yX12_liars cX12_liars 1 (some .int) ∈ gw := gw_t (tb9 24 rfl) rfl
theorem cwX12_liarSet : Cond.code yX12_liarSet cX12_liarSet 1 (some .int) ∈ gw := gw_t (tb9 42 rfl) rfl
theorem cwX12_clashes : Cond.code yX12_clashes cX12_clashes 1 (some .int) ∈ gw := gw_t (tb9 46 rfl) rfl
theorem cwX12_areBeside : Cond.code yX12_areBeside cX12_areBeside 4 (some .boolean) ∈ gw := gw_t (tb9 63 rfl) rfl
theorem cwX12_costOf : Cond.code yX12_costOf cX12_costOf 2 (some .int) ∈ gw := gw_t (tb9 70 rfl) rfl
theorem cwX12_laysWay : Cond.code yX12_laysWay cX12_laysWay 6 none ∈ gw := gw_t (tb9 58 rfl) rfl
theorem cwX12_wayCost : Cond.code yX12_wayCost cX12_wayCost 2 (some .int) ∈ gw := gw_t (tb9 54 rfl) rfl
theorem cwX12_nextOn : Cond.code yX12_nextOn cX12_nextOn 3 (some .int) ∈ gw := gw_t (tb9 82 rfl) rfl
theorem cwX12_way : Cond.code yX12_way cX12_way 3 (some .int) ∈ gw := gw_t (tb9 50 rfl) rfl
theorem cwX12_wayLong : Cond.code yX12_wayLong cX12_wayLong 3 (some .int) ∈ gw := gw_t (tb9 74 rfl) rfl
theorem cwX12_wayAt : Cond.code yX12_wayAt cX12_wayAt 6 (some .int) ∈ gw := gw_t (tb9 78 rfl) rfl
theorem cwX12_comesIn : Cond.code yX12_comesIn cX12_comesIn 9 (some .boolean) ∈ gw := gw_t (tb9 86 rfl) rfl
theorem cwX12_sails : Cond.code yX12_sails cX12_sails 5 (some .int) ∈ gw := gw_t (tb9 94 rfl) rfl
theorem cwX12_isWrecked : Cond.code yX12_isWrecked cX12_isWrecked 3 (some .boolean) ∈ gw := gw_t (tb9 165 rfl) rfl
theorem cwX12_sail : Cond.code yX12_sail cX12_sail 3 (some .int) ∈ gw := gw_t (tb9 90 rfl) rfl
theorem cwX12_whitesWith : Cond.code yX12_whitesWith cX12_whitesWith 5 (some .int) ∈ gw := gw_t (tb9 107 rfl) rfl
theorem cwX12_plans : Cond.code yX12_plans cX12_plans 6 (some .int) ∈ gw := gw_t (tb9 103 rfl) rfl
theorem cwX12_plan : Cond.code yX12_plan cX12_plan 2 (some .int) ∈ gw := gw_t (tb9 98 rfl) rfl
theorem cwX12_planSet : Cond.code yX12_planSet cX12_planSet 2 (some .int) ∈ gw := gw_t (tb9 111 rfl) rfl
theorem cwX12_plays : Cond.code yX12_plays cX12_plays 11 (some .int) ∈ gw := gw_t (tb9 119 rfl) rfl
theorem cwX12_game : Cond.code yX12_game cX12_game 2 (some .int) ∈ gw := gw_t (tb9 115 rfl) rfl
theorem cwX12_moveOf : Cond.code yX12_moveOf cX12_moveOf 2 (some .int) ∈ gw := gw_t (tb9 123 rfl) rfl
theorem cwX12_swear : Cond.code yX12_swear cX12_swear 8 (some .boolean) ∈ gw := gw_t (tb9 127 rfl) rfl
theorem cwX12_share : Cond.code yX12_share cX12_share 2 (some .boolean) ∈ gw := gw_t (tb9 132 rfl) rfl
theorem cwX12_draw : Cond.code yX12_draw cX12_draw 2 (some .int) ∈ gw := gw_t (tb9 173 rfl) rfl
theorem cwX12_isToldOf : Cond.code yX12_isToldOf cX12_isToldOf 4 (some .boolean) ∈ gw := gw_t (tb9 157 rfl) rfl
theorem cwX12_isSailed : Cond.code yX12_isSailed cX12_isSailed 3 (some .boolean) ∈ gw := gw_t (tb9 161 rfl) rfl
theorem cwX12_isAny : Cond.code yX12_isAny cX12_isAny 6 (some .boolean) ∈ gw := gw_t (tb9 169 rfl) rfl
theorem cwX12_does : Cond.code yX12_does cX12_does 4 (some .boolean) ∈ gw := gw_t (tb9 153 rfl) rfl
theorem cwX12_holds : Cond.code yX12_holds cX12_holds 5 (some .boolean) ∈ gw := gw_t (tb9 178 rfl) rfl
theorem cwX12_doOne : Cond.code yX12_doOne cX12_doOne 5 none ∈ gw := gw_t (tb9 149 rfl) rfl
theorem cwX12_doAll : Cond.code yX12_doAll cX12_doAll 4 none ∈ gw := gw_t (tb9 145 rfl) rfl
theorem cwX12_runsYears : Cond.code yX12_runsYears cX12_runsYears 2 none ∈ gw := gw_t (tb9 141 rfl) rfl
theorem cwX12_live : Cond.code yX12_live cX12_live 2 (some .int) ∈ gw := gw_t (tb9 136 rfl) rfl
theorem cwX12_lived : Cond.code yX12_lived cX12_lived 2 (some .int) ∈ gw := gw_t (tb9 182 rfl) rfl
theorem cwX12_mean : Cond.code yX12_mean cX12_mean 7 (some .boolean) ∈ gw := gw_t (tb9 186 rfl) rfl
theorem cwX12_copy : Cond.code yX12_copy cX12_copy 4 none ∈ gw := gw_t (tb8 75 rfl) rfl
theorem cwX12_mark : Cond.code yX12_mark cX12_mark 1 (some .int) ∈ gw := gw_t (tb9 191 rfl) rfl
theorem cwX12_back : Cond.code yX12_back cX12_back 1 (some .int) ∈ gw := gw_t (tb9 195 rfl) rfl
theorem cwJ11_isValidCodePoint_9a6ad : Cond.code yJ11_isValidCodePoint_9a6ad cJ11_isValidCodePoint_9a6ad 2 (some .boolean) ∈ gw := gw_t (tb3 230 rfl) rfl
theorem cwJ11_highSurrogate_5068e : Cond.code yJ11_highSurrogate_5068e cJ11_highSurrogate_5068e 1 (some .char) ∈ gw := gw_t (tb3 233 rfl) rfl
theorem cwJ11_lowSurrogate_5068e : Cond.code yJ11_lowSurrogate_5068e cJ11_lowSurrogate_5068e 1 (some .char) ∈ gw := gw_t (tb3 237 rfl) rfl
theorem cwJ6_compare_7cf53 : Cond.code yJ6_compare_7cf53 cJ6_compare_7cf53 2 (some .int) ∈ gw := gw_t (tb6 136 rfl) rfl
theorem cwJ6_bitCount_0f7a4 : Cond.code yJ6_bitCount_0f7a4 cJ6_bitCount_0f7a4 1 (some .int) ∈ gw := gw_t (tb5 137 rfl) rfl
theorem cwJ9_abs_0f7a4 : Cond.code yJ9_abs_0f7a4 cJ9_abs_0f7a4 1 (some .int) ∈ gw := gw_t (tb9 66 rfl) rfl
theorem cwJ9_abs_067f4 : Cond.code yJ9_abs_067f4 cJ9_abs_067f4 2 (some .long) ∈ gw := gw_t (tb9 8 rfl) rfl
theorem cwJ9_max_7cf53 : Cond.code yJ9_max_7cf53 cJ9_max_7cf53 2 (some .int) ∈ gw := gw_t (tb3 126 rfl) rfl
theorem cwJ9_min_7cf53 : Cond.code yJ9_min_7cf53 cJ9_min_7cf53 2 (some .int) ∈ gw := gw_t (tb3 123 rfl) rfl
theorem cwJ0_length_8abf5 : Cond.code yJ0_length_8abf5 cJ0_length_8abf5 1 (some .int) ∈ gw := gw_t (tb1 64 rfl) rfl
theorem cwJ0_charAt_5068e : Cond.code yJ0_charAt_5068e cJ0_charAt_5068e 2 (some .char) ∈ gw := gw_t (tb1 74 rfl) rfl
theorem cwJ0_indexOf_0f7a4 : Cond.code yJ0_indexOf_0f7a4 cJ0_indexOf_0f7a4 2 (some .int) ∈ gw := gw_t (tb3 187 rfl) rfl
theorem cwJ0_indexOf_7cf53 : Cond.code yJ0_indexOf_7cf53 cJ0_indexOf_7cf53 3 (some .int) ∈ gw := gw_t (tb3 191 rfl) rfl
theorem cwJ0_coder_7d493 : Cond.code yJ0_coder_7d493 cJ0_coder_7d493 1 (some .byte) ∈ gw := gw_t (tb1 68 rfl) rfl
theorem cwJ0_isLatin1_aae02 : Cond.code yJ0_isLatin1_aae02 cJ0_isLatin1_aae02 1 (some .boolean) ∈ gw := gw_t (tb1 78 rfl) rfl
theorem cwJ0_checkIndex_df160 : Cond.code yJ0_checkIndex_df160 cJ0_checkIndex_df160 2 none ∈ gw := gw_t (tb1 84 rfl) rfl
theorem cwJ0_checkBoundsBeginEnd_23922 : Cond.code yJ0_checkBoundsBeginEnd_23922 cJ0_checkBoundsBeginEnd_23922 3 none ∈ gw := gw_t (tb3 218 rfl) rfl
theorem cwJ1_charAt_3b067 : Cond.code yJ1_charAt_3b067 cJ1_charAt_3b067 2 (some .char) ∈ gw := gw_t (tb1 81 rfl) rfl
theorem cwJ1_canEncode_9a6ad : Cond.code yJ1_canEncode_9a6ad cJ1_canEncode_9a6ad 1 (some .boolean) ∈ gw := gw_t (tb3 198 rfl) rfl
theorem cwJ1_indexOf_4cfef : Cond.code yJ1_indexOf_4cfef cJ1_indexOf_4cfef 4 (some .int) ∈ gw := gw_t (tb3 195 rfl) rfl
theorem cwJ1_indexOfChar_4cfef : Cond.code yJ1_indexOfChar_4cfef cJ1_indexOfChar_4cfef 6 (some .int) ∈ gw := gw_t (tb3 203 rfl) rfl
theorem cwJ2_getChar_3b067 : Cond.code yJ2_getChar_3b067 cJ2_getChar_3b067 2 (some .char) ∈ gw := gw_t (tb1 102 rfl) rfl
theorem cwJ2_length_9d52b : Cond.code yJ2_length_9d52b cJ2_length_9d52b 1 (some .int) ∈ gw := gw_t (tb1 98 rfl) rfl
theorem cwJ2_indexOf_4cfef : Cond.code yJ2_indexOf_4cfef cJ2_indexOf_4cfef 4 (some .int) ∈ gw := gw_t (tb3 206 rfl) rfl
theorem cwJ2_indexOfChar_4cfef : Cond.code yJ2_indexOfChar_4cfef cJ2_indexOfChar_4cfef 4 (some .int) ∈ gw := gw_t (tb3 212 rfl) rfl
theorem cwJ2_indexOfCharUnsafe_4cfef : Cond.code yJ2_indexOfCharUnsafe_4cfef cJ2_indexOfCharUnsafe_4cfef 5 (some .int) ∈ gw := gw_t (tb3 224 rfl) rfl
theorem cwJ2_indexOfSupplementary_4cfef : Cond.code yJ2_indexOfSupplementary_4cfef cJ2_indexOfSupplementary_4cfef 7 (some .int) ∈ gw := gw_t (tb3 227 rfl) rfl
theorem cwJ2_charAt_3b067 : Cond.code yJ2_charAt_3b067 cJ2_charAt_3b067 2 (some .char) ∈ gw := gw_t (tb1 92 rfl) rfl
theorem cwJ2_checkIndex_2214a : Cond.code yJ2_checkIndex_2214a cJ2_checkIndex_2214a 2 none ∈ gw := gw_t (tb1 95 rfl) rfl
theorem cwJ2_checkBoundsBeginEnd_d044e : Cond.code yJ2_checkBoundsBeginEnd_d044e cJ2_checkBoundsBeginEnd_d044e 3 none ∈ gw := gw_t (tb3 215 rfl) rfl
theorem cwJ7_fill_d0a16 : Cond.code yJ7_fill_d0a16 cJ7_fill_d0a16 5 none ∈ gw := gw_t (tb3 27 rfl) rfl
theorem cwJ7_fill_53178 : Cond.code yJ7_fill_53178 cJ7_fill_53178 4 none ∈ gw := gw_t (tb1 41 rfl) rfl
theorem cwJ3_checkIndex_8e157 : Cond.code yJ3_checkIndex_8e157 cJ3_checkIndex_8e157 3 (some .int) ∈ gw := gw_t (tb1 89 rfl) rfl
theorem cwJ3_checkFromToIndex_8c36e : Cond.code yJ3_checkFromToIndex_8c36e cJ3_checkFromToIndex_8c36e 4 (some .int) ∈ gw := gw_t (tb3 221 rfl) rfl
theorem inL : Cond.initialized RL ∈ gw := gw_t (tb1 0 rfl) rfl
theorem inX11 : Cond.initialized RX11 ∈ gw := gw_t (tb1 1 rfl) rfl
theorem inX9 : Cond.initialized RX9 ∈ gw := gw_t (tb1 2 rfl) rfl
theorem inJ7 : Cond.initialized RJ7 ∈ gw := gw_t (tb1 3 rfl) rfl
theorem inX8 : Cond.initialized RX8 ∈ gw := gw_t (tb1 4 rfl) rfl
theorem inJ0 : Cond.initialized RJ0 ∈ gw := gw_t (tb1 5 rfl) rfl
theorem inJ1 : Cond.initialized RJ1 ∈ gw := gw_t (tb1 6 rfl) rfl
theorem inJ3 : Cond.initialized RJ3 ∈ gw := gw_t (tb1 7 rfl) rfl
theorem inJ2 : Cond.initialized RJ2 ∈ gw := gw_t (tb1 8 rfl) rfl
theorem inX4 : Cond.initialized RX4 ∈ gw := gw_t (tb1 9 rfl) rfl
theorem inX10 : Cond.initialized RX10 ∈ gw := gw_t (tb1 10 rfl) rfl
theorem inX7 : Cond.initialized RX7 ∈ gw := gw_t (tb1 11 rfl) rfl
theorem inX6 : Cond.initialized RX6 ∈ gw := gw_t (tb1 12 rfl) rfl
theorem inX1 : Cond.initialized RX1 ∈ gw := gw_t (tb1 13 rfl) rfl
theorem inX2 : Cond.initialized RX2 ∈ gw := gw_t (tb1 14 rfl) rfl
theorem inX5 : Cond.initialized RX5 ∈ gw := gw_t (tb1 15 rfl) rfl
theorem inX3 : Cond.initialized RX3 ∈ gw := gw_t (tb1 16 rfl) rfl
theorem inX0 : Cond.initialized RX0 ∈ gw := gw_t (tb1 17 rfl) rfl
theorem inX12 : Cond.initialized RX12 ∈ gw := gw_t (tb1 18 rfl) rfl
theorem inJ10 : Cond.initialized RJ10 ∈ gw := gw_t (tb1 19 rfl) rfl
theorem inJ9 : Cond.initialized RJ9 ∈ gw := gw_t (tb1 20 rfl) rfl
theorem inJ11 : Cond.initialized RJ11 ∈ gw := gw_t (tb1 21 rfl) rfl
theorem inJ6 : Cond.initialized RJ6 ∈ gw := gw_t (tb1 22 rfl) rfl
theorem imX11_init : Cond.instanceMethod yX11_init ∈ gw := gw_t (tb1 26 rfl) rfl
theorem imX9_init : Cond.instanceMethod yX9_init ∈ gw := gw_t (tb1 34 rfl) rfl
theorem stJ7_fill_53178 : Cond.static yJ7_fill_53178 ∈ gw := gw_t (tb1 40 rfl) rfl
theorem imX8_init : Cond.instanceMethod yX8_init ∈ gw := gw_t (tb1 57 rfl) rfl
theorem imJ0_length_8abf5 : Cond.instanceMethod yJ0_length_8abf5 ∈ gw := gw_t (tb1 62 rfl) rfl
theorem seJ0_length_8abf5 : Cond.selects RJ0 yJ0_length_8abf5 yJ0_length_8abf5 ∈ gw := gw_t (tb1 63 rfl) rfl
theorem imJ0_coder_7d493 : Cond.instanceMethod yJ0_coder_7d493 ∈ gw := gw_t (tb1 66 rfl) rfl
theorem seJ0_coder_7d493 : Cond.selects RJ0 yJ0_coder_7d493 yJ0_coder_7d493 ∈ gw := gw_t (tb1 67 rfl) rfl
theorem imJ0_charAt_5068e : Cond.instanceMethod yJ0_charAt_5068e ∈ gw := gw_t (tb1 72 rfl) rfl
theorem seJ0_charAt_5068e : Cond.selects RJ0 yJ0_charAt_5068e yJ0_charAt_5068e ∈ gw := gw_t (tb1 73 rfl) rfl
theorem imJ0_isLatin1_aae02 : Cond.instanceMethod yJ0_isLatin1_aae02 ∈ gw := gw_t (tb1 76 rfl) rfl
theorem seJ0_isLatin1_aae02 : Cond.selects RJ0 yJ0_isLatin1_aae02 yJ0_isLatin1_aae02 ∈ gw := gw_t (tb1 77 rfl) rfl
theorem stJ1_charAt_3b067 : Cond.static yJ1_charAt_3b067 ∈ gw := gw_t (tb1 80 rfl) rfl
theorem stJ0_checkIndex_df160 : Cond.static yJ0_checkIndex_df160 ∈ gw := gw_t (tb1 83 rfl) rfl
theorem stJ3_checkIndex_8e157 : Cond.static yJ3_checkIndex_8e157 ∈ gw := gw_t (tb1 88 rfl) rfl
theorem stJ2_charAt_3b067 : Cond.static yJ2_charAt_3b067 ∈ gw := gw_t (tb1 91 rfl) rfl
theorem stJ2_checkIndex_2214a : Cond.static yJ2_checkIndex_2214a ∈ gw := gw_t (tb1 94 rfl) rfl
theorem stJ2_length_9d52b : Cond.static yJ2_length_9d52b ∈ gw := gw_t (tb1 97 rfl) rfl
theorem stJ2_getChar_3b067 : Cond.static yJ2_getChar_3b067 ∈ gw := gw_t (tb1 101 rfl) rfl
theorem imX4_init : Cond.instanceMethod yX4_init ∈ gw := gw_t (tb1 149 rfl) rfl
theorem imX10_init : Cond.instanceMethod yX10_init ∈ gw := gw_t (tb1 162 rfl) rfl
theorem imX7_init : Cond.instanceMethod yX7_init ∈ gw := gw_t (tb1 190 rfl) rfl
theorem imX6_init : Cond.instanceMethod yX6_init ∈ gw := gw_t (tb1 200 rfl) rfl
theorem imX1_init : Cond.instanceMethod yX1_init ∈ gw := gw_t (tb1 225 rfl) rfl
theorem imX2_init : Cond.instanceMethod yX2_init ∈ gw := gw_t (tb1 238 rfl) rfl
theorem imX5_init : Cond.instanceMethod yX5_init ∈ gw := gw_t (tb2 11 rfl) rfl
theorem imX3_init : Cond.instanceMethod yX3_init ∈ gw := gw_t (tb2 44 rfl) rfl
theorem imX0_init : Cond.instanceMethod yX0_init ∈ gw := gw_t (tb2 50 rfl) rfl
theorem imX11_status : Cond.instanceMethod yX11_status ∈ gw := gw_t (tb2 233 rfl) rfl
theorem seX11_status : Cond.selects RX11 yX11_status yX11_status ∈ gw := gw_t (tb2 234 rfl) rfl
theorem imX11_top : Cond.instanceMethod yX11_top ∈ gw := gw_t (tb2 237 rfl) rfl
theorem seX11_top : Cond.selects RX11 yX11_top yX11_top ∈ gw := gw_t (tb2 238 rfl) rfl
theorem imX11_bottom : Cond.instanceMethod yX11_bottom ∈ gw := gw_t (tb3 1 rfl) rfl
theorem seX11_bottom : Cond.selects RX11 yX11_bottom yX11_bottom ∈ gw := gw_t (tb3 2 rfl) rfl
theorem imX11_tray : Cond.instanceMethod yX11_tray ∈ gw := gw_t (tb3 5 rfl) rfl
theorem seX11_tray : Cond.selects RX11 yX11_tray yX11_tray ∈ gw := gw_t (tb3 6 rfl) rfl
theorem imX9_isTray : Cond.instanceMethod yX9_isTray ∈ gw := gw_t (tb3 9 rfl) rfl
theorem seX9_isTray : Cond.selects RX9 yX9_isTray yX9_isTray ∈ gw := gw_t (tb3 10 rfl) rfl
theorem stX11_within : Cond.static yX11_within ∈ gw := gw_t (tb3 13 rfl) rfl
theorem imX11_denied : Cond.instanceMethod yX11_denied ∈ gw := gw_t (tb3 18 rfl) rfl
theorem imX9_lay : Cond.instanceMethod yX9_lay ∈ gw := gw_t (tb3 21 rfl) rfl
theorem seX9_lay : Cond.selects RX9 yX9_lay yX9_lay ∈ gw := gw_t (tb3 22 rfl) rfl
theorem stJ7_fill_d0a16 : Cond.static yJ7_fill_d0a16 ∈ gw := gw_t (tb3 26 rfl) rfl
theorem imX11_done : Cond.instanceMethod yX11_done ∈ gw := gw_t (tb3 30 rfl) rfl
theorem imX11_write : Cond.instanceMethod yX11_write ∈ gw := gw_t (tb3 33 rfl) rfl
theorem seX11_write : Cond.selects RX11 yX11_write yX11_write ∈ gw := gw_t (tb3 34 rfl) rfl
theorem imX9_whyNoPlace : Cond.instanceMethod yX9_whyNoPlace ∈ gw := gw_t (tb3 37 rfl) rfl
theorem seX9_whyNoPlace : Cond.selects RX9 yX9_whyNoPlace yX9_whyNoPlace ∈ gw := gw_t (tb3 38 rfl) rfl
theorem imX9_isMissing : Cond.instanceMethod yX9_isMissing ∈ gw := gw_t (tb3 41 rfl) rfl
theorem seX9_isMissing : Cond.selects RX9 yX9_isMissing yX9_isMissing ∈ gw := gw_t (tb3 42 rfl) rfl
theorem imX9_hasPlaces : Cond.instanceMethod yX9_hasPlaces ∈ gw := gw_t (tb3 45 rfl) rfl
theorem seX9_hasPlaces : Cond.selects RX9 yX9_hasPlaces yX9_hasPlaces ∈ gw := gw_t (tb3 46 rfl) rfl
theorem imX9_put : Cond.instanceMethod yX9_put ∈ gw := gw_t (tb3 49 rfl) rfl
theorem seX9_put : Cond.selects RX9 yX9_put yX9_put ∈ gw := gw_t (tb3 50 rfl) rfl
theorem stX9_cut : Cond.static yX9_cut ∈ gw := gw_t (tb3 53 rfl) rfl
theorem imX11_read : Cond.instanceMethod yX11_read ∈ gw := gw_t (tb3 56 rfl) rfl
theorem seX11_read : Cond.selects RX11 yX11_read yX11_read ∈ gw := gw_t (tb3 57 rfl) rfl
theorem imX11_refused : Cond.instanceMethod yX11_refused ∈ gw := gw_t (tb3 61 rfl) rfl
theorem imX9_get : Cond.instanceMethod yX9_get ∈ gw := gw_t (tb3 64 rfl) rfl
theorem seX9_get : Cond.selects RX9 yX9_get yX9_get ∈ gw := gw_t (tb3 65 rfl) rfl
theorem imX11_pour : Cond.instanceMethod yX11_pour ∈ gw := gw_t (tb3 69 rfl) rfl
theorem seX11_pour : Cond.selects RX11 yX11_pour yX11_pour ∈ gw := gw_t (tb3 70 rfl) rfl
theorem imX9_sortOf : Cond.instanceMethod yX9_sortOf ∈ gw := gw_t (tb3 74 rfl) rfl
theorem seX9_sortOf : Cond.selects RX9 yX9_sortOf yX9_sortOf ∈ gw := gw_t (tb3 75 rfl) rfl
theorem imX9_move : Cond.instanceMethod yX9_move ∈ gw := gw_t (tb3 79 rfl) rfl
theorem seX9_move : Cond.selects RX9 yX9_move yX9_move ∈ gw := gw_t (tb3 80 rfl) rfl
theorem imX11_feed : Cond.instanceMethod yX11_feed ∈ gw := gw_t (tb3 86 rfl) rfl
theorem seX11_feed : Cond.selects RX11 yX11_feed yX11_feed ∈ gw := gw_t (tb3 87 rfl) rfl
theorem imX8_hasRoom : Cond.instanceMethod yX8_hasRoom ∈ gw := gw_t (tb3 90 rfl) rfl
theorem seX8_hasRoom : Cond.selects RX8 yX8_hasRoom yX8_hasRoom ∈ gw := gw_t (tb3 91 rfl) rfl
theorem imX8_add : Cond.instanceMethod yX8_add ∈ gw := gw_t (tb3 94 rfl) rfl
theorem seX8_add : Cond.selects RX8 yX8_add yX8_add ∈ gw := gw_t (tb3 95 rfl) rfl
theorem imX8_length : Cond.instanceMethod yX8_length ∈ gw := gw_t (tb3 98 rfl) rfl
theorem seX8_length : Cond.selects RX8 yX8_length yX8_length ∈ gw := gw_t (tb3 99 rfl) rfl
theorem imX11_duchy : Cond.instanceMethod yX11_duchy ∈ gw := gw_t (tb3 102 rfl) rfl
theorem seX11_duchy : Cond.selects RX11 yX11_duchy yX11_duchy ∈ gw := gw_t (tb3 103 rfl) rfl
theorem imX4_take : Cond.instanceMethod yX4_take ∈ gw := gw_t (tb3 106 rfl) rfl
theorem seX4_take : Cond.selects RX4 yX4_take yX4_take ∈ gw := gw_t (tb3 107 rfl) rfl
theorem imX3_clear : Cond.instanceMethod yX3_clear ∈ gw := gw_t (tb3 110 rfl) rfl
theorem seX3_clear : Cond.selects RX3 yX3_clear yX3_clear ∈ gw := gw_t (tb3 111 rfl) rfl
theorem imX0_clear : Cond.instanceMethod yX0_clear ∈ gw := gw_t (tb3 114 rfl) rfl
theorem seX0_clear : Cond.selects RX0 yX0_clear yX0_clear ∈ gw := gw_t (tb3 115 rfl) rfl
theorem imX8_begin : Cond.instanceMethod yX8_begin ∈ gw := gw_t (tb3 118 rfl) rfl
theorem seX8_begin : Cond.selects RX8 yX8_begin yX8_begin ∈ gw := gw_t (tb3 119 rfl) rfl
theorem stJ9_min_7cf53 : Cond.static yJ9_min_7cf53 ∈ gw := gw_t (tb3 122 rfl) rfl
theorem stJ9_max_7cf53 : Cond.static yJ9_max_7cf53 ∈ gw := gw_t (tb3 125 rfl) rfl
theorem imX8_advance : Cond.instanceMethod yX8_advance ∈ gw := gw_t (tb3 128 rfl) rfl
theorem seX8_advance : Cond.selects RX8 yX8_advance yX8_advance ∈ gw := gw_t (tb3 129 rfl) rfl
theorem stX8_isBlank : Cond.static yX8_isBlank ∈ gw := gw_t (tb3 132 rfl) rfl
theorem stX8_kindOf : Cond.static yX8_kindOf ∈ gw := gw_t (tb3 135 rfl) rfl
theorem stX8_isLong : Cond.static yX8_isLong ∈ gw := gw_t (tb3 138 rfl) rfl
theorem imX8_readWord : Cond.instanceMethod yX8_readWord ∈ gw := gw_t (tb3 142 rfl) rfl
theorem imX8_readNumber : Cond.instanceMethod yX8_readNumber ∈ gw := gw_t (tb3 146 rfl) rfl
theorem imX8_atEnd : Cond.instanceMethod yX8_atEnd ∈ gw := gw_t (tb3 149 rfl) rfl
theorem seX8_atEnd : Cond.selects RX8 yX8_atEnd yX8_atEnd ∈ gw := gw_t (tb3 150 rfl) rfl
theorem imX4_takePart : Cond.instanceMethod yX4_takePart ∈ gw := gw_t (tb3 154 rfl) rfl
theorem imX8_word : Cond.instanceMethod yX8_word ∈ gw := gw_t (tb3 157 rfl) rfl
theorem seX8_word : Cond.selects RX8 yX8_word yX8_word ∈ gw := gw_t (tb3 158 rfl) rfl
theorem imX4_takeRow : Cond.instanceMethod yX4_takeRow ∈ gw := gw_t (tb3 162 rfl) rfl
theorem imX8_blame : Cond.instanceMethod yX8_blame ∈ gw := gw_t (tb3 165 rfl) rfl
theorem seX8_blame : Cond.selects RX8 yX8_blame yX8_blame ∈ gw := gw_t (tb3 166 rfl) rfl
theorem imX8_isAnyWord : Cond.instanceMethod yX8_isAnyWord ∈ gw := gw_t (tb3 170 rfl) rfl
theorem seX8_isAnyWord : Cond.selects RX8 yX8_isAnyWord yX8_isAnyWord ∈ gw := gw_t (tb3 171 rfl) rfl
theorem imX8_letters : Cond.instanceMethod yX8_letters ∈ gw := gw_t (tb3 174 rfl) rfl
theorem seX8_letters : Cond.selects RX8 yX8_letters yX8_letters ∈ gw := gw_t (tb3 175 rfl) rfl
theorem imX8_letter : Cond.instanceMethod yX8_letter ∈ gw := gw_t (tb3 179 rfl) rfl
theorem seX8_letter : Cond.selects RX8 yX8_letter yX8_letter ∈ gw := gw_t (tb3 180 rfl) rfl
theorem imJ0_indexOf_0f7a4 : Cond.instanceMethod yJ0_indexOf_0f7a4 ∈ gw := gw_t (tb3 185 rfl) rfl
theorem seJ0_indexOf_0f7a4 : Cond.selects RJ0 yJ0_indexOf_0f7a4 yJ0_indexOf_0f7a4 ∈ gw := gw_t (tb3 186 rfl) rfl
theorem imJ0_indexOf_7cf53 : Cond.instanceMethod yJ0_indexOf_7cf53 ∈ gw := gw_t (tb3 189 rfl) rfl
theorem seJ0_indexOf_7cf53 : Cond.selects RJ0 yJ0_indexOf_7cf53 yJ0_indexOf_7cf53 ∈ gw := gw_t (tb3 190 rfl) rfl
theorem stJ1_indexOf_4cfef : Cond.static yJ1_indexOf_4cfef ∈ gw := gw_t (tb3 194 rfl) rfl
theorem stJ1_canEncode_9a6ad : Cond.static yJ1_canEncode_9a6ad ∈ gw := gw_t (tb3 197 rfl) rfl
theorem stJ1_indexOfChar_4cfef : Cond.static yJ1_indexOfChar_4cfef ∈ gw := gw_t (tb3 202 rfl) rfl
theorem stJ2_indexOf_4cfef : Cond.static yJ2_indexOf_4cfef ∈ gw := gw_t (tb3 205 rfl) rfl
theorem stJ2_indexOfChar_4cfef : Cond.static yJ2_indexOfChar_4cfef ∈ gw := gw_t (tb3 211 rfl) rfl
theorem stJ2_checkBoundsBeginEnd_d044e : Cond.static yJ2_checkBoundsBeginEnd_d044e ∈ gw := gw_t (tb3 214 rfl) rfl
theorem stJ0_checkBoundsBeginEnd_23922 : Cond.static yJ0_checkBoundsBeginEnd_23922 ∈ gw := gw_t (tb3 217 rfl) rfl
theorem stJ3_checkFromToIndex_8c36e : Cond.static yJ3_checkFromToIndex_8c36e ∈ gw := gw_t (tb3 220 rfl) rfl
theorem stJ2_indexOfCharUnsafe_4cfef : Cond.static yJ2_indexOfCharUnsafe_4cfef ∈ gw := gw_t (tb3 223 rfl) rfl
theorem stJ2_indexOfSupplementary_4cfef : Cond.static yJ2_indexOfSupplementary_4cfef ∈ gw := gw_t (tb3 226 rfl) rfl
theorem stJ11_isValidCodePoint_9a6ad : Cond.static yJ11_isValidCodePoint_9a6ad ∈ gw := gw_t (tb3 229 rfl) rfl
theorem stJ11_highSurrogate_5068e : Cond.static yJ11_highSurrogate_5068e ∈ gw := gw_t (tb3 232 rfl) rfl
theorem stJ11_lowSurrogate_5068e : Cond.static yJ11_lowSurrogate_5068e ∈ gw := gw_t (tb3 236 rfl) rfl
theorem stX11_isKind : Cond.static yX11_isKind ∈ gw := gw_t (tb4 0 rfl) rfl
theorem imX8_passSign : Cond.instanceMethod yX8_passSign ∈ gw := gw_t (tb4 3 rfl) rfl
theorem seX8_passSign : Cond.selects RX8 yX8_passSign yX8_passSign ∈ gw := gw_t (tb4 4 rfl) rfl
theorem imX4_takeOdds : Cond.instanceMethod yX4_takeOdds ∈ gw := gw_t (tb4 9 rfl) rfl
theorem imX8_isNumber : Cond.instanceMethod yX8_isNumber ∈ gw := gw_t (tb4 12 rfl) rfl
theorem seX8_isNumber : Cond.selects RX8 yX8_isNumber yX8_isNumber ∈ gw := gw_t (tb4 13 rfl) rfl
theorem imX8_number : Cond.instanceMethod yX8_number ∈ gw := gw_t (tb4 16 rfl) rfl
theorem seX8_number : Cond.selects RX8 yX8_number yX8_number ∈ gw := gw_t (tb4 17 rfl) rfl
theorem imX4_takeHarbour : Cond.instanceMethod yX4_takeHarbour ∈ gw := gw_t (tb4 21 rfl) rfl
theorem imX4_takeTraveller : Cond.instanceMethod yX4_takeTraveller ∈ gw := gw_t (tb4 25 rfl) rfl
theorem imX8_isName : Cond.instanceMethod yX8_isName ∈ gw := gw_t (tb4 28 rfl) rfl
theorem seX8_isName : Cond.selects RX8 yX8_isName yX8_isName ∈ gw := gw_t (tb4 29 rfl) rfl
theorem imX8_nameCode : Cond.instanceMethod yX8_nameCode ∈ gw := gw_t (tb4 32 rfl) rfl
theorem seX8_nameCode : Cond.selects RX8 yX8_nameCode yX8_nameCode ∈ gw := gw_t (tb4 33 rfl) rfl
theorem imX3_travellerNamed : Cond.instanceMethod yX3_travellerNamed ∈ gw := gw_t (tb4 36 rfl) rfl
theorem seX3_travellerNamed : Cond.selects RX3 yX3_travellerNamed yX3_travellerNamed ∈ gw := gw_t (tb4 37 rfl) rfl
theorem imX8_isWord : Cond.instanceMethod yX8_isWord ∈ gw := gw_t (tb4 40 rfl) rfl
theorem seX8_isWord : Cond.selects RX8 yX8_isWord yX8_isWord ∈ gw := gw_t (tb4 41 rfl) rfl
theorem imX3_addTraveller : Cond.instanceMethod yX3_addTraveller ∈ gw := gw_t (tb4 44 rfl) rfl
theorem seX3_addTraveller : Cond.selects RX3 yX3_addTraveller yX3_addTraveller ∈ gw := gw_t (tb4 45 rfl) rfl
theorem imX4_takeTold : Cond.instanceMethod yX4_takeTold ∈ gw := gw_t (tb4 49 rfl) rfl
theorem imX3_tellingsOf : Cond.instanceMethod yX3_tellingsOf ∈ gw := gw_t (tb4 52 rfl) rfl
theorem seX3_tellingsOf : Cond.selects RX3 yX3_tellingsOf yX3_tellingsOf ∈ gw := gw_t (tb4 53 rfl) rfl
theorem imX4_takeFeeling : Cond.instanceMethod yX4_takeFeeling ∈ gw := gw_t (tb4 57 rfl) rfl
theorem imX8_feeling : Cond.instanceMethod yX8_feeling ∈ gw := gw_t (tb4 60 rfl) rfl
theorem seX8_feeling : Cond.selects RX8 yX8_feeling yX8_feeling ∈ gw := gw_t (tb4 61 rfl) rfl
theorem imX3_addTelling : Cond.instanceMethod yX3_addTelling ∈ gw := gw_t (tb4 64 rfl) rfl
theorem seX3_addTelling : Cond.selects RX3 yX3_addTelling yX3_addTelling ∈ gw := gw_t (tb4 65 rfl) rfl
theorem imX11_endReading : Cond.instanceMethod yX11_endReading ∈ gw := gw_t (tb4 70 rfl) rfl
theorem imX8_blamedFor : Cond.instanceMethod yX8_blamedFor ∈ gw := gw_t (tb4 73 rfl) rfl
theorem seX8_blamedFor : Cond.selects RX8 yX8_blamedFor yX8_blamedFor ∈ gw := gw_t (tb4 74 rfl) rfl
theorem imX8_blamedAt : Cond.instanceMethod yX8_blamedAt ∈ gw := gw_t (tb4 77 rfl) rfl
theorem seX8_blamedAt : Cond.selects RX8 yX8_blamedAt yX8_blamedAt ∈ gw := gw_t (tb4 78 rfl) rfl
theorem imX8_empty : Cond.instanceMethod yX8_empty ∈ gw := gw_t (tb4 81 rfl) rfl
theorem seX8_empty : Cond.selects RX8 yX8_empty yX8_empty ∈ gw := gw_t (tb4 82 rfl) rfl
theorem imX3_cellCount : Cond.instanceMethod yX3_cellCount ∈ gw := gw_t (tb4 85 rfl) rfl
theorem seX3_cellCount : Cond.selects RX3 yX3_cellCount yX3_cellCount ∈ gw := gw_t (tb4 86 rfl) rfl
theorem imX11_answer : Cond.instanceMethod yX11_answer ∈ gw := gw_t (tb4 90 rfl) rfl
theorem imX11_years : Cond.instanceMethod yX11_years ∈ gw := gw_t (tb4 93 rfl) rfl
theorem seX11_years : Cond.selects RX11 yX11_years yX11_years ∈ gw := gw_t (tb4 94 rfl) rfl
theorem imX10_take : Cond.instanceMethod yX10_take ∈ gw := gw_t (tb4 98 rfl) rfl
theorem seX10_take : Cond.selects RX10 yX10_take yX10_take ∈ gw := gw_t (tb4 99 rfl) rfl
theorem imX10_takeEnd : Cond.instanceMethod yX10_takeEnd ∈ gw := gw_t (tb4 107 rfl) rfl
theorem imX0_addEnd : Cond.instanceMethod yX0_addEnd ∈ gw := gw_t (tb4 111 rfl) rfl
theorem seX0_addEnd : Cond.selects RX0 yX0_addEnd yX0_addEnd ∈ gw := gw_t (tb4 112 rfl) rfl
theorem imX0_hasLine : Cond.instanceMethod yX0_hasLine ∈ gw := gw_t (tb4 115 rfl) rfl
theorem seX0_hasLine : Cond.selects RX0 yX0_hasLine yX0_hasLine ∈ gw := gw_t (tb4 116 rfl) rfl
theorem imX0_addLine : Cond.instanceMethod yX0_addLine ∈ gw := gw_t (tb4 121 rfl) rfl
theorem imX10_takeStep : Cond.instanceMethod yX10_takeStep ∈ gw := gw_t (tb4 127 rfl) rfl
theorem stX10_beginsStep : Cond.static yX10_beginsStep ∈ gw := gw_t (tb4 131 rfl) rfl
theorem imX10_takeTest : Cond.instanceMethod yX10_takeTest ∈ gw := gw_t (tb4 136 rfl) rfl
theorem imX10_takeName : Cond.instanceMethod yX10_takeName ∈ gw := gw_t (tb4 140 rfl) rfl
theorem imX0_addStep : Cond.instanceMethod yX0_addStep ∈ gw := gw_t (tb4 146 rfl) rfl
theorem seX0_addStep : Cond.selects RX0 yX0_addStep yX0_addStep ∈ gw := gw_t (tb4 147 rfl) rfl
theorem imX10_takeCell : Cond.instanceMethod yX10_takeCell ∈ gw := gw_t (tb4 151 rfl) rfl
theorem imX10_takeFeeling : Cond.instanceMethod yX10_takeFeeling ∈ gw := gw_t (tb4 157 rfl) rfl
theorem imX10_takeComparison : Cond.instanceMethod yX10_takeComparison ∈ gw := gw_t (tb4 162 rfl) rfl
theorem imX8_comparison : Cond.instanceMethod yX8_comparison ∈ gw := gw_t (tb4 165 rfl) rfl
theorem seX8_comparison : Cond.selects RX8 yX8_comparison yX8_comparison ∈ gw := gw_t (tb4 166 rfl) rfl
theorem imX10_takeNumber : Cond.instanceMethod yX10_takeNumber ∈ gw := gw_t (tb4 170 rfl) rfl
theorem imX10_takeRest : Cond.instanceMethod yX10_takeRest ∈ gw := gw_t (tb4 174 rfl) rfl
theorem imX11_fault : Cond.instanceMethod yX11_fault ∈ gw := gw_t (tb4 177 rfl) rfl
theorem seX11_fault : Cond.selects RX11 yX11_fault yX11_fault ∈ gw := gw_t (tb4 178 rfl) rfl
theorem imX11_many : Cond.instanceMethod yX11_many ∈ gw := gw_t (tb4 181 rfl) rfl
theorem seX11_many : Cond.selects RX11 yX11_many yX11_many ∈ gw := gw_t (tb4 182 rfl) rfl
theorem imX11_knownNow : Cond.instanceMethod yX11_knownNow ∈ gw := gw_t (tb4 186 rfl) rfl
theorem imX7_take : Cond.instanceMethod yX7_take ∈ gw := gw_t (tb4 189 rfl) rfl
theorem seX7_take : Cond.selects RX7 yX7_take yX7_take ∈ gw := gw_t (tb4 190 rfl) rfl
theorem stX3_isIn : Cond.static yX3_isIn ∈ gw := gw_t (tb4 194 rfl) rfl
theorem imX7_knownCells : Cond.instanceMethod yX7_knownCells ∈ gw := gw_t (tb4 198 rfl) rfl
theorem seX7_knownCells : Cond.selects RX7 yX7_knownCells yX7_knownCells ∈ gw := gw_t (tb4 199 rfl) rfl
theorem imX7_drawnAs : Cond.instanceMethod yX7_drawnAs ∈ gw := gw_t (tb4 203 rfl) rfl
theorem seX7_drawnAs : Cond.selects RX7 yX7_drawnAs yX7_drawnAs ∈ gw := gw_t (tb4 204 rfl) rfl
theorem imX7_rightCells : Cond.instanceMethod yX7_rightCells ∈ gw := gw_t (tb4 207 rfl) rfl
theorem seX7_rightCells : Cond.selects RX7 yX7_rightCells yX7_rightCells ∈ gw := gw_t (tb4 208 rfl) rfl
theorem imX3_kindAt : Cond.instanceMethod yX3_kindAt ∈ gw := gw_t (tb4 211 rfl) rfl
theorem seX3_kindAt : Cond.selects RX3 yX3_kindAt yX3_kindAt ∈ gw := gw_t (tb4 212 rfl) rfl
theorem imX11_cell : Cond.instanceMethod yX11_cell ∈ gw := gw_t (tb4 216 rfl) rfl
theorem seX11_cell : Cond.selects RX11 yX11_cell yX11_cell ∈ gw := gw_t (tb4 217 rfl) rfl
theorem imX3_hasCell : Cond.instanceMethod yX3_hasCell ∈ gw := gw_t (tb4 220 rfl) rfl
theorem seX3_hasCell : Cond.selects RX3 yX3_hasCell yX3_hasCell ∈ gw := gw_t (tb4 221 rfl) rfl
theorem imX7_riskOf : Cond.instanceMethod yX7_riskOf ∈ gw := gw_t (tb4 227 rfl) rfl
theorem seX7_riskOf : Cond.selects RX7 yX7_riskOf yX7_riskOf ∈ gw := gw_t (tb4 228 rfl) rfl
theorem imX7_votesFor : Cond.instanceMethod yX7_votesFor ∈ gw := gw_t (tb4 231 rfl) rfl
theorem seX7_votesFor : Cond.selects RX7 yX7_votesFor yX7_votesFor ∈ gw := gw_t (tb4 232 rfl) rfl
theorem imX3_sizeOf : Cond.instanceMethod yX3_sizeOf ∈ gw := gw_t (tb4 235 rfl) rfl
theorem seX3_sizeOf : Cond.selects RX3 yX3_sizeOf yX3_sizeOf ∈ gw := gw_t (tb4 236 rfl) rfl
theorem imX3_isHeard : Cond.instanceMethod yX3_isHeard ∈ gw := gw_t (tb4 239 rfl) rfl
theorem seX3_isHeard : Cond.selects RX3 yX3_isHeard yX3_isHeard ∈ gw := gw_t (tb5 0 rfl) rfl
theorem imX11_votes : Cond.instanceMethod yX11_votes ∈ gw := gw_t (tb5 5 rfl) rfl
theorem seX11_votes : Cond.selects RX11 yX11_votes yX11_votes ∈ gw := gw_t (tb5 6 rfl) rfl
theorem imX11_traveller : Cond.instanceMethod yX11_traveller ∈ gw := gw_t (tb5 11 rfl) rfl
theorem seX11_traveller : Cond.selects RX11 yX11_traveller yX11_traveller ∈ gw := gw_t (tb5 12 rfl) rfl
theorem imX3_hasTraveller : Cond.instanceMethod yX3_hasTraveller ∈ gw := gw_t (tb5 15 rfl) rfl
theorem seX3_hasTraveller : Cond.selects RX3 yX3_hasTraveller yX3_hasTraveller ∈ gw := gw_t (tb5 16 rfl) rfl
theorem imX3_tellingsBy : Cond.instanceMethod yX3_tellingsBy ∈ gw := gw_t (tb5 20 rfl) rfl
theorem seX3_tellingsBy : Cond.selects RX3 yX3_tellingsBy yX3_tellingsBy ∈ gw := gw_t (tb5 21 rfl) rfl
theorem imX3_falseBy : Cond.instanceMethod yX3_falseBy ∈ gw := gw_t (tb5 24 rfl) rfl
theorem seX3_falseBy : Cond.selects RX3 yX3_falseBy yX3_falseBy ∈ gw := gw_t (tb5 25 rfl) rfl
theorem imX11_telling : Cond.instanceMethod yX11_telling ∈ gw := gw_t (tb5 29 rfl) rfl
theorem seX11_telling : Cond.selects RX11 yX11_telling yX11_telling ∈ gw := gw_t (tb5 30 rfl) rfl
theorem imX11_copyChart : Cond.instanceMethod yX11_copyChart ∈ gw := gw_t (tb5 33 rfl) rfl
theorem seX11_copyChart : Cond.selects RX11 yX11_copyChart yX11_copyChart ∈ gw := gw_t (tb5 34 rfl) rfl
theorem imX11_hear : Cond.instanceMethod yX11_hear ∈ gw := gw_t (tb5 37 rfl) rfl
theorem seX11_hear : Cond.selects RX11 yX11_hear yX11_hear ∈ gw := gw_t (tb5 38 rfl) rfl
theorem imX3_setHeard : Cond.instanceMethod yX3_setHeard ∈ gw := gw_t (tb5 41 rfl) rfl
theorem seX3_setHeard : Cond.selects RX3 yX3_setHeard yX3_setHeard ∈ gw := gw_t (tb5 42 rfl) rfl
theorem imX11_forget : Cond.instanceMethod yX11_forget ∈ gw := gw_t (tb5 46 rfl) rfl
theorem seX11_forget : Cond.selects RX11 yX11_forget yX11_forget ∈ gw := gw_t (tb5 47 rfl) rfl
theorem imX11_tell : Cond.instanceMethod yX11_tell ∈ gw := gw_t (tb5 50 rfl) rfl
theorem seX11_tell : Cond.selects RX11 yX11_tell yX11_tell ∈ gw := gw_t (tb5 51 rfl) rfl
theorem imX11_come : Cond.instanceMethod yX11_come ∈ gw := gw_t (tb5 55 rfl) rfl
theorem seX11_come : Cond.selects RX11 yX11_come yX11_come ∈ gw := gw_t (tb5 56 rfl) rfl
theorem imX11_change : Cond.instanceMethod yX11_change ∈ gw := gw_t (tb5 60 rfl) rfl
theorem seX11_change : Cond.selects RX11 yX11_change yX11_change ∈ gw := gw_t (tb5 61 rfl) rfl
theorem imX11_trust : Cond.instanceMethod yX11_trust ∈ gw := gw_t (tb5 64 rfl) rfl
theorem seX11_trust : Cond.selects RX11 yX11_trust yX11_trust ∈ gw := gw_t (tb5 65 rfl) rfl
theorem imX11_moor : Cond.instanceMethod yX11_moor ∈ gw := gw_t (tb5 68 rfl) rfl
theorem seX11_moor : Cond.selects RX11 yX11_moor yX11_moor ∈ gw := gw_t (tb5 69 rfl) rfl
theorem imX11_rule : Cond.instanceMethod yX11_rule ∈ gw := gw_t (tb5 72 rfl) rfl
theorem seX11_rule : Cond.selects RX11 yX11_rule yX11_rule ∈ gw := gw_t (tb5 73 rfl) rfl
theorem imX11_oddsThat : Cond.instanceMethod yX11_oddsThat ∈ gw := gw_t (tb5 76 rfl) rfl
theorem seX11_oddsThat : Cond.selects RX11 yX11_oddsThat yX11_oddsThat ∈ gw := gw_t (tb5 77 rfl) rfl
theorem imX1_weigh : Cond.instanceMethod yX1_weigh ∈ gw := gw_t (tb5 80 rfl) rfl
theorem seX1_weigh : Cond.selects RX1 yX1_weigh yX1_weigh ∈ gw := gw_t (tb5 81 rfl) rfl
theorem imX1_sum : Cond.instanceMethod yX1_sum ∈ gw := gw_t (tb5 87 rfl) rfl
theorem seX1_sum : Cond.selects RX1 yX1_sum yX1_sum ∈ gw := gw_t (tb5 88 rfl) rfl
theorem imX1_weightOf : Cond.instanceMethod yX1_weightOf ∈ gw := gw_t (tb5 91 rfl) rfl
theorem seX1_weightOf : Cond.selects RX1 yX1_weightOf yX1_weightOf ∈ gw := gw_t (tb5 92 rfl) rfl
theorem imX11_toldFraction : Cond.instanceMethod yX11_toldFraction ∈ gw := gw_t (tb5 97 rfl) rfl
theorem stX11_commonDivisor : Cond.static yX11_commonDivisor ∈ gw := gw_t (tb5 100 rfl) rfl
theorem imX11_likeliest : Cond.instanceMethod yX11_likeliest ∈ gw := gw_t (tb5 103 rfl) rfl
theorem seX11_likeliest : Cond.selects RX11 yX11_likeliest yX11_likeliest ∈ gw := gw_t (tb5 104 rfl) rfl
theorem imX1_likeliestKind : Cond.instanceMethod yX1_likeliestKind ∈ gw := gw_t (tb5 107 rfl) rfl
theorem seX1_likeliestKind : Cond.selects RX1 yX1_likeliestKind yX1_likeliestKind ∈ gw := gw_t (tb5 108 rfl) rfl
theorem imX11_ask : Cond.instanceMethod yX11_ask ∈ gw := gw_t (tb5 111 rfl) rfl
theorem seX11_ask : Cond.selects RX11 yX11_ask yX11_ask ∈ gw := gw_t (tb5 112 rfl) rfl
theorem imX1_leastSureCell : Cond.instanceMethod yX1_leastSureCell ∈ gw := gw_t (tb5 115 rfl) rfl
theorem seX1_leastSureCell : Cond.selects RX1 yX1_leastSureCell yX1_leastSureCell ∈ gw := gw_t (tb5 116 rfl) rfl
theorem imX11_liars : Cond.instanceMethod yX11_liars ∈ gw := gw_t (tb5 124 rfl) rfl
theorem seX11_liars : Cond.selects RX11 yX11_liars yX11_liars ∈ gw := gw_t (tb5 125 rfl) rfl
theorem imX3_fewestLiars : Cond.instanceMethod yX3_fewestLiars ∈ gw := gw_t (tb5 128 rfl) rfl
theorem seX3_fewestLiars : Cond.selects RX3 yX3_fewestLiars yX3_fewestLiars ∈ gw := gw_t (tb5 129 rfl) rfl
theorem imX3_sets : Cond.instanceMethod yX3_sets ∈ gw := gw_t (tb5 132 rfl) rfl
theorem seX3_sets : Cond.selects RX3 yX3_sets yX3_sets ∈ gw := gw_t (tb5 133 rfl) rfl
theorem stJ6_bitCount_0f7a4 : Cond.static yJ6_bitCount_0f7a4 ∈ gw := gw_t (tb5 136 rfl) rfl
theorem imX3_clashesWithout : Cond.instanceMethod yX3_clashesWithout ∈ gw := gw_t (tb5 142 rfl) rfl
theorem seX3_clashesWithout : Cond.selects RX3 yX3_clashesWithout yX3_clashesWithout ∈ gw := gw_t (tb5 143 rfl) rfl
theorem imX11_liarSet : Cond.instanceMethod yX11_liarSet ∈ gw := gw_t (tb5 147 rfl) rfl
theorem seX11_liarSet : Cond.selects RX11 yX11_liarSet yX11_liarSet ∈ gw := gw_t (tb5 148 rfl) rfl
theorem imX11_clashes : Cond.instanceMethod yX11_clashes ∈ gw := gw_t (tb5 151 rfl) rfl
theorem seX11_clashes : Cond.selects RX11 yX11_clashes yX11_clashes ∈ gw := gw_t (tb5 152 rfl) rfl
theorem imX11_way : Cond.instanceMethod yX11_way ∈ gw := gw_t (tb5 156 rfl) rfl
theorem seX11_way : Cond.selects RX11 yX11_way yX11_way ∈ gw := gw_t (tb5 157 rfl) rfl
theorem imX11_whyNoWay : Cond.instanceMethod yX11_whyNoWay ∈ gw := gw_t (tb5 161 rfl) rfl
theorem imX6_find : Cond.instanceMethod yX6_find ∈ gw := gw_t (tb5 164 rfl) rfl
theorem seX6_find : Cond.selects RX6 yX6_find yX6_find ∈ gw := gw_t (tb5 165 rfl) rfl
theorem imX6_lowerCosts : Cond.instanceMethod yX6_lowerCosts ∈ gw := gw_t (tb5 174 rfl) rfl
theorem imX6_neighbour : Cond.instanceMethod yX6_neighbour ∈ gw := gw_t (tb5 178 rfl) rfl
theorem imX6_follow : Cond.instanceMethod yX6_follow ∈ gw := gw_t (tb5 182 rfl) rfl
theorem imX6_risk : Cond.instanceMethod yX6_risk ∈ gw := gw_t (tb5 185 rfl) rfl
theorem seX6_risk : Cond.selects RX6 yX6_risk yX6_risk ∈ gw := gw_t (tb5 186 rfl) rfl
theorem imX11_wayLong : Cond.instanceMethod yX11_wayLong ∈ gw := gw_t (tb5 190 rfl) rfl
theorem seX11_wayLong : Cond.selects RX11 yX11_wayLong yX11_wayLong ∈ gw := gw_t (tb5 191 rfl) rfl
theorem imX6_cells : Cond.instanceMethod yX6_cells ∈ gw := gw_t (tb5 194 rfl) rfl
theorem seX6_cells : Cond.selects RX6 yX6_cells yX6_cells ∈ gw := gw_t (tb5 195 rfl) rfl
theorem imX11_wayAt : Cond.instanceMethod yX11_wayAt ∈ gw := gw_t (tb5 198 rfl) rfl
theorem seX11_wayAt : Cond.selects RX11 yX11_wayAt yX11_wayAt ∈ gw := gw_t (tb5 199 rfl) rfl
theorem imX6_cellAt : Cond.instanceMethod yX6_cellAt ∈ gw := gw_t (tb5 202 rfl) rfl
theorem seX6_cellAt : Cond.selects RX6 yX6_cellAt yX6_cellAt ∈ gw := gw_t (tb5 203 rfl) rfl
theorem imX11_comesIn : Cond.instanceMethod yX11_comesIn ∈ gw := gw_t (tb5 206 rfl) rfl
theorem seX11_comesIn : Cond.selects RX11 yX11_comesIn yX11_comesIn ∈ gw := gw_t (tb5 207 rfl) rfl
theorem imX11_sail : Cond.instanceMethod yX11_sail ∈ gw := gw_t (tb5 211 rfl) rfl
theorem seX11_sail : Cond.selects RX11 yX11_sail yX11_sail ∈ gw := gw_t (tb5 212 rfl) rfl
theorem imX6_sailedTo : Cond.instanceMethod yX6_sailedTo ∈ gw := gw_t (tb5 215 rfl) rfl
theorem seX6_sailedTo : Cond.selects RX6 yX6_sailedTo yX6_sailedTo ∈ gw := gw_t (tb5 216 rfl) rfl
theorem imX11_plan : Cond.instanceMethod yX11_plan ∈ gw := gw_t (tb5 221 rfl) rfl
theorem seX11_plan : Cond.selects RX11 yX11_plan yX11_plan ∈ gw := gw_t (tb5 222 rfl) rfl
theorem imX2_weigh : Cond.instanceMethod yX2_weigh ∈ gw := gw_t (tb5 225 rfl) rfl
theorem seX2_weigh : Cond.selects RX2 yX2_weigh yX2_weigh ∈ gw := gw_t (tb5 226 rfl) rfl
theorem imX2_bestSet : Cond.instanceMethod yX2_bestSet ∈ gw := gw_t (tb5 232 rfl) rfl
theorem seX2_bestSet : Cond.selects RX2 yX2_bestSet yX2_bestSet ∈ gw := gw_t (tb5 233 rfl) rfl
theorem stX2_hoursOf : Cond.static yX2_hoursOf ∈ gw := gw_t (tb5 236 rfl) rfl
theorem imX2_knownBy : Cond.instanceMethod yX2_knownBy ∈ gw := gw_t (tb6 0 rfl) rfl
theorem seX2_knownBy : Cond.selects RX2 yX2_knownBy yX2_knownBy ∈ gw := gw_t (tb6 1 rfl) rfl
theorem imX11_planSet : Cond.instanceMethod yX11_planSet ∈ gw := gw_t (tb6 6 rfl) rfl
theorem seX11_planSet : Cond.selects RX11 yX11_planSet yX11_planSet ∈ gw := gw_t (tb6 7 rfl) rfl
theorem imX11_game : Cond.instanceMethod yX11_game ∈ gw := gw_t (tb6 10 rfl) rfl
theorem seX11_game : Cond.selects RX11 yX11_game yX11_game ∈ gw := gw_t (tb6 11 rfl) rfl
theorem imX2_play : Cond.instanceMethod yX2_play ∈ gw := gw_t (tb6 14 rfl) rfl
theorem seX2_play : Cond.selects RX2 yX2_play yX2_play ∈ gw := gw_t (tb6 15 rfl) rfl
theorem imX2_bestCredit : Cond.instanceMethod yX2_bestCredit ∈ gw := gw_t (tb6 20 rfl) rfl
theorem imX2_creditFrom : Cond.instanceMethod yX2_creditFrom ∈ gw := gw_t (tb6 23 rfl) rfl
theorem seX2_creditFrom : Cond.selects RX2 yX2_creditFrom yX2_creditFrom ∈ gw := gw_t (tb6 24 rfl) rfl
theorem imX2_creditOfMove : Cond.instanceMethod yX2_creditOfMove ∈ gw := gw_t (tb6 28 rfl) rfl
theorem imX11_moveOf : Cond.instanceMethod yX11_moveOf ∈ gw := gw_t (tb6 33 rfl) rfl
theorem seX11_moveOf : Cond.selects RX11 yX11_moveOf yX11_moveOf ∈ gw := gw_t (tb6 34 rfl) rfl
theorem imX2_firstBestMove : Cond.instanceMethod yX2_firstBestMove ∈ gw := gw_t (tb6 37 rfl) rfl
theorem seX2_firstBestMove : Cond.selects RX2 yX2_firstBestMove yX2_firstBestMove ∈ gw := gw_t (tb6 38 rfl) rfl
theorem imX11_swear : Cond.instanceMethod yX11_swear ∈ gw := gw_t (tb6 42 rfl) rfl
theorem seX11_swear : Cond.selects RX11 yX11_swear yX11_swear ∈ gw := gw_t (tb6 43 rfl) rfl
theorem imX1_waysToSwear : Cond.instanceMethod yX1_waysToSwear ∈ gw := gw_t (tb6 46 rfl) rfl
theorem seX1_waysToSwear : Cond.selects RX1 yX1_waysToSwear yX1_waysToSwear ∈ gw := gw_t (tb6 47 rfl) rfl
theorem stX11_power : Cond.static yX11_power ∈ gw := gw_t (tb6 51 rfl) rfl
theorem imX11_share : Cond.instanceMethod yX11_share ∈ gw := gw_t (tb6 54 rfl) rfl
theorem seX11_share : Cond.selects RX11 yX11_share yX11_share ∈ gw := gw_t (tb6 55 rfl) rfl
theorem imX11_live : Cond.instanceMethod yX11_live ∈ gw := gw_t (tb6 58 rfl) rfl
theorem seX11_live : Cond.selects RX11 yX11_live yX11_live ∈ gw := gw_t (tb6 59 rfl) rfl
theorem imX5_pass : Cond.instanceMethod yX5_pass ∈ gw := gw_t (tb6 62 rfl) rfl
theorem seX5_pass : Cond.selects RX5 yX5_pass yX5_pass ∈ gw := gw_t (tb6 63 rfl) rfl
theorem imX0_deed : Cond.instanceMethod yX0_deed ∈ gw := gw_t (tb6 69 rfl) rfl
theorem seX0_deed : Cond.selects RX0 yX0_deed yX0_deed ∈ gw := gw_t (tb6 70 rfl) rfl
theorem imX5_behindEnd : Cond.instanceMethod yX5_behindEnd ∈ gw := gw_t (tb6 74 rfl) rfl
theorem imX0_partner : Cond.instanceMethod yX0_partner ∈ gw := gw_t (tb6 77 rfl) rfl
theorem seX0_partner : Cond.selects RX0 yX0_partner yX0_partner ∈ gw := gw_t (tb6 78 rfl) rfl
theorem imX5_behindStep : Cond.instanceMethod yX5_behindStep ∈ gw := gw_t (tb6 83 rfl) rfl
theorem imX0_first : Cond.instanceMethod yX0_first ∈ gw := gw_t (tb6 86 rfl) rfl
theorem seX0_first : Cond.selects RX0 yX0_first yX0_first ∈ gw := gw_t (tb6 87 rfl) rfl
theorem imX5_count : Cond.instanceMethod yX5_count ∈ gw := gw_t (tb6 92 rfl) rfl
theorem imX0_second : Cond.instanceMethod yX0_second ∈ gw := gw_t (tb6 95 rfl) rfl
theorem seX0_second : Cond.selects RX0 yX0_second yX0_second ∈ gw := gw_t (tb6 96 rfl) rfl
theorem imX0_third : Cond.instanceMethod yX0_third ∈ gw := gw_t (tb6 99 rfl) rfl
theorem seX0_third : Cond.selects RX0 yX0_third yX0_third ∈ gw := gw_t (tb6 100 rfl) rfl
theorem imX5_countTelling : Cond.instanceMethod yX5_countTelling ∈ gw := gw_t (tb6 105 rfl) rfl
theorem imX5_sailTo : Cond.instanceMethod yX5_sailTo ∈ gw := gw_t (tb6 109 rfl) rfl
theorem imX5_anyTells : Cond.instanceMethod yX5_anyTells ∈ gw := gw_t (tb6 118 rfl) rfl
theorem imX5_draw : Cond.instanceMethod yX5_draw ∈ gw := gw_t (tb6 123 rfl) rfl
theorem imX5_holds : Cond.instanceMethod yX5_holds ∈ gw := gw_t (tb6 129 rfl) rfl
theorem stJ6_compare_7cf53 : Cond.static yJ6_compare_7cf53 ∈ gw := gw_t (tb6 135 rfl) rfl
theorem imX5_keepDeeds : Cond.instanceMethod yX5_keepDeeds ∈ gw := gw_t (tb6 138 rfl) rfl
theorem seX5_keepDeeds : Cond.selects RX5 yX5_keepDeeds yX5_keepDeeds ∈ gw := gw_t (tb6 139 rfl) rfl
theorem imX11_lived : Cond.instanceMethod yX11_lived ∈ gw := gw_t (tb6 143 rfl) rfl
theorem seX11_lived : Cond.selects RX11 yX11_lived yX11_lived ∈ gw := gw_t (tb6 144 rfl) rfl
theorem imX5_hasKept : Cond.instanceMethod yX5_hasKept ∈ gw := gw_t (tb6 147 rfl) rfl
theorem seX5_hasKept : Cond.selects RX5 yX5_hasKept yX5_hasKept ∈ gw := gw_t (tb6 148 rfl) rfl
theorem imX5_keptDeed : Cond.instanceMethod yX5_keptDeed ∈ gw := gw_t (tb6 151 rfl) rfl
theorem seX5_keptDeed : Cond.selects RX5 yX5_keptDeed yX5_keptDeed ∈ gw := gw_t (tb6 152 rfl) rfl
theorem imX11_mean : Cond.instanceMethod yX11_mean ∈ gw := gw_t (tb6 155 rfl) rfl
theorem seX11_mean : Cond.selects RX11 yX11_mean yX11_mean ∈ gw := gw_t (tb6 156 rfl) rfl
theorem imX11_mark : Cond.instanceMethod yX11_mark ∈ gw := gw_t (tb6 159 rfl) rfl
theorem seX11_mark : Cond.selects RX11 yX11_mark yX11_mark ∈ gw := gw_t (tb6 160 rfl) rfl
theorem imX3_copyFrom : Cond.instanceMethod yX3_copyFrom ∈ gw := gw_t (tb6 163 rfl) rfl
theorem seX3_copyFrom : Cond.selects RX3 yX3_copyFrom yX3_copyFrom ∈ gw := gw_t (tb6 164 rfl) rfl
theorem imX0_copyFrom : Cond.instanceMethod yX0_copyFrom ∈ gw := gw_t (tb6 168 rfl) rfl
theorem seX0_copyFrom : Cond.selects RX0 yX0_copyFrom yX0_copyFrom ∈ gw := gw_t (tb6 169 rfl) rfl
theorem imX11_back : Cond.instanceMethod yX11_back ∈ gw := gw_t (tb6 173 rfl) rfl
theorem seX11_back : Cond.selects RX11 yX11_back yX11_back ∈ gw := gw_t (tb6 174 rfl) rfl
theorem imX12_init : Cond.instanceMethod yX12_init ∈ gw := gw_t (tb6 179 rfl) rfl
theorem imX12_empties : Cond.instanceMethod yX12_empties ∈ gw := gw_t (tb6 184 rfl) rfl
theorem imX12_status : Cond.instanceMethod yX12_status ∈ gw := gw_t (tb7 74 rfl) rfl
theorem seX12_status : Cond.selects RX12 yX12_status yX12_status ∈ gw := gw_t (tb7 75 rfl) rfl
theorem imX12_top : Cond.instanceMethod yX12_top ∈ gw := gw_t (tb7 78 rfl) rfl
theorem seX12_top : Cond.selects RX12 yX12_top yX12_top ∈ gw := gw_t (tb7 79 rfl) rfl
theorem imX12_bottom : Cond.instanceMethod yX12_bottom ∈ gw := gw_t (tb7 82 rfl) rfl
theorem seX12_bottom : Cond.selects RX12 yX12_bottom yX12_bottom ∈ gw := gw_t (tb7 83 rfl) rfl
theorem imX12_tray : Cond.instanceMethod yX12_tray ∈ gw := gw_t (tb7 86 rfl) rfl
theorem seX12_tray : Cond.selects RX12 yX12_tray yX12_tray ∈ gw := gw_t (tb7 87 rfl) rfl
theorem imX12_no : Cond.instanceMethod yX12_no ∈ gw := gw_t (tb7 91 rfl) rfl
theorem imX12_write : Cond.instanceMethod yX12_write ∈ gw := gw_t (tb7 94 rfl) rfl
theorem seX12_write : Cond.selects RX12 yX12_write yX12_write ∈ gw := gw_t (tb7 95 rfl) rfl
theorem imX12_placed : Cond.instanceMethod yX12_placed ∈ gw := gw_t (tb7 99 rfl) rfl
theorem imX12_trayed : Cond.instanceMethod yX12_trayed ∈ gw := gw_t (tb7 103 rfl) rfl
theorem stX12_cut : Cond.static yX12_cut ∈ gw := gw_t (tb7 106 rfl) rfl
theorem imX12_read : Cond.instanceMethod yX12_read ∈ gw := gw_t (tb7 109 rfl) rfl
theorem seX12_read : Cond.selects RX12 yX12_read yX12_read ∈ gw := gw_t (tb7 110 rfl) rfl
theorem imX12_pour : Cond.instanceMethod yX12_pour ∈ gw := gw_t (tb7 114 rfl) rfl
theorem seX12_pour : Cond.selects RX12 yX12_pour yX12_pour ∈ gw := gw_t (tb7 115 rfl) rfl
theorem imX12_feed : Cond.instanceMethod yX12_feed ∈ gw := gw_t (tb7 118 rfl) rfl
theorem seX12_feed : Cond.selects RX12 yX12_feed yX12_feed ∈ gw := gw_t (tb7 119 rfl) rfl
theorem imX12_lay : Cond.instanceMethod yX12_lay ∈ gw := gw_t (tb7 123 rfl) rfl
theorem imX12_fault : Cond.instanceMethod yX12_fault ∈ gw := gw_t (tb7 126 rfl) rfl
theorem seX12_fault : Cond.selects RX12 yX12_fault yX12_fault ∈ gw := gw_t (tb7 127 rfl) rfl
theorem imX12_duchy : Cond.instanceMethod yX12_duchy ∈ gw := gw_t (tb7 130 rfl) rfl
theorem seX12_duchy : Cond.selects RX12 yX12_duchy yX12_duchy ∈ gw := gw_t (tb7 131 rfl) rfl
theorem imX12_starts : Cond.instanceMethod yX12_starts ∈ gw := gw_t (tb7 135 rfl) rfl
theorem imX12_advance : Cond.instanceMethod yX12_advance ∈ gw := gw_t (tb7 139 rfl) rfl
theorem imX12_look2 : Cond.instanceMethod yX12_look2 ∈ gw := gw_t (tb7 143 rfl) rfl
theorem stX12_isLetter : Cond.static yX12_isLetter ∈ gw := gw_t (tb7 146 rfl) rfl
theorem stX12_isDigit : Cond.static yX12_isDigit ∈ gw := gw_t (tb7 151 rfl) rfl
theorem imX12_isSignByte : Cond.instanceMethod yX12_isSignByte ∈ gw := gw_t (tb7 155 rfl) rfl
theorem imX12_readPart : Cond.instanceMethod yX12_readPart ∈ gw := gw_t (tb7 159 rfl) rfl
theorem imX12_isRow : Cond.instanceMethod yX12_isRow ∈ gw := gw_t (tb7 163 rfl) rfl
theorem stX12_spelled : Cond.static yX12_spelled ∈ gw := gw_t (tb7 166 rfl) rfl
theorem imX12_isWord : Cond.instanceMethod yX12_isWord ∈ gw := gw_t (tb7 170 rfl) rfl
theorem imX12_readRow : Cond.instanceMethod yX12_readRow ∈ gw := gw_t (tb7 174 rfl) rfl
theorem imX12_fail : Cond.instanceMethod yX12_fail ∈ gw := gw_t (tb7 178 rfl) rfl
theorem imX12_must : Cond.instanceMethod yX12_must ∈ gw := gw_t (tb7 182 rfl) rfl
theorem imX12_amiss : Cond.instanceMethod yX12_amiss ∈ gw := gw_t (tb7 186 rfl) rfl
theorem imX12_areCells : Cond.instanceMethod yX12_areCells ∈ gw := gw_t (tb7 190 rfl) rfl
theorem stX12_kindOf : Cond.static yX12_kindOf ∈ gw := gw_t (tb7 193 rfl) rfl
theorem imX12_isOdds : Cond.instanceMethod yX12_isOdds ∈ gw := gw_t (tb7 197 rfl) rfl
theorem imX12_readOdds : Cond.instanceMethod yX12_readOdds ∈ gw := gw_t (tb7 201 rfl) rfl
theorem imX12_count : Cond.instanceMethod yX12_count ∈ gw := gw_t (tb7 205 rfl) rfl
theorem stX12_isIn : Cond.static yX12_isIn ∈ gw := gw_t (tb7 208 rfl) rfl
theorem imX12_isHarbour : Cond.instanceMethod yX12_isHarbour ∈ gw := gw_t (tb7 212 rfl) rfl
theorem imX12_readHarbour : Cond.instanceMethod yX12_readHarbour ∈ gw := gw_t (tb7 217 rfl) rfl
theorem imX12_cellHere : Cond.instanceMethod yX12_cellHere ∈ gw := gw_t (tb7 221 rfl) rfl
theorem imX12_readCell : Cond.instanceMethod yX12_readCell ∈ gw := gw_t (tb7 225 rfl) rfl
theorem imX12_isTraveller : Cond.instanceMethod yX12_isTraveller ∈ gw := gw_t (tb7 229 rfl) rfl
theorem imX12_readNew : Cond.instanceMethod yX12_readNew ∈ gw := gw_t (tb7 233 rfl) rfl
theorem imX12_isName : Cond.instanceMethod yX12_isName ∈ gw := gw_t (tb7 237 rfl) rfl
theorem imX12_isKept : Cond.instanceMethod yX12_isKept ∈ gw := gw_t (tb8 1 rfl) rfl
theorem imX12_isLies : Cond.instanceMethod yX12_isLies ∈ gw := gw_t (tb8 5 rfl) rfl
theorem imX12_isMissed : Cond.instanceMethod yX12_isMissed ∈ gw := gw_t (tb8 9 rfl) rfl
theorem imX12_feelingWord : Cond.instanceMethod yX12_feelingWord ∈ gw := gw_t (tb8 13 rfl) rfl
theorem imX12_stepWord : Cond.instanceMethod yX12_stepWord ∈ gw := gw_t (tb8 17 rfl) rfl
theorem imX12_isTold : Cond.instanceMethod yX12_isTold ∈ gw := gw_t (tb8 21 rfl) rfl
theorem imX12_testWord : Cond.instanceMethod yX12_testWord ∈ gw := gw_t (tb8 25 rfl) rfl
theorem imX12_isHeard : Cond.instanceMethod yX12_isHeard ∈ gw := gw_t (tb8 29 rfl) rfl
theorem imX12_isEnd : Cond.instanceMethod yX12_isEnd ∈ gw := gw_t (tb8 33 rfl) rfl
theorem imX12_named : Cond.instanceMethod yX12_named ∈ gw := gw_t (tb8 37 rfl) rfl
theorem imX12_perhaps : Cond.instanceMethod yX12_perhaps ∈ gw := gw_t (tb8 41 rfl) rfl
theorem imX12_readTelling : Cond.instanceMethod yX12_readTelling ∈ gw := gw_t (tb8 45 rfl) rfl
theorem imX12_readTraveller : Cond.instanceMethod yX12_readTraveller ∈ gw := gw_t (tb8 49 rfl) rfl
theorem imX12_tellingsOf : Cond.instanceMethod yX12_tellingsOf ∈ gw := gw_t (tb8 54 rfl) rfl
theorem imX12_readFeeling : Cond.instanceMethod yX12_readFeeling ∈ gw := gw_t (tb8 58 rfl) rfl
theorem imX12_tells : Cond.instanceMethod yX12_tells ∈ gw := gw_t (tb8 62 rfl) rfl
theorem imX12_isSign : Cond.instanceMethod yX12_isSign ∈ gw := gw_t (tb8 66 rfl) rfl
theorem imX12_isWell : Cond.instanceMethod yX12_isWell ∈ gw := gw_t (tb8 70 rfl) rfl
theorem imX12_copy : Cond.instanceMethod yX12_copy ∈ gw := gw_t (tb8 74 rfl) rfl
theorem imX12_cells : Cond.instanceMethod yX12_cells ∈ gw := gw_t (tb8 78 rfl) rfl
theorem imX12_years : Cond.instanceMethod yX12_years ∈ gw := gw_t (tb8 81 rfl) rfl
theorem seX12_years : Cond.selects RX12 yX12_years yX12_years ∈ gw := gw_t (tb8 82 rfl) rfl
theorem imX12_readStep : Cond.instanceMethod yX12_readStep ∈ gw := gw_t (tb8 86 rfl) rfl
theorem imX12_readRest : Cond.instanceMethod yX12_readRest ∈ gw := gw_t (tb8 90 rfl) rfl
theorem imX12_readTest : Cond.instanceMethod yX12_readTest ∈ gw := gw_t (tb8 94 rfl) rfl
theorem imX12_many : Cond.instanceMethod yX12_many ∈ gw := gw_t (tb8 97 rfl) rfl
theorem seX12_many : Cond.selects RX12 yX12_many yX12_many ∈ gw := gw_t (tb8 98 rfl) rfl
theorem imX12_refuse : Cond.instanceMethod yX12_refuse ∈ gw := gw_t (tb8 103 rfl) rfl
theorem imX12_heardOnes : Cond.instanceMethod yX12_heardOnes ∈ gw := gw_t (tb8 107 rfl) rfl
theorem imX12_whites : Cond.instanceMethod yX12_whites ∈ gw := gw_t (tb8 111 rfl) rfl
theorem imX12_drawn : Cond.instanceMethod yX12_drawn ∈ gw := gw_t (tb8 115 rfl) rfl
theorem imX12_votesOf : Cond.instanceMethod yX12_votesOf ∈ gw := gw_t (tb8 119 rfl) rfl
theorem imX12_rights : Cond.instanceMethod yX12_rights ∈ gw := gw_t (tb8 123 rfl) rfl
theorem imX12_cell : Cond.instanceMethod yX12_cell ∈ gw := gw_t (tb8 126 rfl) rfl
theorem seX12_cell : Cond.selects RX12 yX12_cell yX12_cell ∈ gw := gw_t (tb8 127 rfl) rfl
theorem imX12_isCell : Cond.instanceMethod yX12_isCell ∈ gw := gw_t (tb8 131 rfl) rfl
theorem imX12_riskOf : Cond.instanceMethod yX12_riskOf ∈ gw := gw_t (tb8 136 rfl) rfl
theorem imX12_sizeAt : Cond.instanceMethod yX12_sizeAt ∈ gw := gw_t (tb8 140 rfl) rfl
theorem imX12_votes : Cond.instanceMethod yX12_votes ∈ gw := gw_t (tb8 143 rfl) rfl
theorem seX12_votes : Cond.selects RX12 yX12_votes yX12_votes ∈ gw := gw_t (tb8 144 rfl) rfl
theorem imX12_isKind : Cond.instanceMethod yX12_isKind ∈ gw := gw_t (tb8 148 rfl) rfl
theorem imX12_traveller : Cond.instanceMethod yX12_traveller ∈ gw := gw_t (tb8 152 rfl) rfl
theorem seX12_traveller : Cond.selects RX12 yX12_traveller yX12_traveller ∈ gw := gw_t (tb8 153 rfl) rfl
theorem imX12_isTravellerAt : Cond.instanceMethod yX12_isTravellerAt ∈ gw := gw_t (tb8 157 rfl) rfl
theorem imX12_told : Cond.instanceMethod yX12_told ∈ gw := gw_t (tb8 161 rfl) rfl
theorem imX12_telling : Cond.instanceMethod yX12_telling ∈ gw := gw_t (tb8 164 rfl) rfl
theorem seX12_telling : Cond.selects RX12 yX12_telling yX12_telling ∈ gw := gw_t (tb8 165 rfl) rfl
theorem imX12_copyChart : Cond.instanceMethod yX12_copyChart ∈ gw := gw_t (tb8 168 rfl) rfl
theorem seX12_copyChart : Cond.selects RX12 yX12_copyChart yX12_copyChart ∈ gw := gw_t (tb8 169 rfl) rfl
theorem imX12_isTray : Cond.instanceMethod yX12_isTray ∈ gw := gw_t (tb8 173 rfl) rfl
theorem imX12_hear : Cond.instanceMethod yX12_hear ∈ gw := gw_t (tb8 177 rfl) rfl
theorem seX12_hear : Cond.selects RX12 yX12_hear yX12_hear ∈ gw := gw_t (tb8 178 rfl) rfl
theorem imX12_hearing : Cond.instanceMethod yX12_hearing ∈ gw := gw_t (tb8 182 rfl) rfl
theorem imX12_hears : Cond.instanceMethod yX12_hears ∈ gw := gw_t (tb8 186 rfl) rfl
theorem imX12_knowns : Cond.instanceMethod yX12_knowns ∈ gw := gw_t (tb8 190 rfl) rfl
theorem imX12_forget : Cond.instanceMethod yX12_forget ∈ gw := gw_t (tb8 193 rfl) rfl
theorem seX12_forget : Cond.selects RX12 yX12_forget yX12_forget ∈ gw := gw_t (tb8 194 rfl) rfl
theorem imX12_tell : Cond.instanceMethod yX12_tell ∈ gw := gw_t (tb8 197 rfl) rfl
theorem seX12_tell : Cond.selects RX12 yX12_tell yX12_tell ∈ gw := gw_t (tb8 198 rfl) rfl
theorem imX12_canTell : Cond.instanceMethod yX12_canTell ∈ gw := gw_t (tb8 203 rfl) rfl
theorem imX12_come : Cond.instanceMethod yX12_come ∈ gw := gw_t (tb8 206 rfl) rfl
theorem seX12_come : Cond.selects RX12 yX12_come yX12_come ∈ gw := gw_t (tb8 207 rfl) rfl
theorem imX12_change : Cond.instanceMethod yX12_change ∈ gw := gw_t (tb8 211 rfl) rfl
theorem seX12_change : Cond.selects RX12 yX12_change yX12_change ∈ gw := gw_t (tb8 212 rfl) rfl
theorem imX12_becomes : Cond.instanceMethod yX12_becomes ∈ gw := gw_t (tb8 216 rfl) rfl
theorem imX12_trust : Cond.instanceMethod yX12_trust ∈ gw := gw_t (tb8 219 rfl) rfl
theorem seX12_trust : Cond.selects RX12 yX12_trust yX12_trust ∈ gw := gw_t (tb8 220 rfl) rfl
theorem imX12_moor : Cond.instanceMethod yX12_moor ∈ gw := gw_t (tb8 223 rfl) rfl
theorem seX12_moor : Cond.selects RX12 yX12_moor yX12_moor ∈ gw := gw_t (tb8 224 rfl) rfl
theorem imX12_rule : Cond.instanceMethod yX12_rule ∈ gw := gw_t (tb8 227 rfl) rfl
theorem seX12_rule : Cond.selects RX12 yX12_rule yX12_rule ∈ gw := gw_t (tb8 228 rfl) rfl
theorem imX12_oddsThat : Cond.instanceMethod yX12_oddsThat ∈ gw := gw_t (tb8 231 rfl) rfl
theorem seX12_oddsThat : Cond.selects RX12 yX12_oddsThat yX12_oddsThat ∈ gw := gw_t (tb8 232 rfl) rfl
theorem imX12_likelyAll : Cond.instanceMethod yX12_likelyAll ∈ gw := gw_t (tb8 236 rfl) rfl
theorem imX12_likely : Cond.instanceMethod yX12_likely ∈ gw := gw_t (tb9 0 rfl) rfl
theorem imX12_fraction : Cond.instanceMethod yX12_fraction ∈ gw := gw_t (tb9 4 rfl) rfl
theorem stJ9_abs_067f4 : Cond.static yJ9_abs_067f4 ∈ gw := gw_t (tb9 7 rfl) rfl
theorem imX12_likeliest : Cond.instanceMethod yX12_likeliest ∈ gw := gw_t (tb9 10 rfl) rfl
theorem seX12_likeliest : Cond.selects RX12 yX12_likeliest yX12_likeliest ∈ gw := gw_t (tb9 11 rfl) rfl
theorem imX12_likeliestOf : Cond.instanceMethod yX12_likeliestOf ∈ gw := gw_t (tb9 15 rfl) rfl
theorem imX12_ask : Cond.instanceMethod yX12_ask ∈ gw := gw_t (tb9 18 rfl) rfl
theorem seX12_ask : Cond.selects RX12 yX12_ask yX12_ask ∈ gw := gw_t (tb9 19 rfl) rfl
theorem imX12_liars : Cond.instanceMethod yX12_liars ∈ gw := gw_t (tb9 22 rfl) rfl
theorem seX12_liars : Cond.selects RX12 yX12_liars yX12_liars ∈ gw := gw_t (tb9 23 rfl) rfl
theorem imX12_liarsNow : Cond.instanceMethod yX12_liarsNow ∈ gw := gw_t (tb9 27 rfl) rfl
theorem stX12_sizeOf : Cond.static yX12_sizeOf ∈ gw := gw_t (tb9 30 rfl) rfl
theorem stX12_has : Cond.static yX12_has ∈ gw := gw_t (tb9 33 rfl) rfl
theorem imX12_clashesBut : Cond.instanceMethod yX12_clashesBut ∈ gw := gw_t (tb9 37 rfl) rfl
theorem imX12_liarSet : Cond.instanceMethod yX12_liarSet ∈ gw := gw_t (tb9 40 rfl) rfl
theorem seX12_liarSet : Cond.selects RX12 yX12_liarSet yX12_liarSet ∈ gw := gw_t (tb9 41 rfl) rfl
theorem imX12_clashes : Cond.instanceMethod yX12_clashes ∈ gw := gw_t (tb9 44 rfl) rfl
theorem seX12_clashes : Cond.selects RX12 yX12_clashes yX12_clashes ∈ gw := gw_t (tb9 45 rfl) rfl
theorem imX12_way : Cond.instanceMethod yX12_way ∈ gw := gw_t (tb9 48 rfl) rfl
theorem seX12_way : Cond.selects RX12 yX12_way yX12_way ∈ gw := gw_t (tb9 49 rfl) rfl
theorem imX12_wayCost : Cond.instanceMethod yX12_wayCost ∈ gw := gw_t (tb9 53 rfl) rfl
theorem imX12_laysWay : Cond.instanceMethod yX12_laysWay ∈ gw := gw_t (tb9 57 rfl) rfl
theorem imX12_areBeside : Cond.instanceMethod yX12_areBeside ∈ gw := gw_t (tb9 62 rfl) rfl
theorem stJ9_abs_0f7a4 : Cond.static yJ9_abs_0f7a4 ∈ gw := gw_t (tb9 65 rfl) rfl
theorem imX12_costOf : Cond.instanceMethod yX12_costOf ∈ gw := gw_t (tb9 69 rfl) rfl
theorem imX12_wayLong : Cond.instanceMethod yX12_wayLong ∈ gw := gw_t (tb9 72 rfl) rfl
theorem seX12_wayLong : Cond.selects RX12 yX12_wayLong yX12_wayLong ∈ gw := gw_t (tb9 73 rfl) rfl
theorem imX12_wayAt : Cond.instanceMethod yX12_wayAt ∈ gw := gw_t (tb9 76 rfl) rfl
theorem seX12_wayAt : Cond.selects RX12 yX12_wayAt yX12_wayAt ∈ gw := gw_t (tb9 77 rfl) rfl
theorem imX12_nextOn : Cond.instanceMethod yX12_nextOn ∈ gw := gw_t (tb9 81 rfl) rfl
theorem imX12_comesIn : Cond.instanceMethod yX12_comesIn ∈ gw := gw_t (tb9 84 rfl) rfl
theorem seX12_comesIn : Cond.selects RX12 yX12_comesIn yX12_comesIn ∈ gw := gw_t (tb9 85 rfl) rfl
theorem imX12_sail : Cond.instanceMethod yX12_sail ∈ gw := gw_t (tb9 88 rfl) rfl
theorem seX12_sail : Cond.selects RX12 yX12_sail yX12_sail ∈ gw := gw_t (tb9 89 rfl) rfl
theorem imX12_sails : Cond.instanceMethod yX12_sails ∈ gw := gw_t (tb9 93 rfl) rfl
theorem imX12_plan : Cond.instanceMethod yX12_plan ∈ gw := gw_t (tb9 96 rfl) rfl
theorem seX12_plan : Cond.selects RX12 yX12_plan yX12_plan ∈ gw := gw_t (tb9 97 rfl) rfl
theorem imX12_plans : Cond.instanceMethod yX12_plans ∈ gw := gw_t (tb9 102 rfl) rfl
theorem imX12_whitesWith : Cond.instanceMethod yX12_whitesWith ∈ gw := gw_t (tb9 106 rfl) rfl
theorem imX12_planSet : Cond.instanceMethod yX12_planSet ∈ gw := gw_t (tb9 109 rfl) rfl
theorem seX12_planSet : Cond.selects RX12 yX12_planSet yX12_planSet ∈ gw := gw_t (tb9 110 rfl) rfl
theorem imX12_game : Cond.instanceMethod yX12_game ∈ gw := gw_t (tb9 113 rfl) rfl
theorem seX12_game : Cond.selects RX12 yX12_game yX12_game ∈ gw := gw_t (tb9 114 rfl) rfl
theorem imX12_plays : Cond.instanceMethod yX12_plays ∈ gw := gw_t (tb9 118 rfl) rfl
theorem imX12_moveOf : Cond.instanceMethod yX12_moveOf ∈ gw := gw_t (tb9 121 rfl) rfl
theorem seX12_moveOf : Cond.selects RX12 yX12_moveOf yX12_moveOf ∈ gw := gw_t (tb9 122 rfl) rfl
theorem imX12_swear : Cond.instanceMethod yX12_swear ∈ gw := gw_t (tb9 125 rfl) rfl
theorem seX12_swear : Cond.selects RX12 yX12_swear yX12_swear ∈ gw := gw_t (tb9 126 rfl) rfl
theorem imX12_share : Cond.instanceMethod yX12_share ∈ gw := gw_t (tb9 130 rfl) rfl
theorem seX12_share : Cond.selects RX12 yX12_share yX12_share ∈ gw := gw_t (tb9 131 rfl) rfl
theorem imX12_live : Cond.instanceMethod yX12_live ∈ gw := gw_t (tb9 134 rfl) rfl
theorem seX12_live : Cond.selects RX12 yX12_live yX12_live ∈ gw := gw_t (tb9 135 rfl) rfl
theorem imX12_runsYears : Cond.instanceMethod yX12_runsYears ∈ gw := gw_t (tb9 140 rfl) rfl
theorem imX12_doAll : Cond.instanceMethod yX12_doAll ∈ gw := gw_t (tb9 144 rfl) rfl
theorem imX12_doOne : Cond.instanceMethod yX12_doOne ∈ gw := gw_t (tb9 148 rfl) rfl
theorem imX12_does : Cond.instanceMethod yX12_does ∈ gw := gw_t (tb9 152 rfl) rfl
theorem imX12_isToldOf : Cond.instanceMethod yX12_isToldOf ∈ gw := gw_t (tb9 156 rfl) rfl
theorem imX12_isSailed : Cond.instanceMethod yX12_isSailed ∈ gw := gw_t (tb9 160 rfl) rfl
theorem imX12_isWrecked : Cond.instanceMethod yX12_isWrecked ∈ gw := gw_t (tb9 164 rfl) rfl
theorem imX12_isAny : Cond.instanceMethod yX12_isAny ∈ gw := gw_t (tb9 168 rfl) rfl
theorem imX12_draw : Cond.instanceMethod yX12_draw ∈ gw := gw_t (tb9 172 rfl) rfl
theorem imX12_holds : Cond.instanceMethod yX12_holds ∈ gw := gw_t (tb9 177 rfl) rfl
theorem imX12_lived : Cond.instanceMethod yX12_lived ∈ gw := gw_t (tb9 180 rfl) rfl
theorem seX12_lived : Cond.selects RX12 yX12_lived yX12_lived ∈ gw := gw_t (tb9 181 rfl) rfl
theorem imX12_mean : Cond.instanceMethod yX12_mean ∈ gw := gw_t (tb9 184 rfl) rfl
theorem seX12_mean : Cond.selects RX12 yX12_mean yX12_mean ∈ gw := gw_t (tb9 185 rfl) rfl
theorem imX12_mark : Cond.instanceMethod yX12_mark ∈ gw := gw_t (tb9 189 rfl) rfl
theorem seX12_mark : Cond.selects RX12 yX12_mark yX12_mark ∈ gw := gw_t (tb9 190 rfl) rfl
theorem imX12_back : Cond.instanceMethod yX12_back ∈ gw := gw_t (tb9 193 rfl) rfl
theorem seX12_back : Cond.selects RX12 yX12_back yX12_back ∈ gw := gw_t (tb9 194 rfl) rfl
theorem seX11_denied : Cond.selects RX11 yX11_denied yX11_denied ∈ gw := gw_s (q := (yX11_denied, 19)) (List.mem_append_left _ (List.mem_of_getElem? (i := 0) rfl)) rfl
theorem seX11_done : Cond.selects RX11 yX11_done yX11_done ∈ gw := gw_s (q := (yX11_done, 19)) (List.mem_append_left _ (List.mem_of_getElem? (i := 1) rfl)) rfl
theorem seX11_refused : Cond.selects RX11 yX11_refused yX11_refused ∈ gw := gw_s (q := (yX11_refused, 19)) (List.mem_append_left _ (List.mem_of_getElem? (i := 2) rfl)) rfl
theorem seX8_readWord : Cond.selects RX8 yX8_readWord yX8_readWord ∈ gw := gw_s (q := (yX8_readWord, 11)) (List.mem_append_left _ (List.mem_of_getElem? (i := 3) rfl)) rfl
theorem seX8_readNumber : Cond.selects RX8 yX8_readNumber yX8_readNumber ∈ gw := gw_s (q := (yX8_readNumber, 11)) (List.mem_append_left _ (List.mem_of_getElem? (i := 4) rfl)) rfl
theorem seX4_takePart : Cond.selects RX4 yX4_takePart yX4_takePart ∈ gw := gw_s (q := (yX4_takePart, 2)) (List.mem_append_left _ (List.mem_of_getElem? (i := 5) rfl)) rfl
theorem seX4_takeRow : Cond.selects RX4 yX4_takeRow yX4_takeRow ∈ gw := gw_s (q := (yX4_takeRow, 2)) (List.mem_append_left _ (List.mem_of_getElem? (i := 6) rfl)) rfl
theorem seX4_takeOdds : Cond.selects RX4 yX4_takeOdds yX4_takeOdds ∈ gw := gw_s (q := (yX4_takeOdds, 2)) (List.mem_append_left _ (List.mem_of_getElem? (i := 7) rfl)) rfl
theorem seX4_takeHarbour : Cond.selects RX4 yX4_takeHarbour yX4_takeHarbour ∈ gw := gw_s (q := (yX4_takeHarbour, 2)) (List.mem_append_left _ (List.mem_of_getElem? (i := 8) rfl)) rfl
theorem seX4_takeTraveller : Cond.selects RX4 yX4_takeTraveller yX4_takeTraveller ∈ gw := gw_s (q := (yX4_takeTraveller, 2)) (List.mem_append_left _ (List.mem_of_getElem? (i := 9) rfl)) rfl
theorem seX4_takeTold : Cond.selects RX4 yX4_takeTold yX4_takeTold ∈ gw := gw_s (q := (yX4_takeTold, 2)) (List.mem_append_left _ (List.mem_of_getElem? (i := 10) rfl)) rfl
theorem seX4_takeFeeling : Cond.selects RX4 yX4_takeFeeling yX4_takeFeeling ∈ gw := gw_s (q := (yX4_takeFeeling, 2)) (List.mem_append_left _ (List.mem_of_getElem? (i := 11) rfl)) rfl
theorem seX11_endReading : Cond.selects RX11 yX11_endReading yX11_endReading ∈ gw := gw_s (q := (yX11_endReading, 19)) (List.mem_append_left _ (List.mem_of_getElem? (i := 12) rfl)) rfl
theorem seX11_answer : Cond.selects RX11 yX11_answer yX11_answer ∈ gw := gw_s (q := (yX11_answer, 19)) (List.mem_append_left _ (List.mem_of_getElem? (i := 13) rfl)) rfl
theorem seX10_takeEnd : Cond.selects RX10 yX10_takeEnd yX10_takeEnd ∈ gw := gw_s (q := (yX10_takeEnd, 7)) (List.mem_append_left _ (List.mem_of_getElem? (i := 14) rfl)) rfl
theorem seX0_addLine : Cond.selects RX0 yX0_addLine yX0_addLine ∈ gw := gw_s (q := (yX0_addLine, 8)) (List.mem_append_left _ (List.mem_of_getElem? (i := 15) rfl)) rfl
theorem seX10_takeStep : Cond.selects RX10 yX10_takeStep yX10_takeStep ∈ gw := gw_s (q := (yX10_takeStep, 7)) (List.mem_append_right _ (List.mem_append_left _ (List.mem_of_getElem? (i := 0) rfl))) rfl
theorem seX10_takeTest : Cond.selects RX10 yX10_takeTest yX10_takeTest ∈ gw := gw_s (q := (yX10_takeTest, 7)) (List.mem_append_right _ (List.mem_append_left _ (List.mem_of_getElem? (i := 1) rfl))) rfl
theorem seX10_takeName : Cond.selects RX10 yX10_takeName yX10_takeName ∈ gw := gw_s (q := (yX10_takeName, 7)) (List.mem_append_right _ (List.mem_append_left _ (List.mem_of_getElem? (i := 2) rfl))) rfl
theorem seX10_takeCell : Cond.selects RX10 yX10_takeCell yX10_takeCell ∈ gw := gw_s (q := (yX10_takeCell, 7)) (List.mem_append_right _ (List.mem_append_left _ (List.mem_of_getElem? (i := 3) rfl))) rfl
theorem seX10_takeFeeling : Cond.selects RX10 yX10_takeFeeling yX10_takeFeeling ∈ gw := gw_s (q := (yX10_takeFeeling, 7)) (List.mem_append_right _ (List.mem_append_left _ (List.mem_of_getElem? (i := 4) rfl))) rfl
theorem seX10_takeComparison : Cond.selects RX10 yX10_takeComparison yX10_takeComparison ∈ gw := gw_s (q := (yX10_takeComparison, 7)) (List.mem_append_right _ (List.mem_append_left _ (List.mem_of_getElem? (i := 5) rfl))) rfl
theorem seX10_takeNumber : Cond.selects RX10 yX10_takeNumber yX10_takeNumber ∈ gw := gw_s (q := (yX10_takeNumber, 7)) (List.mem_append_right _ (List.mem_append_left _ (List.mem_of_getElem? (i := 6) rfl))) rfl
theorem seX10_takeRest : Cond.selects RX10 yX10_takeRest yX10_takeRest ∈ gw := gw_s (q := (yX10_takeRest, 7)) (List.mem_append_right _ (List.mem_append_left _ (List.mem_of_getElem? (i := 7) rfl))) rfl
theorem seX11_knownNow : Cond.selects RX11 yX11_knownNow yX11_knownNow ∈ gw := gw_s (q := (yX11_knownNow, 19)) (List.mem_append_right _ (List.mem_append_left _ (List.mem_of_getElem? (i := 8) rfl))) rfl
theorem seX11_toldFraction : Cond.selects RX11 yX11_toldFraction yX11_toldFraction ∈ gw := gw_s (q := (yX11_toldFraction, 19)) (List.mem_append_right _ (List.mem_append_left _ (List.mem_of_getElem? (i := 9) rfl))) rfl
theorem seX11_whyNoWay : Cond.selects RX11 yX11_whyNoWay yX11_whyNoWay ∈ gw := gw_s (q := (yX11_whyNoWay, 19)) (List.mem_append_right _ (List.mem_append_left _ (List.mem_of_getElem? (i := 10) rfl))) rfl
theorem seX6_lowerCosts : Cond.selects RX6 yX6_lowerCosts yX6_lowerCosts ∈ gw := gw_s (q := (yX6_lowerCosts, 6)) (List.mem_append_right _ (List.mem_append_left _ (List.mem_of_getElem? (i := 11) rfl))) rfl
theorem seX6_neighbour : Cond.selects RX6 yX6_neighbour yX6_neighbour ∈ gw := gw_s (q := (yX6_neighbour, 6)) (List.mem_append_right _ (List.mem_append_left _ (List.mem_of_getElem? (i := 12) rfl))) rfl
theorem seX6_follow : Cond.selects RX6 yX6_follow yX6_follow ∈ gw := gw_s (q := (yX6_follow, 6)) (List.mem_append_right _ (List.mem_append_left _ (List.mem_of_getElem? (i := 13) rfl))) rfl
theorem seX2_bestCredit : Cond.selects RX2 yX2_bestCredit yX2_bestCredit ∈ gw := gw_s (q := (yX2_bestCredit, 2)) (List.mem_append_right _ (List.mem_append_left _ (List.mem_of_getElem? (i := 14) rfl))) rfl
theorem seX2_creditOfMove : Cond.selects RX2 yX2_creditOfMove yX2_creditOfMove ∈ gw := gw_s (q := (yX2_creditOfMove, 2)) (List.mem_append_right _ (List.mem_append_left _ (List.mem_of_getElem? (i := 15) rfl))) rfl
theorem seX5_behindEnd : Cond.selects RX5 yX5_behindEnd yX5_behindEnd ∈ gw := gw_s (q := (yX5_behindEnd, 7)) (List.mem_append_right _ (List.mem_append_right _ (List.mem_append_left _ (List.mem_of_getElem? (i := 0) rfl)))) rfl
theorem seX5_behindStep : Cond.selects RX5 yX5_behindStep yX5_behindStep ∈ gw := gw_s (q := (yX5_behindStep, 7)) (List.mem_append_right _ (List.mem_append_right _ (List.mem_append_left _ (List.mem_of_getElem? (i := 1) rfl)))) rfl
theorem seX5_count : Cond.selects RX5 yX5_count yX5_count ∈ gw := gw_s (q := (yX5_count, 7)) (List.mem_append_right _ (List.mem_append_right _ (List.mem_append_left _ (List.mem_of_getElem? (i := 2) rfl)))) rfl
theorem seX5_countTelling : Cond.selects RX5 yX5_countTelling yX5_countTelling ∈ gw := gw_s (q := (yX5_countTelling, 7)) (List.mem_append_right _ (List.mem_append_right _ (List.mem_append_left _ (List.mem_of_getElem? (i := 3) rfl)))) rfl
theorem seX5_sailTo : Cond.selects RX5 yX5_sailTo yX5_sailTo ∈ gw := gw_s (q := (yX5_sailTo, 7)) (List.mem_append_right _ (List.mem_append_right _ (List.mem_append_left _ (List.mem_of_getElem? (i := 4) rfl)))) rfl
theorem seX5_anyTells : Cond.selects RX5 yX5_anyTells yX5_anyTells ∈ gw := gw_s (q := (yX5_anyTells, 7)) (List.mem_append_right _ (List.mem_append_right _ (List.mem_append_left _ (List.mem_of_getElem? (i := 5) rfl)))) rfl
theorem seX5_draw : Cond.selects RX5 yX5_draw yX5_draw ∈ gw := gw_s (q := (yX5_draw, 7)) (List.mem_append_right _ (List.mem_append_right _ (List.mem_append_left _ (List.mem_of_getElem? (i := 6) rfl)))) rfl
theorem seX5_holds : Cond.selects RX5 yX5_holds yX5_holds ∈ gw := gw_s (q := (yX5_holds, 7)) (List.mem_append_right _ (List.mem_append_right _ (List.mem_append_left _ (List.mem_of_getElem? (i := 7) rfl)))) rfl
theorem seX12_empties : Cond.selects RX12 yX12_empties yX12_empties ∈ gw := gw_s (q := (yX12_empties, 42)) (List.mem_append_right _ (List.mem_append_right _ (List.mem_append_left _ (List.mem_of_getElem? (i := 8) rfl)))) rfl
theorem seX12_no : Cond.selects RX12 yX12_no yX12_no ∈ gw := gw_s (q := (yX12_no, 42)) (List.mem_append_right _ (List.mem_append_right _ (List.mem_append_left _ (List.mem_of_getElem? (i := 9) rfl)))) rfl
theorem seX12_placed : Cond.selects RX12 yX12_placed yX12_placed ∈ gw := gw_s (q := (yX12_placed, 42)) (List.mem_append_right _ (List.mem_append_right _ (List.mem_append_left _ (List.mem_of_getElem? (i := 10) rfl)))) rfl
theorem seX12_trayed : Cond.selects RX12 yX12_trayed yX12_trayed ∈ gw := gw_s (q := (yX12_trayed, 42)) (List.mem_append_right _ (List.mem_append_right _ (List.mem_append_left _ (List.mem_of_getElem? (i := 11) rfl)))) rfl
theorem seX12_lay : Cond.selects RX12 yX12_lay yX12_lay ∈ gw := gw_s (q := (yX12_lay, 42)) (List.mem_append_right _ (List.mem_append_right _ (List.mem_append_left _ (List.mem_of_getElem? (i := 12) rfl)))) rfl
theorem seX12_starts : Cond.selects RX12 yX12_starts yX12_starts ∈ gw := gw_s (q := (yX12_starts, 42)) (List.mem_append_right _ (List.mem_append_right _ (List.mem_append_left _ (List.mem_of_getElem? (i := 13) rfl)))) rfl
theorem seX12_advance : Cond.selects RX12 yX12_advance yX12_advance ∈ gw := gw_s (q := (yX12_advance, 42)) (List.mem_append_right _ (List.mem_append_right _ (List.mem_append_left _ (List.mem_of_getElem? (i := 14) rfl)))) rfl
theorem seX12_look2 : Cond.selects RX12 yX12_look2 yX12_look2 ∈ gw := gw_s (q := (yX12_look2, 42)) (List.mem_append_right _ (List.mem_append_right _ (List.mem_append_left _ (List.mem_of_getElem? (i := 15) rfl)))) rfl
theorem seX12_isSignByte : Cond.selects RX12 yX12_isSignByte yX12_isSignByte ∈ gw := gw_s (q := (yX12_isSignByte, 42)) (List.mem_append_right _ (List.mem_append_right _ (List.mem_append_right _ (List.mem_append_left _ (List.mem_of_getElem? (i := 0) rfl))))) rfl
theorem seX12_readPart : Cond.selects RX12 yX12_readPart yX12_readPart ∈ gw := gw_s (q := (yX12_readPart, 42)) (List.mem_append_right _ (List.mem_append_right _ (List.mem_append_right _ (List.mem_append_left _ (List.mem_of_getElem? (i := 1) rfl))))) rfl
theorem seX12_isRow : Cond.selects RX12 yX12_isRow yX12_isRow ∈ gw := gw_s (q := (yX12_isRow, 42)) (List.mem_append_right _ (List.mem_append_right _ (List.mem_append_right _ (List.mem_append_left _ (List.mem_of_getElem? (i := 2) rfl))))) rfl
theorem seX12_isWord : Cond.selects RX12 yX12_isWord yX12_isWord ∈ gw := gw_s (q := (yX12_isWord, 42)) (List.mem_append_right _ (List.mem_append_right _ (List.mem_append_right _ (List.mem_append_left _ (List.mem_of_getElem? (i := 3) rfl))))) rfl
theorem seX12_readRow : Cond.selects RX12 yX12_readRow yX12_readRow ∈ gw := gw_s (q := (yX12_readRow, 42)) (List.mem_append_right _ (List.mem_append_right _ (List.mem_append_right _ (List.mem_append_left _ (List.mem_of_getElem? (i := 4) rfl))))) rfl
theorem seX12_fail : Cond.selects RX12 yX12_fail yX12_fail ∈ gw := gw_s (q := (yX12_fail, 42)) (List.mem_append_right _ (List.mem_append_right _ (List.mem_append_right _ (List.mem_append_left _ (List.mem_of_getElem? (i := 5) rfl))))) rfl
theorem seX12_must : Cond.selects RX12 yX12_must yX12_must ∈ gw := gw_s (q := (yX12_must, 42)) (List.mem_append_right _ (List.mem_append_right _ (List.mem_append_right _ (List.mem_append_left _ (List.mem_of_getElem? (i := 6) rfl))))) rfl
theorem seX12_amiss : Cond.selects RX12 yX12_amiss yX12_amiss ∈ gw := gw_s (q := (yX12_amiss, 42)) (List.mem_append_right _ (List.mem_append_right _ (List.mem_append_right _ (List.mem_append_left _ (List.mem_of_getElem? (i := 7) rfl))))) rfl
theorem seX12_areCells : Cond.selects RX12 yX12_areCells yX12_areCells ∈ gw := gw_s (q := (yX12_areCells, 42)) (List.mem_append_right _ (List.mem_append_right _ (List.mem_append_right _ (List.mem_append_left _ (List.mem_of_getElem? (i := 8) rfl))))) rfl
theorem seX12_isOdds : Cond.selects RX12 yX12_isOdds yX12_isOdds ∈ gw := gw_s (q := (yX12_isOdds, 42)) (List.mem_append_right _ (List.mem_append_right _ (List.mem_append_right _ (List.mem_append_left _ (List.mem_of_getElem? (i := 9) rfl))))) rfl
theorem seX12_readOdds : Cond.selects RX12 yX12_readOdds yX12_readOdds ∈ gw := gw_s (q := (yX12_readOdds, 42)) (List.mem_append_right _ (List.mem_append_right _ (List.mem_append_right _ (List.mem_append_left _ (List.mem_of_getElem? (i := 10) rfl))))) rfl
theorem seX12_count : Cond.selects RX12 yX12_count yX12_count ∈ gw := gw_s (q := (yX12_count, 42)) (List.mem_append_right _ (List.mem_append_right _ (List.mem_append_right _ (List.mem_append_left _ (List.mem_of_getElem? (i := 11) rfl))))) rfl
theorem seX12_isHarbour : Cond.selects RX12 yX12_isHarbour yX12_isHarbour ∈ gw := gw_s (q := (yX12_isHarbour, 42)) (List.mem_append_right _ (List.mem_append_right _ (List.mem_append_right _ (List.mem_append_left _ (List.mem_of_getElem? (i := 12) rfl))))) rfl
theorem seX12_readHarbour : Cond.selects RX12 yX12_readHarbour yX12_readHarbour ∈ gw := gw_s (q := (yX12_readHarbour, 42)) (List.mem_append_right _ (List.mem_append_right _ (List.mem_append_right _ (List.mem_append_left _ (List.mem_of_getElem? (i := 13) rfl))))) rfl
theorem seX12_cellHere : Cond.selects RX12 yX12_cellHere yX12_cellHere ∈ gw := gw_s (q := (yX12_cellHere, 42)) (List.mem_append_right _ (List.mem_append_right _ (List.mem_append_right _ (List.mem_append_left _ (List.mem_of_getElem? (i := 14) rfl))))) rfl
theorem seX12_readCell : Cond.selects RX12 yX12_readCell yX12_readCell ∈ gw := gw_s (q := (yX12_readCell, 42)) (List.mem_append_right _ (List.mem_append_right _ (List.mem_append_right _ (List.mem_append_left _ (List.mem_of_getElem? (i := 15) rfl))))) rfl
theorem seX12_isTraveller : Cond.selects RX12 yX12_isTraveller yX12_isTraveller ∈ gw := gw_s (q := (yX12_isTraveller, 42)) (List.mem_append_right _ (List.mem_append_right _ (List.mem_append_right _ (List.mem_append_right _ (List.mem_append_left _ (List.mem_of_getElem? (i := 0) rfl)))))) rfl
theorem seX12_readNew : Cond.selects RX12 yX12_readNew yX12_readNew ∈ gw := gw_s (q := (yX12_readNew, 42)) (List.mem_append_right _ (List.mem_append_right _ (List.mem_append_right _ (List.mem_append_right _ (List.mem_append_left _ (List.mem_of_getElem? (i := 1) rfl)))))) rfl
theorem seX12_isName : Cond.selects RX12 yX12_isName yX12_isName ∈ gw := gw_s (q := (yX12_isName, 42)) (List.mem_append_right _ (List.mem_append_right _ (List.mem_append_right _ (List.mem_append_right _ (List.mem_append_left _ (List.mem_of_getElem? (i := 2) rfl)))))) rfl
theorem seX12_isKept : Cond.selects RX12 yX12_isKept yX12_isKept ∈ gw := gw_s (q := (yX12_isKept, 42)) (List.mem_append_right _ (List.mem_append_right _ (List.mem_append_right _ (List.mem_append_right _ (List.mem_append_left _ (List.mem_of_getElem? (i := 3) rfl)))))) rfl
theorem seX12_isLies : Cond.selects RX12 yX12_isLies yX12_isLies ∈ gw := gw_s (q := (yX12_isLies, 42)) (List.mem_append_right _ (List.mem_append_right _ (List.mem_append_right _ (List.mem_append_right _ (List.mem_append_left _ (List.mem_of_getElem? (i := 4) rfl)))))) rfl
theorem seX12_isMissed : Cond.selects RX12 yX12_isMissed yX12_isMissed ∈ gw := gw_s (q := (yX12_isMissed, 42)) (List.mem_append_right _ (List.mem_append_right _ (List.mem_append_right _ (List.mem_append_right _ (List.mem_append_left _ (List.mem_of_getElem? (i := 5) rfl)))))) rfl
theorem seX12_feelingWord : Cond.selects RX12 yX12_feelingWord yX12_feelingWord ∈ gw := gw_s (q := (yX12_feelingWord, 42)) (List.mem_append_right _ (List.mem_append_right _ (List.mem_append_right _ (List.mem_append_right _ (List.mem_append_left _ (List.mem_of_getElem? (i := 6) rfl)))))) rfl
theorem seX12_stepWord : Cond.selects RX12 yX12_stepWord yX12_stepWord ∈ gw := gw_s (q := (yX12_stepWord, 42)) (List.mem_append_right _ (List.mem_append_right _ (List.mem_append_right _ (List.mem_append_right _ (List.mem_append_left _ (List.mem_of_getElem? (i := 7) rfl)))))) rfl
theorem seX12_isTold : Cond.selects RX12 yX12_isTold yX12_isTold ∈ gw := gw_s (q := (yX12_isTold, 42)) (List.mem_append_right _ (List.mem_append_right _ (List.mem_append_right _ (List.mem_append_right _ (List.mem_append_left _ (List.mem_of_getElem? (i := 8) rfl)))))) rfl
theorem seX12_testWord : Cond.selects RX12 yX12_testWord yX12_testWord ∈ gw := gw_s (q := (yX12_testWord, 42)) (List.mem_append_right _ (List.mem_append_right _ (List.mem_append_right _ (List.mem_append_right _ (List.mem_append_left _ (List.mem_of_getElem? (i := 9) rfl)))))) rfl
theorem seX12_isHeard : Cond.selects RX12 yX12_isHeard yX12_isHeard ∈ gw := gw_s (q := (yX12_isHeard, 42)) (List.mem_append_right _ (List.mem_append_right _ (List.mem_append_right _ (List.mem_append_right _ (List.mem_append_left _ (List.mem_of_getElem? (i := 10) rfl)))))) rfl
theorem seX12_isEnd : Cond.selects RX12 yX12_isEnd yX12_isEnd ∈ gw := gw_s (q := (yX12_isEnd, 42)) (List.mem_append_right _ (List.mem_append_right _ (List.mem_append_right _ (List.mem_append_right _ (List.mem_append_left _ (List.mem_of_getElem? (i := 11) rfl)))))) rfl
theorem seX12_named : Cond.selects RX12 yX12_named yX12_named ∈ gw := gw_s (q := (yX12_named, 42)) (List.mem_append_right _ (List.mem_append_right _ (List.mem_append_right _ (List.mem_append_right _ (List.mem_append_left _ (List.mem_of_getElem? (i := 12) rfl)))))) rfl
theorem seX12_perhaps : Cond.selects RX12 yX12_perhaps yX12_perhaps ∈ gw := gw_s (q := (yX12_perhaps, 42)) (List.mem_append_right _ (List.mem_append_right _ (List.mem_append_right _ (List.mem_append_right _ (List.mem_append_left _ (List.mem_of_getElem? (i := 13) rfl)))))) rfl
theorem seX12_readTelling : Cond.selects RX12 yX12_readTelling yX12_readTelling ∈ gw := gw_s (q := (yX12_readTelling, 42)) (List.mem_append_right _ (List.mem_append_right _ (List.mem_append_right _ (List.mem_append_right _ (List.mem_append_left _ (List.mem_of_getElem? (i := 14) rfl)))))) rfl
theorem seX12_readTraveller : Cond.selects RX12 yX12_readTraveller yX12_readTraveller ∈ gw := gw_s (q := (yX12_readTraveller, 42)) (List.mem_append_right _ (List.mem_append_right _ (List.mem_append_right _ (List.mem_append_right _ (List.mem_append_left _ (List.mem_of_getElem? (i := 15) rfl)))))) rfl
theorem seX12_tellingsOf : Cond.selects RX12 yX12_tellingsOf yX12_tellingsOf ∈ gw := gw_s (q := (yX12_tellingsOf, 42)) (List.mem_append_right _ (List.mem_append_right _ (List.mem_append_right _ (List.mem_append_right _ (List.mem_append_right _ (List.mem_append_left _ (List.mem_of_getElem? (i := 0) rfl))))))) rfl
theorem seX12_readFeeling : Cond.selects RX12 yX12_readFeeling yX12_readFeeling ∈ gw := gw_s (q := (yX12_readFeeling, 42)) (List.mem_append_right _ (List.mem_append_right _ (List.mem_append_right _ (List.mem_append_right _ (List.mem_append_right _ (List.mem_append_left _ (List.mem_of_getElem? (i := 1) rfl))))))) rfl
theorem seX12_tells : Cond.selects RX12 yX12_tells yX12_tells ∈ gw := gw_s (q := (yX12_tells, 42)) (List.mem_append_right _ (List.mem_append_right _ (List.mem_append_right _ (List.mem_append_right _ (List.mem_append_right _ (List.mem_append_left _ (List.mem_of_getElem? (i := 2) rfl))))))) rfl
theorem seX12_isSign : Cond.selects RX12 yX12_isSign yX12_isSign ∈ gw := gw_s (q := (yX12_isSign, 42)) (List.mem_append_right _ (List.mem_append_right _ (List.mem_append_right _ (List.mem_append_right _ (List.mem_append_right _ (List.mem_append_left _ (List.mem_of_getElem? (i := 3) rfl))))))) rfl
theorem seX12_isWell : Cond.selects RX12 yX12_isWell yX12_isWell ∈ gw := gw_s (q := (yX12_isWell, 42)) (List.mem_append_right _ (List.mem_append_right _ (List.mem_append_right _ (List.mem_append_right _ (List.mem_append_right _ (List.mem_append_left _ (List.mem_of_getElem? (i := 4) rfl))))))) rfl
theorem seX12_copy : Cond.selects RX12 yX12_copy yX12_copy ∈ gw := gw_s (q := (yX12_copy, 42)) (List.mem_append_right _ (List.mem_append_right _ (List.mem_append_right _ (List.mem_append_right _ (List.mem_append_right _ (List.mem_append_left _ (List.mem_of_getElem? (i := 5) rfl))))))) rfl
theorem seX12_cells : Cond.selects RX12 yX12_cells yX12_cells ∈ gw := gw_s (q := (yX12_cells, 42)) (List.mem_append_right _ (List.mem_append_right _ (List.mem_append_right _ (List.mem_append_right _ (List.mem_append_right _ (List.mem_append_left _ (List.mem_of_getElem? (i := 6) rfl))))))) rfl
theorem seX12_readStep : Cond.selects RX12 yX12_readStep yX12_readStep ∈ gw := gw_s (q := (yX12_readStep, 42)) (List.mem_append_right _ (List.mem_append_right _ (List.mem_append_right _ (List.mem_append_right _ (List.mem_append_right _ (List.mem_append_left _ (List.mem_of_getElem? (i := 7) rfl))))))) rfl
theorem seX12_readRest : Cond.selects RX12 yX12_readRest yX12_readRest ∈ gw := gw_s (q := (yX12_readRest, 42)) (List.mem_append_right _ (List.mem_append_right _ (List.mem_append_right _ (List.mem_append_right _ (List.mem_append_right _ (List.mem_append_left _ (List.mem_of_getElem? (i := 8) rfl))))))) rfl
theorem seX12_readTest : Cond.selects RX12 yX12_readTest yX12_readTest ∈ gw := gw_s (q := (yX12_readTest, 42)) (List.mem_append_right _ (List.mem_append_right _ (List.mem_append_right _ (List.mem_append_right _ (List.mem_append_right _ (List.mem_append_left _ (List.mem_of_getElem? (i := 9) rfl))))))) rfl
theorem seX12_refuse : Cond.selects RX12 yX12_refuse yX12_refuse ∈ gw := gw_s (q := (yX12_refuse, 42)) (List.mem_append_right _ (List.mem_append_right _ (List.mem_append_right _ (List.mem_append_right _ (List.mem_append_right _ (List.mem_append_left _ (List.mem_of_getElem? (i := 10) rfl))))))) rfl
theorem seX12_heardOnes : Cond.selects RX12 yX12_heardOnes yX12_heardOnes ∈ gw := gw_s (q := (yX12_heardOnes, 42)) (List.mem_append_right _ (List.mem_append_right _ (List.mem_append_right _ (List.mem_append_right _ (List.mem_append_right _ (List.mem_append_left _ (List.mem_of_getElem? (i := 11) rfl))))))) rfl
theorem seX12_whites : Cond.selects RX12 yX12_whites yX12_whites ∈ gw := gw_s (q := (yX12_whites, 42)) (List.mem_append_right _ (List.mem_append_right _ (List.mem_append_right _ (List.mem_append_right _ (List.mem_append_right _ (List.mem_append_left _ (List.mem_of_getElem? (i := 12) rfl))))))) rfl
theorem seX12_drawn : Cond.selects RX12 yX12_drawn yX12_drawn ∈ gw := gw_s (q := (yX12_drawn, 42)) (List.mem_append_right _ (List.mem_append_right _ (List.mem_append_right _ (List.mem_append_right _ (List.mem_append_right _ (List.mem_append_left _ (List.mem_of_getElem? (i := 13) rfl))))))) rfl
theorem seX12_votesOf : Cond.selects RX12 yX12_votesOf yX12_votesOf ∈ gw := gw_s (q := (yX12_votesOf, 42)) (List.mem_append_right _ (List.mem_append_right _ (List.mem_append_right _ (List.mem_append_right _ (List.mem_append_right _ (List.mem_append_left _ (List.mem_of_getElem? (i := 14) rfl))))))) rfl
theorem seX12_rights : Cond.selects RX12 yX12_rights yX12_rights ∈ gw := gw_s (q := (yX12_rights, 42)) (List.mem_append_right _ (List.mem_append_right _ (List.mem_append_right _ (List.mem_append_right _ (List.mem_append_right _ (List.mem_append_left _ (List.mem_of_getElem? (i := 15) rfl))))))) rfl
theorem seX12_isCell : Cond.selects RX12 yX12_isCell yX12_isCell ∈ gw := gw_s (q := (yX12_isCell, 42)) (List.mem_append_right _ (List.mem_append_right _ (List.mem_append_right _ (List.mem_append_right _ (List.mem_append_right _ (List.mem_append_right _ (List.mem_append_left _ (List.mem_of_getElem? (i := 0) rfl)))))))) rfl
theorem seX12_riskOf : Cond.selects RX12 yX12_riskOf yX12_riskOf ∈ gw := gw_s (q := (yX12_riskOf, 42)) (List.mem_append_right _ (List.mem_append_right _ (List.mem_append_right _ (List.mem_append_right _ (List.mem_append_right _ (List.mem_append_right _ (List.mem_append_left _ (List.mem_of_getElem? (i := 1) rfl)))))))) rfl
theorem seX12_sizeAt : Cond.selects RX12 yX12_sizeAt yX12_sizeAt ∈ gw := gw_s (q := (yX12_sizeAt, 42)) (List.mem_append_right _ (List.mem_append_right _ (List.mem_append_right _ (List.mem_append_right _ (List.mem_append_right _ (List.mem_append_right _ (List.mem_append_left _ (List.mem_of_getElem? (i := 2) rfl)))))))) rfl
theorem seX12_isKind : Cond.selects RX12 yX12_isKind yX12_isKind ∈ gw := gw_s (q := (yX12_isKind, 42)) (List.mem_append_right _ (List.mem_append_right _ (List.mem_append_right _ (List.mem_append_right _ (List.mem_append_right _ (List.mem_append_right _ (List.mem_append_left _ (List.mem_of_getElem? (i := 3) rfl)))))))) rfl
theorem seX12_isTravellerAt : Cond.selects RX12 yX12_isTravellerAt yX12_isTravellerAt ∈ gw := gw_s (q := (yX12_isTravellerAt, 42)) (List.mem_append_right _ (List.mem_append_right _ (List.mem_append_right _ (List.mem_append_right _ (List.mem_append_right _ (List.mem_append_right _ (List.mem_append_left _ (List.mem_of_getElem? (i := 4) rfl)))))))) rfl
theorem seX12_told : Cond.selects RX12 yX12_told yX12_told ∈ gw := gw_s (q := (yX12_told, 42)) (List.mem_append_right _ (List.mem_append_right _ (List.mem_append_right _ (List.mem_append_right _ (List.mem_append_right _ (List.mem_append_right _ (List.mem_append_left _ (List.mem_of_getElem? (i := 5) rfl)))))))) rfl
theorem seX12_isTray : Cond.selects RX12 yX12_isTray yX12_isTray ∈ gw := gw_s (q := (yX12_isTray, 42)) (List.mem_append_right _ (List.mem_append_right _ (List.mem_append_right _ (List.mem_append_right _ (List.mem_append_right _ (List.mem_append_right _ (List.mem_append_left _ (List.mem_of_getElem? (i := 6) rfl)))))))) rfl
theorem seX12_hearing : Cond.selects RX12 yX12_hearing yX12_hearing ∈ gw := gw_s (q := (yX12_hearing, 42)) (List.mem_append_right _ (List.mem_append_right _ (List.mem_append_right _ (List.mem_append_right _ (List.mem_append_right _ (List.mem_append_right _ (List.mem_append_left _ (List.mem_of_getElem? (i := 7) rfl)))))))) rfl
theorem seX12_hears : Cond.selects RX12 yX12_hears yX12_hears ∈ gw := gw_s (q := (yX12_hears, 42)) (List.mem_append_right _ (List.mem_append_right _ (List.mem_append_right _ (List.mem_append_right _ (List.mem_append_right _ (List.mem_append_right _ (List.mem_append_left _ (List.mem_of_getElem? (i := 8) rfl)))))))) rfl
theorem seX12_knowns : Cond.selects RX12 yX12_knowns yX12_knowns ∈ gw := gw_s (q := (yX12_knowns, 42)) (List.mem_append_right _ (List.mem_append_right _ (List.mem_append_right _ (List.mem_append_right _ (List.mem_append_right _ (List.mem_append_right _ (List.mem_append_left _ (List.mem_of_getElem? (i := 9) rfl)))))))) rfl
theorem seX12_canTell : Cond.selects RX12 yX12_canTell yX12_canTell ∈ gw := gw_s (q := (yX12_canTell, 42)) (List.mem_append_right _ (List.mem_append_right _ (List.mem_append_right _ (List.mem_append_right _ (List.mem_append_right _ (List.mem_append_right _ (List.mem_append_left _ (List.mem_of_getElem? (i := 10) rfl)))))))) rfl
theorem seX12_becomes : Cond.selects RX12 yX12_becomes yX12_becomes ∈ gw := gw_s (q := (yX12_becomes, 42)) (List.mem_append_right _ (List.mem_append_right _ (List.mem_append_right _ (List.mem_append_right _ (List.mem_append_right _ (List.mem_append_right _ (List.mem_append_left _ (List.mem_of_getElem? (i := 11) rfl)))))))) rfl
theorem seX12_likelyAll : Cond.selects RX12 yX12_likelyAll yX12_likelyAll ∈ gw := gw_s (q := (yX12_likelyAll, 42)) (List.mem_append_right _ (List.mem_append_right _ (List.mem_append_right _ (List.mem_append_right _ (List.mem_append_right _ (List.mem_append_right _ (List.mem_append_left _ (List.mem_of_getElem? (i := 12) rfl)))))))) rfl
theorem seX12_likely : Cond.selects RX12 yX12_likely yX12_likely ∈ gw := gw_s (q := (yX12_likely, 42)) (List.mem_append_right _ (List.mem_append_right _ (List.mem_append_right _ (List.mem_append_right _ (List.mem_append_right _ (List.mem_append_right _ (List.mem_append_left _ (List.mem_of_getElem? (i := 13) rfl)))))))) rfl
theorem seX12_fraction : Cond.selects RX12 yX12_fraction yX12_fraction ∈ gw := gw_s (q := (yX12_fraction, 42)) (List.mem_append_right _ (List.mem_append_right _ (List.mem_append_right _ (List.mem_append_right _ (List.mem_append_right _ (List.mem_append_right _ (List.mem_append_left _ (List.mem_of_getElem? (i := 14) rfl)))))))) rfl
theorem seX12_likeliestOf : Cond.selects RX12 yX12_likeliestOf yX12_likeliestOf ∈ gw := gw_s (q := (yX12_likeliestOf, 42)) (List.mem_append_right _ (List.mem_append_right _ (List.mem_append_right _ (List.mem_append_right _ (List.mem_append_right _ (List.mem_append_right _ (List.mem_append_left _ (List.mem_of_getElem? (i := 15) rfl)))))))) rfl
theorem seX12_liarsNow : Cond.selects RX12 yX12_liarsNow yX12_liarsNow ∈ gw := gw_s (q := (yX12_liarsNow, 42)) (List.mem_append_right _ (List.mem_append_right _ (List.mem_append_right _ (List.mem_append_right _ (List.mem_append_right _ (List.mem_append_right _ (List.mem_append_right _ (List.mem_append_left _ (List.mem_of_getElem? (i := 0) rfl))))))))) rfl
theorem seX12_clashesBut : Cond.selects RX12 yX12_clashesBut yX12_clashesBut ∈ gw := gw_s (q := (yX12_clashesBut, 42)) (List.mem_append_right _ (List.mem_append_right _ (List.mem_append_right _ (List.mem_append_right _ (List.mem_append_right _ (List.mem_append_right _ (List.mem_append_right _ (List.mem_append_left _ (List.mem_of_getElem? (i := 1) rfl))))))))) rfl
theorem seX12_wayCost : Cond.selects RX12 yX12_wayCost yX12_wayCost ∈ gw := gw_s (q := (yX12_wayCost, 42)) (List.mem_append_right _ (List.mem_append_right _ (List.mem_append_right _ (List.mem_append_right _ (List.mem_append_right _ (List.mem_append_right _ (List.mem_append_right _ (List.mem_append_left _ (List.mem_of_getElem? (i := 2) rfl))))))))) rfl
theorem seX12_laysWay : Cond.selects RX12 yX12_laysWay yX12_laysWay ∈ gw := gw_s (q := (yX12_laysWay, 42)) (List.mem_append_right _ (List.mem_append_right _ (List.mem_append_right _ (List.mem_append_right _ (List.mem_append_right _ (List.mem_append_right _ (List.mem_append_right _ (List.mem_append_left _ (List.mem_of_getElem? (i := 3) rfl))))))))) rfl
theorem seX12_areBeside : Cond.selects RX12 yX12_areBeside yX12_areBeside ∈ gw := gw_s (q := (yX12_areBeside, 42)) (List.mem_append_right _ (List.mem_append_right _ (List.mem_append_right _ (List.mem_append_right _ (List.mem_append_right _ (List.mem_append_right _ (List.mem_append_right _ (List.mem_append_left _ (List.mem_of_getElem? (i := 4) rfl))))))))) rfl
theorem seX12_costOf : Cond.selects RX12 yX12_costOf yX12_costOf ∈ gw := gw_s (q := (yX12_costOf, 42)) (List.mem_append_right _ (List.mem_append_right _ (List.mem_append_right _ (List.mem_append_right _ (List.mem_append_right _ (List.mem_append_right _ (List.mem_append_right _ (List.mem_append_left _ (List.mem_of_getElem? (i := 5) rfl))))))))) rfl
theorem seX12_nextOn : Cond.selects RX12 yX12_nextOn yX12_nextOn ∈ gw := gw_s (q := (yX12_nextOn, 42)) (List.mem_append_right _ (List.mem_append_right _ (List.mem_append_right _ (List.mem_append_right _ (List.mem_append_right _ (List.mem_append_right _ (List.mem_append_right _ (List.mem_append_left _ (List.mem_of_getElem? (i := 6) rfl))))))))) rfl
theorem seX12_sails : Cond.selects RX12 yX12_sails yX12_sails ∈ gw := gw_s (q := (yX12_sails, 42)) (List.mem_append_right _ (List.mem_append_right _ (List.mem_append_right _ (List.mem_append_right _ (List.mem_append_right _ (List.mem_append_right _ (List.mem_append_right _ (List.mem_append_left _ (List.mem_of_getElem? (i := 7) rfl))))))))) rfl
theorem seX12_plans : Cond.selects RX12 yX12_plans yX12_plans ∈ gw := gw_s (q := (yX12_plans, 42)) (List.mem_append_right _ (List.mem_append_right _ (List.mem_append_right _ (List.mem_append_right _ (List.mem_append_right _ (List.mem_append_right _ (List.mem_append_right _ (List.mem_append_left _ (List.mem_of_getElem? (i := 8) rfl))))))))) rfl
theorem seX12_whitesWith : Cond.selects RX12 yX12_whitesWith yX12_whitesWith ∈ gw := gw_s (q := (yX12_whitesWith, 42)) (List.mem_append_right _ (List.mem_append_right _ (List.mem_append_right _ (List.mem_append_right _ (List.mem_append_right _ (List.mem_append_right _ (List.mem_append_right _ (List.mem_append_left _ (List.mem_of_getElem? (i := 9) rfl))))))))) rfl
theorem seX12_plays : Cond.selects RX12 yX12_plays yX12_plays ∈ gw := gw_s (q := (yX12_plays, 42)) (List.mem_append_right _ (List.mem_append_right _ (List.mem_append_right _ (List.mem_append_right _ (List.mem_append_right _ (List.mem_append_right _ (List.mem_append_right _ (List.mem_append_left _ (List.mem_of_getElem? (i := 10) rfl))))))))) rfl
theorem seX12_runsYears : Cond.selects RX12 yX12_runsYears yX12_runsYears ∈ gw := gw_s (q := (yX12_runsYears, 42)) (List.mem_append_right _ (List.mem_append_right _ (List.mem_append_right _ (List.mem_append_right _ (List.mem_append_right _ (List.mem_append_right _ (List.mem_append_right _ (List.mem_append_left _ (List.mem_of_getElem? (i := 11) rfl))))))))) rfl
theorem seX12_doAll : Cond.selects RX12 yX12_doAll yX12_doAll ∈ gw := gw_s (q := (yX12_doAll, 42)) (List.mem_append_right _ (List.mem_append_right _ (List.mem_append_right _ (List.mem_append_right _ (List.mem_append_right _ (List.mem_append_right _ (List.mem_append_right _ (List.mem_append_left _ (List.mem_of_getElem? (i := 12) rfl))))))))) rfl
theorem seX12_doOne : Cond.selects RX12 yX12_doOne yX12_doOne ∈ gw := gw_s (q := (yX12_doOne, 42)) (List.mem_append_right _ (List.mem_append_right _ (List.mem_append_right _ (List.mem_append_right _ (List.mem_append_right _ (List.mem_append_right _ (List.mem_append_right _ (List.mem_append_left _ (List.mem_of_getElem? (i := 13) rfl))))))))) rfl
theorem seX12_does : Cond.selects RX12 yX12_does yX12_does ∈ gw := gw_s (q := (yX12_does, 42)) (List.mem_append_right _ (List.mem_append_right _ (List.mem_append_right _ (List.mem_append_right _ (List.mem_append_right _ (List.mem_append_right _ (List.mem_append_right _ (List.mem_append_left _ (List.mem_of_getElem? (i := 14) rfl))))))))) rfl
theorem seX12_isToldOf : Cond.selects RX12 yX12_isToldOf yX12_isToldOf ∈ gw := gw_s (q := (yX12_isToldOf, 42)) (List.mem_append_right _ (List.mem_append_right _ (List.mem_append_right _ (List.mem_append_right _ (List.mem_append_right _ (List.mem_append_right _ (List.mem_append_right _ (List.mem_append_left _ (List.mem_of_getElem? (i := 15) rfl))))))))) rfl
theorem seX12_isSailed : Cond.selects RX12 yX12_isSailed yX12_isSailed ∈ gw := gw_s (q := (yX12_isSailed, 42)) (List.mem_append_right _ (List.mem_append_right _ (List.mem_append_right _ (List.mem_append_right _ (List.mem_append_right _ (List.mem_append_right _ (List.mem_append_right _ (List.mem_append_right _ (List.mem_of_getElem? (i := 0) rfl))))))))) rfl
theorem seX12_isWrecked : Cond.selects RX12 yX12_isWrecked yX12_isWrecked ∈ gw := gw_s (q := (yX12_isWrecked, 42)) (List.mem_append_right _ (List.mem_append_right _ (List.mem_append_right _ (List.mem_append_right _ (List.mem_append_right _ (List.mem_append_right _ (List.mem_append_right _ (List.mem_append_right _ (List.mem_of_getElem? (i := 1) rfl))))))))) rfl
theorem seX12_isAny : Cond.selects RX12 yX12_isAny yX12_isAny ∈ gw := gw_s (q := (yX12_isAny, 42)) (List.mem_append_right _ (List.mem_append_right _ (List.mem_append_right _ (List.mem_append_right _ (List.mem_append_right _ (List.mem_append_right _ (List.mem_append_right _ (List.mem_append_right _ (List.mem_of_getElem? (i := 2) rfl))))))))) rfl
theorem seX12_draw : Cond.selects RX12 yX12_draw yX12_draw ∈ gw := gw_s (q := (yX12_draw, 42)) (List.mem_append_right _ (List.mem_append_right _ (List.mem_append_right _ (List.mem_append_right _ (List.mem_append_right _ (List.mem_append_right _ (List.mem_append_right _ (List.mem_append_right _ (List.mem_of_getElem? (i := 3) rfl))))))))) rfl
theorem seX12_holds : Cond.selects RX12 yX12_holds yX12_holds ∈ gw := gw_s (q := (yX12_holds, 42)) (List.mem_append_right _ (List.mem_append_right _ (List.mem_append_right _ (List.mem_append_right _ (List.mem_append_right _ (List.mem_append_right _ (List.mem_append_right _ (List.mem_append_right _ (List.mem_of_getElem? (i := 4) rfl))))))))) rfl
theorem ml11_110 : Cond.methodLink RX11 110 yX9_isTray ∈ gw := gw_t (tb3 8 rfl) rfl
theorem L11_110 : xLV RX11 110 RX9 yX9_isTray cX9_isTray 2 (some .boolean) 1 := xLV.of ml11_110 imX9_isTray seX9_isTray inX9 cwX9_isTray ⟨rfl, by decide +kernel, by decide +kernel, by decide +kernel⟩
theorem ml11_114 : Cond.methodLink RX11 114 yX11_within ∈ gw := gw_t (tb3 15 rfl) rfl
theorem L11_114 : xLS RX11 114 yX11_within cX11_within 3 (some .boolean) 3 := xLS.of ml11_114 stX11_within inX11 cwX11_within ⟨by decide +kernel, by decide +kernel, by decide +kernel⟩
theorem ml11_118 : Cond.methodLink RX11 118 yX11_denied ∈ gw := gw_t (tb3 16 rfl) rfl
theorem L11_118 : xLV RX11 118 RX11 yX11_denied cX11_denied 2 (some .boolean) 1 := xLV.of ml11_118 imX11_denied seX11_denied inX11 cwX11_denied ⟨rfl, by decide +kernel, by decide +kernel, by decide +kernel⟩
theorem ml11_121 : Cond.methodLink RX11 121 yX9_lay ∈ gw := gw_t (tb3 20 rfl) rfl
theorem L11_121 : xLV RX11 121 RX9 yX9_lay cX9_lay 4 none 3 := xLV.of ml11_121 imX9_lay seX9_lay inX9 cwX9_lay ⟨rfl, by decide +kernel, by decide +kernel, by decide +kernel⟩
theorem ml11_125 : Cond.methodLink RX11 125 yX11_done ∈ gw := gw_t (tb3 28 rfl) rfl
theorem L11_125 : xLV RX11 125 RX11 yX11_done cX11_done 1 (some .boolean) 0 := xLV.of ml11_125 imX11_done seX11_done inX11 cwX11_done ⟨rfl, by decide +kernel, by decide +kernel, by decide +kernel⟩
theorem ml11_129 : Cond.methodLink RX11 129 yX9_whyNoPlace ∈ gw := gw_t (tb3 36 rfl) rfl
theorem L11_129 : xLV RX11 129 RX9 yX9_whyNoPlace cX9_whyNoPlace 3 (some .int) 2 := xLV.of ml11_129 imX9_whyNoPlace seX9_whyNoPlace inX9 cwX9_whyNoPlace ⟨rfl, by decide +kernel, by decide +kernel, by decide +kernel⟩
theorem ml11_133 : Cond.methodLink RX11 133 yX9_put ∈ gw := gw_t (tb3 48 rfl) rfl
theorem L11_133 : xLV RX11 133 RX9 yX9_put cX9_put 5 none 3 := xLV.of ml11_133 imX9_put seX9_put inX9 cwX9_put ⟨rfl, by decide +kernel, by decide +kernel, by decide +kernel⟩
theorem ml11_137 : Cond.methodLink RX11 137 yX11_refused ∈ gw := gw_t (tb3 59 rfl) rfl
theorem L11_137 : xLV RX11 137 RX11 yX11_refused cX11_refused 2 (some .int) 1 := xLV.of ml11_137 imX11_refused seX11_refused inX11 cwX11_refused ⟨rfl, by decide +kernel, by decide +kernel, by decide +kernel⟩
theorem ml11_141 : Cond.methodLink RX11 141 yX9_get ∈ gw := gw_t (tb3 63 rfl) rfl
theorem L11_141 : xLV RX11 141 RX9 yX9_get cX9_get 3 (some .long) 2 := xLV.of ml11_141 imX9_get seX9_get inX9 cwX9_get ⟨rfl, by decide +kernel, by decide +kernel, by decide +kernel⟩
theorem ml11_145 : Cond.methodLink RX11 145 yX9_isMissing ∈ gw := gw_t (tb3 72 rfl) rfl
theorem L11_145 : xLV RX11 145 RX9 yX9_isMissing cX9_isMissing 2 (some .boolean) 1 := xLV.of ml11_145 imX9_isMissing seX9_isMissing inX9 cwX9_isMissing ⟨rfl, by decide +kernel, by decide +kernel, by decide +kernel⟩
theorem ml11_148 : Cond.methodLink RX11 148 yX9_sortOf ∈ gw := gw_t (tb3 73 rfl) rfl
theorem L11_148 : xLV RX11 148 RX9 yX9_sortOf cX9_sortOf 2 (some .int) 1 := xLV.of ml11_148 imX9_sortOf seX9_sortOf inX9 cwX9_sortOf ⟨rfl, by decide +kernel, by decide +kernel, by decide +kernel⟩
theorem ml11_151 : Cond.methodLink RX11 151 yX9_hasPlaces ∈ gw := gw_t (tb3 77 rfl) rfl
theorem L11_151 : xLV RX11 151 RX9 yX9_hasPlaces cX9_hasPlaces 4 (some .boolean) 3 := xLV.of ml11_151 imX9_hasPlaces seX9_hasPlaces inX9 cwX9_hasPlaces ⟨rfl, by decide +kernel, by decide +kernel, by decide +kernel⟩
theorem ml11_154 : Cond.methodLink RX11 154 yX9_move ∈ gw := gw_t (tb3 78 rfl) rfl
theorem L11_154 : xLV RX11 154 RX9 yX9_move cX9_move 6 none 5 := xLV.of ml11_154 imX9_move seX9_move inX9 cwX9_move ⟨rfl, by decide +kernel, by decide +kernel, by decide +kernel⟩
theorem ml11_158 : Cond.methodLink RX11 158 yX8_hasRoom ∈ gw := gw_t (tb3 89 rfl) rfl
theorem L11_158 : xLV RX11 158 RX8 yX8_hasRoom cX8_hasRoom 1 (some .boolean) 0 := xLV.of ml11_158 imX8_hasRoom seX8_hasRoom inX8 cwX8_hasRoom ⟨rfl, by decide +kernel, by decide +kernel, by decide +kernel⟩
theorem ml11_161 : Cond.methodLink RX11 161 yX8_add ∈ gw := gw_t (tb3 93 rfl) rfl
theorem L11_161 : xLV RX11 161 RX8 yX8_add cX8_add 3 none 1 := xLV.of ml11_161 imX8_add seX8_add inX8 cwX8_add ⟨rfl, by decide +kernel, by decide +kernel, by decide +kernel⟩
theorem ml11_165 : Cond.methodLink RX11 165 yX8_length ∈ gw := gw_t (tb3 97 rfl) rfl
theorem L11_165 : xLV RX11 165 RX8 yX8_length cX8_length 1 (some .int) 0 := xLV.of ml11_165 imX8_length seX8_length inX8 cwX8_length ⟨rfl, by decide +kernel, by decide +kernel, by decide +kernel⟩
theorem ml11_169 : Cond.methodLink RX11 169 yX4_take ∈ gw := gw_t (tb3 105 rfl) rfl
theorem L11_169 : xLV RX11 169 RX4 yX4_take cX4_take 5 (some .boolean) 3 := xLV.of ml11_169 imX4_take seX4_take inX4 cwX4_take ⟨rfl, by decide +kernel, by decide +kernel, by decide +kernel⟩
theorem ml11_173 : Cond.methodLink RX11 173 yX11_endReading ∈ gw := gw_t (tb4 68 rfl) rfl
theorem L11_173 : xLV RX11 173 RX11 yX11_endReading cX11_endReading 1 none 0 := xLV.of ml11_173 imX11_endReading seX11_endReading inX11 cwX11_endReading ⟨rfl, by decide +kernel, by decide +kernel, by decide +kernel⟩
theorem ml11_176 : Cond.methodLink RX11 176 yX3_cellCount ∈ gw := gw_t (tb4 84 rfl) rfl
theorem L11_176 : xLV RX11 176 RX3 yX3_cellCount cX3_cellCount 1 (some .int) 0 := xLV.of ml11_176 imX3_cellCount seX3_cellCount inX3 cwX3_cellCount ⟨rfl, by decide +kernel, by decide +kernel, by decide +kernel⟩
theorem ml11_179 : Cond.methodLink RX11 179 yX11_answer ∈ gw := gw_t (tb4 88 rfl) rfl
theorem L11_179 : xLV RX11 179 RX11 yX11_answer cX11_answer 2 (some .int) 1 := xLV.of ml11_179 imX11_answer seX11_answer inX11 cwX11_answer ⟨rfl, by decide +kernel, by decide +kernel, by decide +kernel⟩
theorem ml11_182 : Cond.methodLink RX11 182 yJ9_min_7cf53 ∈ gw := gw_t (tb4 96 rfl) rfl
theorem L11_182 : xLS RX11 182 yJ9_min_7cf53 cJ9_min_7cf53 2 (some .int) 2 := xLS.of ml11_182 stJ9_min_7cf53 inJ9 cwJ9_min_7cf53 ⟨by decide +kernel, by decide +kernel, by decide +kernel⟩
theorem ml11_187 : Cond.methodLink RX11 187 yX10_take ∈ gw := gw_t (tb4 97 rfl) rfl
theorem L11_187 : xLV RX11 187 RX10 yX10_take cX10_take 7 (some .boolean) 4 := xLV.of ml11_187 imX10_take seX10_take inX10 cwX10_take ⟨rfl, by decide +kernel, by decide +kernel, by decide +kernel⟩
theorem ml11_217 : Cond.methodLink RX11 217 yX11_knownNow ∈ gw := gw_t (tb4 184 rfl) rfl
theorem L11_217 : xLV RX11 217 RX11 yX11_knownNow cX11_knownNow 1 (some .int) 0 := xLV.of ml11_217 imX11_knownNow seX11_knownNow inX11 cwX11_knownNow ⟨rfl, by decide +kernel, by decide +kernel, by decide +kernel⟩
theorem ml11_220 : Cond.methodLink RX11 220 yX7_take ∈ gw := gw_t (tb4 188 rfl) rfl
theorem L11_220 : xLV RX11 220 RX7 yX7_take cX7_take 5 none 2 := xLV.of ml11_220 imX7_take seX7_take inX7 cwX7_take ⟨rfl, by decide +kernel, by decide +kernel, by decide +kernel⟩
theorem ml11_223 : Cond.methodLink RX11 223 yX7_rightCells ∈ gw := gw_t (tb4 206 rfl) rfl
theorem L11_223 : xLV RX11 223 RX7 yX7_rightCells cX7_rightCells 4 (some .int) 1 := xLV.of ml11_223 imX7_rightCells seX7_rightCells inX7 cwX7_rightCells ⟨rfl, by decide +kernel, by decide +kernel, by decide +kernel⟩
theorem ml11_227 : Cond.methodLink RX11 227 yX3_hasCell ∈ gw := gw_t (tb4 219 rfl) rfl
theorem L11_227 : xLV RX11 227 RX3 yX3_hasCell cX3_hasCell 2 (some .boolean) 1 := xLV.of ml11_227 imX3_hasCell seX3_hasCell inX3 cwX3_hasCell ⟨rfl, by decide +kernel, by decide +kernel, by decide +kernel⟩
theorem ml11_230 : Cond.methodLink RX11 230 yX3_kindAt ∈ gw := gw_t (tb4 224 rfl) rfl
theorem L11_230 : xLV RX11 230 RX3 yX3_kindAt cX3_kindAt 2 (some .int) 1 := xLV.of ml11_230 imX3_kindAt seX3_kindAt inX3 cwX3_kindAt ⟨rfl, by decide +kernel, by decide +kernel, by decide +kernel⟩
theorem ml11_233 : Cond.methodLink RX11 233 yX7_drawnAs ∈ gw := gw_t (tb4 225 rfl) rfl
theorem L11_233 : xLV RX11 233 RX7 yX7_drawnAs cX7_drawnAs 7 (some .int) 1 := xLV.of ml11_233 imX7_drawnAs seX7_drawnAs inX7 cwX7_drawnAs ⟨rfl, by decide +kernel, by decide +kernel, by decide +kernel⟩
theorem ml11_236 : Cond.methodLink RX11 236 yX7_riskOf ∈ gw := gw_t (tb4 226 rfl) rfl
theorem L11_236 : xLV RX11 236 RX7 yX7_riskOf cX7_riskOf 5 (some .int) 1 := xLV.of ml11_236 imX7_riskOf seX7_riskOf inX7 cwX7_riskOf ⟨rfl, by decide +kernel, by decide +kernel, by decide +kernel⟩
theorem ml11_239 : Cond.methodLink RX11 239 yX3_sizeOf ∈ gw := gw_t (tb4 234 rfl) rfl
theorem L11_239 : xLV RX11 239 RX3 yX3_sizeOf cX3_sizeOf 4 (some .int) 1 := xLV.of ml11_239 imX3_sizeOf seX3_sizeOf inX3 cwX3_sizeOf ⟨rfl, by decide +kernel, by decide +kernel, by decide +kernel⟩
theorem ml11_242 : Cond.methodLink RX11 242 yX3_tellingsOf ∈ gw := gw_t (tb5 3 rfl) rfl
theorem L11_242 : xLV RX11 242 RX3 yX3_tellingsOf cX3_tellingsOf 4 (some .int) 1 := xLV.of ml11_242 imX3_tellingsOf seX3_tellingsOf inX3 cwX3_tellingsOf ⟨rfl, by decide +kernel, by decide +kernel, by decide +kernel⟩
theorem ml11_245 : Cond.methodLink RX11 245 yX11_isKind ∈ gw := gw_t (tb5 8 rfl) rfl
theorem L11_245 : xLS RX11 245 yX11_isKind cX11_isKind 1 (some .boolean) 1 := xLS.of ml11_245 stX11_isKind inX11 cwX11_isKind ⟨by decide +kernel, by decide +kernel, by decide +kernel⟩
theorem ml11_248 : Cond.methodLink RX11 248 yX7_votesFor ∈ gw := gw_t (tb5 9 rfl) rfl
theorem L11_248 : xLV RX11 248 RX7 yX7_votesFor cX7_votesFor 4 (some .int) 2 := xLV.of ml11_248 imX7_votesFor seX7_votesFor inX7 cwX7_votesFor ⟨rfl, by decide +kernel, by decide +kernel, by decide +kernel⟩
theorem ml11_251 : Cond.methodLink RX11 251 yX3_hasTraveller ∈ gw := gw_t (tb5 14 rfl) rfl
theorem L11_251 : xLV RX11 251 RX3 yX3_hasTraveller cX3_hasTraveller 2 (some .boolean) 1 := xLV.of ml11_251 imX3_hasTraveller seX3_hasTraveller inX3 cwX3_hasTraveller ⟨rfl, by decide +kernel, by decide +kernel, by decide +kernel⟩
theorem ml11_258 : Cond.methodLink RX11 258 yX3_isHeard ∈ gw := gw_t (tb5 18 rfl) rfl
theorem L11_258 : xLV RX11 258 RX3 yX3_isHeard cX3_isHeard 2 (some .boolean) 1 := xLV.of ml11_258 imX3_isHeard seX3_isHeard inX3 cwX3_isHeard ⟨rfl, by decide +kernel, by decide +kernel, by decide +kernel⟩
theorem ml11_261 : Cond.methodLink RX11 261 yX3_tellingsBy ∈ gw := gw_t (tb5 19 rfl) rfl
theorem L11_261 : xLV RX11 261 RX3 yX3_tellingsBy cX3_tellingsBy 4 (some .int) 1 := xLV.of ml11_261 imX3_tellingsBy seX3_tellingsBy inX3 cwX3_tellingsBy ⟨rfl, by decide +kernel, by decide +kernel, by decide +kernel⟩
theorem ml11_264 : Cond.methodLink RX11 264 yX3_falseBy ∈ gw := gw_t (tb5 23 rfl) rfl
theorem L11_264 : xLV RX11 264 RX3 yX3_falseBy cX3_falseBy 4 (some .int) 1 := xLV.of ml11_264 imX3_falseBy seX3_falseBy inX3 cwX3_falseBy ⟨rfl, by decide +kernel, by decide +kernel, by decide +kernel⟩
theorem ml11_279 : Cond.methodLink RX11 279 yX3_setHeard ∈ gw := gw_t (tb5 40 rfl) rfl
theorem L11_279 : xLV RX11 279 RX3 yX3_setHeard cX3_setHeard 3 (some .boolean) 2 := xLV.of ml11_279 imX3_setHeard seX3_setHeard inX3 cwX3_setHeard ⟨rfl, by decide +kernel, by decide +kernel, by decide +kernel⟩
theorem ml11_283 : Cond.methodLink RX11 283 yX3_addTelling ∈ gw := gw_t (tb5 53 rfl) rfl
theorem L11_283 : xLV RX11 283 RX3 yX3_addTelling cX3_addTelling 5 (some .boolean) 4 := xLV.of ml11_283 imX3_addTelling seX3_addTelling inX3 cwX3_addTelling ⟨rfl, by decide +kernel, by decide +kernel, by decide +kernel⟩
theorem ml11_287 : Cond.methodLink RX11 287 yX3_addTraveller ∈ gw := gw_t (tb5 58 rfl) rfl
theorem L11_287 : xLV RX11 287 RX3 yX3_addTraveller cX3_addTraveller 5 (some .boolean) 3 := xLV.of ml11_287 imX3_addTraveller seX3_addTraveller inX3 cwX3_addTraveller ⟨rfl, by decide +kernel, by decide +kernel, by decide +kernel⟩
theorem ml11_294 : Cond.methodLink RX11 294 yX1_weigh ∈ gw := gw_t (tb5 79 rfl) rfl
theorem L11_294 : xLV RX11 294 RX1 yX1_weigh cX1_weigh 7 none 2 := xLV.of ml11_294 imX1_weigh seX1_weigh inX1 cwX1_weigh ⟨rfl, by decide +kernel, by decide +kernel, by decide +kernel⟩
theorem ml11_297 : Cond.methodLink RX11 297 yX1_sum ∈ gw := gw_t (tb5 86 rfl) rfl
theorem L11_297 : xLV RX11 297 RX1 yX1_sum cX1_sum 4 (some .long) 0 := xLV.of ml11_297 imX1_sum seX1_sum inX1 cwX1_sum ⟨rfl, by decide +kernel, by decide +kernel, by decide +kernel⟩
theorem ml11_301 : Cond.methodLink RX11 301 yX1_weightOf ∈ gw := gw_t (tb5 90 rfl) rfl
theorem L11_301 : xLV RX11 301 RX1 yX1_weightOf cX1_weightOf 2 (some .long) 1 := xLV.of ml11_301 imX1_weightOf seX1_weightOf inX1 cwX1_weightOf ⟨rfl, by decide +kernel, by decide +kernel, by decide +kernel⟩
theorem ml11_305 : Cond.methodLink RX11 305 yX11_toldFraction ∈ gw := gw_t (tb5 95 rfl) rfl
theorem L11_305 : xLV RX11 305 RX11 yX11_toldFraction cX11_toldFraction 7 (some .boolean) 2 := xLV.of ml11_305 imX11_toldFraction seX11_toldFraction inX11 cwX11_toldFraction ⟨rfl, by decide +kernel, by decide +kernel, by decide +kernel⟩
theorem ml11_309 : Cond.methodLink RX11 309 yX1_likeliestKind ∈ gw := gw_t (tb5 106 rfl) rfl
theorem L11_309 : xLV RX11 309 RX1 yX1_likeliestKind cX1_likeliestKind 3 (some .int) 0 := xLV.of ml11_309 imX1_likeliestKind seX1_likeliestKind inX1 cwX1_likeliestKind ⟨rfl, by decide +kernel, by decide +kernel, by decide +kernel⟩
theorem ml11_312 : Cond.methodLink RX11 312 yX1_leastSureCell ∈ gw := gw_t (tb5 114 rfl) rfl
theorem L11_312 : xLV RX11 312 RX1 yX1_leastSureCell cX1_leastSureCell 13 (some .int) 1 := xLV.of ml11_312 imX1_leastSureCell seX1_leastSureCell inX1 cwX1_leastSureCell ⟨rfl, by decide +kernel, by decide +kernel, by decide +kernel⟩
theorem ml11_315 : Cond.methodLink RX11 315 yX3_fewestLiars ∈ gw := gw_t (tb5 127 rfl) rfl
theorem L11_315 : xLV RX11 315 RX3 yX3_fewestLiars cX3_fewestLiars 4 (some .int) 0 := xLV.of ml11_315 imX3_fewestLiars seX3_fewestLiars inX3 cwX3_fewestLiars ⟨rfl, by decide +kernel, by decide +kernel, by decide +kernel⟩
theorem ml11_318 : Cond.methodLink RX11 318 yJ6_bitCount_0f7a4 ∈ gw := gw_t (tb5 145 rfl) rfl
theorem L11_318 : xLS RX11 318 yJ6_bitCount_0f7a4 cJ6_bitCount_0f7a4 1 (some .int) 1 := xLS.of ml11_318 stJ6_bitCount_0f7a4 inJ6 cwJ6_bitCount_0f7a4 ⟨by decide +kernel, by decide +kernel, by decide +kernel⟩
theorem ml11_323 : Cond.methodLink RX11 323 yX3_clashesWithout ∈ gw := gw_t (tb5 154 rfl) rfl
theorem L11_323 : xLV RX11 323 RX3 yX3_clashesWithout cX3_clashesWithout 6 (some .int) 1 := xLV.of ml11_323 imX3_clashesWithout seX3_clashesWithout inX3 cwX3_clashesWithout ⟨rfl, by decide +kernel, by decide +kernel, by decide +kernel⟩
theorem ml11_326 : Cond.methodLink RX11 326 yX11_whyNoWay ∈ gw := gw_t (tb5 159 rfl) rfl
theorem L11_326 : xLV RX11 326 RX11 yX11_whyNoWay cX11_whyNoWay 2 (some .int) 1 := xLV.of ml11_326 imX11_whyNoWay seX11_whyNoWay inX11 cwX11_whyNoWay ⟨rfl, by decide +kernel, by decide +kernel, by decide +kernel⟩
theorem ml11_329 : Cond.methodLink RX11 329 yX6_risk ∈ gw := gw_t (tb5 184 rfl) rfl
theorem L11_329 : xLV RX11 329 RX6 yX6_risk cX6_risk 1 (some .int) 0 := xLV.of ml11_329 imX6_risk seX6_risk inX6 cwX6_risk ⟨rfl, by decide +kernel, by decide +kernel, by decide +kernel⟩
theorem ml11_332 : Cond.methodLink RX11 332 yX6_cells ∈ gw := gw_t (tb5 193 rfl) rfl
theorem L11_332 : xLV RX11 332 RX6 yX6_cells cX6_cells 1 (some .int) 0 := xLV.of ml11_332 imX6_cells seX6_cells inX6 cwX6_cells ⟨rfl, by decide +kernel, by decide +kernel, by decide +kernel⟩
theorem ml11_335 : Cond.methodLink RX11 335 yX6_cellAt ∈ gw := gw_t (tb5 201 rfl) rfl
theorem L11_335 : xLV RX11 335 RX6 yX6_cellAt cX6_cellAt 2 (some .int) 1 := xLV.of ml11_335 imX6_cellAt seX6_cellAt inX6 cwX6_cellAt ⟨rfl, by decide +kernel, by decide +kernel, by decide +kernel⟩
theorem ml11_340 : Cond.methodLink RX11 340 yX6_sailedTo ∈ gw := gw_t (tb5 214 rfl) rfl
theorem L11_340 : xLV RX11 340 RX6 yX6_sailedTo cX6_sailedTo 3 (some .int) 1 := xLV.of ml11_340 imX6_sailedTo seX6_sailedTo inX6 cwX6_sailedTo ⟨rfl, by decide +kernel, by decide +kernel, by decide +kernel⟩
theorem ml11_343 : Cond.methodLink RX11 343 yX2_weigh ∈ gw := gw_t (tb5 224 rfl) rfl
theorem L11_343 : xLV RX11 343 RX2 yX2_weigh cX2_weigh 4 none 2 := xLV.of ml11_343 imX2_weigh seX2_weigh inX2 cwX2_weigh ⟨rfl, by decide +kernel, by decide +kernel, by decide +kernel⟩
theorem ml11_346 : Cond.methodLink RX11 346 yX2_bestSet ∈ gw := gw_t (tb5 231 rfl) rfl
theorem L11_346 : xLV RX11 346 RX2 yX2_bestSet cX2_bestSet 6 (some .int) 2 := xLV.of ml11_346 imX2_bestSet seX2_bestSet inX2 cwX2_bestSet ⟨rfl, by decide +kernel, by decide +kernel, by decide +kernel⟩
theorem ml11_350 : Cond.methodLink RX11 350 yX2_knownBy ∈ gw := gw_t (tb6 4 rfl) rfl
theorem L11_350 : xLV RX11 350 RX2 yX2_knownBy cX2_knownBy 2 (some .int) 1 := xLV.of ml11_350 imX2_knownBy seX2_knownBy inX2 cwX2_knownBy ⟨rfl, by decide +kernel, by decide +kernel, by decide +kernel⟩
theorem ml11_353 : Cond.methodLink RX11 353 yX2_play ∈ gw := gw_t (tb6 13 rfl) rfl
theorem L11_353 : xLV RX11 353 RX2 yX2_play cX2_play 5 none 2 := xLV.of ml11_353 imX2_play seX2_play inX2 cwX2_play ⟨rfl, by decide +kernel, by decide +kernel, by decide +kernel⟩
theorem ml11_356 : Cond.methodLink RX11 356 yX2_creditFrom ∈ gw := gw_t (tb6 31 rfl) rfl
theorem L11_356 : xLV RX11 356 RX2 yX2_creditFrom cX2_creditFrom 2 (some .int) 1 := xLV.of ml11_356 imX2_creditFrom seX2_creditFrom inX2 cwX2_creditFrom ⟨rfl, by decide +kernel, by decide +kernel, by decide +kernel⟩
theorem ml11_359 : Cond.methodLink RX11 359 yX2_firstBestMove ∈ gw := gw_t (tb6 36 rfl) rfl
theorem L11_359 : xLV RX11 359 RX2 yX2_firstBestMove cX2_firstBestMove 4 (some .int) 1 := xLV.of ml11_359 imX2_firstBestMove seX2_firstBestMove inX2 cwX2_firstBestMove ⟨rfl, by decide +kernel, by decide +kernel, by decide +kernel⟩
theorem ml11_362 : Cond.methodLink RX11 362 yX1_waysToSwear ∈ gw := gw_t (tb6 45 rfl) rfl
theorem L11_362 : xLV RX11 362 RX1 yX1_waysToSwear cX1_waysToSwear 8 (some .long) 3 := xLV.of ml11_362 imX1_waysToSwear seX1_waysToSwear inX1 cwX1_waysToSwear ⟨rfl, by decide +kernel, by decide +kernel, by decide +kernel⟩
theorem ml11_366 : Cond.methodLink RX11 366 yX11_power ∈ gw := gw_t (tb6 50 rfl) rfl
theorem L11_366 : xLS RX11 366 yX11_power cX11_power 5 (some .long) 2 := xLS.of ml11_366 stX11_power inX11 cwX11_power ⟨by decide +kernel, by decide +kernel, by decide +kernel⟩
theorem ml11_373 : Cond.methodLink RX11 373 yX5_pass ∈ gw := gw_t (tb6 61 rfl) rfl
theorem L11_373 : xLV RX11 373 RX5 yX5_pass cX5_pass 7 (some .int) 2 := xLV.of ml11_373 imX5_pass seX5_pass inX5 cwX5_pass ⟨rfl, by decide +kernel, by decide +kernel, by decide +kernel⟩
theorem ml11_376 : Cond.methodLink RX11 376 yX5_keepDeeds ∈ gw := gw_t (tb6 137 rfl) rfl
theorem L11_376 : xLV RX11 376 RX5 yX5_keepDeeds cX5_keepDeeds 1 none 0 := xLV.of ml11_376 imX5_keepDeeds seX5_keepDeeds inX5 cwX5_keepDeeds ⟨rfl, by decide +kernel, by decide +kernel, by decide +kernel⟩
theorem ml11_379 : Cond.methodLink RX11 379 yX5_hasKept ∈ gw := gw_t (tb6 146 rfl) rfl
theorem L11_379 : xLV RX11 379 RX5 yX5_hasKept cX5_hasKept 1 (some .boolean) 0 := xLV.of ml11_379 imX5_hasKept seX5_hasKept inX5 cwX5_hasKept ⟨rfl, by decide +kernel, by decide +kernel, by decide +kernel⟩
theorem ml11_382 : Cond.methodLink RX11 382 yX5_keptDeed ∈ gw := gw_t (tb6 150 rfl) rfl
theorem L11_382 : xLV RX11 382 RX5 yX5_keptDeed cX5_keptDeed 2 (some .int) 1 := xLV.of ml11_382 imX5_keptDeed seX5_keptDeed inX5 cwX5_keptDeed ⟨rfl, by decide +kernel, by decide +kernel, by decide +kernel⟩
theorem ml11_388 : Cond.methodLink RX11 388 yX3_copyFrom ∈ gw := gw_t (tb6 162 rfl) rfl
theorem L11_388 : xLV RX11 388 RX3 yX3_copyFrom cX3_copyFrom 2 none 1 := xLV.of ml11_388 imX3_copyFrom seX3_copyFrom inX3 cwX3_copyFrom ⟨rfl, by decide +kernel, by decide +kernel, by decide +kernel⟩
theorem ml11_392 : Cond.methodLink RX11 392 yX11_commonDivisor ∈ gw := gw_t (tb5 99 rfl) rfl
theorem L11_392 : xLS RX11 392 yX11_commonDivisor cX11_commonDivisor 11 (some .long) 2 := xLS.of ml11_392 stX11_commonDivisor inX11 cwX11_commonDivisor ⟨by decide +kernel, by decide +kernel, by decide +kernel⟩
theorem ml11_396 : Cond.methodLink RX11 396 yX8_blamedFor ∈ gw := gw_t (tb4 72 rfl) rfl
theorem L11_396 : xLV RX11 396 RX8 yX8_blamedFor cX8_blamedFor 1 (some .int) 0 := xLV.of ml11_396 imX8_blamedFor seX8_blamedFor inX8 cwX8_blamedFor ⟨rfl, by decide +kernel, by decide +kernel, by decide +kernel⟩
theorem ml11_399 : Cond.methodLink RX11 399 yX8_blamedAt ∈ gw := gw_t (tb4 76 rfl) rfl
theorem L11_399 : xLV RX11 399 RX8 yX8_blamedAt cX8_blamedAt 1 (some .int) 0 := xLV.of ml11_399 imX8_blamedAt seX8_blamedAt inX8 cwX8_blamedAt ⟨rfl, by decide +kernel, by decide +kernel, by decide +kernel⟩
theorem ml11_402 : Cond.methodLink RX11 402 yX8_empty ∈ gw := gw_t (tb4 80 rfl) rfl
theorem L11_402 : xLV RX11 402 RX8 yX8_empty cX8_empty 1 none 0 := xLV.of ml11_402 imX8_empty seX8_empty inX8 cwX8_empty ⟨rfl, by decide +kernel, by decide +kernel, by decide +kernel⟩
theorem ml11_405 : Cond.methodLink RX11 405 yX7_knownCells ∈ gw := gw_t (tb4 197 rfl) rfl
theorem L11_405 : xLV RX11 405 RX7 yX7_knownCells cX7_knownCells 4 (some .int) 1 := xLV.of ml11_405 imX7_knownCells seX7_knownCells inX7 cwX7_knownCells ⟨rfl, by decide +kernel, by decide +kernel, by decide +kernel⟩
theorem ml11_408 : Cond.methodLink RX11 408 yX6_find ∈ gw := gw_t (tb5 163 rfl) rfl
theorem L11_408 : xLV RX11 408 RX6 yX6_find cX6_find 6 (some .boolean) 3 := xLV.of ml11_408 imX6_find seX6_find inX6 cwX6_find ⟨rfl, by decide +kernel, by decide +kernel, by decide +kernel⟩
theorem ml0_42 : Cond.methodLink RX0 42 yX0_addLine ∈ gw := gw_t (tb4 119 rfl) rfl
theorem L0_42 : xLV RX0 42 RX0 yX0_addLine cX0_addLine 5 (some .boolean) 4 := xLV.of ml0_42 imX0_addLine seX0_addLine inX0 cwX0_addLine ⟨rfl, by decide +kernel, by decide +kernel, by decide +kernel⟩
theorem ml0_46 : Cond.methodLink RX0 46 yX0_hasLine ∈ gw := gw_t (tb4 114 rfl) rfl
theorem L0_46 : xLV RX0 46 RX0 yX0_hasLine cX0_hasLine 2 (some .boolean) 1 := xLV.of ml0_46 imX0_hasLine seX0_hasLine inX0 cwX0_hasLine ⟨rfl, by decide +kernel, by decide +kernel, by decide +kernel⟩
theorem L0_52 : xLN RX0 52 "SighChart" yX11_within cX11_within 3 (some .boolean) 3 := ⟨⟨stX11_within, inX11, cwX11_within⟩, ⟨by decide +kernel, by decide +kernel, by decide +kernel⟩⟩
theorem ml1_18 : Cond.methodLink RX1 18 yJ7_fill_d0a16 ∈ gw := gw_t (tb5 83 rfl) rfl
theorem L1_18 : xLS RX1 18 yJ7_fill_d0a16 cJ7_fill_d0a16 5 none 2 := xLS.of ml1_18 stJ7_fill_d0a16 inJ7 cwJ7_fill_d0a16 ⟨by decide +kernel, by decide +kernel, by decide +kernel⟩
theorem ml1_37 : Cond.methodLink RX1 37 yX3_isHeard ∈ gw := gw_t (tb5 84 rfl) rfl
theorem L1_37 : xLV RX1 37 RX3 yX3_isHeard cX3_isHeard 2 (some .boolean) 1 := xLV.of ml1_37 imX3_isHeard seX3_isHeard inX3 cwX3_isHeard ⟨rfl, by decide +kernel, by decide +kernel, by decide +kernel⟩
theorem ml1_41 : Cond.methodLink RX1 41 yX3_hasTraveller ∈ gw := gw_t (tb5 85 rfl) rfl
theorem L1_41 : xLV RX1 41 RX3 yX3_hasTraveller cX3_hasTraveller 2 (some .boolean) 1 := xLV.of ml1_41 imX3_hasTraveller seX3_hasTraveller inX3 cwX3_hasTraveller ⟨rfl, by decide +kernel, by decide +kernel, by decide +kernel⟩
theorem L1_50 : xLN RX1 50 "SighChart" yX11_isKind cX11_isKind 1 (some .boolean) 1 := ⟨⟨stX11_isKind, inX11, cwX11_isKind⟩, ⟨by decide +kernel, by decide +kernel, by decide +kernel⟩⟩
theorem ml1_53 : Cond.methodLink RX1 53 yX3_cellCount ∈ gw := gw_t (tb5 118 rfl) rfl
theorem L1_53 : xLV RX1 53 RX3 yX3_cellCount cX3_cellCount 1 (some .int) 0 := xLV.of ml1_53 imX3_cellCount seX3_cellCount inX3 cwX3_cellCount ⟨rfl, by decide +kernel, by decide +kernel, by decide +kernel⟩
theorem ml1_57 : Cond.methodLink RX1 57 yX1_weigh ∈ gw := gw_t (tb5 119 rfl) rfl
theorem L1_57 : xLV RX1 57 RX1 yX1_weigh cX1_weigh 7 none 2 := xLV.of ml1_57 imX1_weigh seX1_weigh inX1 cwX1_weigh ⟨rfl, by decide +kernel, by decide +kernel, by decide +kernel⟩
theorem ml1_61 : Cond.methodLink RX1 61 yX1_sum ∈ gw := gw_t (tb5 120 rfl) rfl
theorem L1_61 : xLV RX1 61 RX1 yX1_sum cX1_sum 4 (some .long) 0 := xLV.of ml1_61 imX1_sum seX1_sum inX1 cwX1_sum ⟨rfl, by decide +kernel, by decide +kernel, by decide +kernel⟩
theorem ml1_65 : Cond.methodLink RX1 65 yX1_likeliestKind ∈ gw := gw_t (tb5 121 rfl) rfl
theorem L1_65 : xLV RX1 65 RX1 yX1_likeliestKind cX1_likeliestKind 3 (some .int) 0 := xLV.of ml1_65 imX1_likeliestKind seX1_likeliestKind inX1 cwX1_likeliestKind ⟨rfl, by decide +kernel, by decide +kernel, by decide +kernel⟩
theorem ml1_68 : Cond.methodLink RX1 68 yX1_weightOf ∈ gw := gw_t (tb5 122 rfl) rfl
theorem L1_68 : xLV RX1 68 RX1 yX1_weightOf cX1_weightOf 2 (some .long) 1 := xLV.of ml1_68 imX1_weightOf seX1_weightOf inX1 cwX1_weightOf ⟨rfl, by decide +kernel, by decide +kernel, by decide +kernel⟩
theorem ml1_72 : Cond.methodLink RX1 72 yJ9_max_7cf53 ∈ gw := gw_t (tb6 49 rfl) rfl
theorem L1_72 : xLS RX1 72 yJ9_max_7cf53 cJ9_max_7cf53 2 (some .int) 2 := xLS.of ml1_72 stJ9_max_7cf53 inJ9 cwJ9_max_7cf53 ⟨by decide +kernel, by decide +kernel, by decide +kernel⟩
theorem ml2_24 : Cond.methodLink RX2 24 yX3_sets ∈ gw := gw_t (tb5 228 rfl) rfl
theorem L2_24 : xLV RX2 24 RX3 yX3_sets cX3_sets 1 (some .int) 0 := xLV.of ml2_24 imX3_sets seX3_sets inX3 cwX3_sets ⟨rfl, by decide +kernel, by decide +kernel, by decide +kernel⟩
theorem ml2_28 : Cond.methodLink RX2 28 yX7_take ∈ gw := gw_t (tb5 229 rfl) rfl
theorem L2_28 : xLV RX2 28 RX7 yX7_take cX7_take 5 none 2 := xLV.of ml2_28 imX7_take seX7_take inX7 cwX7_take ⟨rfl, by decide +kernel, by decide +kernel, by decide +kernel⟩
theorem ml2_34 : Cond.methodLink RX2 34 yX7_knownCells ∈ gw := gw_t (tb5 230 rfl) rfl
theorem L2_34 : xLV RX2 34 RX7 yX7_knownCells cX7_knownCells 4 (some .int) 1 := xLV.of ml2_34 imX7_knownCells seX7_knownCells inX7 cwX7_knownCells ⟨rfl, by decide +kernel, by decide +kernel, by decide +kernel⟩
theorem L2_38 : xLN RX2 38 "SighChart" yX11_within cX11_within 3 (some .boolean) 3 := ⟨⟨stX11_within, inX11, cwX11_within⟩, ⟨by decide +kernel, by decide +kernel, by decide +kernel⟩⟩
theorem ml2_42 : Cond.methodLink RX2 42 yX2_hoursOf ∈ gw := gw_t (tb5 235 rfl) rfl
theorem L2_42 : xLS RX2 42 yX2_hoursOf cX2_hoursOf 4 (some .int) 2 := xLS.of ml2_42 stX2_hoursOf inX2 cwX2_hoursOf ⟨by decide +kernel, by decide +kernel, by decide +kernel⟩
theorem ml2_46 : Cond.methodLink RX2 46 yX2_knownBy ∈ gw := gw_t (tb5 239 rfl) rfl
theorem L2_46 : xLV RX2 46 RX2 yX2_knownBy cX2_knownBy 2 (some .int) 1 := xLV.of ml2_46 imX2_knownBy seX2_knownBy inX2 cwX2_knownBy ⟨rfl, by decide +kernel, by decide +kernel, by decide +kernel⟩
theorem L2_56 : xLN RX2 56 "SighChart" yX3_isIn cX3_isIn 2 (some .boolean) 2 := ⟨⟨stX3_isIn, inX3, cwX3_isIn⟩, ⟨by decide +kernel, by decide +kernel, by decide +kernel⟩⟩
theorem ml2_60 : Cond.methodLink RX2 60 yJ7_fill_53178 ∈ gw := gw_t (tb6 17 rfl) rfl
theorem L2_60 : xLS RX2 60 yJ7_fill_53178 cJ7_fill_53178 4 none 2 := xLS.of ml2_60 stJ7_fill_53178 inJ7 cwJ7_fill_53178 ⟨by decide +kernel, by decide +kernel, by decide +kernel⟩
theorem ml2_66 : Cond.methodLink RX2 66 yX2_bestCredit ∈ gw := gw_t (tb6 18 rfl) rfl
theorem L2_66 : xLV RX2 66 RX2 yX2_bestCredit cX2_bestCredit 5 (some .int) 2 := xLV.of ml2_66 imX2_bestCredit seX2_bestCredit inX2 cwX2_bestCredit ⟨rfl, by decide +kernel, by decide +kernel, by decide +kernel⟩
theorem ml2_72 : Cond.methodLink RX2 72 yX3_isHeard ∈ gw := gw_t (tb6 40 rfl) rfl
theorem L2_72 : xLV RX2 72 RX3 yX3_isHeard cX3_isHeard 2 (some .boolean) 1 := xLV.of ml2_72 imX3_isHeard seX3_isHeard inX3 cwX3_isHeard ⟨rfl, by decide +kernel, by decide +kernel, by decide +kernel⟩
theorem ml2_76 : Cond.methodLink RX2 76 yX2_creditOfMove ∈ gw := gw_t (tb6 26 rfl) rfl
theorem L2_76 : xLV RX2 76 RX2 yX2_creditOfMove cX2_creditOfMove 4 (some .int) 2 := xLV.of ml2_76 imX2_creditOfMove seX2_creditOfMove inX2 cwX2_creditOfMove ⟨rfl, by decide +kernel, by decide +kernel, by decide +kernel⟩
theorem ml2_80 : Cond.methodLink RX2 80 yX2_creditFrom ∈ gw := gw_t (tb6 22 rfl) rfl
theorem L2_80 : xLV RX2 80 RX2 yX2_creditFrom cX2_creditFrom 2 (some .int) 1 := xLV.of ml2_80 imX2_creditFrom seX2_creditFrom inX2 cwX2_creditFrom ⟨rfl, by decide +kernel, by decide +kernel, by decide +kernel⟩
theorem ml2_83 : Cond.methodLink RX2 83 yJ9_max_7cf53 ∈ gw := gw_t (tb6 30 rfl) rfl
theorem L2_83 : xLS RX2 83 yJ9_max_7cf53 cJ9_max_7cf53 2 (some .int) 2 := xLS.of ml2_83 stJ9_max_7cf53 inJ9 cwJ9_max_7cf53 ⟨by decide +kernel, by decide +kernel, by decide +kernel⟩
theorem ml3_63 : Cond.methodLink RX3 63 yX0_clear ∈ gw := gw_t (tb3 113 rfl) rfl
theorem L3_63 : xLV RX3 63 RX0 yX0_clear cX0_clear 1 none 0 := xLV.of ml3_63 imX0_clear seX0_clear inX0 cwX0_clear ⟨rfl, by decide +kernel, by decide +kernel, by decide +kernel⟩
theorem ml3_72 : Cond.methodLink RX3 72 yX0_copyFrom ∈ gw := gw_t (tb6 167 rfl) rfl
theorem L3_72 : xLV RX3 72 RX0 yX0_copyFrom cX0_copyFrom 2 none 1 := xLV.of ml3_72 imX0_copyFrom seX0_copyFrom inX0 cwX0_copyFrom ⟨rfl, by decide +kernel, by decide +kernel, by decide +kernel⟩
theorem ml3_76 : Cond.methodLink RX3 76 yX3_cellCount ∈ gw := gw_t (tb4 223 rfl) rfl
theorem L3_76 : xLV RX3 76 RX3 yX3_cellCount cX3_cellCount 1 (some .int) 0 := xLV.of ml3_76 imX3_cellCount seX3_cellCount inX3 cwX3_cellCount ⟨rfl, by decide +kernel, by decide +kernel, by decide +kernel⟩
theorem L3_80 : xLN RX3 80 "SighChart" yX11_within cX11_within 3 (some .boolean) 3 := ⟨⟨stX11_within, inX11, cwX11_within⟩, ⟨by decide +kernel, by decide +kernel, by decide +kernel⟩⟩
theorem ml3_84 : Cond.methodLink RX3 84 yX3_isIn ∈ gw := gw_t (tb5 2 rfl) rfl
theorem L3_84 : xLS RX3 84 yX3_isIn cX3_isIn 2 (some .boolean) 2 := xLS.of ml3_84 stX3_isIn inX3 cwX3_isIn ⟨by decide +kernel, by decide +kernel, by decide +kernel⟩
theorem ml3_88 : Cond.methodLink RX3 88 yX3_hasTraveller ∈ gw := gw_t (tb5 44 rfl) rfl
theorem L3_88 : xLV RX3 88 RX3 yX3_hasTraveller cX3_hasTraveller 2 (some .boolean) 1 := xLV.of ml3_88 imX3_hasTraveller seX3_hasTraveller inX3 cwX3_hasTraveller ⟨rfl, by decide +kernel, by decide +kernel, by decide +kernel⟩
theorem ml3_92 : Cond.methodLink RX3 92 yX3_isHeard ∈ gw := gw_t (tb4 238 rfl) rfl
theorem L3_92 : xLV RX3 92 RX3 yX3_isHeard cX3_isHeard 2 (some .boolean) 1 := xLV.of ml3_92 imX3_isHeard seX3_isHeard inX3 cwX3_isHeard ⟨rfl, by decide +kernel, by decide +kernel, by decide +kernel⟩
theorem ml3_95 : Cond.methodLink RX3 95 yX3_tellingsOf ∈ gw := gw_t (tb4 67 rfl) rfl
theorem L3_95 : xLV RX3 95 RX3 yX3_tellingsOf cX3_tellingsOf 4 (some .int) 1 := xLV.of ml3_95 imX3_tellingsOf seX3_tellingsOf inX3 cwX3_tellingsOf ⟨rfl, by decide +kernel, by decide +kernel, by decide +kernel⟩
theorem ml3_99 : Cond.methodLink RX3 99 yX3_kindAt ∈ gw := gw_t (tb5 27 rfl) rfl
theorem L3_99 : xLV RX3 99 RX3 yX3_kindAt cX3_kindAt 2 (some .int) 1 := xLV.of ml3_99 imX3_kindAt seX3_kindAt inX3 cwX3_kindAt ⟨rfl, by decide +kernel, by decide +kernel, by decide +kernel⟩
theorem ml3_102 : Cond.methodLink RX3 102 yX3_sets ∈ gw := gw_t (tb5 131 rfl) rfl
theorem L3_102 : xLV RX3 102 RX3 yX3_sets cX3_sets 1 (some .int) 0 := xLV.of ml3_102 imX3_sets seX3_sets inX3 cwX3_sets ⟨rfl, by decide +kernel, by decide +kernel, by decide +kernel⟩
theorem ml3_105 : Cond.methodLink RX3 105 yJ6_bitCount_0f7a4 ∈ gw := gw_t (tb5 135 rfl) rfl
theorem L3_105 : xLS RX3 105 yJ6_bitCount_0f7a4 cJ6_bitCount_0f7a4 1 (some .int) 1 := xLS.of ml3_105 stJ6_bitCount_0f7a4 inJ6 cwJ6_bitCount_0f7a4 ⟨by decide +kernel, by decide +kernel, by decide +kernel⟩
theorem ml3_110 : Cond.methodLink RX3 110 yX3_clashesWithout ∈ gw := gw_t (tb5 141 rfl) rfl
theorem L3_110 : xLV RX3 110 RX3 yX3_clashesWithout cX3_clashesWithout 6 (some .int) 1 := xLV.of ml3_110 imX3_clashesWithout seX3_clashesWithout inX3 cwX3_clashesWithout ⟨rfl, by decide +kernel, by decide +kernel, by decide +kernel⟩
theorem ml4_9 : Cond.methodLink RX4 9 yX3_clear ∈ gw := gw_t (tb3 109 rfl) rfl
theorem L4_9 : xLV RX4 9 RX3 yX3_clear cX3_clear 1 none 0 := xLV.of ml4_9 imX3_clear seX3_clear inX3 cwX3_clear ⟨rfl, by decide +kernel, by decide +kernel, by decide +kernel⟩
theorem ml4_23 : Cond.methodLink RX4 23 yX8_begin ∈ gw := gw_t (tb3 117 rfl) rfl
theorem L4_23 : xLV RX4 23 RX8 yX8_begin cX8_begin 2 none 1 := xLV.of ml4_23 imX8_begin seX8_begin inX8 cwX8_begin ⟨rfl, by decide +kernel, by decide +kernel, by decide +kernel⟩
theorem ml4_29 : Cond.methodLink RX4 29 yX8_atEnd ∈ gw := gw_t (tb3 148 rfl) rfl
theorem L4_29 : xLV RX4 29 RX8 yX8_atEnd cX8_atEnd 1 (some .boolean) 0 := xLV.of ml4_29 imX8_atEnd seX8_atEnd inX8 cwX8_atEnd ⟨rfl, by decide +kernel, by decide +kernel, by decide +kernel⟩
theorem ml4_33 : Cond.methodLink RX4 33 yX4_takePart ∈ gw := gw_t (tb3 152 rfl) rfl
theorem L4_33 : xLV RX4 33 RX4 yX4_takePart cX4_takePart 3 (some .boolean) 2 := xLV.of ml4_33 imX4_takePart seX4_takePart inX4 cwX4_takePart ⟨rfl, by decide +kernel, by decide +kernel, by decide +kernel⟩
theorem ml4_37 : Cond.methodLink RX4 37 yX8_word ∈ gw := gw_t (tb3 156 rfl) rfl
theorem L4_37 : xLV RX4 37 RX8 yX8_word cX8_word 1 (some .int) 0 := xLV.of ml4_37 imX8_word seX8_word inX8 cwX8_word ⟨rfl, by decide +kernel, by decide +kernel, by decide +kernel⟩
theorem ml4_41 : Cond.methodLink RX4 41 yX4_takeRow ∈ gw := gw_t (tb3 160 rfl) rfl
theorem L4_41 : xLV RX4 41 RX4 yX4_takeRow cX4_takeRow 6 (some .boolean) 2 := xLV.of ml4_41 imX4_takeRow seX4_takeRow inX4 cwX4_takeRow ⟨rfl, by decide +kernel, by decide +kernel, by decide +kernel⟩
theorem ml4_44 : Cond.methodLink RX4 44 yX8_passSign ∈ gw := gw_t (tb4 2 rfl) rfl
theorem L4_44 : xLV RX4 44 RX8 yX8_passSign cX8_passSign 2 (some .boolean) 1 := xLV.of ml4_44 imX8_passSign seX8_passSign inX8 cwX8_passSign ⟨rfl, by decide +kernel, by decide +kernel, by decide +kernel⟩
theorem ml4_48 : Cond.methodLink RX4 48 yX4_takeOdds ∈ gw := gw_t (tb4 7 rfl) rfl
theorem L4_48 : xLV RX4 48 RX4 yX4_takeOdds cX4_takeOdds 3 (some .boolean) 2 := xLV.of ml4_48 imX4_takeOdds seX4_takeOdds inX4 cwX4_takeOdds ⟨rfl, by decide +kernel, by decide +kernel, by decide +kernel⟩
theorem ml4_51 : Cond.methodLink RX4 51 yX4_takeHarbour ∈ gw := gw_t (tb4 19 rfl) rfl
theorem L4_51 : xLV RX4 51 RX4 yX4_takeHarbour cX4_takeHarbour 4 (some .boolean) 2 := xLV.of ml4_51 imX4_takeHarbour seX4_takeHarbour inX4 cwX4_takeHarbour ⟨rfl, by decide +kernel, by decide +kernel, by decide +kernel⟩
theorem ml4_54 : Cond.methodLink RX4 54 yX4_takeTraveller ∈ gw := gw_t (tb4 23 rfl) rfl
theorem L4_54 : xLV RX4 54 RX4 yX4_takeTraveller cX4_takeTraveller 7 (some .boolean) 2 := xLV.of ml4_54 imX4_takeTraveller seX4_takeTraveller inX4 cwX4_takeTraveller ⟨rfl, by decide +kernel, by decide +kernel, by decide +kernel⟩
theorem ml4_57 : Cond.methodLink RX4 57 yX4_takeTold ∈ gw := gw_t (tb4 47 rfl) rfl
theorem L4_57 : xLV RX4 57 RX4 yX4_takeTold cX4_takeTold 6 (some .boolean) 2 := xLV.of ml4_57 imX4_takeTold seX4_takeTold inX4 cwX4_takeTold ⟨rfl, by decide +kernel, by decide +kernel, by decide +kernel⟩
theorem ml4_60 : Cond.methodLink RX4 60 yX8_blame ∈ gw := gw_t (tb3 164 rfl) rfl
theorem L4_60 : xLV RX4 60 RX8 yX8_blame cX8_blame 2 (some .boolean) 1 := xLV.of ml4_60 imX8_blame seX8_blame inX8 cwX8_blame ⟨rfl, by decide +kernel, by decide +kernel, by decide +kernel⟩
theorem ml4_70 : Cond.methodLink RX4 70 yX8_advance ∈ gw := gw_t (tb3 168 rfl) rfl
theorem L4_70 : xLV RX4 70 RX8 yX8_advance cX8_advance 1 none 0 := xLV.of ml4_70 imX8_advance seX8_advance inX8 cwX8_advance ⟨rfl, by decide +kernel, by decide +kernel, by decide +kernel⟩
theorem ml4_73 : Cond.methodLink RX4 73 yX8_isAnyWord ∈ gw := gw_t (tb3 169 rfl) rfl
theorem L4_73 : xLV RX4 73 RX8 yX8_isAnyWord cX8_isAnyWord 1 (some .boolean) 0 := xLV.of ml4_73 imX8_isAnyWord seX8_isAnyWord inX8 cwX8_isAnyWord ⟨rfl, by decide +kernel, by decide +kernel, by decide +kernel⟩
theorem ml4_76 : Cond.methodLink RX4 76 yX8_letters ∈ gw := gw_t (tb3 173 rfl) rfl
theorem L4_76 : xLV RX4 76 RX8 yX8_letters cX8_letters 1 (some .int) 0 := xLV.of ml4_76 imX8_letters seX8_letters inX8 cwX8_letters ⟨rfl, by decide +kernel, by decide +kernel, by decide +kernel⟩
theorem ml4_84 : Cond.methodLink RX4 84 yX8_letter ∈ gw := gw_t (tb3 178 rfl) rfl
theorem L4_84 : xLV RX4 84 RX8 yX8_letter cX8_letter 2 (some .int) 1 := xLV.of ml4_84 imX8_letter seX8_letter inX8 cwX8_letter ⟨rfl, by decide +kernel, by decide +kernel, by decide +kernel⟩
theorem ml4_88 : Cond.methodLink RX4 88 yJ0_indexOf_0f7a4 ∈ gw := gw_t (tb3 184 rfl) rfl
theorem L4_88 : xLV RX4 88 RJ0 yJ0_indexOf_0f7a4 cJ0_indexOf_0f7a4 2 (some .int) 1 := xLV.of ml4_88 imJ0_indexOf_0f7a4 seJ0_indexOf_0f7a4 inJ0 cwJ0_indexOf_0f7a4 ⟨rfl, by decide +kernel, by decide +kernel, by decide +kernel⟩
theorem L4_93 : xLN RX4 93 "SighChart" yX11_isKind cX11_isKind 1 (some .boolean) 1 := ⟨⟨stX11_isKind, inX11, cwX11_isKind⟩, ⟨by decide +kernel, by decide +kernel, by decide +kernel⟩⟩
theorem ml4_100 : Cond.methodLink RX4 100 yX8_isNumber ∈ gw := gw_t (tb4 11 rfl) rfl
theorem L4_100 : xLV RX4 100 RX8 yX8_isNumber cX8_isNumber 3 (some .boolean) 2 := xLV.of ml4_100 imX8_isNumber seX8_isNumber inX8 cwX8_isNumber ⟨rfl, by decide +kernel, by decide +kernel, by decide +kernel⟩
theorem ml4_104 : Cond.methodLink RX4 104 yX8_number ∈ gw := gw_t (tb4 15 rfl) rfl
theorem L4_104 : xLV RX4 104 RX8 yX8_number cX8_number 1 (some .int) 0 := xLV.of ml4_104 imX8_number seX8_number inX8 cwX8_number ⟨rfl, by decide +kernel, by decide +kernel, by decide +kernel⟩
theorem ml4_116 : Cond.methodLink RX4 116 yX8_isName ∈ gw := gw_t (tb4 27 rfl) rfl
theorem L4_116 : xLV RX4 116 RX8 yX8_isName cX8_isName 1 (some .boolean) 0 := xLV.of ml4_116 imX8_isName seX8_isName inX8 cwX8_isName ⟨rfl, by decide +kernel, by decide +kernel, by decide +kernel⟩
theorem ml4_119 : Cond.methodLink RX4 119 yX8_nameCode ∈ gw := gw_t (tb4 31 rfl) rfl
theorem L4_119 : xLV RX4 119 RX8 yX8_nameCode cX8_nameCode 1 (some .long) 0 := xLV.of ml4_119 imX8_nameCode seX8_nameCode inX8 cwX8_nameCode ⟨rfl, by decide +kernel, by decide +kernel, by decide +kernel⟩
theorem ml4_123 : Cond.methodLink RX4 123 yX3_travellerNamed ∈ gw := gw_t (tb4 35 rfl) rfl
theorem L4_123 : xLV RX4 123 RX3 yX3_travellerNamed cX3_travellerNamed 4 (some .int) 1 := xLV.of ml4_123 imX3_travellerNamed seX3_travellerNamed inX3 cwX3_travellerNamed ⟨rfl, by decide +kernel, by decide +kernel, by decide +kernel⟩
theorem ml4_127 : Cond.methodLink RX4 127 yX8_isWord ∈ gw := gw_t (tb4 39 rfl) rfl
theorem L4_127 : xLV RX4 127 RX8 yX8_isWord cX8_isWord 2 (some .boolean) 1 := xLV.of ml4_127 imX8_isWord seX8_isWord inX8 cwX8_isWord ⟨rfl, by decide +kernel, by decide +kernel, by decide +kernel⟩
theorem ml4_130 : Cond.methodLink RX4 130 yX3_addTraveller ∈ gw := gw_t (tb4 43 rfl) rfl
theorem L4_130 : xLV RX4 130 RX3 yX3_addTraveller cX3_addTraveller 5 (some .boolean) 3 := xLV.of ml4_130 imX3_addTraveller seX3_addTraveller inX3 cwX3_addTraveller ⟨rfl, by decide +kernel, by decide +kernel, by decide +kernel⟩
theorem ml4_134 : Cond.methodLink RX4 134 yX3_tellingsOf ∈ gw := gw_t (tb4 51 rfl) rfl
theorem L4_134 : xLV RX4 134 RX3 yX3_tellingsOf cX3_tellingsOf 4 (some .int) 1 := xLV.of ml4_134 imX3_tellingsOf seX3_tellingsOf inX3 cwX3_tellingsOf ⟨rfl, by decide +kernel, by decide +kernel, by decide +kernel⟩
theorem ml4_137 : Cond.methodLink RX4 137 yX4_takeFeeling ∈ gw := gw_t (tb4 55 rfl) rfl
theorem L4_137 : xLV RX4 137 RX4 yX4_takeFeeling cX4_takeFeeling 7 (some .boolean) 4 := xLV.of ml4_137 imX4_takeFeeling seX4_takeFeeling inX4 cwX4_takeFeeling ⟨rfl, by decide +kernel, by decide +kernel, by decide +kernel⟩
theorem ml4_141 : Cond.methodLink RX4 141 yX8_feeling ∈ gw := gw_t (tb4 59 rfl) rfl
theorem L4_141 : xLV RX4 141 RX8 yX8_feeling cX8_feeling 1 (some .int) 0 := xLV.of ml4_141 imX8_feeling seX8_feeling inX8 cwX8_feeling ⟨rfl, by decide +kernel, by decide +kernel, by decide +kernel⟩
theorem ml4_144 : Cond.methodLink RX4 144 yX3_addTelling ∈ gw := gw_t (tb4 63 rfl) rfl
theorem L4_144 : xLV RX4 144 RX3 yX3_addTelling cX3_addTelling 5 (some .boolean) 4 := xLV.of ml4_144 imX3_addTelling seX3_addTelling inX3 cwX3_addTelling ⟨rfl, by decide +kernel, by decide +kernel, by decide +kernel⟩
theorem L5_47 : xLN RX5 47 "SighChart" yX11_within cX11_within 3 (some .boolean) 3 := ⟨⟨stX11_within, inX11, cwX11_within⟩, ⟨by decide +kernel, by decide +kernel, by decide +kernel⟩⟩
theorem ml5_51 : Cond.methodLink RX5 51 yJ7_fill_53178 ∈ gw := gw_t (tb6 65 rfl) rfl
theorem L5_51 : xLS RX5 51 yJ7_fill_53178 cJ7_fill_53178 4 none 2 := xLS.of ml5_51 stJ7_fill_53178 inJ7 cwJ7_fill_53178 ⟨by decide +kernel, by decide +kernel, by decide +kernel⟩
theorem ml5_68 : Cond.methodLink RX5 68 yX0_hasLine ∈ gw := gw_t (tb6 67 rfl) rfl
theorem L5_68 : xLV RX5 68 RX0 yX0_hasLine cX0_hasLine 2 (some .boolean) 1 := xLV.of ml5_68 imX0_hasLine seX0_hasLine inX0 cwX0_hasLine ⟨rfl, by decide +kernel, by decide +kernel, by decide +kernel⟩
theorem ml5_72 : Cond.methodLink RX5 72 yX0_deed ∈ gw := gw_t (tb6 68 rfl) rfl
theorem L5_72 : xLV RX5 72 RX0 yX0_deed cX0_deed 2 (some .int) 1 := xLV.of ml5_72 imX0_deed seX0_deed inX0 cwX0_deed ⟨rfl, by decide +kernel, by decide +kernel, by decide +kernel⟩
theorem ml5_78 : Cond.methodLink RX5 78 yX5_behindEnd ∈ gw := gw_t (tb6 72 rfl) rfl
theorem L5_78 : xLV RX5 78 RX5 yX5_behindEnd cX5_behindEnd 5 (some .int) 2 := xLV.of ml5_78 imX5_behindEnd seX5_behindEnd inX5 cwX5_behindEnd ⟨rfl, by decide +kernel, by decide +kernel, by decide +kernel⟩
theorem ml5_82 : Cond.methodLink RX5 82 yX5_behindStep ∈ gw := gw_t (tb6 81 rfl) rfl
theorem L5_82 : xLV RX5 82 RX5 yX5_behindStep cX5_behindStep 4 (some .int) 3 := xLV.of ml5_82 imX5_behindStep seX5_behindStep inX5 cwX5_behindStep ⟨rfl, by decide +kernel, by decide +kernel, by decide +kernel⟩
theorem ml5_86 : Cond.methodLink RX5 86 yX0_partner ∈ gw := gw_t (tb6 76 rfl) rfl
theorem L5_86 : xLV RX5 86 RX0 yX0_partner cX0_partner 2 (some .int) 1 := xLV.of ml5_86 imX0_partner seX0_partner inX0 cwX0_partner ⟨rfl, by decide +kernel, by decide +kernel, by decide +kernel⟩
theorem ml5_89 : Cond.methodLink RX5 89 yX0_first ∈ gw := gw_t (tb6 85 rfl) rfl
theorem L5_89 : xLV RX5 89 RX0 yX0_first cX0_first 2 (some .int) 1 := xLV.of ml5_89 imX0_first seX0_first inX0 cwX0_first ⟨rfl, by decide +kernel, by decide +kernel, by decide +kernel⟩
theorem ml5_92 : Cond.methodLink RX5 92 yX3_setHeard ∈ gw := gw_t (tb6 89 rfl) rfl
theorem L5_92 : xLV RX5 92 RX3 yX3_setHeard cX3_setHeard 3 (some .boolean) 2 := xLV.of ml5_92 imX3_setHeard seX3_setHeard inX3 cwX3_setHeard ⟨rfl, by decide +kernel, by decide +kernel, by decide +kernel⟩
theorem ml5_96 : Cond.methodLink RX5 96 yX5_count ∈ gw := gw_t (tb6 90 rfl) rfl
theorem L5_96 : xLV RX5 96 RX5 yX5_count cX5_count 2 none 1 := xLV.of ml5_96 imX5_count seX5_count inX5 cwX5_count ⟨rfl, by decide +kernel, by decide +kernel, by decide +kernel⟩
theorem ml5_100 : Cond.methodLink RX5 100 yX0_second ∈ gw := gw_t (tb6 94 rfl) rfl
theorem L5_100 : xLV RX5 100 RX0 yX0_second cX0_second 2 (some .int) 1 := xLV.of ml5_100 imX0_second seX0_second inX0 cwX0_second ⟨rfl, by decide +kernel, by decide +kernel, by decide +kernel⟩
theorem ml5_103 : Cond.methodLink RX5 103 yX0_third ∈ gw := gw_t (tb6 98 rfl) rfl
theorem L5_103 : xLV RX5 103 RX0 yX0_third cX0_third 2 (some .int) 1 := xLV.of ml5_103 imX0_third seX0_third inX0 cwX0_third ⟨rfl, by decide +kernel, by decide +kernel, by decide +kernel⟩
theorem ml5_106 : Cond.methodLink RX5 106 yX3_addTelling ∈ gw := gw_t (tb6 102 rfl) rfl
theorem L5_106 : xLV RX5 106 RX3 yX3_addTelling cX3_addTelling 5 (some .boolean) 4 := xLV.of ml5_106 imX3_addTelling seX3_addTelling inX3 cwX3_addTelling ⟨rfl, by decide +kernel, by decide +kernel, by decide +kernel⟩
theorem ml5_110 : Cond.methodLink RX5 110 yX5_countTelling ∈ gw := gw_t (tb6 103 rfl) rfl
theorem L5_110 : xLV RX5 110 RX5 yX5_countTelling cX5_countTelling 2 none 1 := xLV.of ml5_110 imX5_countTelling seX5_countTelling inX5 cwX5_countTelling ⟨rfl, by decide +kernel, by decide +kernel, by decide +kernel⟩
theorem ml5_113 : Cond.methodLink RX5 113 yX5_sailTo ∈ gw := gw_t (tb6 107 rfl) rfl
theorem L5_113 : xLV RX5 113 RX5 yX5_sailTo cX5_sailTo 5 none 2 := xLV.of ml5_113 imX5_sailTo seX5_sailTo inX5 cwX5_sailTo ⟨rfl, by decide +kernel, by decide +kernel, by decide +kernel⟩
theorem ml5_117 : Cond.methodLink RX5 117 yX5_anyTells ∈ gw := gw_t (tb6 116 rfl) rfl
theorem L5_117 : xLV RX5 117 RX5 yX5_anyTells cX5_anyTells 7 none 1 := xLV.of ml5_117 imX5_anyTells seX5_anyTells inX5 cwX5_anyTells ⟨rfl, by decide +kernel, by decide +kernel, by decide +kernel⟩
theorem ml5_124 : Cond.methodLink RX5 124 yX5_holds ∈ gw := gw_t (tb6 127 rfl) rfl
theorem L5_124 : xLV RX5 124 RX5 yX5_holds cX5_holds 6 (some .boolean) 3 := xLV.of ml5_124 imX5_holds seX5_holds inX5 cwX5_holds ⟨rfl, by decide +kernel, by decide +kernel, by decide +kernel⟩
theorem ml5_131 : Cond.methodLink RX5 131 yX7_take ∈ gw := gw_t (tb6 111 rfl) rfl
theorem L5_131 : xLV RX5 131 RX7 yX7_take cX7_take 5 none 2 := xLV.of ml5_131 imX7_take seX7_take inX7 cwX7_take ⟨rfl, by decide +kernel, by decide +kernel, by decide +kernel⟩
theorem ml5_134 : Cond.methodLink RX5 134 yX6_find ∈ gw := gw_t (tb6 112 rfl) rfl
theorem L5_134 : xLV RX5 134 RX6 yX6_find cX6_find 6 (some .boolean) 3 := xLV.of ml5_134 imX6_find seX6_find inX6 cwX6_find ⟨rfl, by decide +kernel, by decide +kernel, by decide +kernel⟩
theorem ml5_138 : Cond.methodLink RX5 138 yX6_cells ∈ gw := gw_t (tb6 113 rfl) rfl
theorem L5_138 : xLV RX5 138 RX6 yX6_cells cX6_cells 1 (some .int) 0 := xLV.of ml5_138 imX6_cells seX6_cells inX6 cwX6_cells ⟨rfl, by decide +kernel, by decide +kernel, by decide +kernel⟩
theorem ml5_142 : Cond.methodLink RX5 142 yX6_sailedTo ∈ gw := gw_t (tb6 114 rfl) rfl
theorem L5_142 : xLV RX5 142 RX6 yX6_sailedTo cX6_sailedTo 3 (some .int) 1 := xLV.of ml5_142 imX6_sailedTo seX6_sailedTo inX6 cwX6_sailedTo ⟨rfl, by decide +kernel, by decide +kernel, by decide +kernel⟩
theorem ml5_146 : Cond.methodLink RX5 146 yX3_kindAt ∈ gw := gw_t (tb6 115 rfl) rfl
theorem L5_146 : xLV RX5 146 RX3 yX3_kindAt cX3_kindAt 2 (some .int) 1 := xLV.of ml5_146 imX3_kindAt seX3_kindAt inX3 cwX3_kindAt ⟨rfl, by decide +kernel, by decide +kernel, by decide +kernel⟩
theorem ml5_152 : Cond.methodLink RX5 152 yX3_cellCount ∈ gw := gw_t (tb6 120 rfl) rfl
theorem L5_152 : xLV RX5 152 RX3 yX3_cellCount cX3_cellCount 1 (some .int) 0 := xLV.of ml5_152 imX3_cellCount seX3_cellCount inX3 cwX3_cellCount ⟨rfl, by decide +kernel, by decide +kernel, by decide +kernel⟩
theorem ml5_155 : Cond.methodLink RX5 155 yX5_draw ∈ gw := gw_t (tb6 121 rfl) rfl
theorem L5_155 : xLV RX5 155 RX5 yX5_draw cX5_draw 2 (some .int) 1 := xLV.of ml5_155 imX5_draw seX5_draw inX5 cwX5_draw ⟨rfl, by decide +kernel, by decide +kernel, by decide +kernel⟩
theorem ml5_158 : Cond.methodLink RX5 158 yX3_hasTraveller ∈ gw := gw_t (tb6 126 rfl) rfl
theorem L5_158 : xLV RX5 158 RX3 yX3_hasTraveller cX3_hasTraveller 2 (some .boolean) 1 := xLV.of ml5_158 imX3_hasTraveller seX3_hasTraveller inX3 cwX3_hasTraveller ⟨rfl, by decide +kernel, by decide +kernel, by decide +kernel⟩
theorem ml5_164 : Cond.methodLink RX5 164 yX3_isHeard ∈ gw := gw_t (tb6 131 rfl) rfl
theorem L5_164 : xLV RX5 164 RX3 yX3_isHeard cX3_isHeard 2 (some .boolean) 1 := xLV.of ml5_164 imX3_isHeard seX3_isHeard inX3 cwX3_isHeard ⟨rfl, by decide +kernel, by decide +kernel, by decide +kernel⟩
theorem ml5_167 : Cond.methodLink RX5 167 yX7_drawnAs ∈ gw := gw_t (tb6 132 rfl) rfl
theorem L5_167 : xLV RX5 167 RX7 yX7_drawnAs cX7_drawnAs 7 (some .int) 1 := xLV.of ml5_167 imX7_drawnAs seX7_drawnAs inX7 cwX7_drawnAs ⟨rfl, by decide +kernel, by decide +kernel, by decide +kernel⟩
theorem ml5_170 : Cond.methodLink RX5 170 yX7_knownCells ∈ gw := gw_t (tb6 133 rfl) rfl
theorem L5_170 : xLV RX5 170 RX7 yX7_knownCells cX7_knownCells 4 (some .int) 1 := xLV.of ml5_170 imX7_knownCells seX7_knownCells inX7 cwX7_knownCells ⟨rfl, by decide +kernel, by decide +kernel, by decide +kernel⟩
theorem ml5_173 : Cond.methodLink RX5 173 yJ6_compare_7cf53 ∈ gw := gw_t (tb6 134 rfl) rfl
theorem L5_173 : xLS RX5 173 yJ6_compare_7cf53 cJ6_compare_7cf53 2 (some .int) 2 := xLS.of ml5_173 stJ6_compare_7cf53 inJ6 cwJ6_compare_7cf53 ⟨by decide +kernel, by decide +kernel, by decide +kernel⟩
theorem ml6_28 : Cond.methodLink RX6 28 yX3_cellCount ∈ gw := gw_t (tb5 167 rfl) rfl
theorem L6_28 : xLV RX6 28 RX3 yX3_cellCount cX3_cellCount 1 (some .int) 0 := xLV.of ml6_28 imX3_cellCount seX3_cellCount inX3 cwX3_cellCount ⟨rfl, by decide +kernel, by decide +kernel, by decide +kernel⟩
theorem ml6_41 : Cond.methodLink RX6 41 yX3_hasCell ∈ gw := gw_t (tb5 168 rfl) rfl
theorem L6_41 : xLV RX6 41 RX3 yX3_hasCell cX3_hasCell 2 (some .boolean) 1 := xLV.of ml6_41 imX3_hasCell seX3_hasCell inX3 cwX3_hasCell ⟨rfl, by decide +kernel, by decide +kernel, by decide +kernel⟩
theorem ml6_45 : Cond.methodLink RX6 45 yX7_drawnAs ∈ gw := gw_t (tb5 169 rfl) rfl
theorem L6_45 : xLV RX6 45 RX7 yX7_drawnAs cX7_drawnAs 7 (some .int) 1 := xLV.of ml6_45 imX7_drawnAs seX7_drawnAs inX7 cwX7_drawnAs ⟨rfl, by decide +kernel, by decide +kernel, by decide +kernel⟩
theorem ml6_52 : Cond.methodLink RX6 52 yX7_riskOf ∈ gw := gw_t (tb5 171 rfl) rfl
theorem L6_52 : xLV RX6 52 RX7 yX7_riskOf cX7_riskOf 5 (some .int) 1 := xLV.of ml6_52 imX7_riskOf seX7_riskOf inX7 cwX7_riskOf ⟨rfl, by decide +kernel, by decide +kernel, by decide +kernel⟩
theorem ml6_55 : Cond.methodLink RX6 55 yX6_lowerCosts ∈ gw := gw_t (tb5 172 rfl) rfl
theorem L6_55 : xLV RX6 55 RX6 yX6_lowerCosts cX6_lowerCosts 5 (some .boolean) 0 := xLV.of ml6_55 imX6_lowerCosts seX6_lowerCosts inX6 cwX6_lowerCosts ⟨rfl, by decide +kernel, by decide +kernel, by decide +kernel⟩
theorem ml6_59 : Cond.methodLink RX6 59 yX6_follow ∈ gw := gw_t (tb5 180 rfl) rfl
theorem L6_59 : xLV RX6 59 RX6 yX6_follow cX6_follow 8 (some .boolean) 2 := xLV.of ml6_59 imX6_follow seX6_follow inX6 cwX6_follow ⟨rfl, by decide +kernel, by decide +kernel, by decide +kernel⟩
theorem ml6_63 : Cond.methodLink RX6 63 yX6_neighbour ∈ gw := gw_t (tb5 176 rfl) rfl
theorem L6_63 : xLV RX6 63 RX6 yX6_neighbour cX6_neighbour 5 (some .int) 2 := xLV.of ml6_63 imX6_neighbour seX6_neighbour inX6 cwX6_neighbour ⟨rfl, by decide +kernel, by decide +kernel, by decide +kernel⟩
theorem L6_67 : xLN RX6 67 "SighChart" yX11_within cX11_within 3 (some .boolean) 3 := ⟨⟨stX11_within, inX11, cwX11_within⟩, ⟨by decide +kernel, by decide +kernel, by decide +kernel⟩⟩
theorem ml6_71 : Cond.methodLink RX6 71 yX6_cellAt ∈ gw := gw_t (tb5 218 rfl) rfl
theorem L6_71 : xLV RX6 71 RX6 yX6_cellAt cX6_cellAt 2 (some .int) 1 := xLV.of ml6_71 imX6_cellAt seX6_cellAt inX6 cwX6_cellAt ⟨rfl, by decide +kernel, by decide +kernel, by decide +kernel⟩
theorem ml6_74 : Cond.methodLink RX6 74 yX3_kindAt ∈ gw := gw_t (tb5 219 rfl) rfl
theorem L6_74 : xLV RX6 74 RX3 yX3_kindAt cX3_kindAt 2 (some .int) 1 := xLV.of ml6_74 imX3_kindAt seX3_kindAt inX3 cwX3_kindAt ⟨rfl, by decide +kernel, by decide +kernel, by decide +kernel⟩
theorem ml7_15 : Cond.methodLink RX7 15 yJ7_fill_53178 ∈ gw := gw_t (tb4 192 rfl) rfl
theorem L7_15 : xLS RX7 15 yJ7_fill_53178 cJ7_fill_53178 4 none 2 := xLS.of ml7_15 stJ7_fill_53178 inJ7 cwJ7_fill_53178 ⟨by decide +kernel, by decide +kernel, by decide +kernel⟩
theorem L7_36 : xLN RX7 36 "SighChart" yX3_isIn cX3_isIn 2 (some .boolean) 2 := ⟨⟨stX3_isIn, inX3, cwX3_isIn⟩, ⟨by decide +kernel, by decide +kernel, by decide +kernel⟩⟩
theorem L7_40 : xLN RX7 40 "SighChart" yX11_within cX11_within 3 (some .boolean) 3 := ⟨⟨stX11_within, inX11, cwX11_within⟩, ⟨by decide +kernel, by decide +kernel, by decide +kernel⟩⟩
theorem ml7_44 : Cond.methodLink RX7 44 yX7_drawnAs ∈ gw := gw_t (tb4 202 rfl) rfl
theorem L7_44 : xLV RX7 44 RX7 yX7_drawnAs cX7_drawnAs 7 (some .int) 1 := xLV.of ml7_44 imX7_drawnAs seX7_drawnAs inX7 cwX7_drawnAs ⟨rfl, by decide +kernel, by decide +kernel, by decide +kernel⟩
theorem ml7_48 : Cond.methodLink RX7 48 yX7_votesFor ∈ gw := gw_t (tb4 230 rfl) rfl
theorem L7_48 : xLV RX7 48 RX7 yX7_votesFor cX7_votesFor 4 (some .int) 2 := xLV.of ml7_48 imX7_votesFor seX7_votesFor inX7 cwX7_votesFor ⟨rfl, by decide +kernel, by decide +kernel, by decide +kernel⟩
theorem ml7_52 : Cond.methodLink RX7 52 yX3_cellCount ∈ gw := gw_t (tb4 201 rfl) rfl
theorem L7_52 : xLV RX7 52 RX3 yX3_cellCount cX3_cellCount 1 (some .int) 0 := xLV.of ml7_52 imX3_cellCount seX3_cellCount inX3 cwX3_cellCount ⟨rfl, by decide +kernel, by decide +kernel, by decide +kernel⟩
theorem ml7_56 : Cond.methodLink RX7 56 yX3_kindAt ∈ gw := gw_t (tb4 210 rfl) rfl
theorem L7_56 : xLV RX7 56 RX3 yX3_kindAt cX3_kindAt 2 (some .int) 1 := xLV.of ml7_56 imX3_kindAt seX3_kindAt inX3 cwX3_kindAt ⟨rfl, by decide +kernel, by decide +kernel, by decide +kernel⟩
theorem ml8_21 : Cond.methodLink RX8 21 yJ0_length_8abf5 ∈ gw := gw_t (tb1 61 rfl) rfl
theorem L8_21 : xLV RX8 21 RJ0 yJ0_length_8abf5 cJ0_length_8abf5 1 (some .int) 0 := xLV.of ml8_21 imJ0_length_8abf5 seJ0_length_8abf5 inJ0 cwJ0_length_8abf5 ⟨rfl, by decide +kernel, by decide +kernel, by decide +kernel⟩
theorem ml8_27 : Cond.methodLink RX8 27 yJ0_charAt_5068e ∈ gw := gw_t (tb1 71 rfl) rfl
theorem L8_27 : xLV RX8 27 RJ0 yJ0_charAt_5068e cJ0_charAt_5068e 2 (some .char) 1 := xLV.of ml8_27 imJ0_charAt_5068e seJ0_charAt_5068e inJ0 cwJ0_charAt_5068e ⟨rfl, by decide +kernel, by decide +kernel, by decide +kernel⟩
theorem ml8_38 : Cond.methodLink RX8 38 yJ9_min_7cf53 ∈ gw := gw_t (tb3 121 rfl) rfl
theorem L8_38 : xLS RX8 38 yJ9_min_7cf53 cJ9_min_7cf53 2 (some .int) 2 := xLS.of ml8_38 stJ9_min_7cf53 inJ9 cwJ9_min_7cf53 ⟨by decide +kernel, by decide +kernel, by decide +kernel⟩
theorem ml8_44 : Cond.methodLink RX8 44 yJ9_max_7cf53 ∈ gw := gw_t (tb3 124 rfl) rfl
theorem L8_44 : xLS RX8 44 yJ9_max_7cf53 cJ9_max_7cf53 2 (some .int) 2 := xLS.of ml8_44 stJ9_max_7cf53 inJ9 cwJ9_max_7cf53 ⟨by decide +kernel, by decide +kernel, by decide +kernel⟩
theorem ml8_59 : Cond.methodLink RX8 59 yX8_advance ∈ gw := gw_t (tb3 127 rfl) rfl
theorem L8_59 : xLV RX8 59 RX8 yX8_advance cX8_advance 1 none 0 := xLV.of ml8_59 imX8_advance seX8_advance inX8 cwX8_advance ⟨rfl, by decide +kernel, by decide +kernel, by decide +kernel⟩
theorem ml8_71 : Cond.methodLink RX8 71 yX8_letters ∈ gw := gw_t (tb3 182 rfl) rfl
theorem L8_71 : xLV RX8 71 RX8 yX8_letters cX8_letters 1 (some .int) 0 := xLV.of ml8_71 imX8_letters seX8_letters inX8 cwX8_letters ⟨rfl, by decide +kernel, by decide +kernel, by decide +kernel⟩
theorem L8_74 : xLN RX8 74 "SighChart" yX11_within cX11_within 3 (some .boolean) 3 := ⟨⟨stX11_within, inX11, cwX11_within⟩, ⟨by decide +kernel, by decide +kernel, by decide +kernel⟩⟩
theorem ml8_82 : Cond.methodLink RX8 82 yX8_blame ∈ gw := gw_t (tb4 6 rfl) rfl
theorem L8_82 : xLV RX8 82 RX8 yX8_blame cX8_blame 2 (some .boolean) 1 := xLV.of ml8_82 imX8_blame seX8_blame inX8 cwX8_blame ⟨rfl, by decide +kernel, by decide +kernel, by decide +kernel⟩
theorem ml8_86 : Cond.methodLink RX8 86 yX8_isBlank ∈ gw := gw_t (tb3 131 rfl) rfl
theorem L8_86 : xLS RX8 86 yX8_isBlank cX8_isBlank 1 (some .boolean) 1 := xLS.of ml8_86 stX8_isBlank inX8 cwX8_isBlank ⟨by decide +kernel, by decide +kernel, by decide +kernel⟩
theorem ml8_89 : Cond.methodLink RX8 89 yX8_kindOf ∈ gw := gw_t (tb3 134 rfl) rfl
theorem L8_89 : xLS RX8 89 yX8_kindOf cX8_kindOf 1 (some .int) 1 := xLS.of ml8_89 stX8_kindOf inX8 cwX8_kindOf ⟨by decide +kernel, by decide +kernel, by decide +kernel⟩
theorem ml8_93 : Cond.methodLink RX8 93 yX8_isLong ∈ gw := gw_t (tb3 137 rfl) rfl
theorem L8_93 : xLS RX8 93 yX8_isLong cX8_isLong 1 (some .boolean) 1 := xLS.of ml8_93 stX8_isLong inX8 cwX8_isLong ⟨by decide +kernel, by decide +kernel, by decide +kernel⟩
theorem ml8_96 : Cond.methodLink RX8 96 yX8_readWord ∈ gw := gw_t (tb3 140 rfl) rfl
theorem L8_96 : xLV RX8 96 RX8 yX8_readWord cX8_readWord 2 none 0 := xLV.of ml8_96 imX8_readWord seX8_readWord inX8 cwX8_readWord ⟨rfl, by decide +kernel, by decide +kernel, by decide +kernel⟩
theorem ml8_99 : Cond.methodLink RX8 99 yX8_readNumber ∈ gw := gw_t (tb3 144 rfl) rfl
theorem L8_99 : xLV RX8 99 RX8 yX8_readNumber cX8_readNumber 2 none 0 := xLV.of ml8_99 imX8_readNumber seX8_readNumber inX8 cwX8_readNumber ⟨rfl, by decide +kernel, by decide +kernel, by decide +kernel⟩
theorem ml9_23 : Cond.methodLink RX9 23 yJ7_fill_53178 ∈ gw := gw_t (tb1 39 rfl) rfl
theorem L9_23 : xLS RX9 23 yJ7_fill_53178 cJ7_fill_53178 4 none 2 := xLS.of ml9_23 stJ7_fill_53178 inJ7 cwJ7_fill_53178 ⟨by decide +kernel, by decide +kernel, by decide +kernel⟩
theorem L9_29 : xLN RX9 29 "SighChart" yX11_within cX11_within 3 (some .boolean) 3 := ⟨⟨stX11_within, inX11, cwX11_within⟩, ⟨by decide +kernel, by decide +kernel, by decide +kernel⟩⟩
theorem ml9_33 : Cond.methodLink RX9 33 yX9_isTray ∈ gw := gw_t (tb3 24 rfl) rfl
theorem L9_33 : xLV RX9 33 RX9 yX9_isTray cX9_isTray 2 (some .boolean) 1 := xLV.of ml9_33 imX9_isTray seX9_isTray inX9 cwX9_isTray ⟨rfl, by decide +kernel, by decide +kernel, by decide +kernel⟩
theorem ml9_37 : Cond.methodLink RX9 37 yX9_isMissing ∈ gw := gw_t (tb3 40 rfl) rfl
theorem L9_37 : xLV RX9 37 RX9 yX9_isMissing cX9_isMissing 2 (some .boolean) 1 := xLV.of ml9_37 imX9_isMissing seX9_isMissing inX9 cwX9_isMissing ⟨rfl, by decide +kernel, by decide +kernel, by decide +kernel⟩
theorem ml9_40 : Cond.methodLink RX9 40 yX9_hasPlaces ∈ gw := gw_t (tb3 44 rfl) rfl
theorem L9_40 : xLV RX9 40 RX9 yX9_hasPlaces cX9_hasPlaces 4 (some .boolean) 3 := xLV.of ml9_40 imX9_hasPlaces seX9_hasPlaces inX9 cwX9_hasPlaces ⟨rfl, by decide +kernel, by decide +kernel, by decide +kernel⟩
theorem ml9_43 : Cond.methodLink RX9 43 yJ7_fill_d0a16 ∈ gw := gw_t (tb3 25 rfl) rfl
theorem L9_43 : xLS RX9 43 yJ7_fill_d0a16 cJ7_fill_d0a16 5 none 2 := xLS.of ml9_43 stJ7_fill_d0a16 inJ7 cwJ7_fill_d0a16 ⟨by decide +kernel, by decide +kernel, by decide +kernel⟩
theorem ml9_46 : Cond.methodLink RX9 46 yX9_cut ∈ gw := gw_t (tb3 52 rfl) rfl
theorem L9_46 : xLS RX9 46 yX9_cut cX9_cut 3 (some .long) 2 := xLS.of ml9_46 stX9_cut inX9 cwX9_cut ⟨by decide +kernel, by decide +kernel, by decide +kernel⟩
theorem ml10_17 : Cond.methodLink RX10 17 yX0_clear ∈ gw := gw_t (tb4 101 rfl) rfl
theorem L10_17 : xLV RX10 17 RX0 yX0_clear cX0_clear 1 none 0 := xLV.of ml10_17 imX0_clear seX0_clear inX0 cwX0_clear ⟨rfl, by decide +kernel, by decide +kernel, by decide +kernel⟩
theorem ml10_24 : Cond.methodLink RX10 24 yX8_begin ∈ gw := gw_t (tb4 102 rfl) rfl
theorem L10_24 : xLV RX10 24 RX8 yX8_begin cX8_begin 2 none 1 := xLV.of ml10_24 imX8_begin seX8_begin inX8 cwX8_begin ⟨rfl, by decide +kernel, by decide +kernel, by decide +kernel⟩
theorem ml10_30 : Cond.methodLink RX10 30 yX8_atEnd ∈ gw := gw_t (tb4 103 rfl) rfl
theorem L10_30 : xLV RX10 30 RX8 yX8_atEnd cX8_atEnd 1 (some .boolean) 0 := xLV.of ml10_30 imX8_atEnd seX8_atEnd inX8 cwX8_atEnd ⟨rfl, by decide +kernel, by decide +kernel, by decide +kernel⟩
theorem ml10_34 : Cond.methodLink RX10 34 yX8_isWord ∈ gw := gw_t (tb4 104 rfl) rfl
theorem L10_34 : xLV RX10 34 RX8 yX8_isWord cX8_isWord 2 (some .boolean) 1 := xLV.of ml10_34 imX8_isWord seX8_isWord inX8 cwX8_isWord ⟨rfl, by decide +kernel, by decide +kernel, by decide +kernel⟩
theorem ml10_38 : Cond.methodLink RX10 38 yX10_takeEnd ∈ gw := gw_t (tb4 105 rfl) rfl
theorem L10_38 : xLV RX10 38 RX10 yX10_takeEnd cX10_takeEnd 3 (some .boolean) 2 := xLV.of ml10_38 imX10_takeEnd seX10_takeEnd inX10 cwX10_takeEnd ⟨rfl, by decide +kernel, by decide +kernel, by decide +kernel⟩
theorem ml10_42 : Cond.methodLink RX10 42 yX10_takeStep ∈ gw := gw_t (tb4 125 rfl) rfl
theorem L10_42 : xLV RX10 42 RX10 yX10_takeStep cX10_takeStep 6 (some .boolean) 3 := xLV.of ml10_42 imX10_takeStep seX10_takeStep inX10 cwX10_takeStep ⟨rfl, by decide +kernel, by decide +kernel, by decide +kernel⟩
theorem ml10_46 : Cond.methodLink RX10 46 yX8_blame ∈ gw := gw_t (tb4 109 rfl) rfl
theorem L10_46 : xLV RX10 46 RX8 yX8_blame cX8_blame 2 (some .boolean) 1 := xLV.of ml10_46 imX8_blame seX8_blame inX8 cwX8_blame ⟨rfl, by decide +kernel, by decide +kernel, by decide +kernel⟩
theorem ml10_53 : Cond.methodLink RX10 53 yX0_addEnd ∈ gw := gw_t (tb4 110 rfl) rfl
theorem L10_53 : xLV RX10 53 RX0 yX0_addEnd cX0_addEnd 2 none 1 := xLV.of ml10_53 imX0_addEnd seX0_addEnd inX0 cwX0_addEnd ⟨rfl, by decide +kernel, by decide +kernel, by decide +kernel⟩
theorem ml10_56 : Cond.methodLink RX10 56 yX8_advance ∈ gw := gw_t (tb4 123 rfl) rfl
theorem L10_56 : xLV RX10 56 RX8 yX8_advance cX8_advance 1 none 0 := xLV.of ml10_56 imX8_advance seX8_advance inX8 cwX8_advance ⟨rfl, by decide +kernel, by decide +kernel, by decide +kernel⟩
theorem ml10_59 : Cond.methodLink RX10 59 yX8_passSign ∈ gw := gw_t (tb4 124 rfl) rfl
theorem L10_59 : xLV RX10 59 RX8 yX8_passSign cX8_passSign 2 (some .boolean) 1 := xLV.of ml10_59 imX8_passSign seX8_passSign inX8 cwX8_passSign ⟨rfl, by decide +kernel, by decide +kernel, by decide +kernel⟩
theorem ml10_62 : Cond.methodLink RX10 62 yX8_word ∈ gw := gw_t (tb4 129 rfl) rfl
theorem L10_62 : xLV RX10 62 RX8 yX8_word cX8_word 1 (some .int) 0 := xLV.of ml10_62 imX8_word seX8_word inX8 cwX8_word ⟨rfl, by decide +kernel, by decide +kernel, by decide +kernel⟩
theorem ml10_66 : Cond.methodLink RX10 66 yX10_beginsStep ∈ gw := gw_t (tb4 130 rfl) rfl
theorem L10_66 : xLS RX10 66 yX10_beginsStep cX10_beginsStep 1 (some .boolean) 1 := xLS.of ml10_66 stX10_beginsStep inX10 cwX10_beginsStep ⟨by decide +kernel, by decide +kernel, by decide +kernel⟩
theorem ml10_75 : Cond.methodLink RX10 75 yX10_takeTest ∈ gw := gw_t (tb4 134 rfl) rfl
theorem L10_75 : xLV RX10 75 RX10 yX10_takeTest cX10_takeTest 5 (some .boolean) 3 := xLV.of ml10_75 imX10_takeTest seX10_takeTest inX10 cwX10_takeTest ⟨rfl, by decide +kernel, by decide +kernel, by decide +kernel⟩
theorem ml10_78 : Cond.methodLink RX10 78 yX10_takeRest ∈ gw := gw_t (tb4 172 rfl) rfl
theorem L10_78 : xLV RX10 78 RX10 yX10_takeRest cX10_takeRest 5 (some .boolean) 4 := xLV.of ml10_78 imX10_takeRest seX10_takeRest inX10 cwX10_takeRest ⟨rfl, by decide +kernel, by decide +kernel, by decide +kernel⟩
theorem L10_82 : xLN RX10 82 "SighChart" yX11_within cX11_within 3 (some .boolean) 3 := ⟨⟨stX11_within, inX11, cwX11_within⟩, ⟨by decide +kernel, by decide +kernel, by decide +kernel⟩⟩
theorem ml10_86 : Cond.methodLink RX10 86 yX10_takeName ∈ gw := gw_t (tb4 138 rfl) rfl
theorem L10_86 : xLV RX10 86 RX10 yX10_takeName cX10_takeName 3 (some .boolean) 2 := xLV.of ml10_86 imX10_takeName seX10_takeName inX10 cwX10_takeName ⟨rfl, by decide +kernel, by decide +kernel, by decide +kernel⟩
theorem ml10_93 : Cond.methodLink RX10 93 yX0_addStep ∈ gw := gw_t (tb4 145 rfl) rfl
theorem L10_93 : xLV RX10 93 RX0 yX0_addStep cX0_addStep 5 (some .boolean) 4 := xLV.of ml10_93 imX0_addStep seX0_addStep inX0 cwX0_addStep ⟨rfl, by decide +kernel, by decide +kernel, by decide +kernel⟩
theorem ml10_97 : Cond.methodLink RX10 97 yX10_takeCell ∈ gw := gw_t (tb4 149 rfl) rfl
theorem L10_97 : xLV RX10 97 RX10 yX10_takeCell cX10_takeCell 4 (some .boolean) 2 := xLV.of ml10_97 imX10_takeCell seX10_takeCell inX10 cwX10_takeCell ⟨rfl, by decide +kernel, by decide +kernel, by decide +kernel⟩
theorem ml10_100 : Cond.methodLink RX10 100 yX10_takeFeeling ∈ gw := gw_t (tb4 155 rfl) rfl
theorem L10_100 : xLV RX10 100 RX10 yX10_takeFeeling cX10_takeFeeling 2 (some .boolean) 1 := xLV.of ml10_100 imX10_takeFeeling seX10_takeFeeling inX10 cwX10_takeFeeling ⟨rfl, by decide +kernel, by decide +kernel, by decide +kernel⟩
theorem ml10_110 : Cond.methodLink RX10 110 yX10_takeNumber ∈ gw := gw_t (tb4 168 rfl) rfl
theorem L10_110 : xLV RX10 110 RX10 yX10_takeNumber cX10_takeNumber 4 (some .boolean) 3 := xLV.of ml10_110 imX10_takeNumber seX10_takeNumber inX10 cwX10_takeNumber ⟨rfl, by decide +kernel, by decide +kernel, by decide +kernel⟩
theorem ml10_117 : Cond.methodLink RX10 117 yX10_takeComparison ∈ gw := gw_t (tb4 160 rfl) rfl
theorem L10_117 : xLV RX10 117 RX10 yX10_takeComparison cX10_takeComparison 2 (some .boolean) 1 := xLV.of ml10_117 imX10_takeComparison seX10_takeComparison inX10 cwX10_takeComparison ⟨rfl, by decide +kernel, by decide +kernel, by decide +kernel⟩
theorem ml10_123 : Cond.methodLink RX10 123 yX8_isName ∈ gw := gw_t (tb4 142 rfl) rfl
theorem L10_123 : xLV RX10 123 RX8 yX8_isName cX8_isName 1 (some .boolean) 0 := xLV.of ml10_123 imX8_isName seX8_isName inX8 cwX8_isName ⟨rfl, by decide +kernel, by decide +kernel, by decide +kernel⟩
theorem ml10_126 : Cond.methodLink RX10 126 yX8_nameCode ∈ gw := gw_t (tb4 143 rfl) rfl
theorem L10_126 : xLV RX10 126 RX8 yX8_nameCode cX8_nameCode 1 (some .long) 0 := xLV.of ml10_126 imX8_nameCode seX8_nameCode inX8 cwX8_nameCode ⟨rfl, by decide +kernel, by decide +kernel, by decide +kernel⟩
theorem ml10_130 : Cond.methodLink RX10 130 yX3_travellerNamed ∈ gw := gw_t (tb4 144 rfl) rfl
theorem L10_130 : xLV RX10 130 RX3 yX3_travellerNamed cX3_travellerNamed 4 (some .int) 1 := xLV.of ml10_130 imX3_travellerNamed seX3_travellerNamed inX3 cwX3_travellerNamed ⟨rfl, by decide +kernel, by decide +kernel, by decide +kernel⟩
theorem ml10_139 : Cond.methodLink RX10 139 yX8_isNumber ∈ gw := gw_t (tb4 153 rfl) rfl
theorem L10_139 : xLV RX10 139 RX8 yX8_isNumber cX8_isNumber 3 (some .boolean) 2 := xLV.of ml10_139 imX8_isNumber seX8_isNumber inX8 cwX8_isNumber ⟨rfl, by decide +kernel, by decide +kernel, by decide +kernel⟩
theorem ml10_143 : Cond.methodLink RX10 143 yX8_number ∈ gw := gw_t (tb4 154 rfl) rfl
theorem L10_143 : xLV RX10 143 RX8 yX8_number cX8_number 1 (some .int) 0 := xLV.of ml10_143 imX8_number seX8_number inX8 cwX8_number ⟨rfl, by decide +kernel, by decide +kernel, by decide +kernel⟩
theorem ml10_148 : Cond.methodLink RX10 148 yX8_feeling ∈ gw := gw_t (tb4 159 rfl) rfl
theorem L10_148 : xLV RX10 148 RX8 yX8_feeling cX8_feeling 1 (some .int) 0 := xLV.of ml10_148 imX8_feeling seX8_feeling inX8 cwX8_feeling ⟨rfl, by decide +kernel, by decide +kernel, by decide +kernel⟩
theorem ml10_151 : Cond.methodLink RX10 151 yX8_comparison ∈ gw := gw_t (tb4 164 rfl) rfl
theorem L10_151 : xLV RX10 151 RX8 yX8_comparison cX8_comparison 1 (some .int) 0 := xLV.of ml10_151 imX8_comparison seX8_comparison inX8 cwX8_comparison ⟨rfl, by decide +kernel, by decide +kernel, by decide +kernel⟩
theorem mlL_13 : Cond.methodLink RL 13 yX11_status ∈ gw := gw_t (tb2 232 rfl) rfl
theorem LL_13 : xLV RL 13 RX11 yX11_status cX11_status 1 (some .int) 0 := xLV.of mlL_13 imX11_status seX11_status inX11 cwX11_status ⟨rfl, by decide +kernel, by decide +kernel, by decide +kernel⟩
theorem mlL_17 : Cond.methodLink RL 17 yX12_status ∈ gw := gw_t (tb7 73 rfl) rfl
theorem LL_17 : xLV RL 17 RX12 yX12_status cX12_status 1 (some .int) 0 := xLV.of mlL_17 imX12_status seX12_status inX12 cwX12_status ⟨rfl, by decide +kernel, by decide +kernel, by decide +kernel⟩
theorem mlL_18 : Cond.methodLink RL 18 yX11_top ∈ gw := gw_t (tb2 236 rfl) rfl
theorem LL_18 : xLV RL 18 RX11 yX11_top cX11_top 1 (some .long) 0 := xLV.of mlL_18 imX11_top seX11_top inX11 cwX11_top ⟨rfl, by decide +kernel, by decide +kernel, by decide +kernel⟩
theorem mlL_22 : Cond.methodLink RL 22 yX12_top ∈ gw := gw_t (tb7 77 rfl) rfl
theorem LL_22 : xLV RL 22 RX12 yX12_top cX12_top 1 (some .long) 0 := xLV.of mlL_22 imX12_top seX12_top inX12 cwX12_top ⟨rfl, by decide +kernel, by decide +kernel, by decide +kernel⟩
theorem mlL_23 : Cond.methodLink RL 23 yX11_bottom ∈ gw := gw_t (tb3 0 rfl) rfl
theorem LL_23 : xLV RL 23 RX11 yX11_bottom cX11_bottom 1 (some .long) 0 := xLV.of mlL_23 imX11_bottom seX11_bottom inX11 cwX11_bottom ⟨rfl, by decide +kernel, by decide +kernel, by decide +kernel⟩
theorem mlL_26 : Cond.methodLink RL 26 yX12_bottom ∈ gw := gw_t (tb7 81 rfl) rfl
theorem LL_26 : xLV RL 26 RX12 yX12_bottom cX12_bottom 1 (some .long) 0 := xLV.of mlL_26 imX12_bottom seX12_bottom inX12 cwX12_bottom ⟨rfl, by decide +kernel, by decide +kernel, by decide +kernel⟩
theorem mlL_27 : Cond.methodLink RL 27 yX11_tray ∈ gw := gw_t (tb3 4 rfl) rfl
theorem LL_27 : xLV RL 27 RX11 yX11_tray cX11_tray 4 (some .boolean) 3 := xLV.of mlL_27 imX11_tray seX11_tray inX11 cwX11_tray ⟨rfl, by decide +kernel, by decide +kernel, by decide +kernel⟩
theorem mlL_31 : Cond.methodLink RL 31 yX12_tray ∈ gw := gw_t (tb7 85 rfl) rfl
theorem LL_31 : xLV RL 31 RX12 yX12_tray cX12_tray 5 (some .boolean) 3 := xLV.of mlL_31 imX12_tray seX12_tray inX12 cwX12_tray ⟨rfl, by decide +kernel, by decide +kernel, by decide +kernel⟩
theorem mlL_34 : Cond.methodLink RL 34 yX11_write ∈ gw := gw_t (tb3 32 rfl) rfl
theorem LL_34 : xLV RL 34 RX11 yX11_write cX11_write 6 (some .boolean) 3 := xLV.of mlL_34 imX11_write seX11_write inX11 cwX11_write ⟨rfl, by decide +kernel, by decide +kernel, by decide +kernel⟩
theorem mlL_38 : Cond.methodLink RL 38 yX12_write ∈ gw := gw_t (tb7 93 rfl) rfl
theorem LL_38 : xLV RL 38 RX12 yX12_write cX12_write 5 (some .boolean) 3 := xLV.of mlL_38 imX12_write seX12_write inX12 cwX12_write ⟨rfl, by decide +kernel, by decide +kernel, by decide +kernel⟩
theorem mlL_39 : Cond.methodLink RL 39 yX11_read ∈ gw := gw_t (tb3 55 rfl) rfl
theorem LL_39 : xLV RL 39 RX11 yX11_read cX11_read 4 (some .long) 2 := xLV.of mlL_39 imX11_read seX11_read inX11 cwX11_read ⟨rfl, by decide +kernel, by decide +kernel, by decide +kernel⟩
theorem mlL_43 : Cond.methodLink RL 43 yX12_read ∈ gw := gw_t (tb7 108 rfl) rfl
theorem LL_43 : xLV RL 43 RX12 yX12_read cX12_read 3 (some .long) 2 := xLV.of mlL_43 imX12_read seX12_read inX12 cwX12_read ⟨rfl, by decide +kernel, by decide +kernel, by decide +kernel⟩
theorem mlL_44 : Cond.methodLink RL 44 yX11_pour ∈ gw := gw_t (tb3 68 rfl) rfl
theorem LL_44 : xLV RL 44 RX11 yX11_pour cX11_pour 6 (some .boolean) 5 := xLV.of mlL_44 imX11_pour seX11_pour inX11 cwX11_pour ⟨rfl, by decide +kernel, by decide +kernel, by decide +kernel⟩
theorem mlL_48 : Cond.methodLink RL 48 yX12_pour ∈ gw := gw_t (tb7 113 rfl) rfl
theorem LL_48 : xLV RL 48 RX12 yX12_pour cX12_pour 9 (some .boolean) 5 := xLV.of mlL_48 imX12_pour seX12_pour inX12 cwX12_pour ⟨rfl, by decide +kernel, by decide +kernel, by decide +kernel⟩
theorem mlL_49 : Cond.methodLink RL 49 yX11_feed ∈ gw := gw_t (tb3 85 rfl) rfl
theorem LL_49 : xLV RL 49 RX11 yX11_feed cX11_feed 6 (some .int) 5 := xLV.of mlL_49 imX11_feed seX11_feed inX11 cwX11_feed ⟨rfl, by decide +kernel, by decide +kernel, by decide +kernel⟩
theorem mlL_53 : Cond.methodLink RL 53 yX12_feed ∈ gw := gw_t (tb7 117 rfl) rfl
theorem LL_53 : xLV RL 53 RX12 yX12_feed cX12_feed 6 (some .int) 5 := xLV.of mlL_53 imX12_feed seX12_feed inX12 cwX12_feed ⟨rfl, by decide +kernel, by decide +kernel, by decide +kernel⟩
theorem mlL_54 : Cond.methodLink RL 54 yX11_duchy ∈ gw := gw_t (tb3 101 rfl) rfl
theorem LL_54 : xLV RL 54 RX11 yX11_duchy cX11_duchy 4 (some .int) 1 := xLV.of mlL_54 imX11_duchy seX11_duchy inX11 cwX11_duchy ⟨rfl, by decide +kernel, by decide +kernel, by decide +kernel⟩
theorem mlL_58 : Cond.methodLink RL 58 yX12_duchy ∈ gw := gw_t (tb7 129 rfl) rfl
theorem LL_58 : xLV RL 58 RX12 yX12_duchy cX12_duchy 2 (some .int) 1 := xLV.of mlL_58 imX12_duchy seX12_duchy inX12 cwX12_duchy ⟨rfl, by decide +kernel, by decide +kernel, by decide +kernel⟩
theorem mlL_59 : Cond.methodLink RL 59 yX11_years ∈ gw := gw_t (tb4 92 rfl) rfl
theorem LL_59 : xLV RL 59 RX11 yX11_years cX11_years 4 (some .int) 1 := xLV.of mlL_59 imX11_years seX11_years inX11 cwX11_years ⟨rfl, by decide +kernel, by decide +kernel, by decide +kernel⟩
theorem mlL_62 : Cond.methodLink RL 62 yX12_years ∈ gw := gw_t (tb8 80 rfl) rfl
theorem LL_62 : xLV RL 62 RX12 yX12_years cX12_years 3 (some .int) 1 := xLV.of mlL_62 imX12_years seX12_years inX12 cwX12_years ⟨rfl, by decide +kernel, by decide +kernel, by decide +kernel⟩
theorem mlL_63 : Cond.methodLink RL 63 yX11_fault ∈ gw := gw_t (tb4 176 rfl) rfl
theorem LL_63 : xLV RL 63 RX11 yX11_fault cX11_fault 2 (some .int) 1 := xLV.of mlL_63 imX11_fault seX11_fault inX11 cwX11_fault ⟨rfl, by decide +kernel, by decide +kernel, by decide +kernel⟩
theorem mlL_66 : Cond.methodLink RL 66 yX12_fault ∈ gw := gw_t (tb7 125 rfl) rfl
theorem LL_66 : xLV RL 66 RX12 yX12_fault cX12_fault 2 (some .int) 1 := xLV.of mlL_66 imX12_fault seX12_fault inX12 cwX12_fault ⟨rfl, by decide +kernel, by decide +kernel, by decide +kernel⟩
theorem mlL_67 : Cond.methodLink RL 67 yX11_many ∈ gw := gw_t (tb4 180 rfl) rfl
theorem LL_67 : xLV RL 67 RX11 yX11_many cX11_many 2 (some .int) 1 := xLV.of mlL_67 imX11_many seX11_many inX11 cwX11_many ⟨rfl, by decide +kernel, by decide +kernel, by decide +kernel⟩
theorem mlL_70 : Cond.methodLink RL 70 yX12_many ∈ gw := gw_t (tb8 96 rfl) rfl
theorem LL_70 : xLV RL 70 RX12 yX12_many cX12_many 2 (some .int) 1 := xLV.of mlL_70 imX12_many seX12_many inX12 cwX12_many ⟨rfl, by decide +kernel, by decide +kernel, by decide +kernel⟩
theorem mlL_71 : Cond.methodLink RL 71 yX11_cell ∈ gw := gw_t (tb4 215 rfl) rfl
theorem LL_71 : xLV RL 71 RX11 yX11_cell cX11_cell 3 (some .int) 2 := xLV.of mlL_71 imX11_cell seX11_cell inX11 cwX11_cell ⟨rfl, by decide +kernel, by decide +kernel, by decide +kernel⟩
theorem mlL_75 : Cond.methodLink RL 75 yX12_cell ∈ gw := gw_t (tb8 125 rfl) rfl
theorem LL_75 : xLV RL 75 RX12 yX12_cell cX12_cell 3 (some .int) 2 := xLV.of mlL_75 imX12_cell seX12_cell inX12 cwX12_cell ⟨rfl, by decide +kernel, by decide +kernel, by decide +kernel⟩
theorem mlL_76 : Cond.methodLink RL 76 yX11_votes ∈ gw := gw_t (tb5 4 rfl) rfl
theorem LL_76 : xLV RL 76 RX11 yX11_votes cX11_votes 3 (some .int) 2 := xLV.of mlL_76 imX11_votes seX11_votes inX11 cwX11_votes ⟨rfl, by decide +kernel, by decide +kernel, by decide +kernel⟩
theorem mlL_79 : Cond.methodLink RL 79 yX12_votes ∈ gw := gw_t (tb8 142 rfl) rfl
theorem LL_79 : xLV RL 79 RX12 yX12_votes cX12_votes 3 (some .int) 2 := xLV.of mlL_79 imX12_votes seX12_votes inX12 cwX12_votes ⟨rfl, by decide +kernel, by decide +kernel, by decide +kernel⟩
theorem mlL_80 : Cond.methodLink RL 80 yX11_traveller ∈ gw := gw_t (tb5 10 rfl) rfl
theorem LL_80 : xLV RL 80 RX11 yX11_traveller cX11_traveller 3 (some .int) 2 := xLV.of mlL_80 imX11_traveller seX11_traveller inX11 cwX11_traveller ⟨rfl, by decide +kernel, by decide +kernel, by decide +kernel⟩
theorem mlL_83 : Cond.methodLink RL 83 yX12_traveller ∈ gw := gw_t (tb8 151 rfl) rfl
theorem LL_83 : xLV RL 83 RX12 yX12_traveller cX12_traveller 3 (some .int) 2 := xLV.of mlL_83 imX12_traveller seX12_traveller inX12 cwX12_traveller ⟨rfl, by decide +kernel, by decide +kernel, by decide +kernel⟩
theorem mlL_84 : Cond.methodLink RL 84 yX11_telling ∈ gw := gw_t (tb5 28 rfl) rfl
theorem LL_84 : xLV RL 84 RX11 yX11_telling cX11_telling 3 (some .int) 2 := xLV.of mlL_84 imX11_telling seX11_telling inX11 cwX11_telling ⟨rfl, by decide +kernel, by decide +kernel, by decide +kernel⟩
theorem mlL_87 : Cond.methodLink RL 87 yX12_telling ∈ gw := gw_t (tb8 163 rfl) rfl
theorem LL_87 : xLV RL 87 RX12 yX12_telling cX12_telling 3 (some .int) 2 := xLV.of mlL_87 imX12_telling seX12_telling inX12 cwX12_telling ⟨rfl, by decide +kernel, by decide +kernel, by decide +kernel⟩
theorem mlL_88 : Cond.methodLink RL 88 yX11_copyChart ∈ gw := gw_t (tb5 32 rfl) rfl
theorem LL_88 : xLV RL 88 RX11 yX11_copyChart cX11_copyChart 4 (some .int) 1 := xLV.of mlL_88 imX11_copyChart seX11_copyChart inX11 cwX11_copyChart ⟨rfl, by decide +kernel, by decide +kernel, by decide +kernel⟩
theorem mlL_91 : Cond.methodLink RL 91 yX12_copyChart ∈ gw := gw_t (tb8 167 rfl) rfl
theorem LL_91 : xLV RL 91 RX12 yX12_copyChart cX12_copyChart 3 (some .int) 1 := xLV.of mlL_91 imX12_copyChart seX12_copyChart inX12 cwX12_copyChart ⟨rfl, by decide +kernel, by decide +kernel, by decide +kernel⟩
theorem mlL_92 : Cond.methodLink RL 92 yX11_hear ∈ gw := gw_t (tb5 36 rfl) rfl
theorem LL_92 : xLV RL 92 RX11 yX11_hear cX11_hear 2 (some .int) 1 := xLV.of mlL_92 imX11_hear seX11_hear inX11 cwX11_hear ⟨rfl, by decide +kernel, by decide +kernel, by decide +kernel⟩
theorem mlL_95 : Cond.methodLink RL 95 yX12_hear ∈ gw := gw_t (tb8 176 rfl) rfl
theorem LL_95 : xLV RL 95 RX12 yX12_hear cX12_hear 2 (some .int) 1 := xLV.of mlL_95 imX12_hear seX12_hear inX12 cwX12_hear ⟨rfl, by decide +kernel, by decide +kernel, by decide +kernel⟩
theorem mlL_96 : Cond.methodLink RL 96 yX11_forget ∈ gw := gw_t (tb5 45 rfl) rfl
theorem LL_96 : xLV RL 96 RX11 yX11_forget cX11_forget 2 (some .int) 1 := xLV.of mlL_96 imX11_forget seX11_forget inX11 cwX11_forget ⟨rfl, by decide +kernel, by decide +kernel, by decide +kernel⟩
theorem mlL_99 : Cond.methodLink RL 99 yX12_forget ∈ gw := gw_t (tb8 192 rfl) rfl
theorem LL_99 : xLV RL 99 RX12 yX12_forget cX12_forget 2 (some .int) 1 := xLV.of mlL_99 imX12_forget seX12_forget inX12 cwX12_forget ⟨rfl, by decide +kernel, by decide +kernel, by decide +kernel⟩
theorem mlL_100 : Cond.methodLink RL 100 yX11_tell ∈ gw := gw_t (tb5 49 rfl) rfl
theorem LL_100 : xLV RL 100 RX11 yX11_tell cX11_tell 5 (some .int) 4 := xLV.of mlL_100 imX11_tell seX11_tell inX11 cwX11_tell ⟨rfl, by decide +kernel, by decide +kernel, by decide +kernel⟩
theorem mlL_104 : Cond.methodLink RL 104 yX12_tell ∈ gw := gw_t (tb8 196 rfl) rfl
theorem LL_104 : xLV RL 104 RX12 yX12_tell cX12_tell 5 (some .int) 4 := xLV.of mlL_104 imX12_tell seX12_tell inX12 cwX12_tell ⟨rfl, by decide +kernel, by decide +kernel, by decide +kernel⟩
theorem mlL_105 : Cond.methodLink RL 105 yX11_come ∈ gw := gw_t (tb5 54 rfl) rfl
theorem LL_105 : xLV RL 105 RX11 yX11_come cX11_come 2 (some .int) 1 := xLV.of mlL_105 imX11_come seX11_come inX11 cwX11_come ⟨rfl, by decide +kernel, by decide +kernel, by decide +kernel⟩
theorem mlL_108 : Cond.methodLink RL 108 yX12_come ∈ gw := gw_t (tb8 205 rfl) rfl
theorem LL_108 : xLV RL 108 RX12 yX12_come cX12_come 3 (some .int) 1 := xLV.of mlL_108 imX12_come seX12_come inX12 cwX12_come ⟨rfl, by decide +kernel, by decide +kernel, by decide +kernel⟩
theorem mlL_109 : Cond.methodLink RL 109 yX11_change ∈ gw := gw_t (tb5 59 rfl) rfl
theorem LL_109 : xLV RL 109 RX11 yX11_change cX11_change 4 (some .int) 2 := xLV.of mlL_109 imX11_change seX11_change inX11 cwX11_change ⟨rfl, by decide +kernel, by decide +kernel, by decide +kernel⟩
theorem mlL_112 : Cond.methodLink RL 112 yX12_change ∈ gw := gw_t (tb8 210 rfl) rfl
theorem LL_112 : xLV RL 112 RX12 yX12_change cX12_change 3 (some .int) 2 := xLV.of mlL_112 imX12_change seX12_change inX12 cwX12_change ⟨rfl, by decide +kernel, by decide +kernel, by decide +kernel⟩
theorem mlL_113 : Cond.methodLink RL 113 yX11_trust ∈ gw := gw_t (tb5 63 rfl) rfl
theorem LL_113 : xLV RL 113 RX11 yX11_trust cX11_trust 4 (some .int) 2 := xLV.of mlL_113 imX11_trust seX11_trust inX11 cwX11_trust ⟨rfl, by decide +kernel, by decide +kernel, by decide +kernel⟩
theorem mlL_116 : Cond.methodLink RL 116 yX12_trust ∈ gw := gw_t (tb8 218 rfl) rfl
theorem LL_116 : xLV RL 116 RX12 yX12_trust cX12_trust 3 (some .int) 2 := xLV.of mlL_116 imX12_trust seX12_trust inX12 cwX12_trust ⟨rfl, by decide +kernel, by decide +kernel, by decide +kernel⟩
theorem mlL_117 : Cond.methodLink RL 117 yX11_moor ∈ gw := gw_t (tb5 67 rfl) rfl
theorem LL_117 : xLV RL 117 RX11 yX11_moor cX11_moor 3 (some .int) 1 := xLV.of mlL_117 imX11_moor seX11_moor inX11 cwX11_moor ⟨rfl, by decide +kernel, by decide +kernel, by decide +kernel⟩
theorem mlL_120 : Cond.methodLink RL 120 yX12_moor ∈ gw := gw_t (tb8 222 rfl) rfl
theorem LL_120 : xLV RL 120 RX12 yX12_moor cX12_moor 2 (some .int) 1 := xLV.of mlL_120 imX12_moor seX12_moor inX12 cwX12_moor ⟨rfl, by decide +kernel, by decide +kernel, by decide +kernel⟩
theorem mlL_121 : Cond.methodLink RL 121 yX11_rule ∈ gw := gw_t (tb5 71 rfl) rfl
theorem LL_121 : xLV RL 121 RX11 yX11_rule cX11_rule 2 (some .boolean) 1 := xLV.of mlL_121 imX11_rule seX11_rule inX11 cwX11_rule ⟨rfl, by decide +kernel, by decide +kernel, by decide +kernel⟩
theorem mlL_125 : Cond.methodLink RL 125 yX12_rule ∈ gw := gw_t (tb8 226 rfl) rfl
theorem LL_125 : xLV RL 125 RX12 yX12_rule cX12_rule 2 (some .boolean) 1 := xLV.of mlL_125 imX12_rule seX12_rule inX12 cwX12_rule ⟨rfl, by decide +kernel, by decide +kernel, by decide +kernel⟩
theorem mlL_126 : Cond.methodLink RL 126 yX11_oddsThat ∈ gw := gw_t (tb5 75 rfl) rfl
theorem LL_126 : xLV RL 126 RX11 yX11_oddsThat cX11_oddsThat 3 (some .boolean) 2 := xLV.of mlL_126 imX11_oddsThat seX11_oddsThat inX11 cwX11_oddsThat ⟨rfl, by decide +kernel, by decide +kernel, by decide +kernel⟩
theorem mlL_130 : Cond.methodLink RL 130 yX12_oddsThat ∈ gw := gw_t (tb8 230 rfl) rfl
theorem LL_130 : xLV RL 130 RX12 yX12_oddsThat cX12_oddsThat 5 (some .boolean) 2 := xLV.of mlL_130 imX12_oddsThat seX12_oddsThat inX12 cwX12_oddsThat ⟨rfl, by decide +kernel, by decide +kernel, by decide +kernel⟩
theorem mlL_131 : Cond.methodLink RL 131 yX11_likeliest ∈ gw := gw_t (tb5 102 rfl) rfl
theorem LL_131 : xLV RL 131 RX11 yX11_likeliest cX11_likeliest 2 (some .int) 1 := xLV.of mlL_131 imX11_likeliest seX11_likeliest inX11 cwX11_likeliest ⟨rfl, by decide +kernel, by decide +kernel, by decide +kernel⟩
theorem mlL_134 : Cond.methodLink RL 134 yX12_likeliest ∈ gw := gw_t (tb9 9 rfl) rfl
theorem LL_134 : xLV RL 134 RX12 yX12_likeliest cX12_likeliest 2 (some .int) 1 := xLV.of mlL_134 imX12_likeliest seX12_likeliest inX12 cwX12_likeliest ⟨rfl, by decide +kernel, by decide +kernel, by decide +kernel⟩
theorem mlL_135 : Cond.methodLink RL 135 yX11_ask ∈ gw := gw_t (tb5 110 rfl) rfl
theorem LL_135 : xLV RL 135 RX11 yX11_ask cX11_ask 2 (some .int) 0 := xLV.of mlL_135 imX11_ask seX11_ask inX11 cwX11_ask ⟨rfl, by decide +kernel, by decide +kernel, by decide +kernel⟩
theorem mlL_138 : Cond.methodLink RL 138 yX12_ask ∈ gw := gw_t (tb9 17 rfl) rfl
theorem LL_138 : xLV RL 138 RX12 yX12_ask cX12_ask 11 (some .int) 0 := xLV.of mlL_138 imX12_ask seX12_ask inX12 cwX12_ask ⟨rfl, by decide +kernel, by decide +kernel, by decide +kernel⟩
theorem mlL_139 : Cond.methodLink RL 139 yX11_liars ∈ gw := gw_t (tb5 123 rfl) rfl
theorem LL_139 : xLV RL 139 RX11 yX11_liars cX11_liars 1 (some .int) 0 := xLV.of mlL_139 imX11_liars seX11_liars inX11 cwX11_liars ⟨rfl, by decide +kernel, by decide +kernel, by decide +kernel⟩
theorem mlL_142 : Cond.methodLink RL 142 yX12_liars ∈ gw := gw_t (tb9 21 rfl) rfl
theorem LL_142 : xLV RL 142 RX12 yX12_liars cX12_liars 1 (some .int) 0 := xLV.of mlL_142 imX12_liars seX12_liars inX12 cwX12_liars ⟨rfl, by decide +kernel, by decide +kernel, by decide +kernel⟩
theorem mlL_143 : Cond.methodLink RL 143 yX11_liarSet ∈ gw := gw_t (tb5 146 rfl) rfl
theorem LL_143 : xLV RL 143 RX11 yX11_liarSet cX11_liarSet 1 (some .int) 0 := xLV.of mlL_143 imX11_liarSet seX11_liarSet inX11 cwX11_liarSet ⟨rfl, by decide +kernel, by decide +kernel, by decide +kernel⟩
theorem mlL_146 : Cond.methodLink RL 146 yX12_liarSet ∈ gw := gw_t (tb9 39 rfl) rfl
theorem LL_146 : xLV RL 146 RX12 yX12_liarSet cX12_liarSet 1 (some .int) 0 := xLV.of mlL_146 imX12_liarSet seX12_liarSet inX12 cwX12_liarSet ⟨rfl, by decide +kernel, by decide +kernel, by decide +kernel⟩
theorem mlL_147 : Cond.methodLink RL 147 yX11_clashes ∈ gw := gw_t (tb5 150 rfl) rfl
theorem LL_147 : xLV RL 147 RX11 yX11_clashes cX11_clashes 1 (some .int) 0 := xLV.of mlL_147 imX11_clashes seX11_clashes inX11 cwX11_clashes ⟨rfl, by decide +kernel, by decide +kernel, by decide +kernel⟩
theorem mlL_150 : Cond.methodLink RL 150 yX12_clashes ∈ gw := gw_t (tb9 43 rfl) rfl
theorem LL_150 : xLV RL 150 RX12 yX12_clashes cX12_clashes 1 (some .int) 0 := xLV.of mlL_150 imX12_clashes seX12_clashes inX12 cwX12_clashes ⟨rfl, by decide +kernel, by decide +kernel, by decide +kernel⟩
theorem mlL_151 : Cond.methodLink RL 151 yX11_way ∈ gw := gw_t (tb5 155 rfl) rfl
theorem LL_151 : xLV RL 151 RX11 yX11_way cX11_way 3 (some .int) 1 := xLV.of mlL_151 imX11_way seX11_way inX11 cwX11_way ⟨rfl, by decide +kernel, by decide +kernel, by decide +kernel⟩
theorem mlL_154 : Cond.methodLink RL 154 yX12_way ∈ gw := gw_t (tb9 47 rfl) rfl
theorem LL_154 : xLV RL 154 RX12 yX12_way cX12_way 3 (some .int) 1 := xLV.of mlL_154 imX12_way seX12_way inX12 cwX12_way ⟨rfl, by decide +kernel, by decide +kernel, by decide +kernel⟩
theorem mlL_155 : Cond.methodLink RL 155 yX11_wayLong ∈ gw := gw_t (tb5 189 rfl) rfl
theorem LL_155 : xLV RL 155 RX11 yX11_wayLong cX11_wayLong 3 (some .int) 1 := xLV.of mlL_155 imX11_wayLong seX11_wayLong inX11 cwX11_wayLong ⟨rfl, by decide +kernel, by decide +kernel, by decide +kernel⟩
theorem mlL_158 : Cond.methodLink RL 158 yX12_wayLong ∈ gw := gw_t (tb9 71 rfl) rfl
theorem LL_158 : xLV RL 158 RX12 yX12_wayLong cX12_wayLong 3 (some .int) 1 := xLV.of mlL_158 imX12_wayLong seX12_wayLong inX12 cwX12_wayLong ⟨rfl, by decide +kernel, by decide +kernel, by decide +kernel⟩
theorem mlL_159 : Cond.methodLink RL 159 yX11_wayAt ∈ gw := gw_t (tb5 197 rfl) rfl
theorem LL_159 : xLV RL 159 RX11 yX11_wayAt cX11_wayAt 4 (some .int) 2 := xLV.of mlL_159 imX11_wayAt seX11_wayAt inX11 cwX11_wayAt ⟨rfl, by decide +kernel, by decide +kernel, by decide +kernel⟩
theorem mlL_162 : Cond.methodLink RL 162 yX12_wayAt ∈ gw := gw_t (tb9 75 rfl) rfl
theorem LL_162 : xLV RL 162 RX12 yX12_wayAt cX12_wayAt 6 (some .int) 2 := xLV.of mlL_162 imX12_wayAt seX12_wayAt inX12 cwX12_wayAt ⟨rfl, by decide +kernel, by decide +kernel, by decide +kernel⟩
theorem mlL_163 : Cond.methodLink RL 163 yX11_comesIn ∈ gw := gw_t (tb5 205 rfl) rfl
theorem LL_163 : xLV RL 163 RX11 yX11_comesIn cX11_comesIn 8 (some .boolean) 1 := xLV.of mlL_163 imX11_comesIn seX11_comesIn inX11 cwX11_comesIn ⟨rfl, by decide +kernel, by decide +kernel, by decide +kernel⟩
theorem mlL_166 : Cond.methodLink RL 166 yX12_comesIn ∈ gw := gw_t (tb9 83 rfl) rfl
theorem LL_166 : xLV RL 166 RX12 yX12_comesIn cX12_comesIn 9 (some .boolean) 1 := xLV.of mlL_166 imX12_comesIn seX12_comesIn inX12 cwX12_comesIn ⟨rfl, by decide +kernel, by decide +kernel, by decide +kernel⟩
theorem mlL_167 : Cond.methodLink RL 167 yX11_sail ∈ gw := gw_t (tb5 210 rfl) rfl
theorem LL_167 : xLV RL 167 RX11 yX11_sail cX11_sail 3 (some .int) 1 := xLV.of mlL_167 imX11_sail seX11_sail inX11 cwX11_sail ⟨rfl, by decide +kernel, by decide +kernel, by decide +kernel⟩
theorem mlL_170 : Cond.methodLink RL 170 yX12_sail ∈ gw := gw_t (tb9 87 rfl) rfl
theorem LL_170 : xLV RL 170 RX12 yX12_sail cX12_sail 3 (some .int) 1 := xLV.of mlL_170 imX12_sail seX12_sail inX12 cwX12_sail ⟨rfl, by decide +kernel, by decide +kernel, by decide +kernel⟩
theorem mlL_171 : Cond.methodLink RL 171 yX11_plan ∈ gw := gw_t (tb5 220 rfl) rfl
theorem LL_171 : xLV RL 171 RX11 yX11_plan cX11_plan 3 (some .int) 1 := xLV.of mlL_171 imX11_plan seX11_plan inX11 cwX11_plan ⟨rfl, by decide +kernel, by decide +kernel, by decide +kernel⟩
theorem mlL_174 : Cond.methodLink RL 174 yX12_plan ∈ gw := gw_t (tb9 95 rfl) rfl
theorem LL_174 : xLV RL 174 RX12 yX12_plan cX12_plan 2 (some .int) 1 := xLV.of mlL_174 imX12_plan seX12_plan inX12 cwX12_plan ⟨rfl, by decide +kernel, by decide +kernel, by decide +kernel⟩
theorem mlL_175 : Cond.methodLink RL 175 yX11_planSet ∈ gw := gw_t (tb6 5 rfl) rfl
theorem LL_175 : xLV RL 175 RX11 yX11_planSet cX11_planSet 2 (some .int) 1 := xLV.of mlL_175 imX11_planSet seX11_planSet inX11 cwX11_planSet ⟨rfl, by decide +kernel, by decide +kernel, by decide +kernel⟩
theorem mlL_178 : Cond.methodLink RL 178 yX12_planSet ∈ gw := gw_t (tb9 108 rfl) rfl
theorem LL_178 : xLV RL 178 RX12 yX12_planSet cX12_planSet 2 (some .int) 1 := xLV.of mlL_178 imX12_planSet seX12_planSet inX12 cwX12_planSet ⟨rfl, by decide +kernel, by decide +kernel, by decide +kernel⟩
theorem mlL_179 : Cond.methodLink RL 179 yX11_game ∈ gw := gw_t (tb6 9 rfl) rfl
theorem LL_179 : xLV RL 179 RX11 yX11_game cX11_game 2 (some .int) 1 := xLV.of mlL_179 imX11_game seX11_game inX11 cwX11_game ⟨rfl, by decide +kernel, by decide +kernel, by decide +kernel⟩
theorem mlL_182 : Cond.methodLink RL 182 yX12_game ∈ gw := gw_t (tb9 112 rfl) rfl
theorem LL_182 : xLV RL 182 RX12 yX12_game cX12_game 2 (some .int) 1 := xLV.of mlL_182 imX12_game seX12_game inX12 cwX12_game ⟨rfl, by decide +kernel, by decide +kernel, by decide +kernel⟩
theorem mlL_183 : Cond.methodLink RL 183 yX11_moveOf ∈ gw := gw_t (tb6 32 rfl) rfl
theorem LL_183 : xLV RL 183 RX11 yX11_moveOf cX11_moveOf 3 (some .int) 1 := xLV.of mlL_183 imX11_moveOf seX11_moveOf inX11 cwX11_moveOf ⟨rfl, by decide +kernel, by decide +kernel, by decide +kernel⟩
theorem mlL_186 : Cond.methodLink RL 186 yX12_moveOf ∈ gw := gw_t (tb9 120 rfl) rfl
theorem LL_186 : xLV RL 186 RX12 yX12_moveOf cX12_moveOf 2 (some .int) 1 := xLV.of mlL_186 imX12_moveOf seX12_moveOf inX12 cwX12_moveOf ⟨rfl, by decide +kernel, by decide +kernel, by decide +kernel⟩
theorem mlL_187 : Cond.methodLink RL 187 yX11_swear ∈ gw := gw_t (tb6 41 rfl) rfl
theorem LL_187 : xLV RL 187 RX11 yX11_swear cX11_swear 3 (some .boolean) 2 := xLV.of mlL_187 imX11_swear seX11_swear inX11 cwX11_swear ⟨rfl, by decide +kernel, by decide +kernel, by decide +kernel⟩
theorem mlL_190 : Cond.methodLink RL 190 yX12_swear ∈ gw := gw_t (tb9 124 rfl) rfl
theorem LL_190 : xLV RL 190 RX12 yX12_swear cX12_swear 8 (some .boolean) 2 := xLV.of mlL_190 imX12_swear seX12_swear inX12 cwX12_swear ⟨rfl, by decide +kernel, by decide +kernel, by decide +kernel⟩
theorem mlL_191 : Cond.methodLink RL 191 yX11_share ∈ gw := gw_t (tb6 53 rfl) rfl
theorem LL_191 : xLV RL 191 RX11 yX11_share cX11_share 2 (some .boolean) 1 := xLV.of mlL_191 imX11_share seX11_share inX11 cwX11_share ⟨rfl, by decide +kernel, by decide +kernel, by decide +kernel⟩
theorem mlL_194 : Cond.methodLink RL 194 yX12_share ∈ gw := gw_t (tb9 129 rfl) rfl
theorem LL_194 : xLV RL 194 RX12 yX12_share cX12_share 2 (some .boolean) 1 := xLV.of mlL_194 imX12_share seX12_share inX12 cwX12_share ⟨rfl, by decide +kernel, by decide +kernel, by decide +kernel⟩
theorem mlL_195 : Cond.methodLink RL 195 yX11_live ∈ gw := gw_t (tb6 57 rfl) rfl
theorem LL_195 : xLV RL 195 RX11 yX11_live cX11_live 3 (some .int) 1 := xLV.of mlL_195 imX11_live seX11_live inX11 cwX11_live ⟨rfl, by decide +kernel, by decide +kernel, by decide +kernel⟩
theorem mlL_198 : Cond.methodLink RL 198 yX12_live ∈ gw := gw_t (tb9 133 rfl) rfl
theorem LL_198 : xLV RL 198 RX12 yX12_live cX12_live 2 (some .int) 1 := xLV.of mlL_198 imX12_live seX12_live inX12 cwX12_live ⟨rfl, by decide +kernel, by decide +kernel, by decide +kernel⟩
theorem mlL_199 : Cond.methodLink RL 199 yX11_lived ∈ gw := gw_t (tb6 142 rfl) rfl
theorem LL_199 : xLV RL 199 RX11 yX11_lived cX11_lived 2 (some .int) 1 := xLV.of mlL_199 imX11_lived seX11_lived inX11 cwX11_lived ⟨rfl, by decide +kernel, by decide +kernel, by decide +kernel⟩
theorem mlL_202 : Cond.methodLink RL 202 yX12_lived ∈ gw := gw_t (tb9 179 rfl) rfl
theorem LL_202 : xLV RL 202 RX12 yX12_lived cX12_lived 2 (some .int) 1 := xLV.of mlL_202 imX12_lived seX12_lived inX12 cwX12_lived ⟨rfl, by decide +kernel, by decide +kernel, by decide +kernel⟩
theorem mlL_203 : Cond.methodLink RL 203 yX11_mean ∈ gw := gw_t (tb6 154 rfl) rfl
theorem LL_203 : xLV RL 203 RX11 yX11_mean cX11_mean 7 (some .boolean) 2 := xLV.of mlL_203 imX11_mean seX11_mean inX11 cwX11_mean ⟨rfl, by decide +kernel, by decide +kernel, by decide +kernel⟩
theorem mlL_206 : Cond.methodLink RL 206 yX12_mean ∈ gw := gw_t (tb9 183 rfl) rfl
theorem LL_206 : xLV RL 206 RX12 yX12_mean cX12_mean 7 (some .boolean) 2 := xLV.of mlL_206 imX12_mean seX12_mean inX12 cwX12_mean ⟨rfl, by decide +kernel, by decide +kernel, by decide +kernel⟩
theorem mlL_207 : Cond.methodLink RL 207 yX11_mark ∈ gw := gw_t (tb6 158 rfl) rfl
theorem LL_207 : xLV RL 207 RX11 yX11_mark cX11_mark 1 (some .int) 0 := xLV.of mlL_207 imX11_mark seX11_mark inX11 cwX11_mark ⟨rfl, by decide +kernel, by decide +kernel, by decide +kernel⟩
theorem mlL_210 : Cond.methodLink RL 210 yX12_mark ∈ gw := gw_t (tb9 188 rfl) rfl
theorem LL_210 : xLV RL 210 RX12 yX12_mark cX12_mark 1 (some .int) 0 := xLV.of mlL_210 imX12_mark seX12_mark inX12 cwX12_mark ⟨rfl, by decide +kernel, by decide +kernel, by decide +kernel⟩
theorem mlL_211 : Cond.methodLink RL 211 yX11_back ∈ gw := gw_t (tb6 172 rfl) rfl
theorem LL_211 : xLV RL 211 RX11 yX11_back cX11_back 2 (some .int) 0 := xLV.of mlL_211 imX11_back seX11_back inX11 cwX11_back ⟨rfl, by decide +kernel, by decide +kernel, by decide +kernel⟩
theorem mlL_214 : Cond.methodLink RL 214 yX12_back ∈ gw := gw_t (tb9 192 rfl) rfl
theorem LL_214 : xLV RL 214 RX12 yX12_back cX12_back 1 (some .int) 0 := xLV.of mlL_214 imX12_back seX12_back inX12 cwX12_back ⟨rfl, by decide +kernel, by decide +kernel, by decide +kernel⟩
theorem ml12_56 : Cond.methodLink RX12 56 yX12_empties ∈ gw := gw_t (tb6 182 rfl) rfl
theorem L12_56 : xLV RX12 56 RX12 yX12_empties cX12_empties 3 none 1 := xLV.of ml12_56 imX12_empties seX12_empties inX12 cwX12_empties ⟨rfl, by decide +kernel, by decide +kernel, by decide +kernel⟩
theorem ml12_69 : Cond.methodLink RX12 69 yJ9_abs_067f4 ∈ gw := gw_t (tb9 6 rfl) rfl
theorem L12_69 : xLS RX12 69 yJ9_abs_067f4 cJ9_abs_067f4 2 (some .long) 1 := xLS.of ml12_69 stJ9_abs_067f4 inJ9 cwJ9_abs_067f4 ⟨by decide +kernel, by decide +kernel, by decide +kernel⟩
theorem ml12_75 : Cond.methodLink RX12 75 yX12_no ∈ gw := gw_t (tb7 89 rfl) rfl
theorem L12_75 : xLV RX12 75 RX12 yX12_no cX12_no 2 (some .boolean) 1 := xLV.of ml12_75 imX12_no seX12_no inX12 cwX12_no ⟨rfl, by decide +kernel, by decide +kernel, by decide +kernel⟩
theorem ml12_79 : Cond.methodLink RX12 79 yX12_trayed ∈ gw := gw_t (tb7 101 rfl) rfl
theorem L12_79 : xLV RX12 79 RX12 yX12_trayed cX12_trayed 2 (some .int) 1 := xLV.of ml12_79 imX12_trayed seX12_trayed inX12 cwX12_trayed ⟨rfl, by decide +kernel, by decide +kernel, by decide +kernel⟩
theorem ml12_83 : Cond.methodLink RX12 83 yX12_placed ∈ gw := gw_t (tb7 97 rfl) rfl
theorem L12_83 : xLV RX12 83 RX12 yX12_placed cX12_placed 4 (some .int) 2 := xLV.of ml12_83 imX12_placed seX12_placed inX12 cwX12_placed ⟨rfl, by decide +kernel, by decide +kernel, by decide +kernel⟩
theorem ml12_87 : Cond.methodLink RX12 87 yX12_cut ∈ gw := gw_t (tb7 105 rfl) rfl
theorem L12_87 : xLS RX12 87 yX12_cut cX12_cut 3 (some .long) 2 := xLS.of ml12_87 stX12_cut inX12 cwX12_cut ⟨by decide +kernel, by decide +kernel, by decide +kernel⟩
theorem ml12_95 : Cond.methodLink RX12 95 yX12_isIn ∈ gw := gw_t (tb7 207 rfl) rfl
theorem L12_95 : xLS RX12 95 yX12_isIn cX12_isIn 6 (some .boolean) 3 := xLS.of ml12_95 stX12_isIn inX12 cwX12_isIn ⟨by decide +kernel, by decide +kernel, by decide +kernel⟩
theorem ml12_99 : Cond.methodLink RX12 99 yX12_has ∈ gw := gw_t (tb9 32 rfl) rfl
theorem L12_99 : xLS RX12 99 yX12_has cX12_has 2 (some .boolean) 2 := xLS.of ml12_99 stX12_has inX12 cwX12_has ⟨by decide +kernel, by decide +kernel, by decide +kernel⟩
theorem ml12_112 : Cond.methodLink RX12 112 yX12_look2 ∈ gw := gw_t (tb7 141 rfl) rfl
theorem L12_112 : xLV RX12 112 RX12 yX12_look2 cX12_look2 2 (some .int) 1 := xLV.of ml12_112 imX12_look2 seX12_look2 inX12 cwX12_look2 ⟨rfl, by decide +kernel, by decide +kernel, by decide +kernel⟩
theorem ml12_118 : Cond.methodLink RX12 118 yX12_isLetter ∈ gw := gw_t (tb7 145 rfl) rfl
theorem L12_118 : xLS RX12 118 yX12_isLetter cX12_isLetter 1 (some .boolean) 1 := xLS.of ml12_118 stX12_isLetter inX12 cwX12_isLetter ⟨by decide +kernel, by decide +kernel, by decide +kernel⟩
theorem ml12_131 : Cond.methodLink RX12 131 yX12_isDigit ∈ gw := gw_t (tb7 150 rfl) rfl
theorem L12_131 : xLS RX12 131 yX12_isDigit cX12_isDigit 1 (some .boolean) 1 := xLS.of ml12_131 stX12_isDigit inX12 cwX12_isDigit ⟨by decide +kernel, by decide +kernel, by decide +kernel⟩
theorem ml12_137 : Cond.methodLink RX12 137 yX12_isSignByte ∈ gw := gw_t (tb7 153 rfl) rfl
theorem L12_137 : xLV RX12 137 RX12 yX12_isSignByte cX12_isSignByte 2 (some .boolean) 1 := xLV.of ml12_137 imX12_isSignByte seX12_isSignByte inX12 cwX12_isSignByte ⟨rfl, by decide +kernel, by decide +kernel, by decide +kernel⟩
theorem ml12_140 : Cond.methodLink RX12 140 yX12_spelled ∈ gw := gw_t (tb7 165 rfl) rfl
theorem L12_140 : xLS RX12 140 yX12_spelled cX12_spelled 8 (some .long) 6 := xLS.of ml12_140 stX12_spelled inX12 cwX12_spelled ⟨by decide +kernel, by decide +kernel, by decide +kernel⟩
theorem ml12_144 : Cond.methodLink RX12 144 yX12_isWord ∈ gw := gw_t (tb7 168 rfl) rfl
theorem L12_144 : xLV RX12 144 RX12 yX12_isWord cX12_isWord 3 (some .boolean) 1 := xLV.of ml12_144 imX12_isWord seX12_isWord inX12 cwX12_isWord ⟨rfl, by decide +kernel, by decide +kernel, by decide +kernel⟩
theorem ml12_150 : Cond.methodLink RX12 150 yX12_isTold ∈ gw := gw_t (tb8 19 rfl) rfl
theorem L12_150 : xLV RX12 150 RX12 yX12_isTold cX12_isTold 1 (some .boolean) 0 := xLV.of ml12_150 imX12_isTold seX12_isTold inX12 cwX12_isTold ⟨rfl, by decide +kernel, by decide +kernel, by decide +kernel⟩
theorem ml12_154 : Cond.methodLink RX12 154 yX12_isHeard ∈ gw := gw_t (tb8 27 rfl) rfl
theorem L12_154 : xLV RX12 154 RX12 yX12_isHeard cX12_isHeard 1 (some .boolean) 0 := xLV.of ml12_154 imX12_isHeard seX12_isHeard inX12 cwX12_isHeard ⟨rfl, by decide +kernel, by decide +kernel, by decide +kernel⟩
theorem ml12_157 : Cond.methodLink RX12 157 yX12_isRow ∈ gw := gw_t (tb7 161 rfl) rfl
theorem L12_157 : xLV RX12 157 RX12 yX12_isRow cX12_isRow 1 (some .boolean) 0 := xLV.of ml12_157 imX12_isRow seX12_isRow inX12 cwX12_isRow ⟨rfl, by decide +kernel, by decide +kernel, by decide +kernel⟩
theorem ml12_160 : Cond.methodLink RX12 160 yX12_isOdds ∈ gw := gw_t (tb7 195 rfl) rfl
theorem L12_160 : xLV RX12 160 RX12 yX12_isOdds cX12_isOdds 1 (some .boolean) 0 := xLV.of ml12_160 imX12_isOdds seX12_isOdds inX12 cwX12_isOdds ⟨rfl, by decide +kernel, by decide +kernel, by decide +kernel⟩
theorem ml12_163 : Cond.methodLink RX12 163 yX12_isHarbour ∈ gw := gw_t (tb7 210 rfl) rfl
theorem L12_163 : xLV RX12 163 RX12 yX12_isHarbour cX12_isHarbour 1 (some .boolean) 0 := xLV.of ml12_163 imX12_isHarbour seX12_isHarbour inX12 cwX12_isHarbour ⟨rfl, by decide +kernel, by decide +kernel, by decide +kernel⟩
theorem ml12_166 : Cond.methodLink RX12 166 yX12_isTraveller ∈ gw := gw_t (tb7 227 rfl) rfl
theorem L12_166 : xLV RX12 166 RX12 yX12_isTraveller cX12_isTraveller 2 (some .boolean) 0 := xLV.of ml12_166 imX12_isTraveller seX12_isTraveller inX12 cwX12_isTraveller ⟨rfl, by decide +kernel, by decide +kernel, by decide +kernel⟩
theorem ml12_169 : Cond.methodLink RX12 169 yX12_isLies ∈ gw := gw_t (tb8 3 rfl) rfl
theorem L12_169 : xLV RX12 169 RX12 yX12_isLies cX12_isLies 1 (some .boolean) 0 := xLV.of ml12_169 imX12_isLies seX12_isLies inX12 cwX12_isLies ⟨rfl, by decide +kernel, by decide +kernel, by decide +kernel⟩
theorem ml12_172 : Cond.methodLink RX12 172 yX12_isMissed ∈ gw := gw_t (tb8 7 rfl) rfl
theorem L12_172 : xLV RX12 172 RX12 yX12_isMissed cX12_isMissed 1 (some .boolean) 0 := xLV.of ml12_172 imX12_isMissed seX12_isMissed inX12 cwX12_isMissed ⟨rfl, by decide +kernel, by decide +kernel, by decide +kernel⟩
theorem ml12_175 : Cond.methodLink RX12 175 yX12_feelingWord ∈ gw := gw_t (tb8 11 rfl) rfl
theorem L12_175 : xLV RX12 175 RX12 yX12_feelingWord cX12_feelingWord 1 (some .int) 0 := xLV.of ml12_175 imX12_feelingWord seX12_feelingWord inX12 cwX12_feelingWord ⟨rfl, by decide +kernel, by decide +kernel, by decide +kernel⟩
theorem ml12_179 : Cond.methodLink RX12 179 yX12_stepWord ∈ gw := gw_t (tb8 15 rfl) rfl
theorem L12_179 : xLV RX12 179 RX12 yX12_stepWord cX12_stepWord 1 (some .int) 0 := xLV.of ml12_179 imX12_stepWord seX12_stepWord inX12 cwX12_stepWord ⟨rfl, by decide +kernel, by decide +kernel, by decide +kernel⟩
theorem ml12_182 : Cond.methodLink RX12 182 yX12_testWord ∈ gw := gw_t (tb8 23 rfl) rfl
theorem L12_182 : xLV RX12 182 RX12 yX12_testWord cX12_testWord 1 (some .int) 0 := xLV.of ml12_182 imX12_testWord seX12_testWord inX12 cwX12_testWord ⟨rfl, by decide +kernel, by decide +kernel, by decide +kernel⟩
theorem ml12_185 : Cond.methodLink RX12 185 yX12_isEnd ∈ gw := gw_t (tb8 31 rfl) rfl
theorem L12_185 : xLV RX12 185 RX12 yX12_isEnd cX12_isEnd 1 (some .boolean) 0 := xLV.of ml12_185 imX12_isEnd seX12_isEnd inX12 cwX12_isEnd ⟨rfl, by decide +kernel, by decide +kernel, by decide +kernel⟩
theorem ml12_188 : Cond.methodLink RX12 188 yX12_isKept ∈ gw := gw_t (tb7 239 rfl) rfl
theorem L12_188 : xLV RX12 188 RX12 yX12_isKept cX12_isKept 1 (some .boolean) 0 := xLV.of ml12_188 imX12_isKept seX12_isKept inX12 cwX12_isKept ⟨rfl, by decide +kernel, by decide +kernel, by decide +kernel⟩
theorem ml12_197 : Cond.methodLink RX12 197 yX12_fail ∈ gw := gw_t (tb7 176 rfl) rfl
theorem L12_197 : xLV RX12 197 RX12 yX12_fail cX12_fail 3 none 2 := xLV.of ml12_197 imX12_fail seX12_fail inX12 cwX12_fail ⟨rfl, by decide +kernel, by decide +kernel, by decide +kernel⟩
theorem ml12_201 : Cond.methodLink RX12 201 yX12_advance ∈ gw := gw_t (tb7 137 rfl) rfl
theorem L12_201 : xLV RX12 201 RX12 yX12_advance cX12_advance 2 none 0 := xLV.of ml12_201 imX12_advance seX12_advance inX12 cwX12_advance ⟨rfl, by decide +kernel, by decide +kernel, by decide +kernel⟩
theorem ml12_204 : Cond.methodLink RX12 204 yX12_amiss ∈ gw := gw_t (tb7 184 rfl) rfl
theorem L12_204 : xLV RX12 204 RX12 yX12_amiss cX12_amiss 1 none 0 := xLV.of ml12_204 imX12_amiss seX12_amiss inX12 cwX12_amiss ⟨rfl, by decide +kernel, by decide +kernel, by decide +kernel⟩
theorem ml12_207 : Cond.methodLink RX12 207 yX12_must ∈ gw := gw_t (tb7 180 rfl) rfl
theorem L12_207 : xLV RX12 207 RX12 yX12_must cX12_must 2 none 1 := xLV.of ml12_207 imX12_must seX12_must inX12 cwX12_must ⟨rfl, by decide +kernel, by decide +kernel, by decide +kernel⟩
theorem ml12_211 : Cond.methodLink RX12 211 yX12_count ∈ gw := gw_t (tb7 203 rfl) rfl
theorem L12_211 : xLV RX12 211 RX12 yX12_count cX12_count 4 (some .int) 2 := xLV.of ml12_211 imX12_count seX12_count inX12 cwX12_count ⟨rfl, by decide +kernel, by decide +kernel, by decide +kernel⟩
theorem ml12_217 : Cond.methodLink RX12 217 yX12_lay ∈ gw := gw_t (tb7 121 rfl) rfl
theorem L12_217 : xLV RX12 217 RX12 yX12_lay cX12_lay 3 none 1 := xLV.of ml12_217 imX12_lay seX12_lay inX12 cwX12_lay ⟨rfl, by decide +kernel, by decide +kernel, by decide +kernel⟩
theorem ml12_220 : Cond.methodLink RX12 220 yJ9_max_7cf53 ∈ gw := gw_t (tb8 51 rfl) rfl
theorem L12_220 : xLS RX12 220 yJ9_max_7cf53 cJ9_max_7cf53 2 (some .int) 2 := xLS.of ml12_220 stJ9_max_7cf53 inJ9 cwJ9_max_7cf53 ⟨by decide +kernel, by decide +kernel, by decide +kernel⟩
theorem ml12_223 : Cond.methodLink RX12 223 yX12_isName ∈ gw := gw_t (tb7 235 rfl) rfl
theorem L12_223 : xLV RX12 223 RX12 yX12_isName cX12_isName 1 (some .boolean) 0 := xLV.of ml12_223 imX12_isName seX12_isName inX12 cwX12_isName ⟨rfl, by decide +kernel, by decide +kernel, by decide +kernel⟩
theorem ml12_226 : Cond.methodLink RX12 226 yX12_named ∈ gw := gw_t (tb8 35 rfl) rfl
theorem L12_226 : xLV RX12 226 RX12 yX12_named cX12_named 3 (some .int) 1 := xLV.of ml12_226 imX12_named seX12_named inX12 cwX12_named ⟨rfl, by decide +kernel, by decide +kernel, by decide +kernel⟩
theorem ml12_229 : Cond.methodLink RX12 229 yX12_kindOf ∈ gw := gw_t (tb7 192 rfl) rfl
theorem L12_229 : xLS RX12 229 yX12_kindOf cX12_kindOf 1 (some .int) 1 := xLS.of ml12_229 stX12_kindOf inX12 cwX12_kindOf ⟨by decide +kernel, by decide +kernel, by decide +kernel⟩
theorem ml12_236 : Cond.methodLink RX12 236 yX12_areCells ∈ gw := gw_t (tb7 188 rfl) rfl
theorem L12_236 : xLV RX12 236 RX12 yX12_areCells cX12_areCells 2 (some .boolean) 0 := xLV.of ml12_236 imX12_areCells seX12_areCells inX12 cwX12_areCells ⟨rfl, by decide +kernel, by decide +kernel, by decide +kernel⟩
theorem ml12_242 : Cond.methodLink RX12 242 yX12_readCell ∈ gw := gw_t (tb7 223 rfl) rfl
theorem L12_242 : xLV RX12 242 RX12 yX12_readCell cX12_readCell 3 (some .int) 1 := xLV.of ml12_242 imX12_readCell seX12_readCell inX12 cwX12_readCell ⟨rfl, by decide +kernel, by decide +kernel, by decide +kernel⟩
theorem ml12_245 : Cond.methodLink RX12 245 yX12_cellHere ∈ gw := gw_t (tb7 219 rfl) rfl
theorem L12_245 : xLV RX12 245 RX12 yX12_cellHere cX12_cellHere 3 (some .int) 1 := xLV.of ml12_245 imX12_cellHere seX12_cellHere inX12 cwX12_cellHere ⟨rfl, by decide +kernel, by decide +kernel, by decide +kernel⟩
theorem ml12_248 : Cond.methodLink RX12 248 yX12_perhaps ∈ gw := gw_t (tb8 39 rfl) rfl
theorem L12_248 : xLV RX12 248 RX12 yX12_perhaps cX12_perhaps 2 (some .boolean) 1 := xLV.of ml12_248 imX12_perhaps seX12_perhaps inX12 cwX12_perhaps ⟨rfl, by decide +kernel, by decide +kernel, by decide +kernel⟩
theorem ml12_252 : Cond.methodLink RX12 252 yX12_readTraveller ∈ gw := gw_t (tb8 47 rfl) rfl
theorem L12_252 : xLV RX12 252 RX12 yX12_readTraveller cX12_readTraveller 3 (some .int) 1 := xLV.of ml12_252 imX12_readTraveller seX12_readTraveller inX12 cwX12_readTraveller ⟨rfl, by decide +kernel, by decide +kernel, by decide +kernel⟩
theorem ml12_255 : Cond.methodLink RX12 255 yX12_tellingsOf ∈ gw := gw_t (tb8 52 rfl) rfl
theorem L12_255 : xLV RX12 255 RX12 yX12_tellingsOf cX12_tellingsOf 5 (some .int) 2 := xLV.of ml12_255 imX12_tellingsOf seX12_tellingsOf inX12 cwX12_tellingsOf ⟨rfl, by decide +kernel, by decide +kernel, by decide +kernel⟩
theorem ml12_258 : Cond.methodLink RX12 258 yX12_readFeeling ∈ gw := gw_t (tb8 56 rfl) rfl
theorem L12_258 : xLV RX12 258 RX12 yX12_readFeeling cX12_readFeeling 2 (some .int) 0 := xLV.of ml12_258 imX12_readFeeling seX12_readFeeling inX12 cwX12_readFeeling ⟨rfl, by decide +kernel, by decide +kernel, by decide +kernel⟩
theorem ml12_261 : Cond.methodLink RX12 261 yX12_tells ∈ gw := gw_t (tb8 60 rfl) rfl
theorem L12_261 : xLV RX12 261 RX12 yX12_tells cX12_tells 7 none 5 := xLV.of ml12_261 imX12_tells seX12_tells inX12 cwX12_tells ⟨rfl, by decide +kernel, by decide +kernel, by decide +kernel⟩
theorem ml12_265 : Cond.methodLink RX12 265 yX12_readRow ∈ gw := gw_t (tb7 172 rfl) rfl
theorem L12_265 : xLV RX12 265 RX12 yX12_readRow cX12_readRow 2 none 0 := xLV.of ml12_265 imX12_readRow seX12_readRow inX12 cwX12_readRow ⟨rfl, by decide +kernel, by decide +kernel, by decide +kernel⟩
theorem ml12_268 : Cond.methodLink RX12 268 yX12_readOdds ∈ gw := gw_t (tb7 199 rfl) rfl
theorem L12_268 : xLV RX12 268 RX12 yX12_readOdds cX12_readOdds 2 none 0 := xLV.of ml12_268 imX12_readOdds seX12_readOdds inX12 cwX12_readOdds ⟨rfl, by decide +kernel, by decide +kernel, by decide +kernel⟩
theorem ml12_271 : Cond.methodLink RX12 271 yX12_readHarbour ∈ gw := gw_t (tb7 215 rfl) rfl
theorem L12_271 : xLV RX12 271 RX12 yX12_readHarbour cX12_readHarbour 2 none 0 := xLV.of ml12_271 imX12_readHarbour seX12_readHarbour inX12 cwX12_readHarbour ⟨rfl, by decide +kernel, by decide +kernel, by decide +kernel⟩
theorem ml12_274 : Cond.methodLink RX12 274 yX12_readNew ∈ gw := gw_t (tb7 231 rfl) rfl
theorem L12_274 : xLV RX12 274 RX12 yX12_readNew cX12_readNew 4 none 0 := xLV.of ml12_274 imX12_readNew seX12_readNew inX12 cwX12_readNew ⟨rfl, by decide +kernel, by decide +kernel, by decide +kernel⟩
theorem ml12_277 : Cond.methodLink RX12 277 yX12_readTelling ∈ gw := gw_t (tb8 43 rfl) rfl
theorem L12_277 : xLV RX12 277 RX12 yX12_readTelling cX12_readTelling 5 none 0 := xLV.of ml12_277 imX12_readTelling seX12_readTelling inX12 cwX12_readTelling ⟨rfl, by decide +kernel, by decide +kernel, by decide +kernel⟩
theorem ml12_280 : Cond.methodLink RX12 280 yX12_starts ∈ gw := gw_t (tb7 133 rfl) rfl
theorem L12_280 : xLV RX12 280 RX12 yX12_starts cX12_starts 3 (some .boolean) 2 := xLV.of ml12_280 imX12_starts seX12_starts inX12 cwX12_starts ⟨rfl, by decide +kernel, by decide +kernel, by decide +kernel⟩
theorem ml12_283 : Cond.methodLink RX12 283 yX12_readPart ∈ gw := gw_t (tb7 157 rfl) rfl
theorem L12_283 : xLV RX12 283 RX12 yX12_readPart cX12_readPart 1 none 0 := xLV.of ml12_283 imX12_readPart seX12_readPart inX12 cwX12_readPart ⟨rfl, by decide +kernel, by decide +kernel, by decide +kernel⟩
theorem ml12_286 : Cond.methodLink RX12 286 yX12_isSign ∈ gw := gw_t (tb8 64 rfl) rfl
theorem L12_286 : xLV RX12 286 RX12 yX12_isSign cX12_isSign 2 (some .boolean) 1 := xLV.of ml12_286 imX12_isSign seX12_isSign inX12 cwX12_isSign ⟨rfl, by decide +kernel, by decide +kernel, by decide +kernel⟩
theorem ml12_289 : Cond.methodLink RX12 289 yX12_isWell ∈ gw := gw_t (tb8 68 rfl) rfl
theorem L12_289 : xLV RX12 289 RX12 yX12_isWell cX12_isWell 1 (some .boolean) 0 := xLV.of ml12_289 imX12_isWell seX12_isWell inX12 cwX12_isWell ⟨rfl, by decide +kernel, by decide +kernel, by decide +kernel⟩
theorem ml12_292 : Cond.methodLink RX12 292 yX12_copy ∈ gw := gw_t (tb8 72 rfl) rfl
theorem L12_292 : xLV RX12 292 RX12 yX12_copy cX12_copy 4 none 2 := xLV.of ml12_292 imX12_copy seX12_copy inX12 cwX12_copy ⟨rfl, by decide +kernel, by decide +kernel, by decide +kernel⟩
theorem ml12_295 : Cond.methodLink RX12 295 yX12_cells ∈ gw := gw_t (tb8 76 rfl) rfl
theorem L12_295 : xLV RX12 295 RX12 yX12_cells cX12_cells 1 (some .int) 0 := xLV.of ml12_295 imX12_cells seX12_cells inX12 cwX12_cells ⟨rfl, by decide +kernel, by decide +kernel, by decide +kernel⟩
theorem ml12_298 : Cond.methodLink RX12 298 yX12_readTest ∈ gw := gw_t (tb8 92 rfl) rfl
theorem L12_298 : xLV RX12 298 RX12 yX12_readTest cX12_readTest 3 none 1 := xLV.of ml12_298 imX12_readTest seX12_readTest inX12 cwX12_readTest ⟨rfl, by decide +kernel, by decide +kernel, by decide +kernel⟩
theorem ml12_304 : Cond.methodLink RX12 304 yX12_readRest ∈ gw := gw_t (tb8 88 rfl) rfl
theorem L12_304 : xLV RX12 304 RX12 yX12_readRest cX12_readRest 3 none 1 := xLV.of ml12_304 imX12_readRest seX12_readRest inX12 cwX12_readRest ⟨rfl, by decide +kernel, by decide +kernel, by decide +kernel⟩
theorem ml12_307 : Cond.methodLink RX12 307 yX12_readStep ∈ gw := gw_t (tb8 84 rfl) rfl
theorem L12_307 : xLV RX12 307 RX12 yX12_readStep cX12_readStep 5 none 1 := xLV.of ml12_307 imX12_readStep seX12_readStep inX12 cwX12_readStep ⟨rfl, by decide +kernel, by decide +kernel, by decide +kernel⟩
theorem ml12_310 : Cond.methodLink RX12 310 yX12_votesOf ∈ gw := gw_t (tb8 117 rfl) rfl
theorem L12_310 : xLV RX12 310 RX12 yX12_votesOf cX12_votesOf 5 (some .int) 2 := xLV.of ml12_310 imX12_votesOf seX12_votesOf inX12 cwX12_votesOf ⟨rfl, by decide +kernel, by decide +kernel, by decide +kernel⟩
theorem ml12_313 : Cond.methodLink RX12 313 yX12_drawn ∈ gw := gw_t (tb8 113 rfl) rfl
theorem L12_313 : xLV RX12 313 RX12 yX12_drawn cX12_drawn 6 (some .int) 1 := xLV.of ml12_313 imX12_drawn seX12_drawn inX12 cwX12_drawn ⟨rfl, by decide +kernel, by decide +kernel, by decide +kernel⟩
theorem ml12_316 : Cond.methodLink RX12 316 yX12_whites ∈ gw := gw_t (tb8 109 rfl) rfl
theorem L12_316 : xLV RX12 316 RX12 yX12_whites cX12_whites 3 (some .int) 0 := xLV.of ml12_316 imX12_whites seX12_whites inX12 cwX12_whites ⟨rfl, by decide +kernel, by decide +kernel, by decide +kernel⟩
theorem ml12_321 : Cond.methodLink RX12 321 yX12_refuse ∈ gw := gw_t (tb8 101 rfl) rfl
theorem L12_321 : xLV RX12 321 RX12 yX12_refuse cX12_refuse 2 (some .int) 1 := xLV.of ml12_321 imX12_refuse seX12_refuse inX12 cwX12_refuse ⟨rfl, by decide +kernel, by decide +kernel, by decide +kernel⟩
theorem ml12_324 : Cond.methodLink RX12 324 yX12_heardOnes ∈ gw := gw_t (tb8 105 rfl) rfl
theorem L12_324 : xLV RX12 324 RX12 yX12_heardOnes cX12_heardOnes 3 (some .int) 0 := xLV.of ml12_324 imX12_heardOnes seX12_heardOnes inX12 cwX12_heardOnes ⟨rfl, by decide +kernel, by decide +kernel, by decide +kernel⟩
theorem ml12_327 : Cond.methodLink RX12 327 yX12_rights ∈ gw := gw_t (tb8 121 rfl) rfl
theorem L12_327 : xLV RX12 327 RX12 yX12_rights cX12_rights 3 (some .int) 0 := xLV.of ml12_327 imX12_rights seX12_rights inX12 cwX12_rights ⟨rfl, by decide +kernel, by decide +kernel, by decide +kernel⟩
theorem ml12_330 : Cond.methodLink RX12 330 yX12_isCell ∈ gw := gw_t (tb8 129 rfl) rfl
theorem L12_330 : xLV RX12 330 RX12 yX12_isCell cX12_isCell 2 (some .boolean) 1 := xLV.of ml12_330 imX12_isCell seX12_isCell inX12 cwX12_isCell ⟨rfl, by decide +kernel, by decide +kernel, by decide +kernel⟩
theorem ml12_335 : Cond.methodLink RX12 335 yX12_riskOf ∈ gw := gw_t (tb8 134 rfl) rfl
theorem L12_335 : xLV RX12 335 RX12 yX12_riskOf cX12_riskOf 5 (some .int) 1 := xLV.of ml12_335 imX12_riskOf seX12_riskOf inX12 cwX12_riskOf ⟨rfl, by decide +kernel, by decide +kernel, by decide +kernel⟩
theorem ml12_338 : Cond.methodLink RX12 338 yX12_sizeAt ∈ gw := gw_t (tb8 138 rfl) rfl
theorem L12_338 : xLV RX12 338 RX12 yX12_sizeAt cX12_sizeAt 4 (some .int) 1 := xLV.of ml12_338 imX12_sizeAt seX12_sizeAt inX12 cwX12_sizeAt ⟨rfl, by decide +kernel, by decide +kernel, by decide +kernel⟩
theorem ml12_341 : Cond.methodLink RX12 341 yX12_isKind ∈ gw := gw_t (tb8 146 rfl) rfl
theorem L12_341 : xLV RX12 341 RX12 yX12_isKind cX12_isKind 2 (some .boolean) 1 := xLV.of ml12_341 imX12_isKind seX12_isKind inX12 cwX12_isKind ⟨rfl, by decide +kernel, by decide +kernel, by decide +kernel⟩
theorem ml12_344 : Cond.methodLink RX12 344 yX12_isTravellerAt ∈ gw := gw_t (tb8 155 rfl) rfl
theorem L12_344 : xLV RX12 344 RX12 yX12_isTravellerAt cX12_isTravellerAt 2 (some .boolean) 1 := xLV.of ml12_344 imX12_isTravellerAt seX12_isTravellerAt inX12 cwX12_isTravellerAt ⟨rfl, by decide +kernel, by decide +kernel, by decide +kernel⟩
theorem ml12_347 : Cond.methodLink RX12 347 yX12_told ∈ gw := gw_t (tb8 159 rfl) rfl
theorem L12_347 : xLV RX12 347 RX12 yX12_told cX12_told 5 (some .int) 2 := xLV.of ml12_347 imX12_told seX12_told inX12 cwX12_told ⟨rfl, by decide +kernel, by decide +kernel, by decide +kernel⟩
theorem ml12_351 : Cond.methodLink RX12 351 yX12_isTray ∈ gw := gw_t (tb8 171 rfl) rfl
theorem L12_351 : xLV RX12 351 RX12 yX12_isTray cX12_isTray 2 (some .boolean) 1 := xLV.of ml12_351 imX12_isTray seX12_isTray inX12 cwX12_isTray ⟨rfl, by decide +kernel, by decide +kernel, by decide +kernel⟩
theorem ml12_354 : Cond.methodLink RX12 354 yX12_write ∈ gw := gw_t (tb8 175 rfl) rfl
theorem L12_354 : xLV RX12 354 RX12 yX12_write cX12_write 5 (some .boolean) 3 := xLV.of ml12_354 imX12_write seX12_write inX12 cwX12_write ⟨rfl, by decide +kernel, by decide +kernel, by decide +kernel⟩
theorem ml12_358 : Cond.methodLink RX12 358 yX12_hears ∈ gw := gw_t (tb8 184 rfl) rfl
theorem L12_358 : xLV RX12 358 RX12 yX12_hears cX12_hears 3 (some .boolean) 2 := xLV.of ml12_358 imX12_hears seX12_hears inX12 cwX12_hears ⟨rfl, by decide +kernel, by decide +kernel, by decide +kernel⟩
theorem ml12_361 : Cond.methodLink RX12 361 yX12_knowns ∈ gw := gw_t (tb8 188 rfl) rfl
theorem L12_361 : xLV RX12 361 RX12 yX12_knowns cX12_knowns 1 (some .int) 0 := xLV.of ml12_361 imX12_knowns seX12_knowns inX12 cwX12_knowns ⟨rfl, by decide +kernel, by decide +kernel, by decide +kernel⟩
theorem ml12_364 : Cond.methodLink RX12 364 yX12_hearing ∈ gw := gw_t (tb8 180 rfl) rfl
theorem L12_364 : xLV RX12 364 RX12 yX12_hearing cX12_hearing 3 (some .int) 2 := xLV.of ml12_364 imX12_hearing seX12_hearing inX12 cwX12_hearing ⟨rfl, by decide +kernel, by decide +kernel, by decide +kernel⟩
theorem ml12_369 : Cond.methodLink RX12 369 yX12_canTell ∈ gw := gw_t (tb8 201 rfl) rfl
theorem L12_369 : xLV RX12 369 RX12 yX12_canTell cX12_canTell 2 (some .boolean) 1 := xLV.of ml12_369 imX12_canTell seX12_canTell inX12 cwX12_canTell ⟨rfl, by decide +kernel, by decide +kernel, by decide +kernel⟩
theorem ml12_374 : Cond.methodLink RX12 374 yX12_becomes ∈ gw := gw_t (tb8 214 rfl) rfl
theorem L12_374 : xLV RX12 374 RX12 yX12_becomes cX12_becomes 4 (some .int) 2 := xLV.of ml12_374 imX12_becomes seX12_becomes inX12 cwX12_becomes ⟨rfl, by decide +kernel, by decide +kernel, by decide +kernel⟩
theorem ml12_377 : Cond.methodLink RX12 377 yX12_likely ∈ gw := gw_t (tb8 238 rfl) rfl
theorem L12_377 : xLV RX12 377 RX12 yX12_likely cX12_likely 7 (some .long) 2 := xLV.of ml12_377 imX12_likely seX12_likely inX12 cwX12_likely ⟨rfl, by decide +kernel, by decide +kernel, by decide +kernel⟩
theorem ml12_381 : Cond.methodLink RX12 381 yX12_likelyAll ∈ gw := gw_t (tb8 234 rfl) rfl
theorem L12_381 : xLV RX12 381 RX12 yX12_likelyAll cX12_likelyAll 5 (some .long) 1 := xLV.of ml12_381 imX12_likelyAll seX12_likelyAll inX12 cwX12_likelyAll ⟨rfl, by decide +kernel, by decide +kernel, by decide +kernel⟩
theorem ml12_385 : Cond.methodLink RX12 385 yX12_fraction ∈ gw := gw_t (tb9 2 rfl) rfl
theorem L12_385 : xLV RX12 385 RX12 yX12_fraction cX12_fraction 11 (some .boolean) 2 := xLV.of ml12_385 imX12_fraction seX12_fraction inX12 cwX12_fraction ⟨rfl, by decide +kernel, by decide +kernel, by decide +kernel⟩
theorem ml12_389 : Cond.methodLink RX12 389 yX12_likeliestOf ∈ gw := gw_t (tb9 13 rfl) rfl
theorem L12_389 : xLV RX12 389 RX12 yX12_likeliestOf cX12_likeliestOf 4 (some .int) 1 := xLV.of ml12_389 imX12_likeliestOf seX12_likeliestOf inX12 cwX12_likeliestOf ⟨rfl, by decide +kernel, by decide +kernel, by decide +kernel⟩
theorem ml12_392 : Cond.methodLink RX12 392 yX12_sizeOf ∈ gw := gw_t (tb9 29 rfl) rfl
theorem L12_392 : xLS RX12 392 yX12_sizeOf cX12_sizeOf 3 (some .int) 1 := xLS.of ml12_392 stX12_sizeOf inX12 cwX12_sizeOf ⟨by decide +kernel, by decide +kernel, by decide +kernel⟩
theorem ml12_395 : Cond.methodLink RX12 395 yX12_clashesBut ∈ gw := gw_t (tb9 35 rfl) rfl
theorem L12_395 : xLV RX12 395 RX12 yX12_clashesBut cX12_clashesBut 6 (some .int) 1 := xLV.of ml12_395 imX12_clashesBut seX12_clashesBut inX12 cwX12_clashesBut ⟨rfl, by decide +kernel, by decide +kernel, by decide +kernel⟩
theorem ml12_398 : Cond.methodLink RX12 398 yX12_liarsNow ∈ gw := gw_t (tb9 25 rfl) rfl
theorem L12_398 : xLV RX12 398 RX12 yX12_liarsNow cX12_liarsNow 3 (some .int) 0 := xLV.of ml12_398 imX12_liarsNow seX12_liarsNow inX12 cwX12_liarsNow ⟨rfl, by decide +kernel, by decide +kernel, by decide +kernel⟩
theorem ml12_401 : Cond.methodLink RX12 401 yJ9_abs_0f7a4 ∈ gw := gw_t (tb9 64 rfl) rfl
theorem L12_401 : xLS RX12 401 yJ9_abs_0f7a4 cJ9_abs_0f7a4 1 (some .int) 1 := xLS.of ml12_401 stJ9_abs_0f7a4 inJ9 cwJ9_abs_0f7a4 ⟨by decide +kernel, by decide +kernel, by decide +kernel⟩
theorem ml12_404 : Cond.methodLink RX12 404 yX12_areBeside ∈ gw := gw_t (tb9 60 rfl) rfl
theorem L12_404 : xLV RX12 404 RX12 yX12_areBeside cX12_areBeside 4 (some .boolean) 2 := xLV.of ml12_404 imX12_areBeside seX12_areBeside inX12 cwX12_areBeside ⟨rfl, by decide +kernel, by decide +kernel, by decide +kernel⟩
theorem ml12_407 : Cond.methodLink RX12 407 yX12_costOf ∈ gw := gw_t (tb9 67 rfl) rfl
theorem L12_407 : xLV RX12 407 RX12 yX12_costOf cX12_costOf 2 (some .int) 1 := xLV.of ml12_407 imX12_costOf seX12_costOf inX12 cwX12_costOf ⟨rfl, by decide +kernel, by decide +kernel, by decide +kernel⟩
theorem ml12_410 : Cond.methodLink RX12 410 yX12_laysWay ∈ gw := gw_t (tb9 55 rfl) rfl
theorem L12_410 : xLV RX12 410 RX12 yX12_laysWay cX12_laysWay 6 none 1 := xLV.of ml12_410 imX12_laysWay seX12_laysWay inX12 cwX12_laysWay ⟨rfl, by decide +kernel, by decide +kernel, by decide +kernel⟩
theorem ml12_413 : Cond.methodLink RX12 413 yX12_wayCost ∈ gw := gw_t (tb9 51 rfl) rfl
theorem L12_413 : xLV RX12 413 RX12 yX12_wayCost cX12_wayCost 2 (some .int) 1 := xLV.of ml12_413 imX12_wayCost seX12_wayCost inX12 cwX12_wayCost ⟨rfl, by decide +kernel, by decide +kernel, by decide +kernel⟩
theorem ml12_416 : Cond.methodLink RX12 416 yX12_nextOn ∈ gw := gw_t (tb9 79 rfl) rfl
theorem L12_416 : xLV RX12 416 RX12 yX12_nextOn cX12_nextOn 3 (some .int) 1 := xLV.of ml12_416 imX12_nextOn seX12_nextOn inX12 cwX12_nextOn ⟨rfl, by decide +kernel, by decide +kernel, by decide +kernel⟩
theorem ml12_419 : Cond.methodLink RX12 419 yX12_sails ∈ gw := gw_t (tb9 91 rfl) rfl
theorem L12_419 : xLV RX12 419 RX12 yX12_sails cX12_sails 5 (some .int) 1 := xLV.of ml12_419 imX12_sails seX12_sails inX12 cwX12_sails ⟨rfl, by decide +kernel, by decide +kernel, by decide +kernel⟩
theorem ml12_422 : Cond.methodLink RX12 422 yX12_whitesWith ∈ gw := gw_t (tb9 104 rfl) rfl
theorem L12_422 : xLV RX12 422 RX12 yX12_whitesWith cX12_whitesWith 5 (some .int) 1 := xLV.of ml12_422 imX12_whitesWith seX12_whitesWith inX12 cwX12_whitesWith ⟨rfl, by decide +kernel, by decide +kernel, by decide +kernel⟩
theorem ml12_430 : Cond.methodLink RX12 430 yX12_plans ∈ gw := gw_t (tb9 100 rfl) rfl
theorem L12_430 : xLV RX12 430 RX12 yX12_plans cX12_plans 6 (some .int) 1 := xLV.of ml12_430 imX12_plans seX12_plans inX12 cwX12_plans ⟨rfl, by decide +kernel, by decide +kernel, by decide +kernel⟩
theorem ml12_433 : Cond.methodLink RX12 433 yX12_plays ∈ gw := gw_t (tb9 116 rfl) rfl
theorem L12_433 : xLV RX12 433 RX12 yX12_plays cX12_plays 11 (some .int) 2 := xLV.of ml12_433 imX12_plays seX12_plays inX12 cwX12_plays ⟨rfl, by decide +kernel, by decide +kernel, by decide +kernel⟩
theorem ml12_454 : Cond.methodLink RX12 454 yX12_isWrecked ∈ gw := gw_t (tb9 162 rfl) rfl
theorem L12_454 : xLV RX12 454 RX12 yX12_isWrecked cX12_isWrecked 3 (some .boolean) 2 := xLV.of ml12_454 imX12_isWrecked seX12_isWrecked inX12 cwX12_isWrecked ⟨rfl, by decide +kernel, by decide +kernel, by decide +kernel⟩
theorem ml12_457 : Cond.methodLink RX12 457 yX12_draw ∈ gw := gw_t (tb9 170 rfl) rfl
theorem L12_457 : xLV RX12 457 RX12 yX12_draw cX12_draw 2 (some .int) 1 := xLV.of ml12_457 imX12_draw seX12_draw inX12 cwX12_draw ⟨rfl, by decide +kernel, by decide +kernel, by decide +kernel⟩
theorem ml12_460 : Cond.methodLink RX12 460 yX12_isToldOf ∈ gw := gw_t (tb9 154 rfl) rfl
theorem L12_460 : xLV RX12 460 RX12 yX12_isToldOf cX12_isToldOf 4 (some .boolean) 3 := xLV.of ml12_460 imX12_isToldOf seX12_isToldOf inX12 cwX12_isToldOf ⟨rfl, by decide +kernel, by decide +kernel, by decide +kernel⟩
theorem ml12_464 : Cond.methodLink RX12 464 yX12_isSailed ∈ gw := gw_t (tb9 158 rfl) rfl
theorem L12_464 : xLV RX12 464 RX12 yX12_isSailed cX12_isSailed 3 (some .boolean) 1 := xLV.of ml12_464 imX12_isSailed seX12_isSailed inX12 cwX12_isSailed ⟨rfl, by decide +kernel, by decide +kernel, by decide +kernel⟩
theorem ml12_467 : Cond.methodLink RX12 467 yX12_isAny ∈ gw := gw_t (tb9 166 rfl) rfl
theorem L12_467 : xLV RX12 467 RX12 yX12_isAny cX12_isAny 6 (some .boolean) 0 := xLV.of ml12_467 imX12_isAny seX12_isAny inX12 cwX12_isAny ⟨rfl, by decide +kernel, by decide +kernel, by decide +kernel⟩
theorem ml12_482 : Cond.methodLink RX12 482 yX12_does ∈ gw := gw_t (tb9 150 rfl) rfl
theorem L12_482 : xLV RX12 482 RX12 yX12_does cX12_does 4 (some .boolean) 1 := xLV.of ml12_482 imX12_does seX12_does inX12 cwX12_does ⟨rfl, by decide +kernel, by decide +kernel, by decide +kernel⟩
theorem ml12_485 : Cond.methodLink RX12 485 yX12_holds ∈ gw := gw_t (tb9 175 rfl) rfl
theorem L12_485 : xLV RX12 485 RX12 yX12_holds cX12_holds 5 (some .boolean) 1 := xLV.of ml12_485 imX12_holds seX12_holds inX12 cwX12_holds ⟨rfl, by decide +kernel, by decide +kernel, by decide +kernel⟩
theorem ml12_488 : Cond.methodLink RX12 488 yX12_doAll ∈ gw := gw_t (tb9 142 rfl) rfl
theorem L12_488 : xLV RX12 488 RX12 yX12_doAll cX12_doAll 4 none 2 := xLV.of ml12_488 imX12_doAll seX12_doAll inX12 cwX12_doAll ⟨rfl, by decide +kernel, by decide +kernel, by decide +kernel⟩
theorem ml12_491 : Cond.methodLink RX12 491 yX12_doOne ∈ gw := gw_t (tb9 146 rfl) rfl
theorem L12_491 : xLV RX12 491 RX12 yX12_doOne cX12_doOne 5 none 1 := xLV.of ml12_491 imX12_doOne seX12_doOne inX12 cwX12_doOne ⟨rfl, by decide +kernel, by decide +kernel, by decide +kernel⟩
theorem ml12_496 : Cond.methodLink RX12 496 yX12_runsYears ∈ gw := gw_t (tb9 138 rfl) rfl
theorem L12_496 : xLV RX12 496 RX12 yX12_runsYears cX12_runsYears 2 none 1 := xLV.of ml12_496 imX12_runsYears seX12_runsYears inX12 cwX12_runsYears ⟨rfl, by decide +kernel, by decide +kernel, by decide +kernel⟩
theorem mlJ0_335 : Cond.methodLink RJ0 335 yJ0_coder_7d493 ∈ gw := gw_t (tb1 65 rfl) rfl
theorem LJ0_335 : xLV RJ0 335 RJ0 yJ0_coder_7d493 cJ0_coder_7d493 1 (some .byte) 0 := xLV.of mlJ0_335 imJ0_coder_7d493 seJ0_coder_7d493 inJ0 cwJ0_coder_7d493 ⟨rfl, by decide +kernel, by decide +kernel, by decide +kernel⟩
theorem mlJ0_492 : Cond.methodLink RJ0 492 yJ0_isLatin1_aae02 ∈ gw := gw_t (tb1 75 rfl) rfl
theorem LJ0_492 : xLV RJ0 492 RJ0 yJ0_isLatin1_aae02 cJ0_isLatin1_aae02 1 (some .boolean) 0 := xLV.of mlJ0_492 imJ0_isLatin1_aae02 seJ0_isLatin1_aae02 inJ0 cwJ0_isLatin1_aae02 ⟨rfl, by decide +kernel, by decide +kernel, by decide +kernel⟩
theorem mlJ0_495 : Cond.methodLink RJ0 495 yJ1_charAt_3b067 ∈ gw := gw_t (tb1 79 rfl) rfl
theorem LJ0_495 : xLS RJ0 495 yJ1_charAt_3b067 cJ1_charAt_3b067 2 (some .char) 2 := xLS.of mlJ0_495 stJ1_charAt_3b067 inJ1 cwJ1_charAt_3b067 ⟨by decide +kernel, by decide +kernel, by decide +kernel⟩
theorem mlJ0_498 : Cond.methodLink RJ0 498 yJ2_charAt_3b067 ∈ gw := gw_t (tb1 90 rfl) rfl
theorem LJ0_498 : xLS RJ0 498 yJ2_charAt_3b067 cJ2_charAt_3b067 2 (some .char) 2 := xLS.of mlJ0_498 stJ2_charAt_3b067 inJ2 cwJ2_charAt_3b067 ⟨by decide +kernel, by decide +kernel, by decide +kernel⟩
theorem mlJ0_505 : Cond.methodLink RJ0 505 yJ0_length_8abf5 ∈ gw := gw_t (tb3 192 rfl) rfl
theorem LJ0_505 : xLV RJ0 505 RJ0 yJ0_length_8abf5 cJ0_length_8abf5 1 (some .int) 0 := xLV.of mlJ0_505 imJ0_length_8abf5 seJ0_length_8abf5 inJ0 cwJ0_length_8abf5 ⟨rfl, by decide +kernel, by decide +kernel, by decide +kernel⟩
theorem mlJ0_633 : Cond.methodLink RJ0 633 yJ0_indexOf_7cf53 ∈ gw := gw_t (tb3 188 rfl) rfl
theorem LJ0_633 : xLV RJ0 633 RJ0 yJ0_indexOf_7cf53 cJ0_indexOf_7cf53 3 (some .int) 2 := xLV.of mlJ0_633 imJ0_indexOf_7cf53 seJ0_indexOf_7cf53 inJ0 cwJ0_indexOf_7cf53 ⟨rfl, by decide +kernel, by decide +kernel, by decide +kernel⟩
theorem mlJ0_637 : Cond.methodLink RJ0 637 yJ1_indexOf_4cfef ∈ gw := gw_t (tb3 193 rfl) rfl
theorem LJ0_637 : xLS RJ0 637 yJ1_indexOf_4cfef cJ1_indexOf_4cfef 4 (some .int) 4 := xLS.of mlJ0_637 stJ1_indexOf_4cfef inJ1 cwJ1_indexOf_4cfef ⟨by decide +kernel, by decide +kernel, by decide +kernel⟩
theorem mlJ0_640 : Cond.methodLink RJ0 640 yJ2_indexOf_4cfef ∈ gw := gw_t (tb3 204 rfl) rfl
theorem LJ0_640 : xLS RJ0 640 yJ2_indexOf_4cfef cJ2_indexOf_4cfef 4 (some .int) 4 := xLS.of mlJ0_640 stJ2_indexOf_4cfef inJ2 cwJ2_indexOf_4cfef ⟨by decide +kernel, by decide +kernel, by decide +kernel⟩
theorem mlJ0_1059 : Cond.methodLink RJ0 1059 yJ3_checkIndex_8e157 ∈ gw := gw_t (tb1 87 rfl) rfl
theorem LJ0_1059 : xLS RJ0 1059 yJ3_checkIndex_8e157 cJ3_checkIndex_8e157 3 (some .int) 3 := xLS.of mlJ0_1059 stJ3_checkIndex_8e157 inJ3 cwJ3_checkIndex_8e157 ⟨by decide +kernel, by decide +kernel, by decide +kernel⟩
theorem mlJ0_1062 : Cond.methodLink RJ0 1062 yJ3_checkFromToIndex_8c36e ∈ gw := gw_t (tb3 219 rfl) rfl
theorem LJ0_1062 : xLS RJ0 1062 yJ3_checkFromToIndex_8c36e cJ3_checkFromToIndex_8c36e 4 (some .int) 4 := xLS.of mlJ0_1062 stJ3_checkFromToIndex_8c36e inJ3 cwJ3_checkFromToIndex_8c36e ⟨by decide +kernel, by decide +kernel, by decide +kernel⟩
theorem mlJ1_9 : Cond.methodLink RJ1 9 yJ0_checkIndex_df160 ∈ gw := gw_t (tb1 82 rfl) rfl
theorem LJ1_9 : xLS RJ1 9 yJ0_checkIndex_df160 cJ0_checkIndex_df160 2 none 2 := xLS.of mlJ1_9 stJ0_checkIndex_df160 inJ0 cwJ0_checkIndex_df160 ⟨by decide +kernel, by decide +kernel, by decide +kernel⟩
theorem mlJ1_38 : Cond.methodLink RJ1 38 yJ9_min_7cf53 ∈ gw := gw_t (tb3 200 rfl) rfl
theorem LJ1_38 : xLS RJ1 38 yJ9_min_7cf53 cJ9_min_7cf53 2 (some .int) 2 := xLS.of mlJ1_38 stJ9_min_7cf53 inJ9 cwJ9_min_7cf53 ⟨by decide +kernel, by decide +kernel, by decide +kernel⟩
theorem mlJ1_88 : Cond.methodLink RJ1 88 yJ1_canEncode_9a6ad ∈ gw := gw_t (tb3 196 rfl) rfl
theorem LJ1_88 : xLS RJ1 88 yJ1_canEncode_9a6ad cJ1_canEncode_9a6ad 1 (some .boolean) 1 := xLS.of mlJ1_88 stJ1_canEncode_9a6ad inJ1 cwJ1_canEncode_9a6ad ⟨by decide +kernel, by decide +kernel, by decide +kernel⟩
theorem mlJ1_92 : Cond.methodLink RJ1 92 yJ9_max_7cf53 ∈ gw := gw_t (tb3 199 rfl) rfl
theorem LJ1_92 : xLS RJ1 92 yJ9_max_7cf53 cJ9_max_7cf53 2 (some .int) 2 := xLS.of mlJ1_92 stJ9_max_7cf53 inJ9 cwJ9_max_7cf53 ⟨by decide +kernel, by decide +kernel, by decide +kernel⟩
theorem mlJ1_95 : Cond.methodLink RJ1 95 yJ1_indexOfChar_4cfef ∈ gw := gw_t (tb3 201 rfl) rfl
theorem LJ1_95 : xLS RJ1 95 yJ1_indexOfChar_4cfef cJ1_indexOfChar_4cfef 6 (some .int) 4 := xLS.of mlJ1_95 stJ1_indexOfChar_4cfef inJ1 cwJ1_indexOfChar_4cfef ⟨by decide +kernel, by decide +kernel, by decide +kernel⟩
theorem mlJ2_48 : Cond.methodLink RJ2 48 yJ2_length_9d52b ∈ gw := gw_t (tb1 96 rfl) rfl
theorem LJ2_48 : xLS RJ2 48 yJ2_length_9d52b cJ2_length_9d52b 1 (some .int) 1 := xLS.of mlJ2_48 stJ2_length_9d52b inJ2 cwJ2_length_9d52b ⟨by decide +kernel, by decide +kernel, by decide +kernel⟩
theorem mlJ2_67 : Cond.methodLink RJ2 67 yJ2_checkIndex_2214a ∈ gw := gw_t (tb1 93 rfl) rfl
theorem LJ2_67 : xLS RJ2 67 yJ2_checkIndex_2214a cJ2_checkIndex_2214a 2 none 2 := xLS.of mlJ2_67 stJ2_checkIndex_2214a inJ2 cwJ2_checkIndex_2214a ⟨by decide +kernel, by decide +kernel, by decide +kernel⟩
theorem mlJ2_71 : Cond.methodLink RJ2 71 yJ2_getChar_3b067 ∈ gw := gw_t (tb1 100 rfl) rfl
theorem LJ2_71 : xLS RJ2 71 yJ2_getChar_3b067 cJ2_getChar_3b067 2 (some .char) 2 := xLS.of mlJ2_71 stJ2_getChar_3b067 inJ2 cwJ2_getChar_3b067 ⟨by decide +kernel, by decide +kernel, by decide +kernel⟩
theorem mlJ2_96 : Cond.methodLink RJ2 96 yJ2_checkBoundsBeginEnd_d044e ∈ gw := gw_t (tb3 213 rfl) rfl
theorem LJ2_96 : xLS RJ2 96 yJ2_checkBoundsBeginEnd_d044e cJ2_checkBoundsBeginEnd_d044e 3 none 3 := xLS.of mlJ2_96 stJ2_checkBoundsBeginEnd_d044e inJ2 cwJ2_checkBoundsBeginEnd_d044e ⟨by decide +kernel, by decide +kernel, by decide +kernel⟩
theorem mlJ2_157 : Cond.methodLink RJ2 157 yJ11_highSurrogate_5068e ∈ gw := gw_t (tb3 231 rfl) rfl
theorem LJ2_157 : xLS RJ2 157 yJ11_highSurrogate_5068e cJ11_highSurrogate_5068e 1 (some .char) 1 := xLS.of mlJ2_157 stJ11_highSurrogate_5068e inJ11 cwJ11_highSurrogate_5068e ⟨by decide +kernel, by decide +kernel, by decide +kernel⟩
theorem mlJ2_161 : Cond.methodLink RJ2 161 yJ11_lowSurrogate_5068e ∈ gw := gw_t (tb3 235 rfl) rfl
theorem LJ2_161 : xLS RJ2 161 yJ11_lowSurrogate_5068e cJ11_lowSurrogate_5068e 1 (some .char) 1 := xLS.of mlJ2_161 stJ11_lowSurrogate_5068e inJ11 cwJ11_lowSurrogate_5068e ⟨by decide +kernel, by decide +kernel, by decide +kernel⟩
theorem mlJ2_164 : Cond.methodLink RJ2 164 yJ11_isValidCodePoint_9a6ad ∈ gw := gw_t (tb3 228 rfl) rfl
theorem LJ2_164 : xLS RJ2 164 yJ11_isValidCodePoint_9a6ad cJ11_isValidCodePoint_9a6ad 2 (some .boolean) 1 := xLS.of mlJ2_164 stJ11_isValidCodePoint_9a6ad inJ11 cwJ11_isValidCodePoint_9a6ad ⟨by decide +kernel, by decide +kernel, by decide +kernel⟩
theorem mlJ2_183 : Cond.methodLink RJ2 183 yJ9_min_7cf53 ∈ gw := gw_t (tb3 208 rfl) rfl
theorem LJ2_183 : xLS RJ2 183 yJ9_min_7cf53 cJ9_min_7cf53 2 (some .int) 2 := xLS.of mlJ2_183 stJ9_min_7cf53 inJ9 cwJ9_min_7cf53 ⟨by decide +kernel, by decide +kernel, by decide +kernel⟩
theorem mlJ2_224 : Cond.methodLink RJ2 224 yJ9_max_7cf53 ∈ gw := gw_t (tb3 207 rfl) rfl
theorem LJ2_224 : xLS RJ2 224 yJ9_max_7cf53 cJ9_max_7cf53 2 (some .int) 2 := xLS.of mlJ2_224 stJ9_max_7cf53 inJ9 cwJ9_max_7cf53 ⟨by decide +kernel, by decide +kernel, by decide +kernel⟩
theorem mlJ2_228 : Cond.methodLink RJ2 228 yJ2_indexOfChar_4cfef ∈ gw := gw_t (tb3 210 rfl) rfl
theorem LJ2_228 : xLS RJ2 228 yJ2_indexOfChar_4cfef cJ2_indexOfChar_4cfef 4 (some .int) 4 := xLS.of mlJ2_228 stJ2_indexOfChar_4cfef inJ2 cwJ2_indexOfChar_4cfef ⟨by decide +kernel, by decide +kernel, by decide +kernel⟩
theorem mlJ2_232 : Cond.methodLink RJ2 232 yJ2_indexOfSupplementary_4cfef ∈ gw := gw_t (tb3 225 rfl) rfl
theorem LJ2_232 : xLS RJ2 232 yJ2_indexOfSupplementary_4cfef cJ2_indexOfSupplementary_4cfef 7 (some .int) 4 := xLS.of mlJ2_232 stJ2_indexOfSupplementary_4cfef inJ2 cwJ2_indexOfSupplementary_4cfef ⟨by decide +kernel, by decide +kernel, by decide +kernel⟩
theorem mlJ2_241 : Cond.methodLink RJ2 241 yJ0_checkBoundsBeginEnd_23922 ∈ gw := gw_t (tb3 216 rfl) rfl
theorem LJ2_241 : xLS RJ2 241 yJ0_checkBoundsBeginEnd_23922 cJ0_checkBoundsBeginEnd_23922 3 none 3 := xLS.of mlJ2_241 stJ0_checkBoundsBeginEnd_23922 inJ0 cwJ0_checkBoundsBeginEnd_23922 ⟨by decide +kernel, by decide +kernel, by decide +kernel⟩
theorem mlJ2_244 : Cond.methodLink RJ2 244 yJ2_indexOfCharUnsafe_4cfef ∈ gw := gw_t (tb3 222 rfl) rfl
theorem LJ2_244 : xLS RJ2 244 yJ2_indexOfCharUnsafe_4cfef cJ2_indexOfCharUnsafe_4cfef 5 (some .int) 4 := xLS.of mlJ2_244 stJ2_indexOfCharUnsafe_4cfef inJ2 cwJ2_indexOfCharUnsafe_4cfef ⟨by decide +kernel, by decide +kernel, by decide +kernel⟩
theorem mlJ2_414 : Cond.methodLink RJ2 414 yJ0_checkIndex_df160 ∈ gw := gw_t (tb1 99 rfl) rfl
theorem LJ2_414 : xLS RJ2 414 yJ0_checkIndex_df160 cJ0_checkIndex_df160 2 none 2 := xLS.of mlJ2_414 stJ0_checkIndex_df160 inJ0 cwJ0_checkIndex_df160 ⟨by decide +kernel, by decide +kernel, by decide +kernel⟩
