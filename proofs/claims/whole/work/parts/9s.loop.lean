/-! The law: its loop. -/
section LWL
variable {p : Program} {l : Launch} {e : Env} {s : State} {m : MethodId} {below : List Frame} {meth : Method} {c : Code} {E : xE} {b L i : Nat} {xs : Nat → Int32} {Q : State → Prop} {H : Heap} {locs : List Loc} {ce sl : Nat} {ls : Array Slot} {a : Nat → Nat} {U : Nat → Value} {I : Nat → Nat → Int32} {J : Nat → Nat → Int64}
set_option maxRecDepth 20000 in
set_option maxHeartbeats 4000000 in
theorem law_tab (hC : lC p s m c E b L xs) (hi : i + 5 < L) (hcs : ce ≤ room_1.cells ∧ sl ≤ room_1.slots) (hI : INV I J) (hP : va_P E.1 vwCl (LW E a (rc a) U I J) H) (hD : va_D (aA s) (LW E a (rc a) U I J)) (hS : va_S (aA s) s.heap H locs) (hl : lv_has ls 4 [(3, .int (iN i)), (2, .ref (a 114)), (1, .ref (a 0)), (0, .ref b)]) (kk : lNx p l e s m below meth c E b Q ce sl i) : W p l e room_1 s m #[Value.ref b] below meth c H locs ce sl Q (F0 m 27 ls []) := by
  have hC0 := hC
  obtain ⟨hx, hb, hml, hown, htg, hK, hG, hX, hbl, hL⟩ := hC
  refine lv_aload_n hx hb dw_27 rfl (lv_at hl 3 rfl) ?_
  refine lv_iload_n hx hb dw_28 rfl (lv_at hl 0 rfl) ?_
  refine va_sld hx hb hX hbl (Nat.not_le.mpr hbl) hS (gd_in (iN_gd (show i < L by omega) (by omega))) dw_29 ?_
  refine lv_bipush (v := 63) hx hb dw_30 (by decide) ?_
  refine lv_iand hx hb dw_32 ?_
  generalize (xs (Int32.toNatClampNeg (iN i)) &&& 63 : Int32) = v
  by_cases q0 : v = 0
  · exact xtabI hx hb (k := 0) (off := 203) (tgt := 236) q0 dw_33 (by decide +kernel) (by decide) (K_status hC0 hi hcs hI hP hD hS hl kk)
  by_cases q1 : v = 1
  · exact xtabI hx hb (k := 1) (off := 216) (tgt := 249) q1 dw_33 (by decide +kernel) (by decide) (K_top hC0 hi hcs hI hP hD hS hl kk)
  by_cases q2 : v = 2
  · exact xtabI hx hb (k := 2) (off := 230) (tgt := 263) q2 dw_33 (by decide +kernel) (by decide) (K_bottom hC0 hi hcs hI hP hD hS hl kk)
  by_cases q3 : v = 3
  · exact xtabI hx hb (k := 3) (off := 244) (tgt := 277) q3 dw_33 (by decide +kernel) (by decide) (K_tray hC0 hi hcs hI hP hD hS hl kk)
  by_cases q4 : v = 4
  · exact xtabI hx hb (k := 4) (off := 287) (tgt := 320) q4 dw_33 (by decide +kernel) (by decide) (K_write hC0 hi hcs hI hP hD hS hl kk)
  by_cases q5 : v = 5
  · exact xtabI hx hb (k := 5) (off := 360) (tgt := 393) q5 dw_33 (by decide +kernel) (by decide) (K_read hC0 hi hcs hI hP hD hS hl kk)
  by_cases q6 : v = 6
  · exact xtabI hx hb (k := 6) (off := 394) (tgt := 427) q6 dw_33 (by decide +kernel) (by decide) (K_pour hC0 hi hcs hI hP hD hS hl kk)
  by_cases q7 : v = 7
  · exact xtabI hx hb (k := 7) (off := 457) (tgt := 490) q7 dw_33 (by decide +kernel) (by decide) (K_feed hC0 hi hcs hI hP hD hS hl kk)
  by_cases q8 : v = 8
  · exact xtabI hx hb (k := 8) (off := 520) (tgt := 553) q8 dw_33 (by decide +kernel) (by decide) (K_duchy hC0 hi hcs hI hP hD hS hl kk)
  by_cases q9 : v = 9
  · exact xtabI hx hb (k := 9) (off := 543) (tgt := 576) q9 dw_33 (by decide +kernel) (by decide) (K_years hC0 hi hcs hI hP hD hS hl kk)
  by_cases q10 : v = 10
  · exact xtabI hx hb (k := 10) (off := 566) (tgt := 599) q10 dw_33 (by decide +kernel) (by decide) (K_fault hC0 hi hcs hI hP hD hS hl kk)
  by_cases q11 : v = 11
  · exact xtabI hx hb (k := 11) (off := 589) (tgt := 622) q11 dw_33 (by decide +kernel) (by decide) (K_many hC0 hi hcs hI hP hD hS hl kk)
  by_cases q12 : v = 12
  · exact xtabI hx hb (k := 12) (off := 612) (tgt := 645) q12 dw_33 (by decide +kernel) (by decide) (K_cell hC0 hi hcs hI hP hD hS hl kk)
  by_cases q13 : v = 13
  · exact xtabI hx hb (k := 13) (off := 645) (tgt := 678) q13 dw_33 (by decide +kernel) (by decide) (K_votes hC0 hi hcs hI hP hD hS hl kk)
  by_cases q14 : v = 14
  · exact xtabI hx hb (k := 14) (off := 678) (tgt := 711) q14 dw_33 (by decide +kernel) (by decide) (K_traveller hC0 hi hcs hI hP hD hS hl kk)
  by_cases q15 : v = 15
  · exact xtabI hx hb (k := 15) (off := 711) (tgt := 744) q15 dw_33 (by decide +kernel) (by decide) (K_telling hC0 hi hcs hI hP hD hS hl kk)
  by_cases q16 : v = 16
  · exact xtabI hx hb (k := 16) (off := 744) (tgt := 777) q16 dw_33 (by decide +kernel) (by decide) (K_copyChart hC0 hi hcs hI hP hD hS hl kk)
  by_cases q17 : v = 17
  · exact xtabI hx hb (k := 17) (off := 767) (tgt := 800) q17 dw_33 (by decide +kernel) (by decide) (K_hear hC0 hi hcs hI hP hD hS hl kk)
  by_cases q18 : v = 18
  · exact xtabI hx hb (k := 18) (off := 790) (tgt := 823) q18 dw_33 (by decide +kernel) (by decide) (K_forget hC0 hi hcs hI hP hD hS hl kk)
  by_cases q19 : v = 19
  · exact xtabI hx hb (k := 19) (off := 813) (tgt := 846) q19 dw_33 (by decide +kernel) (by decide) (K_tell hC0 hi hcs hI hP hD hS hl kk)
  by_cases q20 : v = 20
  · exact xtabI hx hb (k := 20) (off := 866) (tgt := 899) q20 dw_33 (by decide +kernel) (by decide) (K_come hC0 hi hcs hI hP hD hS hl kk)
  by_cases q21 : v = 21
  · exact xtabI hx hb (k := 21) (off := 889) (tgt := 922) q21 dw_33 (by decide +kernel) (by decide) (K_change hC0 hi hcs hI hP hD hS hl kk)
  by_cases q22 : v = 22
  · exact xtabI hx hb (k := 22) (off := 922) (tgt := 955) q22 dw_33 (by decide +kernel) (by decide) (K_trust hC0 hi hcs hI hP hD hS hl kk)
  by_cases q23 : v = 23
  · exact xtabI hx hb (k := 23) (off := 955) (tgt := 988) q23 dw_33 (by decide +kernel) (by decide) (K_moor hC0 hi hcs hI hP hD hS hl kk)
  by_cases q24 : v = 24
  · exact xtabI hx hb (k := 24) (off := 978) (tgt := 1011) q24 dw_33 (by decide +kernel) (by decide) (K_rule hC0 hi hcs hI hP hD hS hl kk)
  by_cases q25 : v = 25
  · exact xtabI hx hb (k := 25) (off := 1001) (tgt := 1034) q25 dw_33 (by decide +kernel) (by decide) (K_oddsThat hC0 hi hcs hI hP hD hS hl kk)
  by_cases q26 : v = 26
  · exact xtabI hx hb (k := 26) (off := 1034) (tgt := 1067) q26 dw_33 (by decide +kernel) (by decide) (K_likeliest hC0 hi hcs hI hP hD hS hl kk)
  by_cases q27 : v = 27
  · exact xtabI hx hb (k := 27) (off := 1057) (tgt := 1090) q27 dw_33 (by decide +kernel) (by decide) (K_ask hC0 hi hcs hI hP hD hS hl kk)
  by_cases q28 : v = 28
  · exact xtabI hx hb (k := 28) (off := 1070) (tgt := 1103) q28 dw_33 (by decide +kernel) (by decide) (K_liars hC0 hi hcs hI hP hD hS hl kk)
  by_cases q29 : v = 29
  · exact xtabI hx hb (k := 29) (off := 1083) (tgt := 1116) q29 dw_33 (by decide +kernel) (by decide) (K_liarSet hC0 hi hcs hI hP hD hS hl kk)
  by_cases q30 : v = 30
  · exact xtabI hx hb (k := 30) (off := 1096) (tgt := 1129) q30 dw_33 (by decide +kernel) (by decide) (K_clashes hC0 hi hcs hI hP hD hS hl kk)
  by_cases q31 : v = 31
  · exact xtabI hx hb (k := 31) (off := 1109) (tgt := 1142) q31 dw_33 (by decide +kernel) (by decide) (K_way hC0 hi hcs hI hP hD hS hl kk)
  by_cases q32 : v = 32
  · exact xtabI hx hb (k := 32) (off := 1132) (tgt := 1165) q32 dw_33 (by decide +kernel) (by decide) (K_wayLong hC0 hi hcs hI hP hD hS hl kk)
  by_cases q33 : v = 33
  · exact xtabI hx hb (k := 33) (off := 1155) (tgt := 1188) q33 dw_33 (by decide +kernel) (by decide) (K_wayAt hC0 hi hcs hI hP hD hS hl kk)
  by_cases q34 : v = 34
  · exact xtabI hx hb (k := 34) (off := 1188) (tgt := 1221) q34 dw_33 (by decide +kernel) (by decide) (K_comesIn hC0 hi hcs hI hP hD hS hl kk)
  by_cases q35 : v = 35
  · exact xtabI hx hb (k := 35) (off := 1211) (tgt := 1244) q35 dw_33 (by decide +kernel) (by decide) (K_sail hC0 hi hcs hI hP hD hS hl kk)
  by_cases q36 : v = 36
  · exact xtabI hx hb (k := 36) (off := 1234) (tgt := 1267) q36 dw_33 (by decide +kernel) (by decide) (K_plan hC0 hi hcs hI hP hD hS hl kk)
  by_cases q37 : v = 37
  · exact xtabI hx hb (k := 37) (off := 1257) (tgt := 1290) q37 dw_33 (by decide +kernel) (by decide) (K_planSet hC0 hi hcs hI hP hD hS hl kk)
  by_cases q38 : v = 38
  · exact xtabI hx hb (k := 38) (off := 1280) (tgt := 1313) q38 dw_33 (by decide +kernel) (by decide) (K_game hC0 hi hcs hI hP hD hS hl kk)
  by_cases q39 : v = 39
  · exact xtabI hx hb (k := 39) (off := 1303) (tgt := 1336) q39 dw_33 (by decide +kernel) (by decide) (K_moveOf hC0 hi hcs hI hP hD hS hl kk)
  by_cases q40 : v = 40
  · exact xtabI hx hb (k := 40) (off := 1326) (tgt := 1359) q40 dw_33 (by decide +kernel) (by decide) (K_swear hC0 hi hcs hI hP hD hS hl kk)
  by_cases q41 : v = 41
  · exact xtabI hx hb (k := 41) (off := 1359) (tgt := 1392) q41 dw_33 (by decide +kernel) (by decide) (K_share hC0 hi hcs hI hP hD hS hl kk)
  by_cases q42 : v = 42
  · exact xtabI hx hb (k := 42) (off := 1382) (tgt := 1415) q42 dw_33 (by decide +kernel) (by decide) (K_live hC0 hi hcs hI hP hD hS hl kk)
  by_cases q43 : v = 43
  · exact xtabI hx hb (k := 43) (off := 1405) (tgt := 1438) q43 dw_33 (by decide +kernel) (by decide) (K_lived hC0 hi hcs hI hP hD hS hl kk)
  by_cases q44 : v = 44
  · exact xtabI hx hb (k := 44) (off := 1428) (tgt := 1461) q44 dw_33 (by decide +kernel) (by decide) (K_mean hC0 hi hcs hI hP hD hS hl kk)
  by_cases q45 : v = 45
  · exact xtabI hx hb (k := 45) (off := 1461) (tgt := 1494) q45 dw_33 (by decide +kernel) (by decide) (K_mark hC0 hi hcs hI hP hD hS hl kk)
  by_cases q46 : v = 46
  · exact xtabI hx hb (k := 46) (off := 1474) (tgt := 1507) q46 dw_33 (by decide +kernel) (by decide) (K_back hC0 hi hcs hI hP hD hS hl kk)
  exact xtabD (cs := [0, 1, 2, 3, 4, 5, 6, 7, 8, 9, 10, 11, 12, 13, 14, 15, 16, 17, 18, 19, 20, 21, 22, 23, 24, 25, 26, 27, 28, 29, 30, 31, 32, 33, 34, 35, 36, 37, 38, 39, 40, 41, 42, 43, 44, 45, 46]) (tgt := 1520) hx hb (List.forall_mem_cons.mpr ⟨q0, List.forall_mem_cons.mpr ⟨q1, List.forall_mem_cons.mpr ⟨q2, List.forall_mem_cons.mpr ⟨q3, List.forall_mem_cons.mpr ⟨q4, List.forall_mem_cons.mpr ⟨q5, List.forall_mem_cons.mpr ⟨q6, List.forall_mem_cons.mpr ⟨q7, List.forall_mem_cons.mpr ⟨q8, List.forall_mem_cons.mpr ⟨q9, List.forall_mem_cons.mpr ⟨q10, List.forall_mem_cons.mpr ⟨q11, List.forall_mem_cons.mpr ⟨q12, List.forall_mem_cons.mpr ⟨q13, List.forall_mem_cons.mpr ⟨q14, List.forall_mem_cons.mpr ⟨q15, List.forall_mem_cons.mpr ⟨q16, List.forall_mem_cons.mpr ⟨q17, List.forall_mem_cons.mpr ⟨q18, List.forall_mem_cons.mpr ⟨q19, List.forall_mem_cons.mpr ⟨q20, List.forall_mem_cons.mpr ⟨q21, List.forall_mem_cons.mpr ⟨q22, List.forall_mem_cons.mpr ⟨q23, List.forall_mem_cons.mpr ⟨q24, List.forall_mem_cons.mpr ⟨q25, List.forall_mem_cons.mpr ⟨q26, List.forall_mem_cons.mpr ⟨q27, List.forall_mem_cons.mpr ⟨q28, List.forall_mem_cons.mpr ⟨q29, List.forall_mem_cons.mpr ⟨q30, List.forall_mem_cons.mpr ⟨q31, List.forall_mem_cons.mpr ⟨q32, List.forall_mem_cons.mpr ⟨q33, List.forall_mem_cons.mpr ⟨q34, List.forall_mem_cons.mpr ⟨q35, List.forall_mem_cons.mpr ⟨q36, List.forall_mem_cons.mpr ⟨q37, List.forall_mem_cons.mpr ⟨q38, List.forall_mem_cons.mpr ⟨q39, List.forall_mem_cons.mpr ⟨q40, List.forall_mem_cons.mpr ⟨q41, List.forall_mem_cons.mpr ⟨q42, List.forall_mem_cons.mpr ⟨q43, List.forall_mem_cons.mpr ⟨q44, List.forall_mem_cons.mpr ⟨q45, List.forall_mem_cons.mpr ⟨q46, fun _ h => absurd h List.not_mem_nil⟩⟩⟩⟩⟩⟩⟩⟩⟩⟩⟩⟩⟩⟩⟩⟩⟩⟩⟩⟩⟩⟩⟩⟩⟩⟩⟩⟩⟩⟩⟩⟩⟩⟩⟩⟩⟩⟩⟩⟩⟩⟩⟩⟩⟩⟩⟩) (by decide +kernel) dw_33 (by decide) (kk a U I J H locs ls hI hP hD hS hl)
theorem le_tab : ∀ k, k < 6 → (iN k - 6 : Int32).toInt < 0 := by decide +kernel
theorem i_room {i L : Nat} (hL : L ≤ 3072) (hi : i ≤ L) (h : ¬ (Int32.ofNat L - 6 < iN i)) : i + 6 ≤ L := by
  by_cases q : L < 6
  · exfalso
    refine h (Int32.lt_iff_toInt_lt.mpr ?_)
    have h1 : (iN L - 6 : Int32).toInt < 0 := le_tab L q
    rw [iN_int (show i < 2147483648 by omega)]
    exact Int.lt_of_lt_of_le h1 (Int.natCast_nonneg i)
  · have e : (Int32.ofNat L - 6 : Int32) = iN (L - 6) := iN_sub (a := L) (b := 6) (by omega)
    rw [e, iN_lt (by omega) (by omega)] at h
    omega
end LWL
