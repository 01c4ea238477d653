theorem flJ0_9 : Cond.fieldLink RJ0 9 "java/lang/String" "value" "[B" ∈ gw := gw_t (tb9 197 rfl) rfl
theorem flJ0_15 : Cond.fieldLink RJ0 15 "java/lang/String" "coder" "B" ∈ gw := gw_t (tb9 198 rfl) rfl
theorem flJ0_38 : Cond.fieldLink RJ0 38 "java/lang/String" "COMPACT_STRINGS" "Z" ∈ gw := gw_t (tb1 69 rfl) rfl
theorem flJ0_1053 : Cond.fieldLink RJ0 1053 "jdk/internal/util/Preconditions" "SIOOBE_FORMATTER" "Ljava/util/function/BiFunction;" ∈ gw := gw_t (tb1 85 rfl) rfl
def sby (i : Nat) (j : Nat) : Int32 := (xByt.getD i []).getD j 0
def bc (v : Int32) : Bool := decide ((Int32.toUInt32 v % 65536).toInt32 = v)
theorem bc_n {v : Int32} (h : bc v = true) : narrow .char (.int v) = .int v := by
  have e := of_decide_eq_true h
  have q := pk_nc v
  rw [e] at q
  exact q
theorem nzb0 : narrow .byte (.int 0) = .int 0 := rfl
theorem nzb1 : narrow .byte (.int 1) = .int 1 := rfl
theorem en_set {f : List Nat} {k v : Nat} (h : k < f.length) : va_up (en f) k (some v) = en (f.set k v) := by
  funext j
  unfold va_up en
  by_cases e : j = k
  · subst e; rw [if_pos rfl, List.getElem?_set_self h]
  · rw [if_neg e, List.getElem?_set_ne (fun q => e q.symm)]
section B5
variable {p : Program} {l : Launch} {e : Env} {R : Room} {s : State} {m : MethodId} {args : Array Value} {below : List Frame} {meth : Method} {c : Code} {H : Heap} {locs : List Loc} {Q : State → Prop} {ce sl : Nat}
variable {cc : ByteArray} {pc a : Nat} {ls : Array Slot} {rest : List Value} {E : xE} {A : Nat → Prop} {ws : va_W}
theorem xdst {f : List Nat} {v k n : Nat} {vs : List Value} (hx : p.tables.exec = Jvm.exec) (hb : c.code = cc) (hK : va_K E.1 vwCl (xTY E) s) (hP : va_P E.1 vwCl ws H) (hD : va_D A ws) (hS : va_S A s.heap H locs) (q0 qk : Nat) (ha : ws[q0]? = some (a, ad E n (en f))) (hv : ws[qk]? = some (v, .inr (3, vs))) {i : Int32} (hi : gd i n = true) (hk : i.toNatClampNeg = k) (hl : k < f.length) (hdg : decode cc pc = .ok (.aastore, 1)) (kk : ∀ (H1 : Heap) (locs1 : List Loc), va_P E.1 vwCl (ws.set q0 (a, ad E n (en (f.set k v)))) H1 → va_D A (ws.set q0 (a, ad E n (en (f.set k v)))) → va_S A s.heap H1 locs1 → W p l e R s m args below meth c H1 locs1 ce sl Q (F0 m (pc + 1) ls rest)) : W p l e R s m args below meth c H locs ce sl Q (F0 m pc ls (.ref v :: .int i :: .ref a :: rest)) :=
  va_astq hx hb hK hP hD hS q0 3 qk 3 ha rfl hv rfl (gd_in hi) hdg (by rw [hk, en_set hl]; exact kk)
end B5
