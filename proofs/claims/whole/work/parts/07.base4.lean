theorem stAC : Cond.static arraycopyName ∈ gw := gw_t (tb3 83 rfl) rfl
theorem naJ10 : Cond.native arraycopyName ∈ gw := gw_t (tb3 84 rfl) rfl
theorem mlC0_36 : Cond.methodLink RX0 36 arraycopyName ∈ gw := gw_t (tb6 171 rfl) rfl
theorem mlC3_66 : Cond.methodLink RX3 66 arraycopyName ∈ gw := gw_t (tb6 166 rfl) rfl
theorem mlC5_37 : Cond.methodLink RX5 37 arraycopyName ∈ gw := gw_t (tb6 141 rfl) rfl
theorem mlC9_52 : Cond.methodLink RX9 52 arraycopyName ∈ gw := gw_t (tb3 82 rfl) rfl
theorem nz0 : narrow .boolean (.int 0) = .int 0 := rfl
theorem nz1 : narrow .boolean (.int 1) = .int 1 := rfl
theorem nzi {x : Int32} : narrow .int (.int x) = .int x := rfl
theorem iter_succ {F : Type} (g : F → F) (b : F) (n : Nat) : iter g b (n + 1) = g (iter g b n) := rfl
section B4
variable {p : Program} {l : Launch} {e : Env} {R : Room} {s : State} {m : MethodId} {args : Array Value} {below : List Frame} {meth : Method} {c : Code} {H : Heap} {locs : List Loc} {Q : State → Prop} {ce sl : Nat}
variable {cc : ByteArray} {pc a a0 nL index n0 n1 : Nat} {ls : Array Slot} {rest : List Value} {E : xE} {A : Nat → Prop} {ws : va_W} {own : String}
theorem xmax (hx : p.tables.exec = Jvm.exec) (hb : c.code = cc) (hml : c.maxLocals = nL) (hl : ls.size = nL) (hown : s.vm.findClass own = some m.cls) (htg : ∀ w ∈ gw, w.before args s = true) (w : Cond.methodLink own index yJ9_max_7cf53 ∈ gw) {x y : Int32} (hf : 1 ≤ R.frames) (hR : (rest.map fun v => v.category).sum + 13 ≤ R.locals) (hdg : decode cc pc = .ok (.invokestatic index, 3)) (kk : W p l e R s m args below meth c H locs ce sl Q (F0 m (pc + 3) ls (.int (if x < y then y else x) :: rest))) (hcs : ce ≤ R.cells ∧ sl ≤ R.slots := by exact ⟨Nat.zero_le _, Nat.zero_le _⟩) : W p l e R s m args below meth c H locs ce sl Q (F0 m pc ls (.int y :: .int x :: rest)) :=
  va_mmax hx hb (hml.trans hl.symm) hown (htg _ w) (htg _ stJ9_max_7cf53) (htg _ inJ9) (htg _ cwJ9_max_7cf53) hf hR hcs.1 hcs.2 hdg kk
theorem xmin (hx : p.tables.exec = Jvm.exec) (hb : c.code = cc) (hml : c.maxLocals = nL) (hl : ls.size = nL) (hown : s.vm.findClass own = some m.cls) (htg : ∀ w ∈ gw, w.before args s = true) (w : Cond.methodLink own index yJ9_min_7cf53 ∈ gw) {x y : Int32} (hf : 1 ≤ R.frames) (hR : (rest.map fun v => v.category).sum + 13 ≤ R.locals) (hdg : decode cc pc = .ok (.invokestatic index, 3)) (kk : W p l e R s m args below meth c H locs ce sl Q (F0 m (pc + 3) ls (.int (if y < x then y else x) :: rest))) (hcs : ce ≤ R.cells ∧ sl ≤ R.slots := by exact ⟨Nat.zero_le _, Nat.zero_le _⟩) : W p l e R s m args below meth c H locs ce sl Q (F0 m pc ls (.int y :: .int x :: rest)) :=
  va_mmin hx hb (hml.trans hl.symm) hown (htg _ w) (htg _ stJ9_min_7cf53) (htg _ inJ9) (htg _ cwJ9_min_7cf53) hf hR hcs.1 hcs.2 hdg kk
theorem xabs (hx : p.tables.exec = Jvm.exec) (hb : c.code = cc) (hml : c.maxLocals = nL) (hl : ls.size = nL) (hown : s.vm.findClass own = some m.cls) (htg : ∀ w ∈ gw, w.before args s = true) (w : Cond.methodLink own index yJ9_abs_0f7a4 ∈ gw) {x : Int32} (hf : 1 ≤ R.frames) (hR : (rest.map fun v => v.category).sum + 13 ≤ R.locals) (hdg : decode cc pc = .ok (.invokestatic index, 3)) (kk : W p l e R s m args below meth c H locs ce sl Q (F0 m (pc + 3) ls (.int (if 0 ≤ x then x else 0 - x) :: rest))) (hcs : ce ≤ R.cells ∧ sl ≤ R.slots := by exact ⟨Nat.zero_le _, Nat.zero_le _⟩) : W p l e R s m args below meth c H locs ce sl Q (F0 m pc ls (.int x :: rest)) :=
  va_mabs hx hb (hml.trans hl.symm) hown (htg _ w) (htg _ stJ9_abs_0f7a4) (htg _ inJ9) (htg _ cwJ9_abs_0f7a4) hf hR hcs.1 hcs.2 hdg kk
theorem xlabs (hx : p.tables.exec = Jvm.exec) (hb : c.code = cc) (hml : c.maxLocals = nL) (hl : ls.size = nL) (hown : s.vm.findClass own = some m.cls) (htg : ∀ w ∈ gw, w.before args s = true) (w : Cond.methodLink own index yJ9_abs_067f4 ∈ gw) {x : Int64} (hf : 1 ≤ R.frames) (hR : (rest.map fun v => v.category).sum + 13 ≤ R.locals) (hdg : decode cc pc = .ok (.invokestatic index, 3)) (kk : W p l e R s m args below meth c H locs ce sl Q (F0 m (pc + 3) ls (.long (if 0 < x then x else -x) :: rest))) (hcs : ce ≤ R.cells ∧ sl ≤ R.slots := by exact ⟨Nat.zero_le _, Nat.zero_le _⟩) : W p l e R s m args below meth c H locs ce sl Q (F0 m pc ls (.long x :: rest)) :=
  va_mabs_long hx hb (hml.trans hl.symm) hown (htg _ w) (htg _ stJ9_abs_067f4) (htg _ inJ9) (htg _ cwJ9_abs_067f4) hf hR hcs.1 hcs.2 hdg kk
theorem xcopyi (hx : p.tables.exec = Jvm.exec) (hb : c.code = cc) (hml : c.maxLocals = nL) (hl : ls.size = nL) (hown : s.vm.findClass own = some m.cls) (w : Cond.methodLink own index arraycopyName ∈ gw) (htg : ∀ w ∈ gw, w.before args s = true) (hK : va_K E.1 vwCl (xTY E) s) (hP : va_P E.1 vwCl ws H) (hD : va_D A ws) (hS : va_S A s.heap H locs) (q0 q1 : Nat) {f g : Nat → Int32} (h0 : ws[q0]? = some (a0, ai E n0 f)) (h1 : ws[q1]? = some (a, ai E n1 g)) {sp dp n : Int32} (ho : cpo sp dp n n0 n1 = true) (hf : 1 ≤ R.frames) (hR : (rest.map fun v => v.category).sum + (nativeFrameWords "java/lang/System" "arraycopy" 5 + 11) ≤ R.locals) (hdg : decode cc pc = .ok (.invokestatic index, 3))
    (kk : ∀ (H1 : Heap) (locs1 : List Loc), va_P E.1 vwCl (ws.set q1 (a, ai E n1 (va_cpy f g sp.toNatClampNeg dp.toNatClampNeg n.toNatClampNeg))) H1 → va_D A (ws.set q1 (a, ai E n1 (va_cpy f g sp.toNatClampNeg dp.toNatClampNeg n.toNatClampNeg))) → va_S A s.heap H1 locs1 → W p l e R s m args below meth c H1 locs1 ce sl Q (F0 m (pc + 3) ls rest)) : W p l e R s m args below meth c H locs ce sl Q (F0 m pc ls (.int n :: .int dp :: .ref a :: .int sp :: .ref a0 :: rest)) :=
  va_copyi hx hb (hml.trans hl.symm) hown (htg _ w) (htg _ naJ10) (htg _ stAC) (htg _ inJ10) hK hP hD hS q0 q1 1 1 h0 h1 rfl rfl rfl (cpo_s ho).1.1 (cpo_s ho).1.2.1 (cpo_s ho).1.2.2 (cpo_s ho).2.1 (cpo_s ho).2.2 (fun _ _ => rfl) hf hR hdg kk
theorem xcopyl (hx : p.tables.exec = Jvm.exec) (hb : c.code = cc) (hml : c.maxLocals = nL) (hl : ls.size = nL) (hown : s.vm.findClass own = some m.cls) (w : Cond.methodLink own index arraycopyName ∈ gw) (htg : ∀ w ∈ gw, w.before args s = true) (hK : va_K E.1 vwCl (xTY E) s) (hP : va_P E.1 vwCl ws H) (hD : va_D A ws) (hS : va_S A s.heap H locs) (q0 q1 : Nat) {f g : Nat → Int64} (h0 : ws[q0]? = some (a0, al E n0 f)) (h1 : ws[q1]? = some (a, al E n1 g)) {sp dp n : Int32} (ho : cpo sp dp n n0 n1 = true) (hf : 1 ≤ R.frames) (hR : (rest.map fun v => v.category).sum + (nativeFrameWords "java/lang/System" "arraycopy" 5 + 11) ≤ R.locals) (hdg : decode cc pc = .ok (.invokestatic index, 3))
    (kk : ∀ (H1 : Heap) (locs1 : List Loc), va_P E.1 vwCl (ws.set q1 (a, al E n1 (va_cpy f g sp.toNatClampNeg dp.toNatClampNeg n.toNatClampNeg))) H1 → va_D A (ws.set q1 (a, al E n1 (va_cpy f g sp.toNatClampNeg dp.toNatClampNeg n.toNatClampNeg))) → va_S A s.heap H1 locs1 → W p l e R s m args below meth c H1 locs1 ce sl Q (F0 m (pc + 3) ls rest)) : W p l e R s m args below meth c H locs ce sl Q (F0 m pc ls (.int n :: .int dp :: .ref a :: .int sp :: .ref a0 :: rest)) :=
  va_copyl hx hb (hml.trans hl.symm) hown (htg _ w) (htg _ naJ10) (htg _ stAC) (htg _ inJ10) hK hP hD hS q0 q1 2 2 h0 h1 rfl rfl rfl (cpo_s ho).1.1 (cpo_s ho).1.2.1 (cpo_s ho).1.2.2 (cpo_s ho).2.1 (cpo_s ho).2.2 (fun _ _ => rfl) hf hR hdg kk
theorem xjld {f : List Nat} {v k n : Nat} (hx : p.tables.exec = Jvm.exec) (hb : c.code = cc) (hK : va_K E.1 vwCl (xTY E) s) (hP : va_P E.1 vwCl ws H) (q0 : Nat) (ha : ws[q0]? = some (a, aj E n (en f))) {i : Int32} (hi : gd i n = true) (hk : i.toNatClampNeg = k) (hv : f[k]? = some v) (hdg : decode cc pc = .ok (.aaload, 1)) (kk : W p l e R s m args below meth c H locs ce sl Q (F0 m (pc + 1) ls (.ref v :: rest))) : W p l e R s m args below meth c H locs ce sl Q (F0 m pc ls (.int i :: .ref a :: rest)) := by
  have hin := gd_in hi
  have hlt : i.toNatClampNeg < n := Nat.not_le.mp fun q => hin (Or.inr q)
  have hv2 : va_rf (en f i.toNatClampNeg) = .ref v := by rw [hk, show en f k = some v from hv]; rfl
  exact W.aald (v := .ref v) (ty := .array .long) hx hb (hP q0 _ ha) ((hK.2 4 _ rfl).1 n (fun j => va_rf (en f j))) rfl (fun q => by cases q) (by show ¬ (i < 0 ∨ (arrV _ _ _).slots.size ≤ _); rw [arrV_size]; exact hin) (by show (arrV _ _ _).slots[_]? = _; rw [arrV_read _ _ hlt, hv2]) rfl rfl hdg kk
end B4
def xsel : va_W → List (Option Nat) → va_W → va_W
  | w :: ws, o :: sel, c => (match o with | none => w | some j => c.getD j w) :: xsel ws sel c
  | ws, _, _ => ws
def xchk (is : List Nat) : Nat → List (Option Nat) → Bool
  | k, [] => is.all (fun i => decide (i < k))
  | k, none :: sel => decide (k ∉ is) && xchk is (k + 1) sel
  | k, some j :: sel => decide (is[j]? = some k) && xchk is (k + 1) sel
theorem xsel_get (is : List Nat) (c : va_W) (hl : is.length = c.length) : ∀ (ws : va_W) (sel : List (Option Nat)) (k0 k : Nat) (x : Nat × va_E), xchk is k0 sel = true → (xsel ws sel c)[k]? = some x → (∃ j : Nat, is[j]? = some (k0 + k) ∧ c[j]? = some x) ∨ (k0 + k ∉ is ∧ ws[k]? = some x)
  | [], [], k0, k, x, h, hx => by cases hx
  | [], _ :: _, k0, k, x, h, hx => by cases hx
  | w :: ws, [], k0, k, x, h, hx => by
    refine Or.inr ⟨fun hm => ?_, hx⟩
    have h1 := List.all_eq_true.mp h _ hm
    rw [decide_eq_true_eq] at h1
    omega
  | w :: ws, o :: sel, k0, 0, x, h, hx => by
    cases o with
    | none =>
      unfold xchk at h
      rw [Bool.and_eq_true, decide_eq_true_eq] at h
      exact Or.inr ⟨h.1, hx⟩
    | some j =>
      unfold xchk at h
      rw [Bool.and_eq_true, decide_eq_true_eq] at h
      have hj : j < c.length := by rw [← hl]; exact (List.getElem?_eq_some_iff.mp h.1).1
      refine Or.inl ⟨j, h.1, ?_⟩
      have hx2 : some (c.getD j w) = some x := hx
      rw [← hx2, List.getD_eq_getElem?_getD, List.getElem?_eq_getElem hj]
      rfl
  | w :: ws, o :: sel, k0, k + 1, x, h, hx => by
    have h2 : xchk is (k0 + 1) sel = true := by
      cases o with
      | none => unfold xchk at h; rw [Bool.and_eq_true] at h; exact h.2
      | some j => unfold xchk at h; rw [Bool.and_eq_true] at h; exact h.2
    have e : k0 + (k + 1) = k0 + 1 + k := by omega
    rw [e]
    exact xsel_get is c hl ws sel (k0 + 1) k x h2 hx
theorem xsel_ok {A : Nat → Prop} {D : va_G} {cl : List vw_C} {ws wc wc' : va_W} {H H1 : Heap} {is : List Nat} {sel : List (Option Nat)} (hP : va_P D cl ws H) (hD : va_D A ws) (his : is.map (fun i => ws[i]?) = wc.map some) (hln : wc'.map Prod.fst = wc.map Prod.fst) (hc : xchk is 0 sel = true)
    (hk : ∀ q : Nat, q < H.size → ¬ va_A wc H.size q → H1[q]? = H[q]?) (hP1 : va_P D cl wc' H1) : va_P D cl (xsel ws sel wc') H1 ∧ va_D A (xsel ws sel wc') := by
  have hlen := xput_len his hln
  have get : ∀ (k : Nat) (x : Nat × va_E), (xsel ws sel wc')[k]? = some x → (∃ j : Nat, is[j]? = some k ∧ wc'[j]? = some x) ∨ (k ∉ is ∧ ws[k]? = some x) := by
    intro k x hx
    have := xsel_get is wc' hlen ws sel 0 k x hc hx
    rw [Nat.zero_add] at this
    exact this
  have adr : ∀ (j : Nat) (x y : Nat × va_E), wc'[j]? = some x → wc[j]? = some y → x.1 = y.1 := by
    intro j x y h1 h2
    have h3 := congrArg (fun l => l[j]?) hln
    simp only [List.getElem?_map, h1, h2, Option.map_some] at h3
    exact Option.some.inj h3
  have key : ∀ (k : Nat) (x : Nat × va_E), (xsel ws sel wc')[k]? = some x → ∃ x0, ws[k]? = some x0 ∧ x0.1 = x.1 := by
    intro k x hx
    rcases get k x hx with ⟨j, h1, h2⟩ | ⟨-, h2⟩
    · obtain ⟨y, h3, h4⟩ := xput_at his h1
      exact ⟨y, h4, (adr j x y h2 h3).symm⟩
    · exact ⟨x, h2, rfl⟩
  refine ⟨fun k x hx => ?_, fun i j x y hi hj hxy => ?_, fun k x hx => ?_⟩
  · rcases get k x hx with ⟨j, h1, h2⟩ | ⟨h1, h2⟩
    · exact hP1 j x h2
    · have hl := (hP k x h2).lt
      refine (hP k x h2).kept (hk x.1 hl (fun h => ?_))
      rcases h with ⟨j, e, h3⟩ | h
      · have h4 : ∃ i0, is[j]? = some i0 := by
          cases hi : is[j]? with
          | some i0 => exact ⟨i0, rfl⟩
          | none =>
            have h5 := congrArg (fun l => l[j]?) his
            simp only [List.getElem?_map, hi, h3, Option.map_none, Option.map_some] at h5
            cases h5
        obtain ⟨i0, h4⟩ := h4
        obtain ⟨y, h5, h6⟩ := xput_at his h4
        rw [h3] at h5
        cases h5
        have e0 := hD.1 k i0 x (x.1, e) h2 h6 rfl
        subst e0
        exact h1 (List.mem_of_getElem? h4)
      · omega
  · obtain ⟨x0, h1, h2⟩ := key i x hi
    obtain ⟨y0, h3, h4⟩ := key j y hj
    exact hD.1 i j x0 y0 h1 h3 (by rw [h2, h4]; exact hxy)
  · obtain ⟨x0, h1, h2⟩ := key k x hx
    rw [← h2]
    exact hD.2 k x0 h1
section CALLS2
variable {p : Program} {l : Launch} {e : Env} {R : Room} {s : State} {m : MethodId} {args : Array Value} {below : List Frame} {meth : Method} {c : Code} {H : Heap} {locs : List Loc} {Q : State → Prop} {ce sl : Nat}
variable {cc : ByteArray} {pc nL : Nat} {ls : Array Slot} {E : xE} {A : Nat → Prop} {ws wc wc' ws2 : va_W}
variable {own C host : String} {index maxL n : Nat} {y : MethodName} {bytes : ByteArray} {rm : Room} {b : Nat} {As rest st0 : List Value}
theorem xcall2_i {r : Int32} {a : Array Value} {is : List Nat} {sel : List (Option Nat)} (hr : va_Run p l e R s m args below meth c H locs ce sl 0 0 (F0 m pc ls st0) rest (xQi E r wc wc' H.size a) (va_A wc H.size)) (hP : va_P E.1 vwCl ws H) (hD : va_D A ws) (hS : va_S A s.heap H locs) (hA : ∀ q : Nat, s.heap.size ≤ q → A q) (his : is.map (fun i => ws[i]?) = wc.map some) (hln : wc'.map Prod.fst = wc.map Prod.fst) (hc : xchk is 0 sel = true) (h2 : xsel ws sel wc' = ws2)
    (kk : ∀ (H1 : Heap) (locs1 : List Loc), va_P E.1 vwCl ws2 H1 → va_D A ws2 → va_S A s.heap H1 locs1 → W p l e R s m args below meth c H1 locs1 ce sl Q (F0 m (pc + 3) ls (.int r :: rest))) : W p l e R s m args below meth c H locs ce sl Q (F0 m pc ls st0) := by
  subst h2
  have hF := va_free hD hS hA is his
  refine va_calli hr hS (fun q _ h => hF q h) hF (fun r' u t H1 locs1 ht hvm hw hB hz1 hk1 hS1 => ?_)
  subst hw
  replace hB : va_P E.1 vwCl wc' t.heap := hB
  rw [ht] at hB
  obtain ⟨g1, g2⟩ := xsel_ok hP hD his hln hc hk1 hB
  exact kk H1 locs1 g1 g2 hS1
theorem xcall2_l {r : Int64} {a : Array Value} {is : List Nat} {sel : List (Option Nat)} (hr : va_Run p l e R s m args below meth c H locs ce sl 0 0 (F0 m pc ls st0) rest (xQl E r wc wc' H.size a) (va_A wc H.size)) (hP : va_P E.1 vwCl ws H) (hD : va_D A ws) (hS : va_S A s.heap H locs) (hA : ∀ q : Nat, s.heap.size ≤ q → A q) (his : is.map (fun i => ws[i]?) = wc.map some) (hln : wc'.map Prod.fst = wc.map Prod.fst) (hc : xchk is 0 sel = true) (h2 : xsel ws sel wc' = ws2)
    (kk : ∀ (H1 : Heap) (locs1 : List Loc), va_P E.1 vwCl ws2 H1 → va_D A ws2 → va_S A s.heap H1 locs1 → W p l e R s m args below meth c H1 locs1 ce sl Q (F0 m (pc + 3) ls (.long r :: rest))) : W p l e R s m args below meth c H locs ce sl Q (F0 m pc ls st0) := by
  subst h2
  have hF := va_free hD hS hA is his
  refine va_calll hr hS (fun q _ h => hF q h) hF (fun r' u t H1 locs1 ht hvm hw hB hz1 hk1 hS1 => ?_)
  subst hw
  replace hB : va_P E.1 vwCl wc' t.heap := hB
  rw [ht] at hB
  obtain ⟨g1, g2⟩ := xsel_ok hP hD his hln hc hk1 hB
  exact kk H1 locs1 g1 g2 hS1
theorem xcall2_v {a : Array Value} {is : List Nat} {sel : List (Option Nat)} (hr : va_Run p l e R s m args below meth c H locs ce sl 0 0 (F0 m pc ls st0) rest (xQv E wc wc' H.size a) (va_A wc H.size)) (hP : va_P E.1 vwCl ws H) (hD : va_D A ws) (hS : va_S A s.heap H locs) (hA : ∀ q : Nat, s.heap.size ≤ q → A q) (his : is.map (fun i => ws[i]?) = wc.map some) (hln : wc'.map Prod.fst = wc.map Prod.fst) (hc : xchk is 0 sel = true) (h2 : xsel ws sel wc' = ws2)
    (kk : ∀ (H1 : Heap) (locs1 : List Loc), va_P E.1 vwCl ws2 H1 → va_D A ws2 → va_S A s.heap H1 locs1 → W p l e R s m args below meth c H1 locs1 ce sl Q (F0 m (pc + 3) ls rest)) : W p l e R s m args below meth c H locs ce sl Q (F0 m pc ls st0) := by
  subst h2
  have hF := va_free hD hS hA is his
  refine va_callv hr hS (fun q _ h => hF q h) hF (fun u t H1 locs1 ht hvm hw hB hz1 hk1 hS1 => ?_)
  replace hB : va_P E.1 vwCl wc' t.heap := hB
  rw [ht] at hB
  obtain ⟨g1, g2⟩ := xsel_ok hP hD his hln hc hk1 hB
  exact kk H1 locs1 g1 g2 hS1
theorem xV_iu {r : Int32} {ty : FieldType} (hx : p.tables.exec = Jvm.exec) (hb : c.code = cc) (hml : c.maxLocals = nL) (hown : s.vm.findClass own = some m.cls) (htg : ∀ w ∈ gw, w.before args s = true) (L : xLV own index C y bytes maxL (some ty) n)
    (hM : Met l y (Cond.code y bytes maxL (some ty) :: gw) rm (xPc E (.ref b :: As) wc H.size) (xQi E r wc wc' H.size) 0 0 (va_A wc H.size)) (hR : (rm.cells = 0 ∧ rm.slots = 0) ∧ rm.frames + 1 ≤ R.frames ∧ 8 + (maxL + 11) + rm.locals ≤ R.locals)
    (hK : va_K E.1 vwCl (xTY E) s) (hG : xG E A s s.heap) (hA : ∀ q : Nat, s.heap.size ≤ q → A q) (hP : va_P E.1 vwCl ws H) (hD : va_D A ws) (hS : va_S A s.heap H locs) {is : List Nat} {sel : List (Option Nat)} (his : is.map (fun i => ws[i]?) = wc.map some) (hnd : va_nd is = true) (hln : wc'.map Prod.fst = wc.map Prod.fst) (hc : xchk is 0 sel = true) (h2 : xsel ws sel wc' = ws2) (hrec : ∃ cell : Cell, H[b]? = some cell ∧ cell.vm.isStatics = false ∧ s.vm.findClass C = some cell.cls) (hn : As.length = n) (hl : ls.size = nL) (hst : st0 = As.reverse ++ .ref b :: rest) (hro : (rest.map fun v => v.category).sum ≤ 8) (hdg : decode cc pc = .ok (.invokevirtual index, 3))
    (kk : ∀ (H1 : Heap) (locs1 : List Loc), va_P E.1 vwCl ws2 H1 → va_D A ws2 → va_S A s.heap H1 locs1 → W p l e R s m args below meth c H1 locs1 ce sl Q (F0 m (pc + 3) ls (.int r :: rest))) (hcs : ce ≤ R.cells ∧ sl ≤ R.slots := by exact ⟨Nat.zero_le _, Nat.zero_le _⟩) : W p l e R s m args below meth c H locs ce sl Q (F0 m pc ls st0) :=
  xcall2_i (xrunV hx hb hml hown htg L hM hR hK hG hA hP hD hS his hnd hrec hn hl hst hro hcs hdg) hP hD hS hA his hln hc h2 kk
theorem xV_lu {r : Int64} (hx : p.tables.exec = Jvm.exec) (hb : c.code = cc) (hml : c.maxLocals = nL) (hown : s.vm.findClass own = some m.cls) (htg : ∀ w ∈ gw, w.before args s = true) (L : xLV own index C y bytes maxL (some .long) n)
    (hM : Met l y (Cond.code y bytes maxL (some .long) :: gw) rm (xPc E (.ref b :: As) wc H.size) (xQl E r wc wc' H.size) 0 0 (va_A wc H.size)) (hR : (rm.cells = 0 ∧ rm.slots = 0) ∧ rm.frames + 1 ≤ R.frames ∧ 8 + (maxL + 11) + rm.locals ≤ R.locals)
    (hK : va_K E.1 vwCl (xTY E) s) (hG : xG E A s s.heap) (hA : ∀ q : Nat, s.heap.size ≤ q → A q) (hP : va_P E.1 vwCl ws H) (hD : va_D A ws) (hS : va_S A s.heap H locs) {is : List Nat} {sel : List (Option Nat)} (his : is.map (fun i => ws[i]?) = wc.map some) (hnd : va_nd is = true) (hln : wc'.map Prod.fst = wc.map Prod.fst) (hc : xchk is 0 sel = true) (h2 : xsel ws sel wc' = ws2) (hrec : ∃ cell : Cell, H[b]? = some cell ∧ cell.vm.isStatics = false ∧ s.vm.findClass C = some cell.cls) (hn : As.length = n) (hl : ls.size = nL) (hst : st0 = As.reverse ++ .ref b :: rest) (hro : (rest.map fun v => v.category).sum ≤ 8) (hdg : decode cc pc = .ok (.invokevirtual index, 3))
    (kk : ∀ (H1 : Heap) (locs1 : List Loc), va_P E.1 vwCl ws2 H1 → va_D A ws2 → va_S A s.heap H1 locs1 → W p l e R s m args below meth c H1 locs1 ce sl Q (F0 m (pc + 3) ls (.long r :: rest))) (hcs : ce ≤ R.cells ∧ sl ≤ R.slots := by exact ⟨Nat.zero_le _, Nat.zero_le _⟩) : W p l e R s m args below meth c H locs ce sl Q (F0 m pc ls st0) :=
  xcall2_l (xrunV hx hb hml hown htg L hM hR hK hG hA hP hD hS his hnd hrec hn hl hst hro hcs hdg) hP hD hS hA his hln hc h2 kk
theorem xV_vu (hx : p.tables.exec = Jvm.exec) (hb : c.code = cc) (hml : c.maxLocals = nL) (hown : s.vm.findClass own = some m.cls) (htg : ∀ w ∈ gw, w.before args s = true) (L : xLV own index C y bytes maxL none n)
    (hM : Met l y (Cond.code y bytes maxL none :: gw) rm (xPc E (.ref b :: As) wc H.size) (xQv E wc wc' H.size) 0 0 (va_A wc H.size)) (hR : (rm.cells = 0 ∧ rm.slots = 0) ∧ rm.frames + 1 ≤ R.frames ∧ 8 + (maxL + 11) + rm.locals ≤ R.locals)
    (hK : va_K E.1 vwCl (xTY E) s) (hG : xG E A s s.heap) (hA : ∀ q : Nat, s.heap.size ≤ q → A q) (hP : va_P E.1 vwCl ws H) (hD : va_D A ws) (hS : va_S A s.heap H locs) {is : List Nat} {sel : List (Option Nat)} (his : is.map (fun i => ws[i]?) = wc.map some) (hnd : va_nd is = true) (hln : wc'.map Prod.fst = wc.map Prod.fst) (hc : xchk is 0 sel = true) (h2 : xsel ws sel wc' = ws2) (hrec : ∃ cell : Cell, H[b]? = some cell ∧ cell.vm.isStatics = false ∧ s.vm.findClass C = some cell.cls) (hn : As.length = n) (hl : ls.size = nL) (hst : st0 = As.reverse ++ .ref b :: rest) (hro : (rest.map fun v => v.category).sum ≤ 8) (hdg : decode cc pc = .ok (.invokevirtual index, 3))
    (kk : ∀ (H1 : Heap) (locs1 : List Loc), va_P E.1 vwCl ws2 H1 → va_D A ws2 → va_S A s.heap H1 locs1 → W p l e R s m args below meth c H1 locs1 ce sl Q (F0 m (pc + 3) ls rest)) (hcs : ce ≤ R.cells ∧ sl ≤ R.slots := by exact ⟨Nat.zero_le _, Nat.zero_le _⟩) : W p l e R s m args below meth c H locs ce sl Q (F0 m pc ls st0) :=
  xcall2_v (xrunV hx hb hml hown htg L hM hR hK hG hA hP hD hS his hnd hrec hn hl hst hro hcs hdg) hP hD hS hA his hln hc h2 kk
theorem xS_iu {r : Int32} {ty : FieldType} (hx : p.tables.exec = Jvm.exec) (hb : c.code = cc) (hml : c.maxLocals = nL) (hown : s.vm.findClass own = some m.cls) (htg : ∀ w ∈ gw, w.before args s = true) (L : xLS own index y bytes maxL (some ty) n)
    (hM : Met l y (Cond.code y bytes maxL (some ty) :: gw) rm (xPc E As wc H.size) (xQi E r wc wc' H.size) 0 0 (va_A wc H.size)) (hR : (rm.cells = 0 ∧ rm.slots = 0) ∧ rm.frames + 1 ≤ R.frames ∧ 8 + (maxL + 11) + rm.locals ≤ R.locals)
    (hK : va_K E.1 vwCl (xTY E) s) (hG : xG E A s s.heap) (hA : ∀ q : Nat, s.heap.size ≤ q → A q) (hP : va_P E.1 vwCl ws H) (hD : va_D A ws) (hS : va_S A s.heap H locs) {is : List Nat} {sel : List (Option Nat)} (his : is.map (fun i => ws[i]?) = wc.map some) (hnd : va_nd is = true) (hln : wc'.map Prod.fst = wc.map Prod.fst) (hc : xchk is 0 sel = true) (h2 : xsel ws sel wc' = ws2) (hn : As.length = n) (hl : ls.size = nL) (hst : st0 = As.reverse ++ rest) (hro : (rest.map fun v => v.category).sum ≤ 8) (hdg : decode cc pc = .ok (.invokestatic index, 3))
    (kk : ∀ (H1 : Heap) (locs1 : List Loc), va_P E.1 vwCl ws2 H1 → va_D A ws2 → va_S A s.heap H1 locs1 → W p l e R s m args below meth c H1 locs1 ce sl Q (F0 m (pc + 3) ls (.int r :: rest))) (hcs : ce ≤ R.cells ∧ sl ≤ R.slots := by exact ⟨Nat.zero_le _, Nat.zero_le _⟩) : W p l e R s m args below meth c H locs ce sl Q (F0 m pc ls st0) :=
  xcall2_i (xrunS hx hb hml hown htg L hM hR hK hG hA hP hD hS his hnd hn hl hst hro hcs hdg) hP hD hS hA his hln hc h2 kk
theorem xS_lu {r : Int64} (hx : p.tables.exec = Jvm.exec) (hb : c.code = cc) (hml : c.maxLocals = nL) (hown : s.vm.findClass own = some m.cls) (htg : ∀ w ∈ gw, w.before args s = true) (L : xLS own index y bytes maxL (some .long) n)
    (hM : Met l y (Cond.code y bytes maxL (some .long) :: gw) rm (xPc E As wc H.size) (xQl E r wc wc' H.size) 0 0 (va_A wc H.size)) (hR : (rm.cells = 0 ∧ rm.slots = 0) ∧ rm.frames + 1 ≤ R.frames ∧ 8 + (maxL + 11) + rm.locals ≤ R.locals)
    (hK : va_K E.1 vwCl (xTY E) s) (hG : xG E A s s.heap) (hA : ∀ q : Nat, s.heap.size ≤ q → A q) (hP : va_P E.1 vwCl ws H) (hD : va_D A ws) (hS : va_S A s.heap H locs) {is : List Nat} {sel : List (Option Nat)} (his : is.map (fun i => ws[i]?) = wc.map some) (hnd : va_nd is = true) (hln : wc'.map Prod.fst = wc.map Prod.fst) (hc : xchk is 0 sel = true) (h2 : xsel ws sel wc' = ws2) (hn : As.length = n) (hl : ls.size = nL) (hst : st0 = As.reverse ++ rest) (hro : (rest.map fun v => v.category).sum ≤ 8) (hdg : decode cc pc = .ok (.invokestatic index, 3))
    (kk : ∀ (H1 : Heap) (locs1 : List Loc), va_P E.1 vwCl ws2 H1 → va_D A ws2 → va_S A s.heap H1 locs1 → W p l e R s m args below meth c H1 locs1 ce sl Q (F0 m (pc + 3) ls (.long r :: rest))) (hcs : ce ≤ R.cells ∧ sl ≤ R.slots := by exact ⟨Nat.zero_le _, Nat.zero_le _⟩) : W p l e R s m args below meth c H locs ce sl Q (F0 m pc ls st0) :=
  xcall2_l (xrunS hx hb hml hown htg L hM hR hK hG hA hP hD hS his hnd hn hl hst hro hcs hdg) hP hD hS hA his hln hc h2 kk
theorem xS_vu (hx : p.tables.exec = Jvm.exec) (hb : c.code = cc) (hml : c.maxLocals = nL) (hown : s.vm.findClass own = some m.cls) (htg : ∀ w ∈ gw, w.before args s = true) (L : xLS own index y bytes maxL none n)
    (hM : Met l y (Cond.code y bytes maxL none :: gw) rm (xPc E As wc H.size) (xQv E wc wc' H.size) 0 0 (va_A wc H.size)) (hR : (rm.cells = 0 ∧ rm.slots = 0) ∧ rm.frames + 1 ≤ R.frames ∧ 8 + (maxL + 11) + rm.locals ≤ R.locals)
    (hK : va_K E.1 vwCl (xTY E) s) (hG : xG E A s s.heap) (hA : ∀ q : Nat, s.heap.size ≤ q → A q) (hP : va_P E.1 vwCl ws H) (hD : va_D A ws) (hS : va_S A s.heap H locs) {is : List Nat} {sel : List (Option Nat)} (his : is.map (fun i => ws[i]?) = wc.map some) (hnd : va_nd is = true) (hln : wc'.map Prod.fst = wc.map Prod.fst) (hc : xchk is 0 sel = true) (h2 : xsel ws sel wc' = ws2) (hn : As.length = n) (hl : ls.size = nL) (hst : st0 = As.reverse ++ rest) (hro : (rest.map fun v => v.category).sum ≤ 8) (hdg : decode cc pc = .ok (.invokestatic index, 3))
    (kk : ∀ (H1 : Heap) (locs1 : List Loc), va_P E.1 vwCl ws2 H1 → va_D A ws2 → va_S A s.heap H1 locs1 → W p l e R s m args below meth c H1 locs1 ce sl Q (F0 m (pc + 3) ls rest)) (hcs : ce ≤ R.cells ∧ sl ≤ R.slots := by exact ⟨Nat.zero_le _, Nat.zero_le _⟩) : W p l e R s m args below meth c H locs ce sl Q (F0 m pc ls st0) :=
  xcall2_v (xrunS hx hb hml hown htg L hM hR hK hG hA hP hD hS his hnd hn hl hst hro hcs hdg) hP hD hS hA his hln hc h2 kk
theorem xN_iu {r : Int32} {ty : FieldType} (hx : p.tables.exec = Jvm.exec) (hb : c.code = cc) (hml : c.maxLocals = nL) (hown : s.vm.findClass own = some m.cls) (htg : ∀ w ∈ gw, w.before args s = true) (L : xLN own index host y bytes maxL (some ty) n) (k : Nat) (hk : xNest[k]? = some (own, index, y, host))
    (hM : Met l y (Cond.code y bytes maxL (some ty) :: gw) rm (xPc E As wc H.size) (xQi E r wc wc' H.size) 0 0 (va_A wc H.size)) (hR : (rm.cells = 0 ∧ rm.slots = 0) ∧ rm.frames + 1 ≤ R.frames ∧ 8 + (maxL + 11) + rm.locals ≤ R.locals)
    (hK : va_K E.1 vwCl (xTY E) s) (hG : xG E A s s.heap) (hA : ∀ q : Nat, s.heap.size ≤ q → A q) (hP : va_P E.1 vwCl ws H) (hD : va_D A ws) (hS : va_S A s.heap H locs) {is : List Nat} {sel : List (Option Nat)} (his : is.map (fun i => ws[i]?) = wc.map some) (hnd : va_nd is = true) (hln : wc'.map Prod.fst = wc.map Prod.fst) (hc : xchk is 0 sel = true) (h2 : xsel ws sel wc' = ws2) (hn : As.length = n) (hl : ls.size = nL) (hst : st0 = As.reverse ++ rest) (hro : (rest.map fun v => v.category).sum ≤ 8) (hdg : decode cc pc = .ok (.invokestatic index, 3))
    (kk : ∀ (H1 : Heap) (locs1 : List Loc), va_P E.1 vwCl ws2 H1 → va_D A ws2 → va_S A s.heap H1 locs1 → W p l e R s m args below meth c H1 locs1 ce sl Q (F0 m (pc + 3) ls (.int r :: rest))) (hcs : ce ≤ R.cells ∧ sl ≤ R.slots := by exact ⟨Nat.zero_le _, Nat.zero_le _⟩) : W p l e R s m args below meth c H locs ce sl Q (F0 m pc ls st0) :=
  xcall2_i (xrunN hx hb hml hown htg L k hk hM hR hK hG hA hP hD hS his hnd hn hl hst hro hcs hdg) hP hD hS hA his hln hc h2 kk
theorem xN_lu {r : Int64} (hx : p.tables.exec = Jvm.exec) (hb : c.code = cc) (hml : c.maxLocals = nL) (hown : s.vm.findClass own = some m.cls) (htg : ∀ w ∈ gw, w.before args s = true) (L : xLN own index host y bytes maxL (some .long) n) (k : Nat) (hk : xNest[k]? = some (own, index, y, host))
    (hM : Met l y (Cond.code y bytes maxL (some .long) :: gw) rm (xPc E As wc H.size) (xQl E r wc wc' H.size) 0 0 (va_A wc H.size)) (hR : (rm.cells = 0 ∧ rm.slots = 0) ∧ rm.frames + 1 ≤ R.frames ∧ 8 + (maxL + 11) + rm.locals ≤ R.locals)
    (hK : va_K E.1 vwCl (xTY E) s) (hG : xG E A s s.heap) (hA : ∀ q : Nat, s.heap.size ≤ q → A q) (hP : va_P E.1 vwCl ws H) (hD : va_D A ws) (hS : va_S A s.heap H locs) {is : List Nat} {sel : List (Option Nat)} (his : is.map (fun i => ws[i]?) = wc.map some) (hnd : va_nd is = true) (hln : wc'.map Prod.fst = wc.map Prod.fst) (hc : xchk is 0 sel = true) (h2 : xsel ws sel wc' = ws2) (hn : As.length = n) (hl : ls.size = nL) (hst : st0 = As.reverse ++ rest) (hro : (rest.map fun v => v.category).sum ≤ 8) (hdg : decode cc pc = .ok (.invokestatic index, 3))
    (kk : ∀ (H1 : Heap) (locs1 : List Loc), va_P E.1 vwCl ws2 H1 → va_D A ws2 → va_S A s.heap H1 locs1 → W p l e R s m args below meth c H1 locs1 ce sl Q (F0 m (pc + 3) ls (.long r :: rest))) (hcs : ce ≤ R.cells ∧ sl ≤ R.slots := by exact ⟨Nat.zero_le _, Nat.zero_le _⟩) : W p l e R s m args below meth c H locs ce sl Q (F0 m pc ls st0) :=
  xcall2_l (xrunN hx hb hml hown htg L k hk hM hR hK hG hA hP hD hS his hnd hn hl hst hro hcs hdg) hP hD hS hA his hln hc h2 kk
theorem xN_vu (hx : p.tables.exec = Jvm.exec) (hb : c.code = cc) (hml : c.maxLocals = nL) (hown : s.vm.findClass own = some m.cls) (htg : ∀ w ∈ gw, w.before args s = true) (L : xLN own index host y bytes maxL none n) (k : Nat) (hk : xNest[k]? = some (own, index, y, host))
    (hM : Met l y (Cond.code y bytes maxL none :: gw) rm (xPc E As wc H.size) (xQv E wc wc' H.size) 0 0 (va_A wc H.size)) (hR : (rm.cells = 0 ∧ rm.slots = 0) ∧ rm.frames + 1 ≤ R.frames ∧ 8 + (maxL + 11) + rm.locals ≤ R.locals)
    (hK : va_K E.1 vwCl (xTY E) s) (hG : xG E A s s.heap) (hA : ∀ q : Nat, s.heap.size ≤ q → A q) (hP : va_P E.1 vwCl ws H) (hD : va_D A ws) (hS : va_S A s.heap H locs) {is : List Nat} {sel : List (Option Nat)} (his : is.map (fun i => ws[i]?) = wc.map some) (hnd : va_nd is = true) (hln : wc'.map Prod.fst = wc.map Prod.fst) (hc : xchk is 0 sel = true) (h2 : xsel ws sel wc' = ws2) (hn : As.length = n) (hl : ls.size = nL) (hst : st0 = As.reverse ++ rest) (hro : (rest.map fun v => v.category).sum ≤ 8) (hdg : decode cc pc = .ok (.invokestatic index, 3))
    (kk : ∀ (H1 : Heap) (locs1 : List Loc), va_P E.1 vwCl ws2 H1 → va_D A ws2 → va_S A s.heap H1 locs1 → W p l e R s m args below meth c H1 locs1 ce sl Q (F0 m (pc + 3) ls rest)) (hcs : ce ≤ R.cells ∧ sl ≤ R.slots := by exact ⟨Nat.zero_le _, Nat.zero_le _⟩) : W p l e R s m args below meth c H locs ce sl Q (F0 m pc ls st0) :=
  xcall2_v (xrunN hx hb hml hown htg L k hk hM hR hK hG hA hP hD hS his hnd hn hl hst hro hcs hdg) hP hD hS hA his hln hc h2 kk
end CALLS2
