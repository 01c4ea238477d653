theorem is_X11 : Cond.instantiable RX11 19 ∈ gw := gw_t (tb1 24 rfl) rfl
theorem is_X9 : Cond.instantiable RX9 3 ∈ gw := gw_t (tb1 32 rfl) rfl
theorem ac_long : Cond.arrayClass .long ∈ gw := gw_t (tb1 52 rfl) rfl
theorem ac_int : Cond.arrayClass .int ∈ gw := gw_t (tb1 53 rfl) rfl
theorem is_X8 : Cond.instantiable RX8 11 ∈ gw := gw_t (tb1 55 rfl) rfl
theorem ac_byte : Cond.arrayClass .byte ∈ gw := gw_t (tb1 145 rfl) rfl
theorem is_X4 : Cond.instantiable RX4 2 ∈ gw := gw_t (tb1 147 rfl) rfl
theorem is_X10 : Cond.instantiable RX10 7 ∈ gw := gw_t (tb1 160 rfl) rfl
theorem is_X7 : Cond.instantiable RX7 1 ∈ gw := gw_t (tb1 188 rfl) rfl
theorem is_X6 : Cond.instantiable RX6 6 ∈ gw := gw_t (tb1 198 rfl) rfl
theorem is_X1 : Cond.instantiable RX1 2 ∈ gw := gw_t (tb1 223 rfl) rfl
theorem is_X2 : Cond.instantiable RX2 2 ∈ gw := gw_t (tb1 236 rfl) rfl
theorem is_X5 : Cond.instantiable RX5 7 ∈ gw := gw_t (tb2 9 rfl) rfl
theorem is_X3 : Cond.instantiable RX3 15 ∈ gw := gw_t (tb2 42 rfl) rfl
theorem is_X0 : Cond.instantiable RX0 8 ∈ gw := gw_t (tb2 48 rfl) rfl
theorem is_X12 : Cond.instantiable RX12 42 ∈ gw := gw_t (tb6 177 rfl) rfl
theorem clX11_7 : Cond.classLink RX11 7 RX9 ∈ gw := gw_t (tb1 31 rfl) rfl
theorem clX11_16 : Cond.classLink RX11 16 RX8 ∈ gw := gw_t (tb1 54 rfl) rfl
theorem clX11_23 : Cond.classLink RX11 23 RX4 ∈ gw := gw_t (tb1 146 rfl) rfl
theorem clX11_30 : Cond.classLink RX11 30 RX10 ∈ gw := gw_t (tb1 159 rfl) rfl
theorem clX11_37 : Cond.classLink RX11 37 RX7 ∈ gw := gw_t (tb1 187 rfl) rfl
theorem clX11_44 : Cond.classLink RX11 44 RX6 ∈ gw := gw_t (tb1 197 rfl) rfl
theorem clX11_51 : Cond.classLink RX11 51 RX1 ∈ gw := gw_t (tb1 222 rfl) rfl
theorem clX11_58 : Cond.classLink RX11 58 RX2 ∈ gw := gw_t (tb1 235 rfl) rfl
theorem clX11_65 : Cond.classLink RX11 65 RX5 ∈ gw := gw_t (tb2 8 rfl) rfl
theorem clX11_72 : Cond.classLink RX11 72 RX3 ∈ gw := gw_t (tb2 40 rfl) rfl
theorem clX11_86 : Cond.classLink RX11 86 RX0 ∈ gw := gw_t (tb2 172 rfl) rfl
theorem clX3_38 : Cond.classLink RX3 38 RX0 ∈ gw := gw_t (tb2 47 rfl) rfl
theorem clX5_23 : Cond.classLink RX5 23 RX7 ∈ gw := gw_t (tb2 14 rfl) rfl
theorem clX5_30 : Cond.classLink RX5 30 RX6 ∈ gw := gw_t (tb2 16 rfl) rfl
-- classLink SighChart$Trays 11 [[J at tb1 37
theorem clL_7 : Cond.classLink RL 7 RX11 ∈ gw := gw_t (tb1 23 rfl) rfl
theorem clL_10 : Cond.classLink RL 10 RX12 ∈ gw := gw_t (tb6 176 rfl) rfl
theorem cwObj : Cond.code objectInit ⟨#[0xb1]⟩ 1 none ∈ gw := gw_t (tb1 30 rfl) rfl
theorem imObj : Cond.instanceMethod objectInit ∈ gw := gw_t (tb1 29 rfl) rfl
theorem moX11_1 : Cond.methodLink RX11 1 objectInit ∈ gw := gw_t (tb1 28 rfl) rfl
theorem miX11_9 : Cond.methodLink RX11 9 yX9_init ∈ gw := gw_t (tb1 33 rfl) rfl
theorem miX11_18 : Cond.methodLink RX11 18 yX8_init ∈ gw := gw_t (tb1 56 rfl) rfl
theorem moX0_1 : Cond.methodLink RX0 1 objectInit ∈ gw := gw_t (tb2 52 rfl) rfl
theorem moX1_3 : Cond.methodLink RX1 3 objectInit ∈ gw := gw_t (tb1 227 rfl) rfl
theorem moX2_3 : Cond.methodLink RX2 3 objectInit ∈ gw := gw_t (tb2 0 rfl) rfl
theorem moX3_3 : Cond.methodLink RX3 3 objectInit ∈ gw := gw_t (tb2 46 rfl) rfl
theorem moX4_3 : Cond.methodLink RX4 3 objectInit ∈ gw := gw_t (tb1 151 rfl) rfl
theorem moX5_3 : Cond.methodLink RX5 3 objectInit ∈ gw := gw_t (tb2 13 rfl) rfl
theorem moX6_3 : Cond.methodLink RX6 3 objectInit ∈ gw := gw_t (tb1 202 rfl) rfl
theorem moX7_3 : Cond.methodLink RX7 3 objectInit ∈ gw := gw_t (tb1 192 rfl) rfl
theorem moX8_3 : Cond.methodLink RX8 3 objectInit ∈ gw := gw_t (tb1 59 rfl) rfl
theorem moX9_3 : Cond.methodLink RX9 3 objectInit ∈ gw := gw_t (tb1 36 rfl) rfl
theorem moX10_3 : Cond.methodLink RX10 3 objectInit ∈ gw := gw_t (tb1 164 rfl) rfl
theorem miL_9 : Cond.methodLink RL 9 yX11_init ∈ gw := gw_t (tb1 25 rfl) rfl
theorem miL_12 : Cond.methodLink RL 12 yX12_init ∈ gw := gw_t (tb6 178 rfl) rfl
theorem moX12_1 : Cond.methodLink RX12 1 objectInit ∈ gw := gw_t (tb6 181 rfl) rfl
theorem va_D_adr {A : Nat → Prop} {ws ws' : va_W} (h : va_D A ws) (e : ws'.map Prod.fst = ws.map Prod.fst) : va_D A ws' := by
  have key : ∀ (k : Nat) (x : Nat × va_E), ws'[k]? = some x → ∃ y : Nat × va_E, ws[k]? = some y ∧ y.1 = x.1 := by
    intro k x hx
    have h1 := congrArg (fun l => l[k]?) e
    simp only [List.getElem?_map, hx, Option.map_some] at h1
    cases hy : ws[k]? with
    | none => rw [hy] at h1; cases h1
    | some y => rw [hy] at h1; exact ⟨y, rfl, (Option.some.inj h1).symm⟩
  refine ⟨fun i j p q hi hj hpq => ?_, fun k q hk => ?_⟩
  · obtain ⟨y, h1, h2⟩ := key i p hi
    obtain ⟨z, h3, h4⟩ := key j q hj
    exact h.1 i j y z h1 h3 (by rw [h2, h4]; exact hpq)
  · obtain ⟨y, h1, h2⟩ := key k q hk
    rw [← h2]
    exact h.2 k y h1
theorem en3 {a b c : Nat} : va_up (va_up (va_up (fun _ => none) 0 (some a)) 1 (some b)) 2 (some c) = en [a, b, c] := by
  funext j
  unfold va_up en
  match j with
  | 0 => rfl
  | 1 => rfl
  | 2 => rfl
  | j + 3 => rfl
def xQc (E : xE) (w : (Nat → Nat) → va_W) (ws : va_W) (sz : Nat) : Array Value → State → Outcome → State → Prop := va_Qv (S := Nat → Nat) (fun _ => True) (fun q t => va_P E.1 vwCl (w q) t.heap ∧ va_D (va_A ws sz) (w q)) (va_A ws sz)
theorem xM_c {l : Launch} {E : xE} {y : MethodName} {cc : ByteArray} {maxL sz mc ms : Nat} {rm : Room} {av : List Value} {ws : va_W} {w : (Nat → Nat) → va_W} (hy : plainName y.cls = true) (hyi : y.name = "<init>") (hal : (lg_sl av).length ≤ maxL)
    (body : ∀ (p : Program) (e : Env) (s : State) (m : MethodId) (args : Array Value) (below : List Frame) (meth : Method) (c : Code) (A : Nat → Prop) (Q : State → Prop),
      p.tables.exec = Jvm.exec → c.code = cc → c.maxLocals = maxL → s.vm.findClass y.cls = some m.cls → (∀ w ∈ gw, w.before args s = true) → va_K E.1 vwCl (xTY E) s → xG E A s s.heap → (∀ q : Nat, s.heap.size ≤ q → A q) → meth.name = "<init>" →
      (∀ {H : Heap} {locs : List Loc} {pc : Nat} {ls : Array Slot} (q : Nat → Nat), va_P E.1 vwCl (w q) H → va_D A (w q) → va_S A s.heap H locs → decode cc pc = .ok (.return_, 1) → W p l e rm s m args below meth c H locs mc ms Q (F0 m pc ls [])) →
      ∀ (H : Heap) (locs : List Loc) (ls : Array Slot), va_P E.1 vwCl ws H → va_D A ws → va_S A s.heap H locs → lv_has ls maxL (lv_args 0 av) → W p l e rm s m args below meth c H locs 0 0 Q (F0 m 0 ls [])) :
    Met l y (Cond.code y cc maxL none :: gw) rm (xPc E av ws sz) (xQc E w ws sz) mc ms (va_A ws sz) := by
  refine Met.ofW (cc := cc) (maxL := maxL) (ret := none) hy rfl ?_
  intro p e s m args below meth c s₁ B hml hv
  obtain ⟨rfl, hsz, hP, hK, hD0, hG⟩ := hv
  have hx := B.exec
  have hb := B.bytes
  have hr := B.returns
  have hts := atoms_spec (ws := Cond.code y cc maxL none :: gw) B.pre
  have hlocks := B.notSynchronized
  subst hsz
  have hl := lv_entry av (n := maxL) hal
  rw [lg_entry_eq]
  refine body p e s m _ below meth c (va_A ws s.heap.size) _ hx hb hml (findClass_of_methodNamed B.named) (fun w hw => hts w (List.mem_cons_of_mem _ hw)) hK hG (fun q h => Or.inr h) ((name_of_methodNamed B.named B.method).1.trans hyi) ?_ s.heap [] _ hP hD0.self va_S.rf hl
  intro H locs pc ls q hP1 hD1 hS1 hd
  exact W.vret hx hb hr (fun t ht hW => ⟨⟨q, rfl, trivial, by show va_P E.1 vwCl (w q) t.heap; rw [ht]; exact hP1, hD1⟩, hS1.F ht⟩) hS1.2.2 hd hlocks
theorem xTYat {E : xE} {s : State} {cA : ClassId} {ty : FieldType} (h : va_K E.1 vwCl (xTY E ++ [(cA, ty)]) s) : va_RA s cA ty := (h.2 5 _ rfl).2
section CT
variable {p : Program} {l : Launch} {e : Env} {R : Room} {s : State} {m : MethodId} {args : Array Value} {below : List Frame} {meth : Method} {c : Code} {H : Heap} {locs : List Loc} {Q : State → Prop} {ce sl : Nat}
variable {cc : ByteArray} {pc a nL N : Nat} {ls : Array Slot} {rest : List Value} {E : xE} {A : Nat → Prop} {ws : va_W} {own host C : String} {n : Int32}
theorem xnewi (hx : p.tables.exec = Jvm.exec) (hb : c.code = cc) (htg : ∀ w ∈ gw, w.before args s = true) (hK : va_K E.1 vwCl (xTY E) s) (hP : va_P E.1 vwCl ws H) (hD : va_D A ws) (hS : va_S A s.heap H locs) (hA : ∀ q : Nat, s.heap.size ≤ q → A q) (hn : ¬ n < 0) (hN : n.toNatClampNeg = N) (hby : N * 4 ≤ 536870912) (hce : ce + 1 ≤ R.cells) (hsl : sl + N ≤ R.slots) (hdg : decode cc pc = .ok (.newarray .int, 2))
    (kk : ∀ (q : Nat) (H1 : Heap), va_P E.1 vwCl (ws ++ [(q, ai E N (fun _ => 0))]) H1 → va_D A (ws ++ [(q, ai E N (fun _ => 0))]) → va_S A s.heap H1 locs → W p l e R s m args below meth c H1 locs (ce + 1) (sl + N) Q (F0 m (pc + 2) ls (.ref q :: rest))) : W p l e R s m args below meth c H locs ce sl Q (F0 m pc ls (.int n :: rest)) := by
  refine va_newa (atype := .int) hx hb (htg _ ac_int) rfl hK hP hD hS hA (a0 := (N, .inl (fun _ => 0))) (fun cA => rfl) hn hN hby hce hsl hdg (fun q cA H1 hK1 hP1 hD1 hS1 => ?_)
  have e1 : s.vm.findClass ("[" ++ (FieldType.int).toString) = some cA := xTYat hK1
  have e2 : s.vm.findClass ("[" ++ (FieldType.int).toString) = some (E.2.1 1) := (hK.2 1 _ rfl).2
  have e3 : cA = E.2.1 1 := Option.some.inj (e1.symm.trans e2)
  subst e3
  exact kk q H1 hP1 hD1 hS1
theorem xnewb (hx : p.tables.exec = Jvm.exec) (hb : c.code = cc) (htg : ∀ w ∈ gw, w.before args s = true) (hK : va_K E.1 vwCl (xTY E) s) (hP : va_P E.1 vwCl ws H) (hD : va_D A ws) (hS : va_S A s.heap H locs) (hA : ∀ q : Nat, s.heap.size ≤ q → A q) (hn : ¬ n < 0) (hN : n.toNatClampNeg = N) (hby : N * 1 ≤ 536870912) (hce : ce + 1 ≤ R.cells) (hsl : sl + N ≤ R.slots) (hdg : decode cc pc = .ok (.newarray .byte, 2))
    (kk : ∀ (q : Nat) (H1 : Heap), va_P E.1 vwCl (ws ++ [(q, ab E N (fun _ => 0))]) H1 → va_D A (ws ++ [(q, ab E N (fun _ => 0))]) → va_S A s.heap H1 locs → W p l e R s m args below meth c H1 locs (ce + 1) (sl + N) Q (F0 m (pc + 2) ls (.ref q :: rest))) : W p l e R s m args below meth c H locs ce sl Q (F0 m pc ls (.int n :: rest)) := by
  refine va_newa (atype := .byte) hx hb (htg _ ac_byte) rfl hK hP hD hS hA (a0 := (N, .inl (fun _ => 0))) (fun cA => rfl) hn hN hby hce hsl hdg (fun q cA H1 hK1 hP1 hD1 hS1 => ?_)
  have e1 : s.vm.findClass ("[" ++ (FieldType.byte).toString) = some cA := xTYat hK1
  have e2 : s.vm.findClass ("[" ++ (FieldType.byte).toString) = some (E.2.1 0) := (hK.2 0 _ rfl).2
  have e3 : cA = E.2.1 0 := Option.some.inj (e1.symm.trans e2)
  subst e3
  exact kk q H1 hP1 hD1 hS1
theorem xnewl (hx : p.tables.exec = Jvm.exec) (hb : c.code = cc) (htg : ∀ w ∈ gw, w.before args s = true) (hK : va_K E.1 vwCl (xTY E) s) (hP : va_P E.1 vwCl ws H) (hD : va_D A ws) (hS : va_S A s.heap H locs) (hA : ∀ q : Nat, s.heap.size ≤ q → A q) (hn : ¬ n < 0) (hN : n.toNatClampNeg = N) (hby : N * 8 ≤ 536870912) (hce : ce + 1 ≤ R.cells) (hsl : sl + N ≤ R.slots) (hdg : decode cc pc = .ok (.newarray .long, 2))
    (kk : ∀ (q : Nat) (H1 : Heap), va_P E.1 vwCl (ws ++ [(q, al E N (fun _ => 0))]) H1 → va_D A (ws ++ [(q, al E N (fun _ => 0))]) → va_S A s.heap H1 locs → W p l e R s m args below meth c H1 locs (ce + 1) (sl + N) Q (F0 m (pc + 2) ls (.ref q :: rest))) : W p l e R s m args below meth c H locs ce sl Q (F0 m pc ls (.int n :: rest)) := by
  refine va_newa (atype := .long) hx hb (htg _ ac_long) rfl hK hP hD hS hA (a0 := (N, .inr (.inl (fun _ => 0)))) (fun cA => rfl) hn hN hby hce hsl hdg (fun q cA H1 hK1 hP1 hD1 hS1 => ?_)
  have e1 : s.vm.findClass ("[" ++ (FieldType.long).toString) = some cA := xTYat hK1
  have e2 : s.vm.findClass ("[" ++ (FieldType.long).toString) = some (E.2.1 2) := (hK.2 2 _ rfl).2
  have e3 : cA = E.2.1 2 := Option.some.inj (e1.symm.trans e2)
  subst e3
  exact kk q H1 hP1 hD1 hS1
theorem xnewd {index : Nat} (hx : p.tables.exec = Jvm.exec) (hb : c.code = cc) (htg : ∀ w ∈ gw, w.before args s = true) (hown : s.vm.findClass own = some m.cls) (hcl : (Cond.classLink own index "SighChart$Duchy").before args s = true) (hK : va_K E.1 vwCl (xTY E) s) (hG : xG E A s s.heap) (hP : va_P E.1 vwCl ws H) (hD : va_D A ws) (hS : va_S A s.heap H locs) (hA : ∀ q : Nat, s.heap.size ≤ q → A q) (hn : ¬ n < 0) (hN : n.toNatClampNeg = N) (hby : N * 4 ≤ 536870912) (hce : ce + 1 ≤ R.cells) (hsl : sl + N ≤ R.slots) (hdg : decode cc pc = .ok (.anewarray index, 3))
    (kk : ∀ (q : Nat) (H1 : Heap), va_P E.1 vwCl (ws ++ [(q, ad E N (fun _ => none))]) H1 → va_D A (ws ++ [(q, ad E N (fun _ => none))]) → va_S A s.heap H1 locs → W p l e R s m args below meth c H1 locs (ce + 1) (sl + N) Q (F0 m (pc + 3) ls (.ref q :: rest))) : W p l e R s m args below meth c H locs ce sl Q (F0 m pc ls (.int n :: rest)) := by
  refine va_newq hx hb hown hcl hG.2.2.2.2.1 hK hP hD hS hA hn hN hby hce hsl hdg (fun q cA H1 hK1 hP1 hD1 hS1 => ?_)
  obtain ⟨kA, comp, -, -, -, e1⟩ := xTYat hK1
  obtain ⟨kB, comp2, -, -, -, e2⟩ := (hK.2 3 _ rfl).2
  have e3 : cA = E.2.1 3 := Option.some.inj (e1.symm.trans e2)
  subst e3
  exact kk q H1 hP1 hD1 hS1
/-- a constructor's call on an object just made, the last of the cells -/
theorem xnewv {y : MethodName} {bytes : ByteArray} {maxL mc ms index : Nat} {rm : Room} {b : Nat} {w0 : va_E} {w : (Nat → Nat) → va_W} {isR : List Nat} {wr ws : va_W} {k : Nat} {st0 : List Value}
    (hr : va_Run p l e R s m args below meth c H locs ce sl mc ms (F0 m pc ls st0) rest (xQc E w [(b, w0)] H.size #[.ref b]) (va_A [(b, w0)] H.size))
    (hP : va_P E.1 vwCl ws H) (hD : va_D A ws) (hS : va_S A s.heap H locs) (hA : ∀ q : Nat, s.heap.size ≤ q → A q) (hC : [k].map (fun i => ws[i]?) = [(b, w0)].map some) (hR : isR.map (fun i => ws[i]?) = wr.map some) (hnd : va_nd isR = true) (hdis : ∀ i ∈ isR, i ∉ [k])
    (kk : ∀ (q : Nat → Nat) (H1 : Heap) (locs1 : List Loc), va_P E.1 vwCl (wr ++ w q) H1 → va_D A (wr ++ w q) → va_S A s.heap H1 locs1 → W p l e R s m args below meth c H1 locs1 (ce + mc) (sl + ms) Q (F0 m (pc + 3) ls rest)) : W p l e R s m args below meth c H locs ce sl Q (F0 m pc ls st0) := by
  have hF := va_free hD hS hA [k] hC
  refine va_callv hr hS (fun q _ h => hF q h) hF (fun u t H1 locs1 ht hvm hw hB hz1 hk1 hS1 => ?_)
  obtain ⟨hB1, hB2⟩ := hB
  rw [ht] at hB1
  obtain ⟨g1, g2⟩ := va_join hP hD [k] isR hC hR hnd hdis hk1 hF hB1 hB2
  exact kk u H1 locs1 g1 g2 hS1
theorem xrunI {y : MethodName} {bytes : ByteArray} {maxL mc ms index k : Nat} {rm : Room} {b : Nat} {w0 : va_E} {st0 : List Value} {Qc : Array Value → State → Outcome → State → Prop} (hx : p.tables.exec = Jvm.exec) (hb : c.code = cc) (hml : c.maxLocals = nL) (hown : s.vm.findClass own = some m.cls) (htg : ∀ w ∈ gw, w.before args s = true)
    (hM : Met l y (Cond.code y bytes maxL none :: gw) rm (xPc E [.ref b] [(b, w0)] H.size) Qc mc ms (va_A [(b, w0)] H.size)) (h1 : Cond.methodLink own index y ∈ gw) (h2 : Cond.instanceMethod y ∈ gw) (h3 : Cond.initialized y.cls ∈ gw) (h4 : Cond.code y bytes maxL none ∈ gw) (hyi : y.name = "<init>") (hd : y.cls ≠ "java/lang/invoke/MethodHandle" ∧ y.cls ≠ "java/lang/invoke/VarHandle" ∧ (parseMethodDescriptor y.desc).map (fun d => d.parameters.length) = some 0)
    (hR : (rm.cells = mc ∧ rm.slots = ms) ∧ rm.frames + 1 ≤ R.frames ∧ 8 + (maxL + 11) + rm.locals ≤ R.locals) (hf : ce + mc ≤ R.cells ∧ sl + ms ≤ R.slots) (hK : va_K E.1 vwCl (xTY E) s) (hG : xG E A s s.heap) (hA : ∀ q : Nat, s.heap.size ≤ q → A q) (hP : va_P E.1 vwCl ws H) (hD : va_D A ws) (hS : va_S A s.heap H locs) (his : [k].map (fun i => ws[i]?) = [(b, w0)].map some)
    (hl : ls.size = nL) (hst : st0 = .ref b :: rest) (hro : (rest.map fun v => v.category).sum ≤ 8) (hdg : decode cc pc = .ok (.invokespecial index, 3)) :
    va_Run p l e R s m args below meth c H locs ce sl mc ms (F0 m pc ls st0) rest (Qc #[.ref b]) (va_A [(b, w0)] H.size) :=
  va_runI (As := []) ⟨hx, hb, hml, hown, htg⟩ hM (cwI 0 htg (gg_1 h4) rfl hR.1.1 hR.1.2 (htg _ h3) (htg _ h1) (htg _ h2) hyi hd hR.2) ⟨xPc_blind, xpre hK hG hA hP hD hS his rfl⟩ rfl rfl hl hst (lv_room hro) hdg hf
theorem xrunIN {y : MethodName} {bytes : ByteArray} {maxL mc ms index k : Nat} {rm : Room} {b : Nat} {w0 : va_E} {st0 : List Value} {Qc : Array Value → State → Outcome → State → Prop} (hx : p.tables.exec = Jvm.exec) (hb : c.code = cc) (hml : c.maxLocals = nL) (hown : s.vm.findClass own = some m.cls) (htg : ∀ w ∈ gw, w.before args s = true)
    (hM : Met l y (Cond.code y bytes maxL none :: gw) rm (xPc E [.ref b] [(b, w0)] H.size) Qc mc ms (va_A [(b, w0)] H.size)) (nk : Nat) (hk : xNest[nk]? = some (own, index, y, host)) (h2 : Cond.instanceMethod y ∈ gw) (h3 : Cond.initialized y.cls ∈ gw) (h4 : Cond.code y bytes maxL none ∈ gw) (hyi : y.name = "<init>") (hd : y.cls ≠ "java/lang/invoke/MethodHandle" ∧ y.cls ≠ "java/lang/invoke/VarHandle" ∧ (parseMethodDescriptor y.desc).map (fun d => d.parameters.length) = some 0)
    (hR : (rm.cells = mc ∧ rm.slots = ms) ∧ rm.frames + 1 ≤ R.frames ∧ 8 + (maxL + 11) + rm.locals ≤ R.locals) (hf : ce + mc ≤ R.cells ∧ sl + ms ≤ R.slots) (hK : va_K E.1 vwCl (xTY E) s) (hG : xG E A s s.heap) (hA : ∀ q : Nat, s.heap.size ≤ q → A q) (hP : va_P E.1 vwCl ws H) (hD : va_D A ws) (hS : va_S A s.heap H locs) (his : [k].map (fun i => ws[i]?) = [(b, w0)].map some)
    (hl : ls.size = nL) (hst : st0 = .ref b :: rest) (hro : (rest.map fun v => v.category).sum ≤ 8) (hdg : decode cc pc = .ok (.invokespecial index, 3)) :
    va_Run p l e R s m args below meth c H locs ce sl mc ms (F0 m pc ls st0) rest (Qc #[.ref b]) (va_A [(b, w0)] H.size) :=
  va_runIN (host := host) (As := []) ⟨hx, hb, hml, hown, htg⟩ hM ⟨va_cnB 0 htg (gg_1 h4) rfl hR.1.1 hR.1.2 (hG.2.2.2.1 _ (List.mem_of_getElem? hk)) (htg _ h3) hd hR.2, hyi, htg _ h2⟩ ⟨xPc_blind, xpre hK hG hA hP hD hS his rfl⟩ rfl rfl hl hst (lv_room hro) hdg hf
end CT
