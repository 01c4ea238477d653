/-! What stands of the machine beside the worlds: strings, two statics, nest links. -/
abbrev xE : Type := va_G × (Nat → ClassId) × (Nat → Nat) × (Nat → Nat)
abbrev xTY (E : xE) : List (ClassId × FieldType) := [(E.2.1 0, .byte), (E.2.1 1, .int), (E.2.1 2, .long), (E.2.1 3, .object "SighChart$Duchy"), (E.2.1 4, .array .long)]
def xNest : List (String × Nat × MethodName × String) := [("SighChart", 25, ⟨"SighChart$DuchyReader", "<init>", "()V"⟩, "SighChart"), ("SighChart", 32, ⟨"SighChart$YearsReader", "<init>", "()V"⟩, "SighChart"), ("SighChart", 39, ⟨"SighChart$Survey", "<init>", "()V"⟩, "SighChart"), ("SighChart", 46, ⟨"SighChart$Route", "<init>", "()V"⟩, "SighChart"), ("SighChart", 53, ⟨"SighChart$Belief", "<init>", "()V"⟩, "SighChart"), ("SighChart", 60, ⟨"SighChart$Council", "<init>", "()V"⟩, "SighChart"), ("SighChart", 67, ⟨"SighChart$Life", "<init>", "()V"⟩, "SighChart"), ("SighChart$Life", 25, ⟨"SighChart$Survey", "<init>", "()V"⟩, "SighChart"), ("SighChart$Life", 32, ⟨"SighChart$Route", "<init>", "()V"⟩, "SighChart"), ("SighChart", 78, ⟨"SighChart$Duchy", "<init>", "()V"⟩, "SighChart"), ("SighChart$Duchy", 40, ⟨"SighChart$Almanac", "<init>", "()V"⟩, "SighChart"), ("SighChart", 88, ⟨"SighChart$Almanac", "<init>", "()V"⟩, "SighChart"), ("SighChart$Trays", 29, ⟨"SighChart", "within", "(III)Z"⟩, "SighChart"), ("SighChart$Tape", 74, ⟨"SighChart", "within", "(III)Z"⟩, "SighChart"), ("SighChart$DuchyReader", 93, ⟨"SighChart", "isKind", "(I)Z"⟩, "SighChart"), ("SighChart$Almanac", 52, ⟨"SighChart", "within", "(III)Z"⟩, "SighChart"), ("SighChart$YearsReader", 82, ⟨"SighChart", "within", "(III)Z"⟩, "SighChart"), ("SighChart$Survey", 36, ⟨"SighChart$Duchy", "isIn", "(II)Z"⟩, "SighChart"), ("SighChart$Survey", 40, ⟨"SighChart", "within", "(III)Z"⟩, "SighChart"), ("SighChart$Duchy", 80, ⟨"SighChart", "within", "(III)Z"⟩, "SighChart"), ("SighChart$Belief", 50, ⟨"SighChart", "isKind", "(I)Z"⟩, "SighChart"), ("SighChart$Route", 67, ⟨"SighChart", "within", "(III)Z"⟩, "SighChart"), ("SighChart$Council", 56, ⟨"SighChart$Duchy", "isIn", "(II)Z"⟩, "SighChart"), ("SighChart$Council", 38, ⟨"SighChart", "within", "(III)Z"⟩, "SighChart"), ("SighChart$Life", 47, ⟨"SighChart", "within", "(III)Z"⟩, "SighChart")]
def xTx0 : String := "row odds harbour traveller lies heard told missed calm fear tears sigh hear forget sail any when drawn white known loop end stop "
def xTx1 : String := "srbi"
def xLen : List Nat := [129, 4]
def xByt : List (List Int32) := [[114, 111, 119, 32, 111, 100, 100, 115, 32, 104, 97, 114, 98, 111, 117, 114, 32, 116, 114, 97, 118, 101, 108, 108, 101, 114, 32, 108, 105, 101, 115, 32, 104, 101, 97, 114, 100, 32, 116, 111, 108, 100, 32, 109, 105, 115, 115, 101, 100, 32, 99, 97, 108, 109, 32, 102, 101, 97, 114, 32, 116, 101, 97, 114, 115, 32, 115, 105, 103, 104, 32, 104, 101, 97, 114, 32, 102, 111, 114, 103, 101, 116, 32, 115, 97, 105, 108, 32, 97, 110, 121, 32, 119, 104, 101, 110, 32, 100, 114, 97, 119, 110, 32, 119, 104, 105, 116, 101, 32, 107, 110, 111, 119, 110, 32, 108, 111, 111, 112, 32, 101, 110, 100, 32, 115, 116, 111, 112, 32], [115, 114, 98, 105]]
def va_AOB (U : State) : Prop := (Cond.arrayOver (.array .long)).before #[] U = true
theorem va_AOB.moved {u U : State} (hvm : u.vm.Alike U.vm) (h : va_AOB u) : va_AOB U := by
  have hs : ∃ comp c k, u.vm.findClass (FieldType.array .long).toString = some comp ∧ (u.vm.classes.findIdx? fun (x : Class) => match x.kind with | .array component _ => component == comp | _ => false) = some c ∧ u.vm.classes[c]? = some k ∧ k.kind = .array comp (.array .long) ∧ u.vm.findClass ("[" ++ (FieldType.array .long).toString) = some c := by
    unfold va_AOB Cond.before at h
    simp only [Cond.holds, Cond.value, beq_iff_eq] at h
    cases hc : u.vm.findClass (FieldType.array .long).toString with
    | none => simp [hc] at h
    | some comp =>
      simp only [hc, Option.bind_some, Option.bind_eq_some_iff, Option.map_eq_some_iff] at h
      obtain ⟨c, hi, k, hk, hb⟩ := h
      obtain ⟨hlt, hp, -⟩ := Array.findIdx?_eq_some_iff_getElem.mp hi
      have hkk : u.vm.classes[c] = k := (Array.getElem?_eq_some_iff.mp hk).2
      rw [hkk] at hp
      cases hkind : k.kind with
      | array component ty =>
        rw [hkind] at hb hp
        simp at hb hp
        exact ⟨comp, c, k, rfl, hi, hk, by rw [hkind, hp, hb.1], hb.2⟩
      | _ => rw [hkind] at hb; simp at hb
  obtain ⟨comp, c, k, h1, h2, h3, h4, h5⟩ := hs
  obtain ⟨k', hk', he⟩ := hvm.2.2 _ _ h3
  have hi : (U.vm.classes.findIdx? fun (x : Class) => match x.kind with | .array component _ => component == comp | _ => false) = some c := by
    have e1 := va_idx_bare U.vm comp
    have e2 := va_idx_bare u.vm comp
    have e3 : U.vm.bare = u.vm.bare := by first | exact hvm.bare_eq | exact hvm.bare_eq.symm
    rw [e3] at e1
    exact (e1.symm.trans e2).trans h2
  have hkind : k'.kind = .array comp (.array .long) := by rw [he]; exact h4
  have f1 : U.vm.findClass (FieldType.array .long).toString = some comp := by rw [hvm.findClass]; exact h1
  have f2 : U.vm.findClass ("[" ++ (FieldType.array .long).toString) = some c := by rw [hvm.findClass]; exact h5
  unfold va_AOB Cond.before Cond.holds
  simp only [Cond.value]
  rw [f1, Option.bind_some]
  refine (congrArg (fun o : Option Nat => (o.bind (fun c => (U.vm.classes[c]?).map fun (k : Class) => match k.kind with | .array _ ty => decide (ty = FieldType.array .long) && decide (U.vm.findClass ("[" ++ (FieldType.array .long).toString) = some c) | _ => false) == some true)) hi).trans ?_
  simp [hk', hkind, f2]
def xG (E : xE) (A : Nat → Prop) (U : State) (H : Heap) : Prop :=
  (vk_S 2 xLen xByt E.2.2.1 E.2.2.2 A U H ∧ va_Z "java/lang/String" "COMPACT_STRINGS" "Z" (.int 1) A U H ∧ ∃ v : Option Nat, va_Z "jdk/internal/util/Preconditions" "SIOOBE_FORMATTER" "Ljava/util/function/BiFunction;" (va_rf v) A U H) ∧
  (vk_R "SighChart$Tape" 19 xTx0 (E.2.2.1 0) U ∧ vk_R "SighChart$DuchyReader" 82 xTx1 (E.2.2.1 1) U ∧ (∀ q ∈ xNest, va_Nw (.methodLinkNest q.1 q.2.1 q.2.2.1 q.2.2.2) U) ∧ va_AO "SighChart$Duchy" U ∧ va_AOB U)
theorem xG.warm {E : xE} {A : Nat → Prop} {s U : State} {H : Heap} (hW : s.WarmedH U.vm) (h : xG E A s H) : xG E A U H := by
  obtain ⟨⟨h1, h2, v, h3⟩, h4, h5, h6, h7, h8⟩ := h
  exact ⟨⟨h1.moved hW.alike, h2.moved hW.alike, v, h3.moved hW.alike⟩, h4.warm hW, h5.warm hW, fun q hq => va_Nw.warmM hW (h6 q hq), h7.moved hW.alike, h8.moved hW.alike⟩
theorem xG.call {E : xE} {A : Nat → Prop} {U : State} {g : JFrame} {mk : MethodId} {a : Array Value} {H : Heap} (h : xG E A U H) : xG E A (U.calling g mk a) H := by
  obtain ⟨⟨h1, h2, v, h3⟩, h4, h5, h6, h7, h8⟩ := h
  exact ⟨⟨h1.moved (Vm.Alike.refl U.vm), h2.moved (Vm.Alike.refl U.vm), v, h3.moved (Vm.Alike.refl U.vm)⟩, h4.same rfl, h5.same rfl, fun q hq => va_Nw.same rfl rfl (h6 q hq), h7.moved (Vm.Alike.refl U.vm), h8.moved (Vm.Alike.refl U.vm)⟩
theorem xG.kept {E : xE} {A : Nat → Prop} {U : State} {H H1 : Heap} (h : xG E A U H) (hq : ∀ a : Nat, a < H.size → ¬ A a → H1[a]? = H[a]?) : xG E A U H1 := by
  obtain ⟨⟨h1, h2, v, h3⟩, h4⟩ := h
  exact ⟨⟨h1.kept hq, h2.kept hq, v, h3.kept hq⟩, h4⟩
theorem xG.narrow {E : xE} {A B : Nat → Prop} {U : State} {H : Heap} (h : xG E A U H) (hAB : ∀ q, B q → A q) : xG E B U H := by
  obtain ⟨⟨h1, h2, v, h3⟩, h4⟩ := h
  exact ⟨⟨h1.narrow hAB, h2.narrow hAB, v, h3.narrow hAB⟩, h4⟩
/-! contracts -/
def xPc (E : xE) (av : List Value) (ws : va_W) (sz : Nat) : Array Value → State → Prop := va_Pc av (fun U => U.heap.size = sz ∧ va_P E.1 vwCl ws U.heap ∧ va_K E.1 vwCl (xTY E) U ∧ va_D (fun _ => True) ws ∧ xG E (va_A ws sz) U U.heap)
def xQi (E : xE) (r : Int32) (ws ws' : va_W) (sz : Nat) : Array Value → State → Outcome → State → Prop := va_Qi (S := Unit) (fun r' _ => r' = r) (fun _ t => va_P E.1 vwCl ws' t.heap) (va_A ws sz)
def xQl (E : xE) (r : Int64) (ws ws' : va_W) (sz : Nat) : Array Value → State → Outcome → State → Prop := va_Ql (S := Unit) (fun r' _ => r' = r) (fun _ t => va_P E.1 vwCl ws' t.heap) (va_A ws sz)
def xQv (E : xE) (ws ws' : va_W) (sz : Nat) : Array Value → State → Outcome → State → Prop := va_Qv (S := Unit) (fun _ => True) (fun _ t => va_P E.1 vwCl ws' t.heap) (va_A ws sz)
theorem xPc_blind {E : xE} {av : List Value} {ws : va_W} {sz : Nat} : FrameBlind (xPc E av ws sz) := by
  intro a U g mk q
  obtain ⟨q0, q1, qP, qK, qD, qG⟩ := q
  exact ⟨q0, q1, qP, va_K.moved (u := U) (U := U.calling g mk a) (Vm.Alike.refl U.vm) qK, qD, qG.call⟩
section XM
variable {l : Launch} {E : xE} {y : MethodName} {cc : ByteArray} {maxL sz : Nat} {rm : Room} {av : List Value} {ws ws' : va_W}
theorem xM_i {ty : FieldType} {r : Int32} (hy : plainName y.cls = true) (hal : (lg_sl av).length ≤ maxL)
    (body : ∀ (p : Program) (e : Env) (s : State) (m : MethodId) (args : Array Value) (below : List Frame) (meth : Method) (c : Code) (A : Nat → Prop) (Q : State → Prop),
      p.tables.exec = Jvm.exec → c.code = cc → c.maxLocals = maxL → s.vm.findClass y.cls = some m.cls → (∀ w ∈ gw, w.before args s = true) → va_K E.1 vwCl (xTY E) s → xG E A s s.heap → (∀ q : Nat, s.heap.size ≤ q → A q) →
      (∀ {H : Heap} {locs : List Loc} {pc : Nat} {ls : Array Slot}, narrow ty (.int r) = .int r → va_P E.1 vwCl ws' H → va_S A s.heap H locs → decode cc pc = .ok (.ireturn, 1) → W p l e rm s m args below meth c H locs 0 0 Q (F0 m pc ls [.int r])) →
      ∀ (H : Heap) (locs : List Loc) (ls : Array Slot), va_P E.1 vwCl ws H → va_D A ws → va_S A s.heap H locs → lv_has ls maxL (lv_args 0 av) → W p l e rm s m args below meth c H locs 0 0 Q (F0 m 0 ls [])) :
    Met l y (Cond.code y cc maxL (some ty) :: gw) rm (xPc E av ws sz) (xQi E r ws ws' sz) 0 0 (va_A ws sz) := by
  refine Met.ofW (cc := cc) (maxL := maxL) (ret := some ty) hy rfl ?_
  intro p e s m args below meth c s₁ B hml hv
  obtain ⟨rfl, hsz, hP, hK, hD0, hG⟩ := hv
  have hx := B.exec
  have hb := B.bytes
  have hr := B.returns
  have hts := atoms_spec (ws := Cond.code y cc maxL (some ty) :: gw) B.pre
  have hlocks := B.notSynchronized
  subst hsz
  have hl := lv_entry av (n := maxL) hal
  rw [lg_entry_eq]
  refine body p e s m _ below meth c (va_A ws s.heap.size) _ hx hb hml (findClass_of_methodNamed B.named) (fun w hw => hts w (List.mem_cons_of_mem _ hw)) hK hG (fun q h => Or.inr h) ?_ s.heap [] _ hP hD0.self va_S.rf hl
  intro H locs pc ls hn hP1 hS1 hd
  exact W.zret hx hb hr hn (fun t ht hW => ⟨⟨r, (), rfl, rfl, by show va_P E.1 vwCl ws' t.heap; rw [ht]; exact hP1⟩, hS1.F ht⟩) hS1.2.2 hd hlocks
theorem xM_l {r : Int64} (hy : plainName y.cls = true) (hal : (lg_sl av).length ≤ maxL)
    (body : ∀ (p : Program) (e : Env) (s : State) (m : MethodId) (args : Array Value) (below : List Frame) (meth : Method) (c : Code) (A : Nat → Prop) (Q : State → Prop),
      p.tables.exec = Jvm.exec → c.code = cc → c.maxLocals = maxL → s.vm.findClass y.cls = some m.cls → (∀ w ∈ gw, w.before args s = true) → va_K E.1 vwCl (xTY E) s → xG E A s s.heap → (∀ q : Nat, s.heap.size ≤ q → A q) →
      (∀ {H : Heap} {locs : List Loc} {pc : Nat} {ls : Array Slot}, va_P E.1 vwCl ws' H → va_S A s.heap H locs → decode cc pc = .ok (.lreturn, 1) → W p l e rm s m args below meth c H locs 0 0 Q (F0 m pc ls [.long r])) →
      ∀ (H : Heap) (locs : List Loc) (ls : Array Slot), va_P E.1 vwCl ws H → va_D A ws → va_S A s.heap H locs → lv_has ls maxL (lv_args 0 av) → W p l e rm s m args below meth c H locs 0 0 Q (F0 m 0 ls [])) :
    Met l y (Cond.code y cc maxL (some .long) :: gw) rm (xPc E av ws sz) (xQl E r ws ws' sz) 0 0 (va_A ws sz) := by
  refine Met.ofW (cc := cc) (maxL := maxL) (ret := some .long) hy rfl ?_
  intro p e s m args below meth c s₁ B hml hv
  obtain ⟨rfl, hsz, hP, hK, hD0, hG⟩ := hv
  have hx := B.exec
  have hb := B.bytes
  have hr := B.returns
  have hts := atoms_spec (ws := Cond.code y cc maxL (some .long) :: gw) B.pre
  have hlocks := B.notSynchronized
  subst hsz
  have hl := lv_entry av (n := maxL) hal
  rw [lg_entry_eq]
  refine body p e s m _ below meth c (va_A ws s.heap.size) _ hx hb hml (findClass_of_methodNamed B.named) (fun w hw => hts w (List.mem_cons_of_mem _ hw)) hK hG (fun q h => Or.inr h) ?_ s.heap [] _ hP hD0.self va_S.rf hl
  intro H locs pc ls hP1 hS1 hd
  exact W.lret hx hb hr (fun t ht hW => ⟨⟨r, (), rfl, rfl, by show va_P E.1 vwCl ws' t.heap; rw [ht]; exact hP1⟩, hS1.F ht⟩) hS1.2.2 hd hlocks
theorem xM_v (hy : plainName y.cls = true) (hal : (lg_sl av).length ≤ maxL)
    (body : ∀ (p : Program) (e : Env) (s : State) (m : MethodId) (args : Array Value) (below : List Frame) (meth : Method) (c : Code) (A : Nat → Prop) (Q : State → Prop),
      p.tables.exec = Jvm.exec → c.code = cc → c.maxLocals = maxL → s.vm.findClass y.cls = some m.cls → (∀ w ∈ gw, w.before args s = true) → va_K E.1 vwCl (xTY E) s → xG E A s s.heap → (∀ q : Nat, s.heap.size ≤ q → A q) →
      (∀ {H : Heap} {locs : List Loc} {pc : Nat} {ls : Array Slot}, va_P E.1 vwCl ws' H → va_S A s.heap H locs → decode cc pc = .ok (.return_, 1) → W p l e rm s m args below meth c H locs 0 0 Q (F0 m pc ls [])) →
      ∀ (H : Heap) (locs : List Loc) (ls : Array Slot), va_P E.1 vwCl ws H → va_D A ws → va_S A s.heap H locs → lv_has ls maxL (lv_args 0 av) → W p l e rm s m args below meth c H locs 0 0 Q (F0 m 0 ls [])) :
    Met l y (Cond.code y cc maxL none :: gw) rm (xPc E av ws sz) (xQv E ws ws' sz) 0 0 (va_A ws sz) := by
  refine Met.ofW (cc := cc) (maxL := maxL) (ret := none) hy rfl ?_
  intro p e s m args below meth c s₁ B hml hv
  obtain ⟨rfl, hsz, hP, hK, hD0, hG⟩ := hv
  have hx := B.exec
  have hb := B.bytes
  have hr := B.returns
  have hts := atoms_spec (ws := Cond.code y cc maxL none :: gw) B.pre
  have hlocks := B.notSynchronized
  subst hsz
  have hl := lv_entry av (n := maxL) hal
  rw [lg_entry_eq]
  refine body p e s m _ below meth c (va_A ws s.heap.size) _ hx hb hml (findClass_of_methodNamed B.named) (fun w hw => hts w (List.mem_cons_of_mem _ hw)) hK hG (fun q h => Or.inr h) ?_ s.heap [] _ hP hD0.self va_S.rf hl
  intro H locs pc ls hP1 hS1 hd
  exact W.vret hx hb hr (fun t ht hW => ⟨⟨(), rfl, trivial, by show va_P E.1 vwCl ws' t.heap; rw [ht]; exact hP1⟩, hS1.F ht⟩) hS1.2.2 hd hlocks
end XM
/-! calls: a callee's contract, its cells by their places among the caller's; behind it they stand there anew -/
section XC
variable {p : Program} {l : Launch} {e : Env} {R : Room} {s : State} {m : MethodId} {args : Array Value} {below : List Frame} {meth : Method} {c : Code} {H : Heap} {locs : List Loc} {Q : State → Prop} {ce sl : Nat}
variable {cc : ByteArray} {pc nL : Nat} {ls : Array Slot} {E : xE} {A : Nat → Prop} {ws wc wc' : va_W} {is : List Nat}
variable {own C host : String} {index maxL n : Nat} {y : MethodName} {bytes : ByteArray} {rm : Room} {b : Nat} {As rest st0 : List Value}
theorem xpre {av : List Value} (hK : va_K E.1 vwCl (xTY E) s) (hG : xG E A s s.heap) (hA : ∀ q : Nat, s.heap.size ≤ q → A q) (hP : va_P E.1 vwCl ws H) (hD : va_D A ws) (hS : va_S A s.heap H locs) (his : is.map (fun i => ws[i]?) = wc.map some) (hnd : va_nd is = true) :
    ∀ U : State, U.heap = H → s.WarmedH U.vm → xPc E av wc H.size av.toArray U := by
  intro U hU hW
  have hsub : is.filterMap (fun i => ws[i]?) = wc := by
    have h1 : is.filterMap (fun i => ws[i]?) = (is.map (fun i => ws[i]?)).filterMap id := by rw [List.filterMap_map]; rfl
    rw [h1, his, List.filterMap_map]
    exact List.filterMap_some
  refine ⟨rfl, by rw [hU], by rw [hU]; exact hP.sub is hsub, va_K.moved hW.alike hK, (hD.sub is hnd his).weaken (fun _ _ _ _ => trivial), ?_⟩
  rw [hU]
  exact ((hG.kept hS.2.1).narrow (va_free hD hS hA is his)).warm hW
theorem xrecv {q0 ci : Nat} {q : vw_C} {fs : List Value} (hK : va_K E.1 vwCl (xTY E) s) (hP : va_P E.1 vwCl ws H) (hc : vwCl[ci]? = some q) (he : ws[q0]? = some (b, .inr (ci, fs))) : ∃ cell : Cell, H[b]? = some cell ∧ cell.vm.isStatics = false ∧ s.vm.findClass q.1 = some cell.cls := va_recv hK hP hc he
theorem xcall_i {r : Int32} {a : Array Value} (hr : va_Run p l e R s m args below meth c H locs ce sl 0 0 (F0 m pc ls st0) rest (xQi E r wc wc' H.size a) (va_A wc H.size)) (hP : va_P E.1 vwCl ws H) (hD : va_D A ws) (hS : va_S A s.heap H locs) (hA : ∀ q : Nat, s.heap.size ≤ q → A q)
    (his : is.map (fun i => ws[i]?) = wc.map some) (hnd : va_nd is = true) (hln : wc'.map Prod.fst = wc.map Prod.fst)
    (kk : ∀ (H1 : Heap) (locs1 : List Loc), va_P E.1 vwCl (xput ws is wc') H1 → va_D A (xput ws is wc') → va_S A s.heap H1 locs1 → W p l e R s m args below meth c H1 locs1 ce sl Q (F0 m (pc + 3) ls (.int r :: rest))) : W p l e R s m args below meth c H locs ce sl Q (F0 m pc ls st0) := by
  have hF := va_free hD hS hA is his
  refine va_calli hr hS (fun q _ h => hF q h) hF (fun r' u t H1 locs1 ht hvm hw hB hz1 hk1 hS1 => ?_)
  subst hw
  replace hB : va_P E.1 vwCl wc' t.heap := hB
  rw [ht] at hB
  obtain ⟨g1, g2⟩ := xput_ok hP hD his hnd hln hk1 hB
  exact kk H1 locs1 g1 g2 hS1
theorem xcall_l {r : Int64} {a : Array Value} (hr : va_Run p l e R s m args below meth c H locs ce sl 0 0 (F0 m pc ls st0) rest (xQl E r wc wc' H.size a) (va_A wc H.size)) (hP : va_P E.1 vwCl ws H) (hD : va_D A ws) (hS : va_S A s.heap H locs) (hA : ∀ q : Nat, s.heap.size ≤ q → A q)
    (his : is.map (fun i => ws[i]?) = wc.map some) (hnd : va_nd is = true) (hln : wc'.map Prod.fst = wc.map Prod.fst)
    (kk : ∀ (H1 : Heap) (locs1 : List Loc), va_P E.1 vwCl (xput ws is wc') H1 → va_D A (xput ws is wc') → va_S A s.heap H1 locs1 → W p l e R s m args below meth c H1 locs1 ce sl Q (F0 m (pc + 3) ls (.long r :: rest))) : W p l e R s m args below meth c H locs ce sl Q (F0 m pc ls st0) := by
  have hF := va_free hD hS hA is his
  refine va_calll hr hS (fun q _ h => hF q h) hF (fun r' u t H1 locs1 ht hvm hw hB hz1 hk1 hS1 => ?_)
  subst hw
  replace hB : va_P E.1 vwCl wc' t.heap := hB
  rw [ht] at hB
  obtain ⟨g1, g2⟩ := xput_ok hP hD his hnd hln hk1 hB
  exact kk H1 locs1 g1 g2 hS1
theorem xcall_v {a : Array Value} (hr : va_Run p l e R s m args below meth c H locs ce sl 0 0 (F0 m pc ls st0) rest (xQv E wc wc' H.size a) (va_A wc H.size)) (hP : va_P E.1 vwCl ws H) (hD : va_D A ws) (hS : va_S A s.heap H locs) (hA : ∀ q : Nat, s.heap.size ≤ q → A q)
    (his : is.map (fun i => ws[i]?) = wc.map some) (hnd : va_nd is = true) (hln : wc'.map Prod.fst = wc.map Prod.fst)
    (kk : ∀ (H1 : Heap) (locs1 : List Loc), va_P E.1 vwCl (xput ws is wc') H1 → va_D A (xput ws is wc') → va_S A s.heap H1 locs1 → W p l e R s m args below meth c H1 locs1 ce sl Q (F0 m (pc + 3) ls rest)) : W p l e R s m args below meth c H locs ce sl Q (F0 m pc ls st0) := by
  have hF := va_free hD hS hA is his
  refine va_callv hr hS (fun q _ h => hF q h) hF (fun u t H1 locs1 ht hvm hw hB hz1 hk1 hS1 => ?_)
  replace hB : va_P E.1 vwCl wc' t.heap := hB
  rw [ht] at hB
  obtain ⟨g1, g2⟩ := xput_ok hP hD his hnd hln hk1 hB
  exact kk H1 locs1 g1 g2 hS1
/-- the run of a call, by its kind -/
theorem xrunV {ret : Option FieldType} {Qc : Array Value → State → Outcome → State → Prop} (hx : p.tables.exec = Jvm.exec) (hb : c.code = cc) (hml : c.maxLocals = nL) (hown : s.vm.findClass own = some m.cls) (htg : ∀ w ∈ gw, w.before args s = true) (L : xLV own index C y bytes maxL ret n)
    (hM : Met l y (Cond.code y bytes maxL ret :: gw) rm (xPc E (.ref b :: As) wc H.size) Qc 0 0 (va_A wc H.size)) (hR : (rm.cells = 0 ∧ rm.slots = 0) ∧ rm.frames + 1 ≤ R.frames ∧ 8 + (maxL + 11) + rm.locals ≤ R.locals)
    (hK : va_K E.1 vwCl (xTY E) s) (hG : xG E A s s.heap) (hA : ∀ q : Nat, s.heap.size ≤ q → A q) (hP : va_P E.1 vwCl ws H) (hD : va_D A ws) (hS : va_S A s.heap H locs) (his : is.map (fun i => ws[i]?) = wc.map some) (hnd : va_nd is = true)
    (hrec : ∃ cell : Cell, H[b]? = some cell ∧ cell.vm.isStatics = false ∧ s.vm.findClass C = some cell.cls) (hn : As.length = n) (hl : ls.size = nL) (hst : st0 = As.reverse ++ .ref b :: rest) (hro : (rest.map fun v => v.category).sum ≤ 8) (hcs : ce ≤ R.cells ∧ sl ≤ R.slots) (hdg : decode cc pc = .ok (.invokevirtual index, 3)) :
    va_Run p l e R s m args below meth c H locs ce sl 0 0 (F0 m pc ls st0) rest (Qc (Value.ref b :: As).toArray) (va_A wc H.size) :=
  va_runV ⟨hx, hb, hml, hown, htg⟩ hM (cwV n htg L.1 rfl hR.1.1 hR.1.2 L.2 hR.2) ⟨xPc_blind, hrec, xpre hK hG hA hP hD hS his hnd⟩ rfl hn hl hst (lv_room hro) hdg hcs
theorem xrunS {ret : Option FieldType} {Qc : Array Value → State → Outcome → State → Prop} (hx : p.tables.exec = Jvm.exec) (hb : c.code = cc) (hml : c.maxLocals = nL) (hown : s.vm.findClass own = some m.cls) (htg : ∀ w ∈ gw, w.before args s = true) (L : xLS own index y bytes maxL ret n)
    (hM : Met l y (Cond.code y bytes maxL ret :: gw) rm (xPc E As wc H.size) Qc 0 0 (va_A wc H.size)) (hR : (rm.cells = 0 ∧ rm.slots = 0) ∧ rm.frames + 1 ≤ R.frames ∧ 8 + (maxL + 11) + rm.locals ≤ R.locals)
    (hK : va_K E.1 vwCl (xTY E) s) (hG : xG E A s s.heap) (hA : ∀ q : Nat, s.heap.size ≤ q → A q) (hP : va_P E.1 vwCl ws H) (hD : va_D A ws) (hS : va_S A s.heap H locs) (his : is.map (fun i => ws[i]?) = wc.map some) (hnd : va_nd is = true)
    (hn : As.length = n) (hl : ls.size = nL) (hst : st0 = As.reverse ++ rest) (hro : (rest.map fun v => v.category).sum ≤ 8) (hcs : ce ≤ R.cells ∧ sl ≤ R.slots) (hdg : decode cc pc = .ok (.invokestatic index, 3)) :
    va_Run p l e R s m args below meth c H locs ce sl 0 0 (F0 m pc ls st0) rest (Qc As.toArray) (va_A wc H.size) :=
  va_runS ⟨hx, hb, hml, hown, htg⟩ hM (va_cwS n htg L.1 rfl hR.1.1 hR.1.2 L.2 hR.2) ⟨xPc_blind, xpre hK hG hA hP hD hS his hnd⟩ rfl hn hl hst (lv_room hro) hdg hcs
theorem xrunN {ret : Option FieldType} {Qc : Array Value → State → Outcome → State → Prop} (hx : p.tables.exec = Jvm.exec) (hb : c.code = cc) (hml : c.maxLocals = nL) (hown : s.vm.findClass own = some m.cls) (htg : ∀ w ∈ gw, w.before args s = true) (L : xLN own index host y bytes maxL ret n) (k : Nat) (hk : xNest[k]? = some (own, index, y, host))
    (hM : Met l y (Cond.code y bytes maxL ret :: gw) rm (xPc E As wc H.size) Qc 0 0 (va_A wc H.size)) (hR : (rm.cells = 0 ∧ rm.slots = 0) ∧ rm.frames + 1 ≤ R.frames ∧ 8 + (maxL + 11) + rm.locals ≤ R.locals)
    (hK : va_K E.1 vwCl (xTY E) s) (hG : xG E A s s.heap) (hA : ∀ q : Nat, s.heap.size ≤ q → A q) (hP : va_P E.1 vwCl ws H) (hD : va_D A ws) (hS : va_S A s.heap H locs) (his : is.map (fun i => ws[i]?) = wc.map some) (hnd : va_nd is = true)
    (hn : As.length = n) (hl : ls.size = nL) (hst : st0 = As.reverse ++ rest) (hro : (rest.map fun v => v.category).sum ≤ 8) (hcs : ce ≤ R.cells ∧ sl ≤ R.slots) (hdg : decode cc pc = .ok (.invokestatic index, 3)) :
    va_Run p l e R s m args below meth c H locs ce sl 0 0 (F0 m pc ls st0) rest (Qc As.toArray) (va_A wc H.size) :=
  va_runSN (host := host) ⟨hx, hb, hml, hown, htg⟩ hM ⟨va_cnB n htg (gg_1 L.1.2.2) rfl hR.1.1 hR.1.2 (hG.2.2.2.1 _ (List.mem_of_getElem? hk)) (htg _ L.1.2.1) L.2 hR.2, htg _ L.1.1, trivial⟩ ⟨xPc_blind, xpre hK hG hA hP hD hS his hnd⟩ rfl hn hl hst (lv_room hro) hdg hcs
end XC
/-! arrays -/
abbrev ab (E : xE) (n : Nat) (f : Nat → Int32) : va_E := .inl (E.2.1 0, n, .inl f)
abbrev ai (E : xE) (n : Nat) (f : Nat → Int32) : va_E := .inl (E.2.1 1, n, .inl f)
abbrev al (E : xE) (n : Nat) (f : Nat → Int64) : va_E := .inl (E.2.1 2, n, .inr (.inl f))
abbrev ad (E : xE) (n : Nat) (f : Nat → Option Nat) : va_E := .inl (E.2.1 3, n, .inr (.inr (.inr (.inr f))))
abbrev aj (E : xE) (n : Nat) (f : Nat → Option Nat) : va_E := .inl (E.2.1 4, n, .inr (.inr (.inr (.inr f))))
