/-! My own frame over the kit's rows: one list of words for all methods, one shape of contract, one row a call. -/
def gw : List Cond := lw_tbl.filter goodWord
theorem gw_t {w : Cond} (h : w ∈ tables_1) (g : goodWord w = true) : w ∈ gw := List.mem_filter.mpr ⟨List.mem_append_right _ h, g⟩
theorem gw_s {q : MethodName × Nat} (h : q ∈ lw_privs) (g : goodWord (Cond.selects q.1.cls q.1 q.1) = true) : Cond.selects q.1.cls q.1 q.1 ∈ gw := List.mem_filter.mpr ⟨List.mem_append_left _ (List.mem_map.mpr ⟨q, h, rfl⟩), g⟩
theorem gw_of {w : Cond} (h : w ∈ gw) : w ∈ lw_tbl := (List.mem_filter.mp h).1
theorem gw_ok {w : Cond} (h : w ∈ gw) : goodWord w = true := (List.mem_filter.mp h).2
theorem tb1 {w : Cond} (i : Nat) (h : tables_1_1[i]? = some w) : w ∈ tables_1 := List.mem_append_left _ (List.mem_of_getElem? h)
theorem tb2 {w : Cond} (i : Nat) (h : tables_1_2[i]? = some w) : w ∈ tables_1 := List.mem_append_right _ (List.mem_append_left _ (List.mem_of_getElem? h))
theorem tb3 {w : Cond} (i : Nat) (h : tables_1_3[i]? = some w) : w ∈ tables_1 := List.mem_append_right _ (List.mem_append_right _ (List.mem_append_left _ (List.mem_of_getElem? h)))
theorem tb4 {w : Cond} (i : Nat) (h : tables_1_4[i]? = some w) : w ∈ tables_1 := List.mem_append_right _ (List.mem_append_right _ (List.mem_append_right _ (List.mem_append_left _ (List.mem_of_getElem? h))))
theorem tb5 {w : Cond} (i : Nat) (h : tables_1_5[i]? = some w) : w ∈ tables_1 := List.mem_append_right _ (List.mem_append_right _ (List.mem_append_right _ (List.mem_append_right _ (List.mem_append_left _ (List.mem_of_getElem? h)))))
theorem tb6 {w : Cond} (i : Nat) (h : tables_1_6[i]? = some w) : w ∈ tables_1 := List.mem_append_right _ (List.mem_append_right _ (List.mem_append_right _ (List.mem_append_right _ (List.mem_append_right _ (List.mem_append_left _ (List.mem_of_getElem? h))))))
theorem tb7 {w : Cond} (i : Nat) (h : tables_1_7[i]? = some w) : w ∈ tables_1 := List.mem_append_right _ (List.mem_append_right _ (List.mem_append_right _ (List.mem_append_right _ (List.mem_append_right _ (List.mem_append_right _ (List.mem_append_left _ (List.mem_of_getElem? h)))))))
theorem tb8 {w : Cond} (i : Nat) (h : tables_1_8[i]? = some w) : w ∈ tables_1 := List.mem_append_right _ (List.mem_append_right _ (List.mem_append_right _ (List.mem_append_right _ (List.mem_append_right _ (List.mem_append_right _ (List.mem_append_right _ (List.mem_append_left _ (List.mem_of_getElem? h))))))))
theorem tb9 {w : Cond} (i : Nat) (h : tables_1_9[i]? = some w) : w ∈ tables_1 := List.mem_append_right _ (List.mem_append_right _ (List.mem_append_right _ (List.mem_append_right _ (List.mem_append_right _ (List.mem_append_right _ (List.mem_append_right _ (List.mem_append_right _ (List.mem_of_getElem? h))))))))
theorem gg_1 {c : Cond} (h : c ∈ gw) : GoodIn gw (c :: gw) := fun w hw => by
  rcases List.mem_cons.mp hw with rfl | hw
  · exact ⟨h, good_of_word (gw_ok h)⟩
  · exact ⟨hw, good_of_word (gw_ok hw)⟩
theorem gg_a {ws : List Cond} {l : List Cond} (hl : ∀ w ∈ l, w ∈ gw) (h : GoodIn gw ws) : GoodIn gw (l ++ ws) := fun w hw => by
  rcases List.mem_append.mp hw with q | q
  · exact ⟨hl w q, good_of_word (gw_ok (hl w q))⟩
  · exact h w q
/-- what a call site links: virtual, static, private nest mates -/
def xLV (own : String) (index : Nat) (C : String) (y : MethodName) (bytes : ByteArray) (maxL : Nat) (ret : Option FieldType) (n : Nat) : Prop :=
  GoodIn gw (wsV own index C y (Cond.code y bytes maxL ret :: gw)) ∧ (y.cls = C ∧ y.cls ≠ "java/lang/invoke/MethodHandle" ∧ y.cls ≠ "java/lang/invoke/VarHandle" ∧ (parseMethodDescriptor y.desc).map (fun d => d.parameters.length) = some n)
def xLS (own : String) (index : Nat) (y : MethodName) (bytes : ByteArray) (maxL : Nat) (ret : Option FieldType) (n : Nat) : Prop :=
  GoodIn gw (va_wsS own index y (Cond.code y bytes maxL ret :: gw)) ∧ (y.cls ≠ "java/lang/invoke/MethodHandle" ∧ y.cls ≠ "java/lang/invoke/VarHandle" ∧ (parseMethodDescriptor y.desc).map (fun d => d.parameters.length) = some n)
def xLN (own : String) (index : Nat) (host : String) (y : MethodName) (bytes : ByteArray) (maxL : Nat) (ret : Option FieldType) (n : Nat) : Prop :=
  (Cond.static y ∈ gw ∧ Cond.initialized y.cls ∈ gw ∧ Cond.code y bytes maxL ret ∈ gw) ∧ (y.cls ≠ "java/lang/invoke/MethodHandle" ∧ y.cls ≠ "java/lang/invoke/VarHandle" ∧ (parseMethodDescriptor y.desc).map (fun d => d.parameters.length) = some n)
theorem xLV.of {own : String} {index : Nat} {C : String} {y : MethodName} {bytes : ByteArray} {maxL : Nat} {ret : Option FieldType} {n : Nat} (h1 : Cond.methodLink own index y ∈ gw) (h2 : Cond.instanceMethod y ∈ gw) (h3 : Cond.selects C y y ∈ gw) (h4 : Cond.initialized C ∈ gw) (h5 : Cond.code y bytes maxL ret ∈ gw)
    (h : y.cls = C ∧ y.cls ≠ "java/lang/invoke/MethodHandle" ∧ y.cls ≠ "java/lang/invoke/VarHandle" ∧ (parseMethodDescriptor y.desc).map (fun d => d.parameters.length) = some n) : xLV own index C y bytes maxL ret n :=
  ⟨gg_a (List.forall_mem_cons.mpr ⟨h1, List.forall_mem_cons.mpr ⟨h2, List.forall_mem_cons.mpr ⟨h3, List.forall_mem_cons.mpr ⟨h4, fun _ h => absurd h List.not_mem_nil⟩⟩⟩⟩) (gg_1 h5), h⟩
theorem xLS.of {own : String} {index : Nat} {y : MethodName} {bytes : ByteArray} {maxL : Nat} {ret : Option FieldType} {n : Nat} (h1 : Cond.methodLink own index y ∈ gw) (h2 : Cond.static y ∈ gw) (h3 : Cond.initialized y.cls ∈ gw) (h5 : Cond.code y bytes maxL ret ∈ gw)
    (h : y.cls ≠ "java/lang/invoke/MethodHandle" ∧ y.cls ≠ "java/lang/invoke/VarHandle" ∧ (parseMethodDescriptor y.desc).map (fun d => d.parameters.length) = some n) : xLS own index y bytes maxL ret n :=
  ⟨gg_a (List.forall_mem_cons.mpr ⟨h1, List.forall_mem_cons.mpr ⟨h2, List.forall_mem_cons.mpr ⟨h3, fun _ h => absurd h List.not_mem_nil⟩⟩⟩) (gg_1 h5), h⟩
/-! pure words -/
def ck {α : Type} (b : Bool) (k : Option α) : Option α := match b with
  | true => k
  | false => none
def letv {α β : Type} (v : α) (k : α → β) : β := k v
def iter {F : Type} (g : F → F) (bot : F) : Nat → F
  | 0 => bot
  | n + 1 => g (iter g bot n)
def gd (i : Int32) (n : Nat) : Bool := decide (0 ≤ i.toInt) && decide (i.toInt < n)
def bz (v : Int32) : Bool := decide (v = 0) || decide (v = 1)
/-- fuel: more than any loop needs -/
def xF : Nat := 4000000
theorem ck_s {α : Type} {b : Bool} {k : Option α} {r : α} (h : ck b k = some r) : b = true ∧ k = some r := by
  cases b with
  | false => cases h
  | true => exact ⟨rfl, h⟩
theorem bind_s {α β : Type} {o : Option α} {k : α → Option β} {r : β} (h : o.bind k = some r) : ∃ z, o = some z ∧ k z = some r := by
  cases o with
  | none => cases h
  | some z => exact ⟨z, rfl, h⟩
theorem letv_s {α β : Type} {v x : α} {k : α → β} {r : β} (e : x = v) (h : letv v k = r) : k x = r := by
  subst e
  exact h
theorem it_t {α : Type} {c : Prop} [Decidable c] {a b x : α} (h : c) (e : (if c then a else b) = x) : a = x := by rw [if_pos h] at e; exact e
theorem it_f {α : Type} {c : Prop} [Decidable c] {a b x : α} (h : ¬ c) (e : (if c then a else b) = x) : b = x := by rw [if_neg h] at e; exact e
theorem gd_in {i : Int32} {n : Nat} (h : gd i n = true) : vp_in i n := by
  unfold gd at h
  rw [Bool.and_eq_true, decide_eq_true_eq, decide_eq_true_eq] at h
  exact vp_in_iff.mpr h
theorem dn_s {y : Int32} (h : decide (¬ y = 0) = true) : ¬ y = 0 := of_decide_eq_true h
theorem dn_l {y : Int64} (h : decide (¬ y = 0) = true) : ¬ y = 0 := of_decide_eq_true h
theorem bz_n {v : Int32} (h : bz v = true) : narrow .boolean (.int v) = .int v ∧ fits .boolean (.int v) = true := by
  unfold bz at h
  rw [Bool.or_eq_true, decide_eq_true_eq, decide_eq_true_eq] at h
  rcases h with rfl | rfl <;> exact ⟨rfl, rfl⟩
/-! places put in anew -/
def xput (ws : va_W) : List Nat → va_W → va_W
  | i :: is, q :: qs => xput (ws.set i q) is qs
  | _, _ => ws
theorem xput_get : ∀ (is : List Nat) (qs ws : va_W) (k : Nat) (x : Nat × va_E), is.length = qs.length → (xput ws is qs)[k]? = some x → (∃ j : Nat, is[j]? = some k ∧ qs[j]? = some x) ∨ (k ∉ is ∧ ws[k]? = some x)
  | [], [], ws, k, x, _, h => Or.inr ⟨List.not_mem_nil, h⟩
  | [], _ :: _, _, _, _, hl, _ => by cases hl
  | _ :: _, [], _, _, _, hl, _ => by cases hl
  | i :: is, q :: qs, ws, k, x, hl, h => by
    rcases xput_get is qs (ws.set i q) k x (Nat.succ.inj hl) h with ⟨j, h1, h2⟩ | ⟨h1, h2⟩
    · exact Or.inl ⟨j + 1, h1, h2⟩
    · by_cases hk : i = k
      · subst hk
        rw [List.getElem?_set] at h2
        simp only [if_pos] at h2
        split at h2
        · exact Or.inl ⟨0, rfl, h2⟩
        · cases h2
      · rw [List.getElem?_set_ne hk] at h2
        exact Or.inr ⟨fun h => (List.mem_cons.mp h).elim (fun e => hk e.symm) h1, h2⟩
theorem xput_at {is : List Nat} {ws wc : va_W} (his : is.map (fun i => ws[i]?) = wc.map some) {j k : Nat} (hj : is[j]? = some k) : ∃ x, wc[j]? = some x ∧ ws[k]? = some x := by
  have h1 := congrArg (fun l => l[j]?) his
  simp only [List.getElem?_map, hj, Option.map_some] at h1
  cases hx : wc[j]? with
  | none => rw [hx] at h1; cases h1
  | some x => rw [hx] at h1; exact ⟨x, rfl, Option.some.inj h1⟩
theorem xput_len {is : List Nat} {ws wc wc' : va_W} (his : is.map (fun i => ws[i]?) = wc.map some) (hln : wc'.map Prod.fst = wc.map Prod.fst) : is.length = wc'.length := by
  have h1 := congrArg List.length his
  have h2 := congrArg List.length hln
  simp only [List.length_map] at h1 h2
  omega
theorem xput_ok {A : Nat → Prop} {D : va_G} {cl : List vw_C} {ws wc wc' : va_W} {H H1 : Heap} {is : List Nat} (hP : va_P D cl ws H) (hD : va_D A ws) (his : is.map (fun i => ws[i]?) = wc.map some) (hnd : va_nd is = true) (hln : wc'.map Prod.fst = wc.map Prod.fst)
    (hk : ∀ q : Nat, q < H.size → ¬ va_A wc H.size q → H1[q]? = H[q]?) (hP1 : va_P D cl wc' H1) : va_P D cl (xput ws is wc') H1 ∧ va_D A (xput ws is wc') := by
  have hlen := xput_len his hln
  have adr : ∀ (j : Nat) (x y : Nat × va_E), wc'[j]? = some x → wc[j]? = some y → x.1 = y.1 := by
    intro j x y h1 h2
    have h3 := congrArg (fun l => l[j]?) hln
    simp only [List.getElem?_map, h1, h2, Option.map_some] at h3
    exact Option.some.inj h3
  have key : ∀ (k : Nat) (x : Nat × va_E), (xput ws is wc')[k]? = some x → ∃ x0, ws[k]? = some x0 ∧ x0.1 = x.1 := by
    intro k x hx
    rcases xput_get is wc' ws k x hlen hx with ⟨j, h1, h2⟩ | ⟨-, h2⟩
    · obtain ⟨y, h3, h4⟩ := xput_at his h1
      exact ⟨y, h4, (adr j x y h2 h3).symm⟩
    · exact ⟨x, h2, rfl⟩
  refine ⟨fun k x hx => ?_, fun i j x y hi hj hxy => ?_, fun k x hx => ?_⟩
  · rcases xput_get is wc' ws k x hlen hx with ⟨j, h1, h2⟩ | ⟨h1, h2⟩
    · exact hP1 j x h2
    · have hl := (hP k x h2).lt
      refine (hP k x h2).kept (hk x.1 hl (fun h => ?_))
      rcases h with ⟨j, e, h3⟩ | h
      · have h4 : ∃ i0, is[j]? = some i0 := by
          cases hi : is[j]? with
          | some i0 => exact ⟨i0, rfl⟩
          | none =>
            have h5 := congrArg (fun l => l[j]?) his
            simp only [List.getElem?_map, hi, h3, Option.map_none, Option.map_some] at h5
            cases h5
        obtain ⟨i0, h4⟩ := h4
        obtain ⟨y, h5, h6⟩ := xput_at his h4
        rw [h3] at h5
        cases h5
        have e0 := hD.1 k i0 x (x.1, e) h2 h6 rfl
        subst e0
        exact h1 (List.mem_of_getElem? h4)
      · omega
  · obtain ⟨x0, h1, h2⟩ := key i x hi
    obtain ⟨y0, h3, h4⟩ := key j y hj
    exact hD.1 i j x0 y0 h1 h3 (by rw [h2, h4]; exact hxy)
  · obtain ⟨x0, h1, h2⟩ := key k x hx
    rw [← h2]
    exact hD.2 k x0 h1
