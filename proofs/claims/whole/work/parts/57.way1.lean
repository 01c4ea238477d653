/-! Ways: walks to a cell, least by any unit. -/
def Wk (A : Nat → Nat → Prop) (R : Nat → Nat) (t : Nat) : Nat → Nat → Nat → Prop
  | 0, a, r => a = t ∧ r = 0
  | k + 1, a, r => ∃ b s, A a b ∧ Wk A R t k b s ∧ r = R b + s
def wWk (A : Nat → Nat → Prop) (R : Nat → Nat) (t : Nat) (a : Nat) : Prop := ∃ k r, Wk A R t k a r
def wC (A : Nat → Nat → Prop) (R : Nat → Nat) (t u a c : Nat) : Prop := ∃ k r, Wk A R t k a r ∧ c = u * r + k
theorem least_ex (P : Nat → Prop) : ∀ n, P n → ∃ m, P m ∧ ∀ j, P j → m ≤ j := by
  intro n
  induction n using Nat.strongRecOn with
  | _ n ih =>
    intro h
    by_cases q : ∃ j, j < n ∧ P j
    · obtain ⟨j, hj, hp⟩ := q
      exact ih j hj hp
    · exact ⟨n, h, fun j hj => Nat.le_of_not_lt (fun hl => q ⟨j, hl, hj⟩)⟩
theorem sm_mono {f g : Nat → Nat} : ∀ n, (∀ k, k < n → f k ≤ g k) → sm n f ≤ sm n g
  | 0, _ => Nat.le_refl _
  | n + 1, h => by
    rw [sm_succ, sm_succ]
    exact Nat.add_le_add (sm_mono n (fun k hk => h k (by omega))) (h n (by omega))
theorem sm_strict {f g : Nat → Nat} : ∀ n, (∀ k, k < n → f k ≤ g k) → (∃ b, b < n ∧ f b < g b) → sm n f + 1 ≤ sm n g
  | 0, _, h => by obtain ⟨b, hb, -⟩ := h; omega
  | n + 1, h, hb => by
    rw [sm_succ, sm_succ]
    obtain ⟨b, hb1, hb2⟩ := hb
    have h1 := sm_mono (f := f) (g := g) n (fun k hk => h k (by omega))
    have h2 := h n (by omega)
    by_cases e : b = n
    · subst e; omega
    · have h3 := sm_strict n (fun k hk => h k (by omega)) ⟨b, by omega, hb2⟩
      omega
noncomputable def wi (P : Prop) : Nat := @ite Nat P (Classical.propDecidable P) 1 0
theorem wi_t {P : Prop} (h : P) : wi P = 1 := by unfold wi; exact if_pos h
theorem wi_f {P : Prop} (h : ¬ P) : wi P = 0 := by unfold wi; exact if_neg h
theorem wi_le (P : Prop) : wi P ≤ 1 := by
  by_cases h : P
  · rw [wi_t h]; exact Nat.le_refl _
  · rw [wi_f h]; exact Nat.zero_le _
theorem wi_mono {P Q : Prop} (h : P → Q) : wi P ≤ wi Q := by
  by_cases q : P
  · rw [wi_t q, wi_t (h q)]; exact Nat.le_refl _
  · rw [wi_f q]; exact Nat.zero_le _
section WAY1
variable {A : Nat → Nat → Prop} {R : Nat → Nat} {t N u I : Nat}
noncomputable def wcnt (A : Nat → Nat → Prop) (R : Nat → Nat) (t u N c : Nat) : Nat := sm N (fun x => wi (∃ e, e < c ∧ wC A R t u x e))
/-- the arcs lie in the sea, lead to what is no rock; a way's cost stays below I -/
def wA (A : Nat → Nat → Prop) (R : Nat → Nat) (N u I : Nat) : Prop := (∀ a b, A a b → a < N ∧ b < N ∧ R b ≤ 15) ∧ u * (15 * N) + N < I
theorem Wk_le (hA : wA A R N u I) : ∀ k a r, Wk A R t k a r → r ≤ 15 * k
  | 0, a, r, h => by have := h.2; omega
  | k + 1, a, r, h => by
    obtain ⟨b, s, h1, h2, h3⟩ := h
    have h4 := Wk_le hA k b s h2
    have h5 := (hA.1 a b h1).2.2
    omega
theorem Wk_low (hA : wA A R N u I) {k a r : Nat} (hk : k ≤ N) (h : Wk A R t k a r) : u * r + k < I := by
  have h1 := Wk_le hA k a r h
  have h2 : u * r ≤ u * (15 * N) := Nat.mul_le_mul_left u (by omega)
  have h3 := hA.2
  omega
theorem w_short (hA : wA A R N u I) : ∀ c a, wC A R t u a c → (∀ e, wC A R t u a e → c ≤ e) → ∃ k r, Wk A R t k a r ∧ c = u * r + k ∧ k ≤ wcnt A R t u N c := by
  intro c
  induction c using Nat.strongRecOn with
  | _ c ih =>
    intro a hc hm
    obtain ⟨k, r, hw, he⟩ := hc
    cases k with
    | zero => exact ⟨0, r, hw, he, Nat.zero_le _⟩
    | succ k =>
      obtain ⟨b, s, h1, h2, h3⟩ := hw
      obtain ⟨m, hm1, hm2⟩ := least_ex (fun e => wC A R t u b e) (u * s + k) ⟨k, s, h2, rfl⟩
      have hle := hm2 _ ⟨k, s, h2, rfl⟩
      rw [h3, Nat.mul_add] at he
      obtain ⟨k2, r2, q1, q2, q3⟩ := ih m (by omega) b hm1 hm2
      have q4 := hm _ ⟨k2 + 1, R b + r2, ⟨b, r2, h1, q1, rfl⟩, rfl⟩
      rw [Nat.mul_add] at q4
      refine ⟨k2 + 1, R b + r2, ⟨b, r2, h1, q1, rfl⟩, by rw [Nat.mul_add]; omega, ?_⟩
      have q5 : wcnt A R t u N m + 1 ≤ wcnt A R t u N c := sm_strict N (fun x _ => wi_mono (fun ⟨e, h6, h7⟩ => ⟨e, by omega, h7⟩)) ⟨b, (hA.1 a b h1).2.1, by
        rw [wi_f (fun ⟨e, h6, h7⟩ => by have := hm2 e h7; omega), wi_t ⟨m, by omega, hm1⟩]; exact Nat.zero_lt_one⟩
      omega
/-- of all walks from a cell one that costs least has at most N steps -/
theorem w_best (hA : wA A R N u I) {k a r : Nat} (h : Wk A R t k a r) : ∃ k2 r2, k2 ≤ N ∧ Wk A R t k2 a r2 ∧ ∀ k3 r3, Wk A R t k3 a r3 → u * r2 + k2 ≤ u * r3 + k3 := by
  obtain ⟨m, hm1, hm2⟩ := least_ex (fun e => wC A R t u a e) (u * r + k) ⟨k, r, h, rfl⟩
  obtain ⟨k2, r2, q1, q2, q3⟩ := w_short hA m a hm1 hm2
  have q4 : wcnt A R t u N m ≤ N := sm_le_n (fun x _ => wi_le _)
  exact ⟨k2, r2, by omega, q1, fun k3 r3 h3 => by rw [← q2]; exact hm2 _ ⟨k3, r3, h3, rfl⟩⟩
def wS (A : Nat → Nat → Prop) (R : Nat → Nat) (t N u I : Nat) (V : Nat → Nat) : Prop := ∀ a, a < N → V a ≤ I ∧ (V a < I → ∃ k r, Wk A R t k a r ∧ V a = u * r + k)
def wI (A : Nat → Nat → Prop) (R : Nat → Nat) (t N u I n : Nat) (V : Nat → Nat) : Prop := wS A R t N u I V ∧ ∀ k, k ≤ n → ∀ a, a < N → ∀ r, Wk A R t k a r → V a ≤ u * r + k
def wF (A : Nat → Nat → Prop) (R : Nat → Nat) (t N u I : Nat) (V : Nat → Nat) : Prop := ∀ a, a < N → V a ≤ I ∧ (V a < I → ∃ k r, k ≤ N ∧ Wk A R t k a r ∧ V a = u * r + k) ∧ ∀ k r, Wk A R t k a r → V a ≤ u * r + k ∧ V a < I
theorem wF_N (hA : wA A R N u I) {V : Nat → Nat} (h : wI A R t N u I N V) : wF A R t N u I V := by
  intro a ha
  have key : ∀ k r, Wk A R t k a r → ∃ k2 r2, k2 ≤ N ∧ Wk A R t k2 a r2 ∧ u * r2 + k2 ≤ u * r + k ∧ V a ≤ u * r2 + k2 := fun k r hw => by
    obtain ⟨k2, r2, q1, q2, q3⟩ := w_best hA hw
    exact ⟨k2, r2, q1, q2, q3 _ _ hw, h.2 k2 q1 a ha r2 q2⟩
  refine ⟨(h.1 a ha).1, fun hl => ?_, fun k r hw => ?_⟩
  · obtain ⟨k, r, hw, he⟩ := (h.1 a ha).2 hl
    obtain ⟨k2, r2, q1, q2, q3, q4⟩ := key k r hw
    exact ⟨k2, r2, q1, q2, by omega⟩
  · obtain ⟨k2, r2, q1, q2, q3, q4⟩ := key k r hw
    have q5 := Wk_low hA q1 q2
    exact ⟨by omega, by omega⟩
theorem wF_closed (hA : wA A R N u I) {V : Nat → Nat} (h : wI A R t N u I 0 V) (hc : ∀ a b, A a b → V b < I → V a ≤ u * R b + 1 + V b) : wF A R t N u I V := by
  refine wF_N hA ⟨h.1, fun k => ?_⟩
  induction k with
  | zero => exact fun _ => h.2 0 (Nat.le_refl _)
  | succ k ih =>
    intro hk a ha r hw
    obtain ⟨b, s, h1, h2, h3⟩ := hw
    have h4 := ih (by omega) b (hA.1 a b h1).2.1 s h2
    have h5 := Wk_low hA (show k ≤ N by omega) h2
    have h6 := hc a b h1 (by omega)
    rw [h3, Nat.mul_add]
    omega
/-- within a round: what was at its beginning, what is now, the pairs that were looked at, whether there was a change -/
def wR (A : Nat → Nat → Prop) (R : Nat → Nat) (t N u I : Nat) (V0 V : Nat → Nat) (P : Nat → Nat → Prop) (fl : Prop) : Prop := (∀ a, a < N → V a ≤ V0 a) ∧ wS A R t N u I V ∧ (∀ a b, P a b → A a b → V0 b < I → V a ≤ u * R b + 1 + V0 b) ∧ (fl ∨ ∀ a, a < N → V a = V0 a)
theorem wR_0 {V : Nat → Nat} (h : wS A R t N u I V) : wR A R t N u I V V (fun _ _ => False) False := ⟨fun _ _ => Nat.le_refl _, h, fun _ _ h => h.elim, Or.inr (fun _ _ => rfl)⟩
theorem wR_P {V0 V : Nat → Nat} {P Q : Nat → Nat → Prop} {fl : Prop} (h : wR A R t N u I V0 V P fl) (e : ∀ a b, A a b → Q a b → P a b) : wR A R t N u I V0 V Q fl := ⟨h.1, h.2.1, fun a b q ha => h.2.2.1 a b (e a b ha q) ha, h.2.2.2⟩
theorem wR_no (hA : wA A R N u I) {V0 V : Nat → Nat} {P Q : Nat → Nat → Prop} {fl : Prop} {a b : Nat} (h : wR A R t N u I V0 V P fl) (hn : A a b → V b < I → ¬ u * R b + 1 + V b < V a) (e : ∀ x y, A x y → Q x y → P x y ∨ x = a ∧ y = b) : wR A R t N u I V0 V Q fl := by
  refine ⟨h.1, h.2.1, fun x y q hx hl => ?_, h.2.2.2⟩
  rcases e x y hx q with q1 | ⟨rfl, rfl⟩
  · exact h.2.2.1 x y q1 hx hl
  · have h1 := h.1 y (hA.1 x y hx).2.1
    have h2 := hn hx (by omega)
    omega
theorem wR_yes (hA : wA A R N u I) {V0 V : Nat → Nat} {P Q : Nat → Nat → Prop} {fl : Prop} {a b : Nat} (h : wR A R t N u I V0 V P fl) (ha : A a b) (hb : V b < I) (hl : u * R b + 1 + V b < V a) (e : ∀ x y, A x y → Q x y → P x y ∨ x = a ∧ y = b) : wR A R t N u I V0 (updN V a (u * R b + 1 + V b)) Q True := by
  have h9 := hA.1 a b ha
  refine ⟨fun x hx => ?_, fun x hx => ?_, fun x y q hx hl2 => ?_, Or.inl trivial⟩
  · have h1 := h.1 x hx
    unfold updN
    split
    · rename_i e1; rw [e1]; rw [e1] at h1; omega
    · exact h1
  · unfold updN
    split
    · rename_i e1
      have h1 := (h.2.1 a h9.1).1
      refine ⟨by omega, fun _ => ?_⟩
      obtain ⟨k, r, h2, h3⟩ := (h.2.1 b h9.2.1).2 hb
      exact ⟨k + 1, R b + r, by rw [e1]; exact ⟨b, r, ha, h2, rfl⟩, by rw [Nat.mul_add]; omega⟩
    · exact h.2.1 x hx
  · have h1 := h.1 y (hA.1 x y hx).2.1
    unfold updN
    rcases e x y hx q with q1 | ⟨rfl, rfl⟩
    · have h2 := h.2.2.1 x y q1 hx hl2
      split
      · rename_i e1; rw [e1] at h2; omega
      · exact h2
    · rw [if_pos rfl]; omega
/-- behind a round -/
theorem wR_end (hA : wA A R N u I) {V0 V : Nat → Nat} {fl : Prop} {n : Nat} (hn : n ≤ N) (h0 : wI A R t N u I n V0) (h : wR A R t N u I V0 V (fun _ _ => True) fl) : wI A R t N u I (n + 1) V ∧ (¬ fl → wF A R t N u I V) := by
  refine ⟨⟨h.2.1, fun k hk a ha r hw => ?_⟩, fun hf => ?_⟩
  · have h1 := h.1 a ha
    cases k with
    | zero =>
      have := h0.2 0 (Nat.zero_le _) a ha r hw
      omega
    | succ k =>
      obtain ⟨b, s, q1, q2, q3⟩ := hw
      have h4 := h0.2 k (by omega) b (hA.1 a b q1).2.1 s q2
      have h5 := Wk_low hA (show k ≤ N by omega) q2
      have h6 := h.2.2.1 a b trivial q1 (by omega)
      rw [q3, Nat.mul_add]
      omega
  · have he : ∀ a, a < N → V a = V0 a := by
      rcases h.2.2.2 with q | q
      · exact absurd q hf
      · exact q
    refine wF_closed hA ⟨h.2.1, fun k hk a ha r hw => ?_⟩ (fun a b hab hl => ?_)
    · rw [he a ha]; exact h0.2 k (by omega) a ha r hw
    · have h9 := hA.1 a b hab
      rw [he b h9.2.1] at hl ⊢
      exact h.2.2.1 a b trivial hab hl
/-- two units find the same walks -/
theorem wF_two {u2 I2 : Nat} (hA : wA A R N u I) (hN : N ≤ 36) (hu : 64 ≤ u) (hu2 : 64 ≤ u2) {V W : Nat → Nat} (h : wF A R t N u I V) (h2 : wF A R t N u2 I2 W) {a : Nat} (ha : a < N) : (V a = I ∧ W a = I2) ∨ ∃ k r, k ≤ N ∧ Wk A R t k a r ∧ V a = u * r + k ∧ W a = u2 * r + k ∧ V a < I ∧ W a < I2 := by
  obtain ⟨a1, a2, a3⟩ := h a ha
  obtain ⟨b1, b2, b3⟩ := h2 a ha
  by_cases q : V a < I
  · obtain ⟨k, r, q1, q2, q3⟩ := a2 q
    obtain ⟨q4, q5⟩ := b3 k r q2
    obtain ⟨k2, r2, p1, p2, p3⟩ := b2 q5
    obtain ⟨p4, p5⟩ := a3 k2 r2 p2
    have er : r = r2 := by
      rcases Nat.lt_trichotomy r r2 with g | g | g
      · have g1 : u2 * (r + 1) ≤ u2 * r2 := Nat.mul_le_mul_left u2 g
        rw [Nat.mul_add] at g1
        omega
      · exact g
      · have g1 : u * (r2 + 1) ≤ u * r := Nat.mul_le_mul_left u g
        rw [Nat.mul_add] at g1
        omega
    subst er
    exact Or.inr ⟨k, r, q1, q2, q3, by omega, q, q5⟩
  · refine Or.inl ⟨by omega, ?_⟩
    rcases Nat.lt_or_ge (W a) I2 with g | g
    · obtain ⟨k, r, q1, q2, q3⟩ := b2 g
      exact absurd (a3 k r q2).2 q
    · omega
end WAY1
