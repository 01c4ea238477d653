theorem INV_0 {zt : Nat → Int32} {zc : Nat → Int64} {z : (Nat → Int32) × (Nat → Int32)} (ht : ∀ k, k < 4 → zt k = -1) (hc : cOk zc) (h1 : ∀ k, k < 4 → z.1 k = -1) (h2 : ∀ k, k < 372 → z.2 k = if k = 4 then 4 else 0) : INV (ov (ov (ov (ov (ov (ov (ov (ov (ov (ov (fun _ _ => 0) 0 (upd (upd (fun _ => 0) 17 (-1)) 18 (-1))) 8 zt) 38 (upd (fun _ => 0) 2 4)) 52 (upd (fun _ => 0) 2 4)) 72 (upd (fun _ => 0) 2 4)) 86 (upd (fun _ => 0) 2 4)) 100 (upd (fun _ => 0) 2 4)) 114 (upd (upd (fun _ => 0) 10 (-1)) 11 (-1))) 116 z.1) 119 z.2) (ov (ov (ov (fun _ _ => 0) 0 (ov (fun _ => 0) 16 1)) 11 zc) 114 (ov (fun _ => 0) 3 1)) := by
  have hk : kRep d00 (fun _ => 0) (upd (fun _ => 0) 2 4) (fun _ => 0) (fun _ => 0) (fun _ => 0) (fun _ => 0) (fun _ => 0) (fun _ => 0) (fun _ => 0) := d00_k ⟨rfl, rfl, rfl, rfl, rfl, rfl, rfl⟩
  refine ⟨0, 0, by decide, by decide, rfl, ⟨rfl, rfl, rfl, ⟨rfl, rfl⟩, rfl, rfl⟩, ⟨rfl, rfl⟩, ⟨Or.inl rfl, fun h => absurd h (by decide)⟩, ⟨fun k hk => absurd hk (Nat.not_lt_zero k), fun k hk => absurd hk (Nat.not_lt_zero k), hc⟩, fun t ht4 => ⟨(ht t ht4).trans (h1 t ht4).symm, rfl, Or.inl (ht t ht4)⟩, dBlk.o.mpr ⟨d00, d00_inv, fun k hk => ?_, hk, Or.inl ⟨?_, rfl, rfl⟩⟩, fun h => absurd h (by decide), fun h => absurd h (by decide), fun h => absurd h (by decide)⟩
  · refine (h2 k (by omega)).trans ?_
    unfold d00
    split <;> rfl
  · exact (h2 100 (by decide)).trans rfl
