/-! the room behind the two constructors, by roles (written by wip/tools/world.py) -/
theorem orf_refs {G : Gx} {N base : Nat} {r : Nat → Nat} (h : ∀ i, i < N → ga G (base + i) = r i) : orf N r = refs G base N := funext fun i => by
  unfold orf refs
  by_cases z : i < N
  · rw [if_pos z, if_pos z, h i z]
  · rw [if_neg z, if_neg z]
def s0 (f1 f2 : Nat → Int32) : St := (fun k => if k = 21 then f1 else if k = 26 then f2 else fun _ => 0, fun _ => 0)
theorem inv0 {f1 f2 : Nat → Int32} (h1 : ∀ j, j < 8 → f1 j = -1) (h2 : ∀ j, j < 8 → f2 j = -1) : Inv (s0 f1 f2) := by
  have a0 : ∀ k, k ≠ 21 → k ≠ 26 → (s0 f1 f2).1 k = fun _ => nI 0 := fun k x y => by
    show (if k = 21 then f1 else if k = 26 then f2 else fun _ => 0) = _
    rw [if_neg x, if_neg y]
    rfl
  refine ⟨⟨fun _ => 0, ?_, ?_, ?_, by decide⟩, fun i hi => Or.inl ⟨?_, ?_⟩, ⟨⟨0, by omega, rfl, rfl, fun i hi => by omega⟩, rfl⟩, ⟨0, 0, fun _ _ => 0, by omega, by omega, rfl, rfl, rfl, fun j hj => by omega⟩, fun k hk => Or.inl ⟨?_, ?_⟩, ⟨0, by omega, rfl, rfl, fun i hi => by omega⟩, rfl⟩
  · intro j _
    rw [a0 4 (by omega) (by omega)]
  · intro j _
    rw [a0 29 (by omega) (by omega)]
  · exact ⟨Nat.zero_le 6, Nat.zero_le 9, Nat.zero_le 7, by decide, fun p hp => absurd hp (Nat.not_lt_zero p), fun i _ _ => ⟨show (0 : Nat) < 1000 by decide, Or.inl rfl⟩, fun _ _ _ _ _ => rfl⟩
  · exact h1 i hi
  · exact h2 i hi
  · rw [a0 (70 + k) (by omega) (by omega)]
  · rw [a0 35 (by omega) (by omega)]
