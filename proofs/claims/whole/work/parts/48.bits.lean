/-! how many pipes in a set -/
def pc7 (a : Nat) : Nat := 0 + a / 2 ^ 0 % 2 + a / 2 ^ 1 % 2 + a / 2 ^ 2 % 2 + a / 2 ^ 3 % 2 + a / 2 ^ 4 % 2 + a / 2 ^ 5 % 2 + a / 2 ^ 6 % 2
def bcV (a : Int32) : Int32 := match F_J6_bitCount_0f7a4 a (fun _ _ => 0, fun _ => 0) with
  | some z => z.1
  | none => 0
theorem bc_any (a : Int32) (σ : St) : F_J6_bitCount_0f7a4 a σ = some (bcV a, σ) := rfl
set_option maxRecDepth 100000 in
theorem bc_pc : ∀ a, a < 128 → bcV (nI a) = nI (pc7 a) := by decide +kernel
theorem c_bits {a : Nat} (ha : a < 128) (σ : St) : F_J6_bitCount_0f7a4 (nI a) σ = some (nI (pc7 a), σ) := by rw [bc_any, bc_pc a ha]
theorem m_bits {a : Nat} (ha : a < 128) (σ : St) : F_X8_bits (nI a) σ = some (nI (pc7 a), σ) := by
  unfold F_X8_bits
  obtain ⟨N, hN⟩ : ∃ N, fuel = N + 8 := ⟨fuel - 8, by have := fuel_ge; omega⟩
  rw [hN]
  have d : ∀ p, a / 2 ^ p ≤ a := fun p => Nat.div_le_self _ _
  have d0 := d 0
  have d1 := d 1
  have d2 := d 2
  have d3 := d 3
  have d4 := d 4
  have d5 := d 5
  have d6 := d 6
  iterate 8 rw [L_X8_bits_4.eq_2]
  simp (disch := omega) only [ixN, clN, nI_add, pk_mul, subN, divN, remN, leN, ltN, eqN, le0N, eq0N, lt0N, ge0N, gt0N, if_pos, if_neg, if_true, if_false, Option.bind_some, shrN, shlN, andN1, nI_or, andm1, modS, true_or, or_true]
  rfl
theorem pc7_le (a : Nat) : pc7 a ≤ 7 := by
  have m : ∀ x : Nat, x % 2 < 2 := fun x => Nat.mod_lt x (by decide)
  have m0 := m (a / 2 ^ 0)
  have m1 := m (a / 2 ^ 1)
  have m2 := m (a / 2 ^ 2)
  have m3 := m (a / 2 ^ 3)
  have m4 := m (a / 2 ^ 4)
  have m5 := m (a / 2 ^ 5)
  have m6 := m (a / 2 ^ 6)
  unfold pc7
  omega
