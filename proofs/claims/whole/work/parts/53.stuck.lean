/-! stuck: powers, common divisors -/
theorem gcd_step (a b : Nat) : Nat.gcd a b = Nat.gcd b (a % b) := by
  rw [Nat.gcd_comm a b, Nat.gcd_rec b a, Nat.gcd_comm]
theorem half {b r k : Nat} (hr : 0 < r) (hrb : r < b) (hb : b < 2 ^ (k + 1)) : b % r < 2 ^ k := by
  rw [Nat.pow_succ] at hb
  by_cases z : 2 * r ≤ b
  · have := Nat.mod_lt b hr
    omega
  · have e : b % r = b - r := by
      rw [Nat.mod_eq_sub_mod (by omega), Nat.mod_eq_of_lt (by omega)]
    omega
theorem cmp0 {b : Nat} (hb : b < 2147483648) : (lg_cmp (lN b) (lN 0)) = 0 ↔ b = 0 := by
  rw [lc_eq, lN_eq (by omega) (by omega)]
theorem ne0L {b : Nat} (hb : b < 2147483648) (h : b ≠ 0) : ¬ lN b = 0 := fun z => h ((lN_eq (b := 0) (by omega) (by omega)).mp z)
section STUCK
variable {σ : St}
theorem c_gcd : ∀ (k N i a b : Nat), b < 2 ^ k → k ≤ 24 → i + 2 * k < 100 → 2 * k + 1 < N → a < 2147483648 → ∀ K, L_X2_commonDivisor_9 K N (lN a) (lN b) (nI i) σ = K (lN (Nat.gcd a b)) σ := by
  intro k
  induction k with
  | zero =>
    intro N i a b hb hk hi hN ha K
    obtain ⟨N, rfl⟩ : ∃ n', N = n' + 1 := ⟨N - 1, by omega⟩
    obtain rfl : b = 0 := by have : b < 1 := hb; omega
    rw [L_X2_commonDivisor_9.eq_2, if_neg (by rw [leN (by omega) (by omega)]; omega), if_pos ((cmp0 (by omega)).mpr rfl), Nat.gcd_zero_right]
  | succ k ih =>
    intro N i a b hb hk hi hN ha K
    have hb24 : b < 2 ^ 24 := Nat.lt_of_lt_of_le hb (Nat.pow_le_pow_right (by decide) hk)
    obtain ⟨N, rfl⟩ : ∃ n', N = n' + 2 := ⟨N - 2, by omega⟩
    rw [L_X2_commonDivisor_9.eq_2, if_neg (by rw [leN (by omega) (by omega)]; omega)]
    by_cases z : b = 0
    · subst z
      rw [if_pos ((cmp0 (by omega)).mpr rfl), Nat.gcd_zero_right]
    · have ml := Nat.mod_lt a (show 0 < b by omega)
      rw [if_neg (fun y => z ((cmp0 (by omega)).mp y)), if_pos (ne0L (by omega) z), lN_remB (by omega) (by omega) (by omega), nI_add, L_X2_commonDivisor_9.eq_2, if_neg (by rw [leN (by omega) (by omega)]; omega), gcd_step a b]
      by_cases z2 : a % b = 0
      · rw [z2, if_pos ((cmp0 (by omega)).mpr rfl), Nat.gcd_zero_right]
      · rw [if_neg (fun y => z2 ((cmp0 (by omega)).mp y)), if_pos (ne0L (by omega) z2), lN_remB (by omega) (by omega) (by omega), nI_add, ih N (i + 1 + 1) (a % b) (b % (a % b)) (half (by omega) ml hb) (by omega) (by omega) (by omega) (by omega), ← gcd_step]
theorem m_gcd {a4 : Int32} {a5 a7 : Int64} : ∀ (k N a b : Nat), b < 2 ^ k → k ≤ 24 → 2 * k + 1 < N → a < 2147483648 → ∀ K, L_X8_stuck_214 K N a4 a5 a7 (lN a) (lN b) σ = K a4 a5 a7 (lN (Nat.gcd a b)) σ := by
  intro k
  induction k with
  | zero =>
    intro N a b hb hk hN ha K
    obtain ⟨N, rfl⟩ : ∃ n', N = n' + 1 := ⟨N - 1, by omega⟩
    obtain rfl : b = 0 := by have : b < 1 := hb; omega
    rw [L_X8_stuck_214.eq_2, if_pos ((cmp0 (by omega)).mpr rfl), Nat.gcd_zero_right]
  | succ k ih =>
    intro N a b hb hk hN ha K
    have hb24 : b < 2 ^ 24 := Nat.lt_of_lt_of_le hb (Nat.pow_le_pow_right (by decide) hk)
    obtain ⟨N, rfl⟩ : ∃ n', N = n' + 2 := ⟨N - 2, by omega⟩
    rw [L_X8_stuck_214.eq_2]
    by_cases z : b = 0
    · subst z
      rw [if_pos ((cmp0 (by omega)).mpr rfl), Nat.gcd_zero_right]
    · have ml := Nat.mod_lt a (show 0 < b by omega)
      rw [if_neg (fun y => z ((cmp0 (by omega)).mp y)), if_pos (ne0L (by omega) z), lN_remB (by omega) (by omega) (by omega), L_X8_stuck_214.eq_2, gcd_step a b]
      by_cases z2 : a % b = 0
      · rw [z2, if_pos ((cmp0 (by omega)).mpr rfl), Nat.gcd_zero_right]
      · rw [if_neg (fun y => z2 ((cmp0 (by omega)).mp y)), if_pos (ne0L (by omega) z2), lN_remB (by omega) (by omega) (by omega), ih N (a % b) (b % (a % b)) (half (by omega) ml hb) (by omega) (by omega) (by omega), ← gcd_step]
theorem c_power {c n : Nat} (hc : c ≤ 10) (hn : n ≤ 7) (τ : St) : F_X2_power (nI c) (nI n) τ = some (lN (c ^ n), τ) := by
  unfold F_X2_power
  have hf := fuel_ge
  have L : ∀ (mm N i : Nat), i + mm = n → mm < N → ∀ K, L_X2_power_5 K N (nI c) (nI n) (lN (c ^ i)) (nI i) τ = K (lN (c ^ n)) τ := by
    intro mm
    induction mm with
    | zero =>
      intro N i hi hN K
      obtain ⟨N, rfl⟩ : ∃ n', N = n' + 1 := ⟨N - 1, by omega⟩
      rw [L_X2_power_5.eq_2, if_pos (nI_le (by omega) (by omega)), show i = n by omega]
    | succ mm ih =>
      intro N i hi hN K
      obtain ⟨N, rfl⟩ : ∃ n', N = n' + 1 := ⟨N - 1, by omega⟩
      rw [L_X2_power_5.eq_2, if_neg (by rw [leN (by omega) (by omega)]; omega), nI_l (by omega), lN_mul, ← Nat.pow_succ, nI_add, ih N (i + 1) (by omega) (by omega)]
  have l := L n fuel 0 (by omega) (by omega)
  rw [Nat.pow_zero] at l
  rw [l]
end STUCK
/-! how likely it is that just the taps of T stick -/
def cnt (a : Nat) : Nat → Nat
  | 0 => 0
  | p + 1 => cnt a p + a / 2 ^ p % 2
theorem cnt_7 (a : Nat) : cnt a 7 = pc7 a := rfl
def wt (S T c : Nat) : Nat → Nat
  | 0 => 1
  | p + 1 => if S / 2 ^ p % 2 = 1 then (if T / 2 ^ p % 2 = 1 then wt S T c p * c else wt S T c p * (10 - c)) else wt S T c p
theorem cnt_le {S T : Nat} (h : ∀ p, T / 2 ^ p % 2 = 1 → S / 2 ^ p % 2 = 1) : ∀ P, cnt T P ≤ cnt S P := by
  intro P
  induction P with
  | zero => exact Nat.le_refl _
  | succ p ih =>
    rw [cnt, cnt]
    have m1 := Nat.mod_lt (T / 2 ^ p) (show 0 < 2 by decide)
    have hp := h p
    by_cases z : T / 2 ^ p % 2 = 1
    · have := hp z; omega
    · omega
theorem wt_pow {S T c : Nat} (h : ∀ p, T / 2 ^ p % 2 = 1 → S / 2 ^ p % 2 = 1) : ∀ P, wt S T c P = c ^ cnt T P * (10 - c) ^ (cnt S P - cnt T P) := by
  intro P
  induction P with
  | zero => rfl
  | succ p ih =>
    rw [wt, cnt, cnt, ih]
    have m1 := Nat.mod_lt (T / 2 ^ p) (show 0 < 2 by decide)
    have m2 := Nat.mod_lt (S / 2 ^ p) (show 0 < 2 by decide)
    have hl := cnt_le h p
    by_cases z : S / 2 ^ p % 2 = 1
    · rw [if_pos z]
      by_cases z2 : T / 2 ^ p % 2 = 1
      · rw [if_pos z2, z, z2, show cnt S p + 1 - (cnt T p + 1) = cnt S p - cnt T p by omega, Nat.pow_succ, Nat.mul_right_comm]
      · rw [if_neg z2, z, show T / 2 ^ p % 2 = 0 by omega, Nat.add_zero, show cnt S p + 1 - cnt T p = (cnt S p - cnt T p) + 1 by omega, Nat.pow_succ, Nat.mul_assoc]
    · have z2 : ¬ T / 2 ^ p % 2 = 1 := fun y => z (h p y)
      rw [if_neg z, show S / 2 ^ p % 2 = 0 by omega, show T / 2 ^ p % 2 = 0 by omega, Nat.add_zero, Nat.add_zero]
