/-! stuck: sums over the sets of taps -/
def Wg (S c T : Nat) : Nat := c ^ pc7 T * (10 - c) ^ (pc7 S - pc7 T)
def nm (ok : Nat → Bool) (S c : Nat) : Nat → Nat → Nat → Nat
  | 0, _, acc => acc
  | m + 1, T, acc => nm ok S c m (T + 1) (if decide (T &&& (127 ^^^ S) = 0) && ok T then acc + Wg S c T else acc)
set_option maxRecDepth 100000 in
theorem sub_bit7 : ∀ T, T < 128 → ∀ S, S < 128 → T &&& (127 ^^^ S) = 0 → ∀ p, p < 7 → T / 2 ^ p % 2 = 1 → S / 2 ^ p % 2 = 1 := by decide +kernel
theorem sub_bit {T S : Nat} (hT : T < 128) (hS : S < 128) (sb : T &&& (127 ^^^ S) = 0) (p : Nat) (h : T / 2 ^ p % 2 = 1) : S / 2 ^ p % 2 = 1 := by
  by_cases hp : p < 7
  · exact sub_bit7 T hT S hS sb p hp h
  · have : T < 2 ^ p := Nat.lt_of_lt_of_le hT (show 2 ^ 7 ≤ 2 ^ p from Nat.pow_le_pow_right (by decide) (by omega))
    rw [Nat.div_eq_of_lt this] at h
    exact absurd h (by decide)
theorem cnt_add {a P : Nat} (ha : a < 2 ^ P) : ∀ k, cnt a (P + k) = cnt a P := by
  intro k
  induction k with
  | zero => rfl
  | succ k ih =>
    have : a < 2 ^ (P + k) := Nat.lt_of_lt_of_le ha (Nat.pow_le_pow_right (by decide) (by omega))
    show cnt a (P + k) + a / 2 ^ (P + k) % 2 = _
    rw [ih, Nat.div_eq_of_lt this]
    rfl
theorem wt_Wg {S T c P : Nat} (hP : P ≤ 7) (hT : T < 128) (hS : S < 2 ^ P) (hT2 : T < 2 ^ P) (sb : T &&& (127 ^^^ S) = 0) : wt S T c P = Wg S c T := by
  have h7 : 2 ^ P ≤ 2 ^ 7 := Nat.pow_le_pow_right (by decide) hP
  rw [wt_pow (fun p => sub_bit hT (by omega) sb p)]
  have e1 := cnt_add hS (7 - P)
  have e2 := cnt_add hT2 (7 - P)
  rw [show P + (7 - P) = 7 by omega, cnt_7] at e1 e2
  rw [← e1, ← e2]
  rfl
theorem nm_none (ok : Nat → Bool) {S c : Nat} (hS : S < 128) : ∀ m T acc, S < T → T + m ≤ 128 → nm ok S c m T acc = acc := by
  intro m
  induction m with
  | zero => intro T acc _ _; rfl
  | succ m ih =>
    intro T acc h1 h2
    have : ¬ T &&& (127 ^^^ S) = 0 := fun z => by have := sub_le T (by omega) S hS z; omega
    rw [nm, decide_eq_false this, Bool.false_and, if_neg (by decide), ih _ _ (by omega) (by omega)]
theorem nm_add (ok : Nat → Bool) (S c : Nat) : ∀ m n T acc, nm ok S c (m + n) T acc = nm ok S c n (T + m) (nm ok S c m T acc) := by
  intro m
  induction m with
  | zero => intro n T acc; rw [Nat.zero_add]; rfl
  | succ m ih =>
    intro n T acc
    rw [show m + 1 + n = (m + n) + 1 by omega, nm, ih, nm, show T + 1 + m = T + (m + 1) by omega]
theorem nm_128 (ok : Nat → Bool) {S c : Nat} (hS : S < 128) : nm ok S c 128 0 0 = nm ok S c (S + 1) 0 0 := by
  rw [show 128 = (S + 1) + (127 - S) by omega, nm_add, nm_none ok hS _ _ _ (by omega) (by omega)]
theorem nm_le (ok : Nat → Bool) (S c : Nat) : ∀ m T a b, a ≤ b → nm ok S c m T a ≤ nm (fun _ => true) S c m T b := by
  intro m
  induction m with
  | zero => intro T a b h; exact h
  | succ m ih =>
    intro T a b h
    rw [nm, nm]
    apply ih
    by_cases z : T &&& (127 ^^^ S) = 0
    · rw [decide_eq_true z, Bool.true_and, Bool.true_and, if_pos rfl]
      split <;> omega
    · rw [decide_eq_false z, Bool.false_and, Bool.false_and, if_neg (by decide), if_neg (by decide)]
      exact h
set_option maxRecDepth 100000 in
theorem tot_10 : ∀ S, S < 128 → ∀ c, c < 11 → nm (fun _ => true) S c 128 0 0 = 10 ^ pc7 S := by decide +kernel
