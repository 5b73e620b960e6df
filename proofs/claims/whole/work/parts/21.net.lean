/-! a Net's state: its cells f and out o -/
theorem setR_get (σ : St) (k : Nat) (f : Nat → Int32) : (setR σ k f).1 k = f := if_pos rfl
theorem setR_ne {σ : St} {k j : Nat} {f : Nat → Int32} (h : j ≠ k) : (setR σ k f).1 j = σ.1 j := if_neg h
def st2 (r : Nat) (σ : St) (f o : Nat → Int32) : St := setR (setR σ (r + 1) f) (r + 2) o
theorem st2_a (r : Nat) (σ : St) (f o : Nat → Int32) : (st2 r σ f o).1 (r + 1) = f := by
  unfold st2
  rw [setR_ne (by omega), setR_get]
theorem st2_b (r : Nat) (σ : St) (f o : Nat → Int32) : (st2 r σ f o).1 (r + 2) = o := setR_get _ _ _
theorem st2_k {r : Nat} {σ : St} {f o : Nat → Int32} {k : Nat} (h1 : k ≠ r + 1) (h2 : k ≠ r + 2) : (st2 r σ f o).1 k = σ.1 k := by
  unfold st2
  rw [setR_ne h2, setR_ne h1]
theorem st2_f (r : Nat) (σ : St) (f o : Nat → Int32) : (st2 r σ f o).2 = σ.2 := rfl
theorem St.ext {σ τ : St} (h1 : ∀ k, σ.1 k = τ.1 k) (h2 : ∀ j, σ.2 j = τ.2 j) : σ = τ := Prod.ext (funext h1) (funext h2)
theorem st2_A (r : Nat) (σ : St) (f o : Nat → Int32) (i : Nat) (v : Int32) : setA (st2 r σ f o) (r + 1) i v = st2 r σ (upd f i v) o := by
  apply St.ext
  · intro k
    show (if k = r + 1 then upd ((st2 r σ f o).1 (r + 1)) i v else (st2 r σ f o).1 k) = _
    rw [st2_a]
    by_cases h : k = r + 1
    · subst h
      rw [if_pos rfl, st2_a]
    · rw [if_neg h]
      by_cases h2 : k = r + 2
      · subst h2
        rw [st2_b, st2_b]
      · rw [st2_k h h2, st2_k h h2]
  · intro j
    rfl
theorem st2_B (r : Nat) (σ : St) (f o : Nat → Int32) (i : Nat) (v : Int32) : setA (st2 r σ f o) (r + 2) i v = st2 r σ f (upd o i v) := by
  apply St.ext
  · intro k
    show (if k = r + 2 then upd ((st2 r σ f o).1 (r + 2)) i v else (st2 r σ f o).1 k) = _
    rw [st2_b]
    by_cases h2 : k = r + 2
    · subst h2
      rw [if_pos rfl, st2_b]
    · rw [if_neg h2]
      by_cases h : k = r + 1
      · subst h
        rw [st2_a, st2_a]
      · rw [st2_k h h2, st2_k h h2]
  · intro j
    rfl
theorem st2_eta (r : Nat) (σ : St) : st2 r σ (σ.1 (r + 1)) (σ.1 (r + 2)) = σ := by
  apply St.ext
  · intro k
    by_cases h : k = r + 1
    · subst h
      rw [st2_a]
    · by_cases h2 : k = r + 2
      · subst h2
        rw [st2_b]
      · rw [st2_k h h2]
  · intro j
    rfl
/-- a sound, or nothing -/
def vs (v : Nat) : Prop := v < 1000 ∧ (v = 0 ∨ 1 ≤ v % 100)
def opn (h : Hs) (p : Nat) : Prop := h 3 / 2 ^ p % 2 = 1
def WF (h : Hs) : Prop := h 0 ≤ 6 ∧ h 1 ≤ 9 ∧ h 2 ≤ 7 ∧ h 3 < 2 ^ h 2 ∧ (∀ p, p < h 2 → (1 ≤ h (5 + p) ∧ h (5 + p) ≤ 5) ∧ h (12 + p) < h 0 ∧ h (19 + p) < h 0 ∧ (1 ≤ h (26 + p) ∧ h (26 + p) ≤ 4) ∧ h (33 + p) ≤ 9) ∧ (∀ i, 40 ≤ i → i < 74 → vs (h i)) ∧ (∀ p k, p < 7 → k < 4 → (h 2 ≤ p ∨ h (26 + p) ≤ k) → h (40 + 4 * p + k) = 0)
theorem WF.taps {h : Hs} (w : WF h) : h 3 < 128 := by
  have h1 := w.2.2.2.1
  have h2 : 2 ^ h 2 ≤ 2 ^ 7 := Nat.pow_le_pow_right (by decide) w.2.2.1
  omega
section NET
variable {r : Nat} {σ : St} {f o : Nat → Int32} {h : Hs}
theorem n_take {k : Nat} {τ : St} : F_X4_take r k τ = some (cpyA τ k 0 (r + 1) 0 80) := by
  unfold F_X4_take
  simp (disch := omega) only [ixN, clN, nI_add, pk_mul, subN, divN, remN, leN, ltN, eqN, le0N, eq0N, lt0N, ge0N, gt0N, if_pos, if_neg, if_true, if_false, Option.bind_some, shrN, shlN, andN1, nI_or, andm1, modS, true_or, or_true]
  rfl
theorem n_stands (c : CR f h) (w : WF h) : F_X4_stands r (st2 r σ f o) = some (if h 0 = 0 then nI 0 else nI 1, st2 r σ f o) := by
  unfold F_X4_stands
  have h0 := w.1
  simp (disch := omega) only [ixN, clN, nI_add, pk_mul, subN, divN, remN, leN, ltN, eqN, le0N, eq0N, lt0N, ge0N, gt0N, if_pos, if_neg, if_true, if_false, Option.bind_some, shrN, shlN, andN1, nI_or, andm1, modS, true_or, or_true, st2_a, st2_b, st2_f, st2_A, st2_B, c 0 (by omega)]
  by_cases q : h 0 = 0
  · rw [if_pos q, if_pos q]
  · rw [if_neg q, if_neg q]
theorem n_isOpen (c : CR f h) (w : WF h) {p : Nat} (hp : p < 7) : F_X4_isOpen r (nI p) (st2 r σ f o) = some (if h 3 / 2 ^ p % 2 = 1 then nI 1 else nI 0, st2 r σ f o) := by
  unfold F_X4_isOpen
  have h0 := w.taps
  have h1 : h 3 / 2 ^ p ≤ h 3 := Nat.div_le_self _ _
  simp (disch := omega) only [ixN, clN, nI_add, pk_mul, subN, divN, remN, leN, ltN, eqN, le0N, eq0N, lt0N, ge0N, gt0N, if_pos, if_neg, if_true, if_false, Option.bind_some, shrN, shlN, andN1, nI_or, andm1, modS, true_or, or_true, st2_a, st2_b, st2_f, st2_A, st2_B, c 3 (by omega)]
  by_cases q : h 3 / 2 ^ p % 2 = 1
  · rw [if_pos q, if_pos q]
  · rw [if_neg q, if_neg q]
end NET
