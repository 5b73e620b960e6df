/-! the tape, as the class reads it -/
/-- the tape holds the n bytes B, and the class stands at p -/
def TC (σ : St) (B : Nat → Nat) (n p : Nat) : Prop := n ≤ 120 ∧ p ≤ n ∧ σ.2 1 = nI n ∧ σ.2 4 = nI p ∧ ∀ i, i < n → σ.1 22 i = nI (B i) ∧ B i < 256
def kl (b : Nat) : Nat := if b = 98 then 1 else if b = 100 then 2 else if b = 110 then 3 else if b = 108 then 4 else if b = 111 then 5 else 0
section TAPE
variable {σ : St} {B : Nat → Nat} {n p : Nat}
theorem TC.go (c : TC σ B n p) (h : p < n) : TC (setF σ 4 (nI (p + 1))) B n (p + 1) := by
  obtain ⟨a, b, d, e, f⟩ := c
  exact ⟨a, by omega, by rw [setF_ne (by decide)]; exact d, setF_get _ _ _, f⟩
theorem c_refuse (a b : Int32) (τ : St) : F_X6_refuse a b τ = some (nI 0, setF (setF τ 2 a) 3 b) := rfl
theorem c_pass1 (c : TC σ B n p) (h : p < n) : F_X6_passes (nI (B p)) σ = some (nI 1, setF σ 4 (nI (p + 1))) := by
  obtain ⟨a, b, d, e, f⟩ := c
  have f1 := (f p h).1
  have f2 := (f p h).2
  unfold F_X6_passes
  simp (disch := omega) only [ixN, clN, nI_add, pk_mul, subN, divN, remN, leN, ltN, eqN, le0N, eq0N, lt0N, ge0N, gt0N, if_pos, if_neg, if_true, if_false, Option.bind_some, shrN, shlN, andN1, nI_or, andm1, modS, true_or, or_true, d, e, f1]
theorem c_pass0 (c : TC σ B n p) {ch : Nat} (hc : ch < 256) (h : ¬ (p < n ∧ B p = ch)) : F_X6_passes (nI ch) σ = some (nI 0, setF (setF σ 2 (nI 1)) 3 (nI p)) := by
  obtain ⟨a, b, d, e, f⟩ := c
  have J : J_X6_passes_24 σ = some (nI 0, setF (setF σ 2 (nI 1)) 3 (nI p)) := by
    unfold J_X6_passes_24
    rw [c_refuse, Option.bind_some, e]
    exact if_pos (Or.inl rfl)
  unfold F_X6_passes
  by_cases z : p < n
  · have f1 := (f p z).1
    have f2 := (f p z).2
    have ne : ¬ B p = ch := fun y => h ⟨z, y⟩
    simp (disch := omega) only [ixN, clN, nI_add, pk_mul, subN, divN, remN, leN, ltN, eqN, le0N, eq0N, lt0N, ge0N, gt0N, if_pos, if_neg, if_true, if_false, Option.bind_some, shrN, shlN, andN1, nI_or, andm1, modS, true_or, or_true, d, e, f1, J]
  · simp (disch := omega) only [ixN, clN, nI_add, pk_mul, subN, divN, remN, leN, ltN, eqN, le0N, eq0N, lt0N, ge0N, gt0N, if_pos, if_neg, if_true, if_false, Option.bind_some, shrN, shlN, andN1, nI_or, andm1, modS, true_or, or_true, d, e, J]
theorem c_letter {b : Nat} (hb : b < 256) (τ : St) : F_X3_ofLetter (nI b) τ = some (nI (kl b), τ) := by
  unfold F_X3_ofLetter kl
  obtain ⟨N, hN⟩ : ∃ N, fuel = N + 7 := ⟨fuel - 7, by have := fuel_ge; omega⟩
  rw [hN]
  have s1 : stV 1 1 = nI 98 := rfl
  have s2 : stV 1 2 = nI 100 := rfl
  have s3 : stV 1 3 = nI 110 := rfl
  have s4 : stV 1 4 = nI 108 := rfl
  have s5 : stV 1 5 = nI 111 := rfl
  by_cases z1 : b = 98
  · rw [L_X3_ofLetter_2.eq_2]
    simp (disch := omega) only [ixN, clN, nI_add, pk_mul, subN, divN, remN, leN, ltN, eqN, le0N, eq0N, lt0N, ge0N, gt0N, if_pos, if_neg, if_true, if_false, Option.bind_some, shrN, shlN, andN1, nI_or, andm1, modS, true_or, or_true, s1, z1]
  by_cases z2 : b = 100
  · rw [L_X3_ofLetter_2.eq_2, L_X3_ofLetter_2.eq_2]
    simp (disch := omega) only [ixN, clN, nI_add, pk_mul, subN, divN, remN, leN, ltN, eqN, le0N, eq0N, lt0N, ge0N, gt0N, if_pos, if_neg, if_true, if_false, Option.bind_some, shrN, shlN, andN1, nI_or, andm1, modS, true_or, or_true, s1, s2, z2]
  by_cases z3 : b = 110
  · rw [L_X3_ofLetter_2.eq_2, L_X3_ofLetter_2.eq_2, L_X3_ofLetter_2.eq_2]
    simp (disch := omega) only [ixN, clN, nI_add, pk_mul, subN, divN, remN, leN, ltN, eqN, le0N, eq0N, lt0N, ge0N, gt0N, if_pos, if_neg, if_true, if_false, Option.bind_some, shrN, shlN, andN1, nI_or, andm1, modS, true_or, or_true, s1, s2, s3, z3]
  by_cases z4 : b = 108
  · rw [L_X3_ofLetter_2.eq_2, L_X3_ofLetter_2.eq_2, L_X3_ofLetter_2.eq_2, L_X3_ofLetter_2.eq_2]
    simp (disch := omega) only [ixN, clN, nI_add, pk_mul, subN, divN, remN, leN, ltN, eqN, le0N, eq0N, lt0N, ge0N, gt0N, if_pos, if_neg, if_true, if_false, Option.bind_some, shrN, shlN, andN1, nI_or, andm1, modS, true_or, or_true, s1, s2, s3, s4, z4]
  by_cases z5 : b = 111
  · rw [L_X3_ofLetter_2.eq_2, L_X3_ofLetter_2.eq_2, L_X3_ofLetter_2.eq_2, L_X3_ofLetter_2.eq_2, L_X3_ofLetter_2.eq_2]
    simp (disch := omega) only [ixN, clN, nI_add, pk_mul, subN, divN, remN, leN, ltN, eqN, le0N, eq0N, lt0N, ge0N, gt0N, if_pos, if_neg, if_true, if_false, Option.bind_some, shrN, shlN, andN1, nI_or, andm1, modS, true_or, or_true, s1, s2, s3, s4, s5, z5]
  · rw [L_X3_ofLetter_2.eq_2, L_X3_ofLetter_2.eq_2, L_X3_ofLetter_2.eq_2, L_X3_ofLetter_2.eq_2, L_X3_ofLetter_2.eq_2, L_X3_ofLetter_2.eq_2]
    simp (disch := omega) only [ixN, clN, nI_add, pk_mul, subN, divN, remN, leN, ltN, eqN, le0N, eq0N, lt0N, ge0N, gt0N, if_pos, if_neg, if_true, if_false, Option.bind_some, shrN, shlN, andN1, nI_or, andm1, modS, true_or, or_true, s1, s2, s3, s4, s5]
/-- how many digits stand from p on, and what they come to -/
def dl (B : Nat → Nat) : Nat → Nat → Nat
  | 0, _ => 0
  | m + 1, p => if (48 ≤ B p ∧ B p ≤ 57) then dl B m (p + 1) + 1 else 0
def dv (B : Nat → Nat) : Nat → Nat → Int32 → Int32
  | 0, _, v => v
  | m + 1, p, v => if (48 ≤ B p ∧ B p ≤ 57) then dv B m (p + 1) (nI 10 * v + nI (B p) - nI 48) else v
theorem c_digits {a1 a2 a3 a4 : Int32} : ∀ (m N p : Nat) (v : Int32) (σ : St), p + m = n → m < N → TC σ B n p → ∀ K, L_X6_number_9 K N a1 a2 a3 a4 v σ = K a1 a2 a3 a4 (dv B m p v) (setF σ 4 (nI (p + dl B m p))) := by
  intro m
  induction m with
  | zero =>
    intro N p v σ hp hN c K
    obtain ⟨N, rfl⟩ : ∃ n', N = n' + 1 := ⟨N - 1, by omega⟩
    obtain ⟨a, b, d, e, f⟩ := c
    have es : setF σ 4 (nI p) = σ := by
      apply St.ext
      · intro j; rfl
      · intro j
        by_cases q : j = 4
        · rw [q, setF_get, e]
        · rw [setF_ne q]
    rw [L_X6_number_9.eq_2, d, e, if_pos (nI_le (by omega) (by omega))]
    show K a1 a2 a3 a4 v σ = K a1 a2 a3 a4 v (setF σ 4 (nI p))
    rw [es]
  | succ m ih =>
    intro N p v σ hp hN c K
    obtain ⟨N, rfl⟩ : ∃ n', N = n' + 1 := ⟨N - 1, by omega⟩
    have c' := c.go (by omega)
    obtain ⟨a, b, d, e, f⟩ := c
    have f1 := (f p (by omega)).1
    have f2 := (f p (by omega)).2
    rw [L_X6_number_9.eq_2, dv, dl]
    by_cases z : (48 ≤ B p ∧ B p ≤ 57)
    · have z' : 48 ≤ B p ∧ B p ≤ 57 := z
      rw [if_pos z, if_pos z]
      simp (disch := omega) only [ixN, clN, nI_add, pk_mul, subN, divN, remN, leN, ltN, eqN, le0N, eq0N, lt0N, ge0N, gt0N, if_pos, if_neg, if_true, if_false, Option.bind_some, shrN, shlN, andN1, nI_or, andm1, modS, true_or, or_true, d, e, f1]
      rw [ih N (p + 1) _ _ (by omega) (by omega) c', setF_setF, show p + 1 + dl B m (p + 1) = p + (dl B m (p + 1) + 1) by omega]
    · have z' : B p < 48 ∨ 57 < B p := by
        have : ¬ (48 ≤ B p ∧ B p ≤ 57) := z
        omega
      have es : setF σ 4 (nI (p + 0)) = σ := by
        apply St.ext
        · intro j; rfl
        · intro j
          by_cases q : j = 4
          · rw [q, setF_get, e, Nat.add_zero]
          · rw [setF_ne q]
      rw [if_neg z, if_neg z, es]
      by_cases z1 : B p < 48
      · simp (disch := omega) only [ixN, clN, nI_add, pk_mul, subN, divN, remN, leN, ltN, eqN, le0N, eq0N, lt0N, ge0N, gt0N, if_pos, if_neg, if_true, if_false, Option.bind_some, shrN, shlN, andN1, nI_or, andm1, modS, true_or, or_true, d, e, f1]
      · simp (disch := omega) only [ixN, clN, nI_add, pk_mul, subN, divN, remN, leN, ltN, eqN, le0N, eq0N, lt0N, ge0N, gt0N, if_pos, if_neg, if_true, if_false, Option.bind_some, shrN, shlN, andN1, nI_or, andm1, modS, true_or, or_true, d, e, f1]
theorem dl_le (B : Nat → Nat) : ∀ m p, dl B m p ≤ m := by
  intro m
  induction m with
  | zero => intro p; exact Nat.le_refl _
  | succ m ih =>
    intro p
    have := ih (p + 1)
    rw [dl]
    split <;> omega
theorem c_number (c : TC σ B n p) (a1 a2 a3 : Int32) : F_X6_number a1 a2 a3 σ = (if dl B (n - p) p = 0 ∨ 2 < dl B (n - p) p then some ((-1 : Int32), setF (setF (setF σ 4 (nI (p + dl B (n - p) p))) 2 (nI 1)) 3 (nI p)) else if dv B (n - p) p (nI 0) < a1 ∨ a2 < dv B (n - p) p (nI 0) ∨ dv B (n - p) p (nI 0) = a3 then some ((-1 : Int32), setF (setF (setF σ 4 (nI (p + dl B (n - p) p))) 2 (nI 2)) 3 (nI p)) else some (dv B (n - p) p (nI 0), setF σ 4 (nI (p + dl B (n - p) p)))) := by
  have hf := fuel_ge
  have hl := dl_le B (n - p) p
  have c' := c
  obtain ⟨a, b, d, e, f⟩ := c'
  unfold F_X6_number
  rw [e, c_digits (n - p) fuel p (nI 0) σ (by omega) (by omega) c, setF_get]
  by_cases z0 : dl B (n - p) p = 0
  · rw [if_pos (Or.inl z0), if_pos (show nI (p + dl B (n - p) p) = nI p by rw [z0]; rfl)]
    rfl
  · rw [if_neg (show ¬ nI (p + dl B (n - p) p) = nI p by rw [eqN (by omega) (by omega)]; omega), subN (by omega), show p + dl B (n - p) p - p = dl B (n - p) p by omega]
    by_cases z2 : 2 < dl B (n - p) p
    · rw [if_pos (Or.inr z2), if_neg (by rw [leN (by omega) (by omega)]; omega)]
      rfl
    · rw [if_pos (show nI (dl B (n - p) p) ≤ nI 2 from nI_le (by omega) (by omega)), if_neg (show ¬ (dl B (n - p) p = 0 ∨ 2 < dl B (n - p) p) from fun y => y.elim z0 z2)]
      by_cases y1 : dv B (n - p) p (nI 0) < a1
      · rw [if_pos y1, if_pos (Or.inl y1)]; rfl
      · rw [if_neg y1]
        by_cases y2 : a2 < dv B (n - p) p (nI 0)
        · rw [if_pos y2, if_pos (Or.inr (Or.inl y2))]; rfl
        · rw [if_neg y2]
          by_cases y3 : dv B (n - p) p (nI 0) = a3
          · rw [if_pos y3, if_pos (Or.inr (Or.inr y3))]; rfl
          · rw [if_neg y3, if_neg (fun y => y.elim y1 (fun y => y.elim y2 y3))]
end TAPE
