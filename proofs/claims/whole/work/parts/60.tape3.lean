/-! the reader's tests: what each does where the text is as told, and where it isn't -/
/-- the reference has a fault k, at the place q -/
def BadM (τ : St) (k q : Nat) : Prop := τ.2 16 = nI k ∧ τ.2 17 = nI q ∧ 1 ≤ k ∧ k ≤ 3
theorem BadM.ne {τ : St} {k q : Nat} (b : BadM τ k q) : ¬ τ.2 16 = 0 := by
  obtain ⟨e, -, h1, h2⟩ := b
  rw [e, eq0N (by omega)]
  omega
def BadC (σ : St) (k q : Nat) : Prop := σ.2 2 = nI k ∧ σ.2 3 = nI q
def FrC (σ τ : St) : Prop := τ.1 = σ.1 ∧ ∀ j, j ≠ 2 → j ≠ 3 → j ≠ 4 → τ.2 j = σ.2 j
theorem FrC.rf (σ : St) : FrC σ σ := ⟨rfl, fun _ _ _ _ => rfl⟩
theorem FrC.tr {a b c : St} (h1 : FrC a b) (h2 : FrC b c) : FrC a c := ⟨h2.1.trans h1.1, fun j x y z => (h2.2 j x y z).trans (h1.2 j x y z)⟩
theorem FrC.F {σ τ : St} (h : FrC σ τ) {k : Nat} (v : Int32) (hk : 2 ≤ k ∧ k ≤ 4) : FrC σ (setF τ k v) := ⟨h.1, fun j x y z => by
  rw [setF_ne (by omega)]
  exact h.2 j x y z⟩
/-- the same but for the class's cursor -/
def FrK (σ τ : St) : Prop := τ.1 = σ.1 ∧ ∀ j, j ≠ 4 → τ.2 j = σ.2 j
theorem FrK.tr {a b c : St} (h1 : FrK a b) (h2 : FrK b c) : FrK a c := ⟨h2.1.trans h1.1, fun j x => (h2.2 j x).trans (h1.2 j x)⟩
theorem FrK.C {σ τ : St} (h : FrK σ τ) : FrC σ τ := ⟨h.1, fun j _ _ z => h.2 j z⟩
theorem FrK.to (σ : St) (v : Int32) : FrK σ (setF σ 4 v) := ⟨rfl, fun j h => setF_ne h⟩
theorem nI_nem {n : Nat} (h : n < 1000) : ¬ nI n = (-1000000 : Int32) := fun e => nI_pos (n := n) (by omega) (by rw [e]; decide)
section TAPE3
variable {σ τ : St} {B : Nat → Nat} {n p : Nat}
theorem b_must (h : ¬ τ.2 16 = 0) (a : Int32) : F_X8_must a τ = some τ := by
  unfold F_X8_must F_X8_bad J_X8_must_9
  by_cases z : a = 0
  · rw [if_pos z, if_neg h, Option.bind_some, if_neg h]
  · rw [if_neg z, if_neg h]
theorem b_j20 (h : ¬ τ.2 16 = 0) (a b : Int32) : J_X8_number_20 a b τ = some (a, τ) := by
  unfold J_X8_number_20 J_X8_number_47 J_X8_number_62
  rw [if_neg h, if_neg h, b_must h, Option.bind_some]
theorem b_number (h : ¬ τ.2 16 = 0) (a b : Int32) : F_X8_number a b τ = some (a, τ) := by
  unfold F_X8_number
  rw [if_neg h]
  exact b_j20 h a b
theorem b_sign (h : ¬ τ.2 16 = 0) (a : Int32) : F_X8_mustSign a τ = some τ := by
  unfold F_X8_mustSign J_X8_mustSign_21 J_X8_mustSign_22
  rw [b_must h, b_must h, Option.bind_some]
  split <;> first | rfl | (split <;> rfl)
theorem b_sort (h : ¬ τ.2 16 = 0) : F_X8_isSort τ = some (nI 0, τ) := by
  unfold F_X8_isSort
  rw [if_neg h]
theorem b_bad (h : ¬ τ.2 16 = 0) (a : Int32) : F_X8_bad a τ = some τ := by
  unfold F_X8_bad
  rw [if_neg h]
theorem m_bad {k : Nat} (h : τ.2 16 = nI 0) (e : τ.2 13 = nI p) : F_X8_bad (nI k) τ = some (setF (setF τ 16 (nI k)) 17 (nI p)) := by
  unfold F_X8_bad
  rw [if_pos (show τ.2 16 = 0 from h), setF_ne (by decide), e]
theorem bad_M {k : Nat} (hk : 1 ≤ k ∧ k ≤ 3) : BadM (setF (setF τ 16 (nI k)) 17 (nI p)) k p := ⟨by rw [setF_ne (by decide), setF_get], setF_get _ _ _, hk.1, hk.2⟩
theorem bad_F (k q : Nat) : FrT τ (setF (setF τ 16 (nI k)) 17 (nI q)) := ((FrT.rf τ).F _ (by omega)).F _ (by omega)
theorem m_must0 (t : TM τ B n p) : ∃ τ', F_X8_must (nI 0) τ = some τ' ∧ FrT τ τ' ∧ BadM τ' 1 p := by
  obtain ⟨tb, hp, e16, e13, -⟩ := t
  have b : BadM (setF (setF τ 16 (nI 1)) 17 (nI p)) 1 p := bad_M (by omega)
  refine ⟨_, ?_, bad_F 1 p, b⟩
  unfold F_X8_must J_X8_must_9
  rw [if_pos (show nI 0 = 0 from rfl), m_bad e16 e13, Option.bind_some, if_neg b.ne]
theorem m_must1 {q : Nat} (t : TM τ B n p) (e12 : τ.2 12 = nI q) (hq : q ≤ n) : ∃ τ', F_X8_must (nI 1) τ = some τ' ∧ FrT τ τ' ∧ TM τ' B n q := by
  obtain ⟨tb, hp, e16, e13, -⟩ := t
  obtain ⟨τ', h1, h2, h3⟩ := m_token tb e12 hq e16
  refine ⟨τ', ?_, h3, h2⟩
  unfold F_X8_must J_X8_must_9
  rw [if_neg (show ¬ nI 1 = 0 by decide), if_pos (show τ.2 16 = 0 from e16), h1, Option.bind_some]
/-- a sign or a letter, as the class passes it -/
theorem c_passes (c : TC σ B n p) {ch : Nat} (hc : ch < 256) : (p < n ∧ B p = ch ∧ ∃ σ', F_X6_passes (nI ch) σ = some (nI 1, σ') ∧ FrK σ σ' ∧ TC σ' B n (p + 1)) ∨ (¬ (p < n ∧ B p = ch) ∧ ∃ σ', F_X6_passes (nI ch) σ = some (nI 0, σ') ∧ FrC σ σ' ∧ BadC σ' 1 p) := by
  by_cases z : p < n ∧ B p = ch
  · refine Or.inl ⟨z.1, z.2, _, ?_, FrK.to σ _, c.go z.1⟩
    rw [← z.2]
    exact c_pass1 c z.1
  · exact Or.inr ⟨z, _, c_pass0 c hc z, ((FrC.rf σ).F _ (by omega)).F _ (by omega), by rw [setF_ne (by decide), setF_get], setF_get _ _ _⟩
theorem m_sign1 {ch : Nat} (t : TM τ B n p) (hc : ch = 44 ∨ ch = 59) (hp : p < n) (e : B p = ch) : ∃ τ', F_X8_mustSign (nI ch) τ = some τ' ∧ FrT τ τ' ∧ TM τ' B n (p + 1) := by
  obtain ⟨tb, -, e16, e13, z⟩ := id t
  rcases z with z | z | z | z | z
  · omega
  · omega
  · obtain ⟨-, -, e14, e15, e12⟩ := z
    obtain ⟨τ', h1, h2, h3⟩ := m_must1 t e12 (by omega)
    refine ⟨τ', ?_, h2, h3⟩
    unfold F_X8_mustSign J_X8_mustSign_22
    rw [e14, if_pos rfl, e15, e, if_pos rfl, h1, Option.bind_some]
  · omega
  · obtain ⟨-, -, y | y⟩ := z <;> omega
theorem m_sign0 {ch : Nat} (t : TM τ B n p) (hc : ch = 44 ∨ ch = 59) (h : ¬ (p < n ∧ B p = ch)) : ∃ τ', F_X8_mustSign (nI ch) τ = some τ' ∧ FrT τ τ' ∧ BadM τ' 1 p := by
  obtain ⟨τ', h1, h2, h3⟩ := m_must0 t
  refine ⟨τ', ?_, h2, h3⟩
  obtain ⟨tb, hp, e16, e13, z⟩ := id t
  unfold F_X8_mustSign J_X8_mustSign_21 J_X8_mustSign_22
  rcases z with z | z | z | z | z
  · rw [z.2, if_neg (by decide), h1, Option.bind_some]
  · rw [z.2.2.2.1, if_neg (by decide), h1, Option.bind_some]
  · obtain ⟨a, -, e14, e15, -⟩ := z
    have f2 := (tb.2.2 p a).2
    rw [e14, if_pos rfl, e15, if_neg (by rw [eqN (by omega) (by omega)]; omega), h1, Option.bind_some]
  · rw [z.2.2.2.1, if_neg (by decide), h1, Option.bind_some]
  · rw [z.2.1, if_neg (by decide), h1, Option.bind_some]
/-- a sign: both go on, or both have fault 1 here -/
theorem b_sg (c : TC σ B n p) (t : TM τ B n p) {ch : Nat} (hc : ch = 44 ∨ ch = 59) : (∃ σ' τ', F_X6_passes (nI ch) σ = some (nI 0, σ') ∧ FrC σ σ' ∧ BadC σ' 1 p ∧ F_X8_mustSign (nI ch) τ = some τ' ∧ FrT τ τ' ∧ BadM τ' 1 p) ∨ (∃ σ' τ', F_X6_passes (nI ch) σ = some (nI 1, σ') ∧ FrK σ σ' ∧ TC σ' B n (p + 1) ∧ F_X8_mustSign (nI ch) τ = some τ' ∧ FrT τ τ' ∧ TM τ' B n (p + 1)) := by
  rcases c_passes c (ch := ch) (by omega) with ⟨hp, e, σ', a1, a2, a3⟩ | ⟨h, σ', a1, a2, a3⟩
  · obtain ⟨τ', b1, b2, b3⟩ := m_sign1 t hc hp e
    exact Or.inr ⟨σ', τ', a1, a2, a3, b1, b2, b3⟩
  · obtain ⟨τ', b1, b2, b3⟩ := m_sign0 t hc h
    exact Or.inl ⟨σ', τ', a1, a2, a3, b1, b2, b3⟩
/-- the letter m -/
theorem b_m (c : TC σ B n p) (t : TM τ B n p) : (∃ σ' τ', F_X6_passes (nI 109) σ = some (nI 0, σ') ∧ FrC σ σ' ∧ BadC σ' 1 p ∧ ((F_X8_isLetter (nI 109) τ).bind fun z => F_X8_must z.1 z.2) = some τ' ∧ FrT τ τ' ∧ BadM τ' 1 p) ∨ (∃ σ' τ', F_X6_passes (nI 109) σ = some (nI 1, σ') ∧ FrK σ σ' ∧ TC σ' B n (p + 1) ∧ ((F_X8_isLetter (nI 109) τ).bind fun z => F_X8_must z.1 z.2) = some τ' ∧ FrT τ τ' ∧ TM τ' B n (p + 1)) := by
  obtain ⟨tb, -, e16, e13, z⟩ := id t
  rcases c_passes c (ch := 109) (by omega) with ⟨hp, e, σ', a1, a2, a3⟩ | ⟨h, σ', a1, a2, a3⟩
  · right
    rcases z with z | z | z | z | z
    · omega
    · obtain ⟨-, -, -, e14, e15, e12⟩ := z
      obtain ⟨τ', h1, h2, h3⟩ := m_must1 t e12 (by omega)
      refine ⟨σ', τ', a1, a2, a3, ?_, h2, h3⟩
      unfold F_X8_isLetter
      rw [if_pos (show τ.2 16 = 0 from e16), e14, if_pos rfl, e15, e, if_pos rfl, Option.bind_some]
      exact h1
    · omega
    · omega
    · obtain ⟨-, -, y | y⟩ := z <;> omega
  · left
    obtain ⟨τ', h1, h2, h3⟩ := m_must0 t
    refine ⟨σ', τ', a1, a2, a3, ?_, h2, h3⟩
    unfold F_X8_isLetter
    rw [if_pos (show τ.2 16 = 0 from e16)]
    rcases z with z | z | z | z | z
    · rw [z.2, if_neg (by decide), Option.bind_some]; exact h1
    · obtain ⟨a, -, -, e14, e15, -⟩ := z
      have f2 := (tb.2.2 p a).2
      rw [e14, if_pos rfl, e15, if_neg (by rw [eqN (by omega) (by omega)]; omega), Option.bind_some]; exact h1
    · rw [z.2.2.1, if_neg (by decide), Option.bind_some]; exact h1
    · rw [z.2.2.2.1, if_neg (by decide), Option.bind_some]; exact h1
    · rw [z.2.1, if_neg (by decide), Option.bind_some]; exact h1
theorem dl_pos (h : 1 ≤ dl B (n - p) p) : p < n ∧ (48 ≤ B p ∧ B p ≤ 57) := by
  rcases Nat.lt_or_ge p n with z | z
  · refine ⟨z, ?_⟩
    obtain ⟨m, hm⟩ : ∃ m, n - p = m + 1 := ⟨n - p - 1, by omega⟩
    rw [hm, dl] at h
    by_cases y : 48 ≤ B p ∧ B p ≤ 57
    · exact y
    · rw [if_neg y] at h; omega
  · rw [show n - p = 0 by omega, dl] at h
    omega
theorem dl_pos' (h1 : p < n) (h2 : 48 ≤ B p ∧ B p ≤ 57) : 1 ≤ dl B (n - p) p := by
  obtain ⟨m, hm⟩ : ∃ m, n - p = m + 1 := ⟨n - p - 1, by omega⟩
  rw [hm, dl, if_pos h2]
  omega
theorem TM.num (t : TM τ B n p) (h1 : 1 ≤ dl B (n - p) p) (h2 : dl B (n - p) p ≤ 2) : τ.2 14 = nI 3 ∧ τ.2 15 = dv B (n - p) p (nI 0) ∧ τ.2 12 = nI (p + dl B (n - p) p) := by
  obtain ⟨y1, y2⟩ := dl_pos h1
  obtain ⟨tb, -, e16, e13, z⟩ := t
  rcases z with z | z | z | z | z
  · omega
  · omega
  · omega
  · exact ⟨z.2.2.2.1, z.2.2.2.2.1, z.2.2.2.2.2⟩
  · obtain ⟨-, -, y | y⟩ := z
    · omega
    · exact absurd y2 y.2.1
theorem TM.non (t : TM τ B n p) (h : dl B (n - p) p = 0 ∨ 2 < dl B (n - p) p) : ¬ τ.2 14 = nI 3 := by
  obtain ⟨tb, -, e16, e13, z⟩ := t
  rcases z with z | z | z | z | z
  · rw [z.2]; decide
  · rw [z.2.2.2.1]; decide
  · rw [z.2.2.1]; decide
  · have := dl_pos' z.1 z.2.1
    have := z.2.2.1
    omega
  · rw [z.2.1]; decide
theorem m_num1 (t : TM τ B n p) (h : dl B (n - p) p = 0 ∨ 2 < dl B (n - p) p) (a b : Int32) : ∃ τ', F_X8_number a b τ = some (a, τ') ∧ FrT τ τ' ∧ BadM τ' 1 p := by
  have e14 := t.non h
  obtain ⟨tb, hp, e16, e13, -⟩ := t
  have bb : BadM (setF (setF τ 16 (nI 1)) 17 (nI p)) 1 p := bad_M (by omega)
  refine ⟨_, ?_, bad_F 1 p, bb⟩
  unfold F_X8_number
  rw [if_pos (show τ.2 16 = 0 from e16), if_neg e14, m_bad e16 e13, Option.bind_some]
  exact b_j20 bb.ne a b
theorem m_num2 (t : TM τ B n p) (h1 : 1 ≤ dl B (n - p) p) (h2 : dl B (n - p) p ≤ 2) {a b : Int32} (h : dv B (n - p) p (nI 0) < a ∨ b < dv B (n - p) p (nI 0)) : ∃ τ', F_X8_number a b τ = some (a, τ') ∧ FrT τ τ' ∧ BadM τ' 2 p := by
  obtain ⟨e14, e15, e12⟩ := t.num h1 h2
  obtain ⟨tb, hp, e16, e13, -⟩ := t
  have bb : BadM (setF (setF τ 16 (nI 2)) 17 (nI p)) 2 p := bad_M (by omega)
  refine ⟨_, ?_, bad_F 2 p, bb⟩
  unfold F_X8_number J_X8_number_20
  rw [if_pos (show τ.2 16 = 0 from e16), if_pos e14, if_pos (show τ.2 16 = 0 from e16), e15, m_in, if_pos h, Option.bind_some]
  show (if nI 0 = 0 then (F_X8_bad (nI 2) τ).bind _ else _) = _
  rw [if_pos (show nI 0 = 0 from rfl), m_bad e16 e13, Option.bind_some]
  unfold J_X8_number_47 J_X8_number_62
  rw [if_neg bb.ne, b_must bb.ne, Option.bind_some]
theorem m_num3 (t : TM τ B n p) (h1 : 1 ≤ dl B (n - p) p) (h2 : dl B (n - p) p ≤ 2) {a b : Int32} (h : ¬ (dv B (n - p) p (nI 0) < a ∨ b < dv B (n - p) p (nI 0))) : ∃ τ', F_X8_number a b τ = some (dv B (n - p) p (nI 0), τ') ∧ FrT τ τ' ∧ TM τ' B n (p + dl B (n - p) p) := by
  obtain ⟨e14, e15, e12⟩ := t.num h1 h2
  have y := dl_pos h1
  have dle := dl_le B (n - p) p
  obtain ⟨τ', g1, g2, g3⟩ := m_must1 t e12 (by omega)
  obtain ⟨tb, hp, e16, e13, -⟩ := t
  refine ⟨τ', ?_, g2, g3⟩
  unfold F_X8_number J_X8_number_20
  rw [if_pos (show τ.2 16 = 0 from e16), if_pos e14, if_pos (show τ.2 16 = 0 from e16), e15, m_in, if_neg h, Option.bind_some]
  show (if nI 1 = 0 then _ else J_X8_number_47 a τ) = _
  unfold J_X8_number_47 J_X8_number_62
  rw [if_neg (show ¬ nI 1 = 0 by decide), if_pos (show τ.2 16 = 0 from e16), e15, g1, Option.bind_some]
theorem TC.to (c : TC σ B n p) {q : Nat} (hq : q ≤ n) : TC (setF σ 4 (nI q)) B n q := by
  obtain ⟨a, b, d, e, f⟩ := c
  exact ⟨a, hq, by rw [setF_ne (by decide)]; exact d, setF_get _ _ _, f⟩
theorem c_num1 (c : TC σ B n p) (h : dl B (n - p) p = 0 ∨ 2 < dl B (n - p) p) (a b d : Int32) : ∃ σ', F_X6_number a b d σ = some (-1, σ') ∧ FrC σ σ' ∧ BadC σ' 1 p := ⟨_, by rw [c_number c, if_pos h], (((FrC.rf σ).F _ (by omega)).F _ (by omega)).F _ (by omega), by rw [setF_ne (by decide), setF_get], setF_get _ _ _⟩
theorem c_num2 (c : TC σ B n p) (h1 : 1 ≤ dl B (n - p) p) (h2 : dl B (n - p) p ≤ 2) {a b d : Int32} (h : dv B (n - p) p (nI 0) < a ∨ b < dv B (n - p) p (nI 0) ∨ dv B (n - p) p (nI 0) = d) : ∃ σ', F_X6_number a b d σ = some (-1, σ') ∧ FrC σ σ' ∧ BadC σ' 2 p := ⟨_, by rw [c_number c, if_neg (by omega), if_pos h], (((FrC.rf σ).F _ (by omega)).F _ (by omega)).F _ (by omega), by rw [setF_ne (by decide), setF_get], setF_get _ _ _⟩
theorem c_num3 (c : TC σ B n p) (h1 : 1 ≤ dl B (n - p) p) (h2 : dl B (n - p) p ≤ 2) {a b d : Int32} (h : ¬ (dv B (n - p) p (nI 0) < a ∨ b < dv B (n - p) p (nI 0) ∨ dv B (n - p) p (nI 0) = d)) : ∃ σ', F_X6_number a b d σ = some (dv B (n - p) p (nI 0), σ') ∧ FrK σ σ' ∧ TC σ' B n (p + dl B (n - p) p) := ⟨_, by rw [c_number c, if_neg (by omega), if_neg h], FrK.to σ _, c.to (by
  have y := dl_pos h1
  have dle := dl_le B (n - p) p
  omega)⟩
/-- a number from lo to hi: both go on with it, or both have the same fault here -/
theorem b_nm (c : TC σ B n p) (t : TM τ B n p) {lo hi : Nat} (hl : lo < 1000) (hh : hi < 1000) : (∃ k σ' τ', F_X6_number (nI lo) (nI hi) (-1) σ = some (-1, σ') ∧ FrC σ σ' ∧ BadC σ' k p ∧ F_X8_number (nI lo) (nI hi) τ = some (nI lo, τ') ∧ FrT τ τ' ∧ BadM τ' k p) ∨ (∃ v q σ' τ', lo ≤ v ∧ v ≤ hi ∧ p < q ∧ F_X6_number (nI lo) (nI hi) (-1) σ = some (nI v, σ') ∧ FrK σ σ' ∧ TC σ' B n q ∧ F_X8_number (nI lo) (nI hi) τ = some (nI v, τ') ∧ FrT τ τ' ∧ TM τ' B n q) := by
  by_cases h : dl B (n - p) p = 0 ∨ 2 < dl B (n - p) p
  · obtain ⟨σ', a1, a2, a3⟩ := c_num1 c h (nI lo) (nI hi) (-1)
    obtain ⟨τ', b1, b2, b3⟩ := m_num1 t h (nI lo) (nI hi)
    exact Or.inl ⟨1, σ', τ', a1, a2, a3, b1, b2, b3⟩
  by_cases y : dv B (n - p) p (nI 0) < nI lo ∨ nI hi < dv B (n - p) p (nI 0)
  · obtain ⟨σ', a1, a2, a3⟩ := c_num2 (d := -1) c (by omega) (by omega) (y.elim Or.inl (fun z => Or.inr (Or.inl z)))
    obtain ⟨τ', b1, b2, b3⟩ := m_num2 t (by omega) (by omega) y
    exact Or.inl ⟨2, σ', τ', a1, a2, a3, b1, b2, b3⟩
  · obtain ⟨v, h1, h2, ev⟩ := in_N (by omega) (by omega) y
    have y' : ¬ (dv B (n - p) p (nI 0) < nI lo ∨ nI hi < dv B (n - p) p (nI 0) ∨ dv B (n - p) p (nI 0) = -1) := by
      rintro (z | z | z)
      · exact y (Or.inl z)
      · exact y (Or.inr z)
      · rw [ev] at z
        exact nm1 (by omega) z
    obtain ⟨σ', a1, a2, a3⟩ := c_num3 c (by omega) (by omega) y'
    obtain ⟨τ', b1, b2, b3⟩ := m_num3 t (by omega) (by omega) y
    rw [ev] at a1 b1
    exact Or.inr ⟨v, _, σ', τ', h1, h2, by omega, a1, a2, a3, b1, b2, b3⟩
def chk (f : Int32) (τ : St) : Option St := if τ.2 16 = 0 then (if τ.2 14 = nI 3 then (if τ.2 15 = f then F_X8_bad (nI 2) τ else some τ) else some τ) else some τ
/-- a number from lo to hi, but not f -/
theorem b_to (c : TC σ B n p) (t : TM τ B n p) {hi f : Nat} (hh : hi < 1000) (hf : f ≤ hi) : (∃ k σ' τ0 τ', F_X6_number (nI 0) (nI hi) (nI f) σ = some (-1, σ') ∧ FrC σ σ' ∧ BadC σ' k p ∧ chk (nI f) τ = some τ0 ∧ FrT τ τ0 ∧ F_X8_number (nI 0) (nI hi) τ0 = some (nI 0, τ') ∧ FrT τ τ' ∧ BadM τ' k p) ∨ (∃ v q σ' τ', v ≤ hi ∧ p < q ∧ F_X6_number (nI 0) (nI hi) (nI f) σ = some (nI v, σ') ∧ FrK σ σ' ∧ TC σ' B n q ∧ chk (nI f) τ = some τ ∧ F_X8_number (nI 0) (nI hi) τ = some (nI v, τ') ∧ FrT τ τ' ∧ TM τ' B n q) := by
  obtain ⟨tb, hp, e16, e13, -⟩ := id t
  by_cases h : dl B (n - p) p = 0 ∨ 2 < dl B (n - p) p
  · obtain ⟨σ', a1, a2, a3⟩ := c_num1 c h (nI 0) (nI hi) (nI f)
    obtain ⟨τ', b1, b2, b3⟩ := m_num1 t h (nI 0) (nI hi)
    refine Or.inl ⟨1, σ', τ, τ', a1, a2, a3, ?_, FrT.rf τ, b1, b2, b3⟩
    unfold chk
    rw [if_pos (show τ.2 16 = 0 from e16), if_neg (t.non h)]
  obtain ⟨e14, e15, e12⟩ := t.num (by omega) (by omega)
  by_cases y0 : dv B (n - p) p (nI 0) = nI f
  · obtain ⟨σ', a1, a2, a3⟩ := c_num2 (a := nI 0) (b := nI hi) (d := nI f) c (by omega) (by omega) (Or.inr (Or.inr y0))
    have bb : BadM (setF (setF τ 16 (nI 2)) 17 (nI p)) 2 p := bad_M (by omega)
    refine Or.inl ⟨2, σ', setF (setF τ 16 (nI 2)) 17 (nI p), setF (setF τ 16 (nI 2)) 17 (nI p), a1, a2, a3, ?_, bad_F 2 p, b_number bb.ne _ _, bad_F 2 p, bb⟩
    unfold chk
    rw [if_pos (show τ.2 16 = 0 from e16), if_pos e14, e15, if_pos y0, m_bad e16 e13]
  have ck : chk (nI f) τ = some τ := by
    unfold chk
    rw [if_pos (show τ.2 16 = 0 from e16), if_pos e14, e15, if_neg y0]
  by_cases y : dv B (n - p) p (nI 0) < nI 0 ∨ nI hi < dv B (n - p) p (nI 0)
  · obtain ⟨σ', a1, a2, a3⟩ := c_num2 (d := nI f) c (by omega) (by omega) (y.elim Or.inl (fun z => Or.inr (Or.inl z)))
    obtain ⟨τ', b1, b2, b3⟩ := m_num2 t (by omega) (by omega) y
    exact Or.inl ⟨2, σ', τ, τ', a1, a2, a3, ck, FrT.rf τ, b1, b2, b3⟩
  · obtain ⟨v, h1, h2, ev⟩ := in_N (by omega) (by omega) y
    have y' : ¬ (dv B (n - p) p (nI 0) < nI 0 ∨ nI hi < dv B (n - p) p (nI 0) ∨ dv B (n - p) p (nI 0) = nI f) := by
      rintro (z | z | z)
      · exact y (Or.inl z)
      · exact y (Or.inr z)
      · exact y0 z
    obtain ⟨σ', a1, a2, a3⟩ := c_num3 c (by omega) (by omega) y'
    obtain ⟨τ', b1, b2, b3⟩ := m_num3 t (by omega) (by omega) y
    rw [ev] at a1 b1
    exact Or.inr ⟨v, _, σ', τ', h2, by omega, a1, a2, a3, ck, b1, b2, b3⟩
theorem kl_le (b : Nat) : kl b ≤ 5 := by
  unfold kl
  repeat' split
  all_goals omega
theorem kl_letter {b : Nat} (h : kl b ≠ 0) : 97 ≤ b ∧ b ≤ 122 := by
  unfold kl at h
  by_cases z1 : b = 98
  · omega
  by_cases z2 : b = 100
  · omega
  by_cases z3 : b = 110
  · omega
  by_cases z4 : b = 108
  · omega
  by_cases z5 : b = 111
  · omega
  rw [if_neg z1, if_neg z2, if_neg z3, if_neg z4, if_neg z5] at h
  exact absurd rfl h
theorem m_kindBy {b : Nat} (hb : b < 256) (τ : St) : F_X8_kindBy (nI b) τ = some (if kl b = 0 then (-1000000 : Int32) else nI (kl b), τ) := by
  unfold F_X8_kindBy kl
  by_cases z1 : b = 98
  · simp (disch := omega) only [ixN, clN, nI_add, pk_mul, subN, divN, remN, leN, ltN, eqN, le0N, eq0N, lt0N, ge0N, gt0N, if_pos, if_neg, if_true, if_false, Option.bind_some, shrN, shlN, andN1, nI_or, andm1, modS, true_or, or_true, z1]
  by_cases z2 : b = 100
  · simp (disch := omega) only [ixN, clN, nI_add, pk_mul, subN, divN, remN, leN, ltN, eqN, le0N, eq0N, lt0N, ge0N, gt0N, if_pos, if_neg, if_true, if_false, Option.bind_some, shrN, shlN, andN1, nI_or, andm1, modS, true_or, or_true, z2]
  by_cases z3 : b = 110
  · simp (disch := omega) only [ixN, clN, nI_add, pk_mul, subN, divN, remN, leN, ltN, eqN, le0N, eq0N, lt0N, ge0N, gt0N, if_pos, if_neg, if_true, if_false, Option.bind_some, shrN, shlN, andN1, nI_or, andm1, modS, true_or, or_true, z3]
  by_cases z4 : b = 108
  · simp (disch := omega) only [ixN, clN, nI_add, pk_mul, subN, divN, remN, leN, ltN, eqN, le0N, eq0N, lt0N, ge0N, gt0N, if_pos, if_neg, if_true, if_false, Option.bind_some, shrN, shlN, andN1, nI_or, andm1, modS, true_or, or_true, z4]
  by_cases z5 : b = 111
  · simp (disch := omega) only [ixN, clN, nI_add, pk_mul, subN, divN, remN, leN, ltN, eqN, le0N, eq0N, lt0N, ge0N, gt0N, if_pos, if_neg, if_true, if_false, Option.bind_some, shrN, shlN, andN1, nI_or, andm1, modS, true_or, or_true, z5]
  simp (disch := omega) only [ixN, clN, nI_add, pk_mul, subN, divN, remN, leN, ltN, eqN, le0N, eq0N, lt0N, ge0N, gt0N, if_pos, if_neg, if_true, if_false, Option.bind_some, shrN, shlN, andN1, nI_or, andm1, modS, true_or, or_true]
theorem m_sort1 (t : TM τ B n p) (hp : p < n) (hk : kl (B p) ≠ 0) : F_X8_isSort τ = some (nI 1, τ) ∧ τ.2 15 = nI (B p) ∧ τ.2 12 = nI (p + 1) := by
  have hl := kl_letter hk
  obtain ⟨tb, -, e16, e13, z⟩ := id t
  have f2 := (tb.2.2 p hp).2
  rcases z with z | z | z | z | z
  · omega
  · obtain ⟨-, -, -, e14, e15, e12⟩ := z
    refine ⟨?_, e15, e12⟩
    unfold F_X8_isSort
    rw [if_pos (show τ.2 16 = 0 from e16), if_pos e14, e15, m_kindBy f2, if_neg hk, Option.bind_some]
    show (if nI (kl (B p)) = -1000000 then some (nI 0, τ) else some (nI 1, τ)) = _
    have := kl_le (B p)
    rw [if_neg (nI_nem (by omega))]
  · omega
  · omega
  · obtain ⟨-, -, y | y⟩ := z
    · omega
    · exact absurd hl y.1
theorem m_sort0 (t : TM τ B n p) (h : ¬ (p < n ∧ kl (B p) ≠ 0)) : F_X8_isSort τ = some (nI 0, τ) := by
  obtain ⟨tb, hp, e16, e13, z⟩ := id t
  unfold F_X8_isSort
  rw [if_pos (show τ.2 16 = 0 from e16)]
  rcases z with z | z | z | z | z
  · rw [z.2, if_neg (by decide)]
  · obtain ⟨a, -, -, e14, e15, -⟩ := z
    have f2 := (tb.2.2 p a).2
    have h0 : kl (B p) = 0 := Classical.byContradiction (fun y => h ⟨a, y⟩)
    rw [if_pos e14, e15, m_kindBy f2, if_pos h0, Option.bind_some]
    show (if (-1000000 : Int32) = -1000000 then some (nI 0, τ) else some (nI 1, τ)) = _
    rw [if_pos rfl]
  · rw [z.2.2.1, if_neg (by decide)]
  · rw [z.2.2.2.1, if_neg (by decide)]
  · rw [z.2.1, if_neg (by decide)]
end TAPE3
