/-! the tape, as the reference reads it -/
/-- the same but for the reader's fields -/
def FrT (σ τ : St) : Prop := τ.1 = σ.1 ∧ ∀ j, (j < 12 ∨ 17 < j) → τ.2 j = σ.2 j
theorem FrT.rf (σ : St) : FrT σ σ := ⟨rfl, fun _ _ => rfl⟩
theorem FrT.tr {a b c : St} (h1 : FrT a b) (h2 : FrT b c) : FrT a c := ⟨h2.1.trans h1.1, fun j hj => (h2.2 j hj).trans (h1.2 j hj)⟩
theorem FrT.F {σ τ : St} (h : FrT σ τ) {k : Nat} (v : Int32) (hk : 12 ≤ k ∧ k ≤ 17) : FrT σ (setF τ k v) := ⟨h.1, fun j hj => by
  rw [setF_ne (by omega)]
  exact h.2 j hj⟩
def TB (τ : St) (B : Nat → Nat) (n : Nat) : Prop := n ≤ 120 ∧ τ.2 11 = nI n ∧ ∀ i, i < n → τ.1 33 i = nI (B i) ∧ B i < 256
theorem TB.fr {σ τ : St} {B : Nat → Nat} {n : Nat} (t : TB σ B n) (f : FrT σ τ) : TB τ B n := ⟨t.1, by rw [f.2 11 (by omega)]; exact t.2.1, by rw [f.1]; exact t.2.2⟩
/-- the reference stands at p, with the token that begins there -/
def TM (τ : St) (B : Nat → Nat) (n p : Nat) : Prop := TB τ B n ∧ p ≤ n ∧ τ.2 16 = nI 0 ∧ τ.2 13 = nI p ∧ ((p = n ∧ τ.2 14 = nI 1) ∨ (p < n ∧ 97 ≤ B p ∧ B p ≤ 122 ∧ τ.2 14 = nI 2 ∧ τ.2 15 = nI (B p) ∧ τ.2 12 = nI (p + 1)) ∨ (p < n ∧ (B p = 44 ∨ B p = 59) ∧ τ.2 14 = nI 4 ∧ τ.2 15 = nI (B p) ∧ τ.2 12 = nI (p + 1)) ∨ (p < n ∧ (48 ≤ B p ∧ B p ≤ 57) ∧ dl B (n - p) p ≤ 2 ∧ τ.2 14 = nI 3 ∧ τ.2 15 = dv B (n - p) p (nI 0) ∧ τ.2 12 = nI (p + dl B (n - p) p)) ∨ (p < n ∧ τ.2 14 = nI 0 ∧ (((48 ≤ B p ∧ B p ≤ 57) ∧ 2 < dl B (n - p) p) ∨ (¬ (97 ≤ B p ∧ B p ≤ 122) ∧ ¬ (48 ≤ B p ∧ B p ≤ 57) ∧ B p ≠ 44 ∧ B p ≠ 59))))
section TAPE2
variable {τ : St} {B : Nat → Nat} {n p : Nat}
theorem m_digits : ∀ (m N q : Nat) (τ : St) (v : Int32), q + m = n → m < N → TB τ B n → τ.2 12 = nI q → τ.2 13 = nI p → p < q → τ.2 15 = v → ∃ τ', (∀ K, L_X8_nextToken_165 K N τ = K τ') ∧ FrT τ τ' ∧ τ'.2 12 = nI (q + dl B m q) ∧ τ'.2 13 = nI p ∧ τ'.2 16 = τ.2 16 ∧ (q + dl B m q - p ≤ 2 → τ'.2 15 = dv B m q v) := by
  intro m
  induction m with
  | zero =>
    intro N q τ v hq hN t e12 e13 hp e15
    obtain ⟨N, rfl⟩ : ∃ n', N = n' + 1 := ⟨N - 1, by omega⟩
    obtain ⟨hn, e11, eb⟩ := t
    refine ⟨τ, fun K => ?_, FrT.rf τ, e12, e13, rfl, fun _ => e15⟩
    rw [L_X8_nextToken_165.eq_2, e11, e12, if_pos (nI_le (by omega) (by omega))]
  | succ m ih =>
    intro N q τ v hq hN t e12 e13 hp e15
    obtain ⟨N, rfl⟩ : ∃ n', N = n' + 1 := ⟨N - 1, by omega⟩
    obtain ⟨hn, e11, eb⟩ := id t
    have f1 := (eb q (by omega)).1
    have f2 := (eb q (by omega)).2
    by_cases z : 48 ≤ B q ∧ B q ≤ 57
    · have q1 : ¬ (nI (B q) < nI 48 ∨ nI 57 < nI (B q)) := by
        rw [ltN (by omega) (by omega), ltN (by omega) (by omega)]; omega
      rw [dl, dv, if_pos z, if_pos z]
      have e12' : ∀ s, (setF τ 15 s).2 12 = nI q := fun s => by rw [setF_ne (by decide)]; exact e12
      have go : ∀ s : Int32, (∃ τ', (∀ K, L_X8_nextToken_165 K N (setF (setF τ 15 s) 12 (nI (q + 1))) = K τ') ∧ FrT τ τ' ∧ τ'.2 12 = nI (q + 1 + dl B m (q + 1)) ∧ τ'.2 13 = nI p ∧ τ'.2 16 = τ.2 16 ∧ (q + 1 + dl B m (q + 1) - p ≤ 2 → τ'.2 15 = dv B m (q + 1) s)) := fun s => by
        have fr : FrT τ (setF (setF τ 15 s) 12 (nI (q + 1))) := ((FrT.rf τ).F _ (by omega)).F _ (by omega)
        obtain ⟨τ', l1, l2, l3, l4, l5, l6⟩ := ih N (q + 1) (setF (setF τ 15 s) 12 (nI (q + 1))) s (by omega) (by omega) (t.fr fr) (setF_get _ _ _) (by rw [setF_ne (by decide), setF_ne (by decide)]; exact e13) (by omega) (by rw [setF_ne (by decide), setF_get])
        exact ⟨τ', l1, fr.tr l2, l3, l4, l5.trans (by rw [setF_ne (by decide), setF_ne (by decide)]), l6⟩
      by_cases z2 : 2 ≤ q - p
      · obtain ⟨τ', l1, l2, l3, l4, l5, l6⟩ := go v
        refine ⟨τ', fun K => ?_, l2, by rw [l3, show q + 1 + dl B m (q + 1) = q + (dl B m (q + 1) + 1) by omega], l4, l5, fun y => by omega⟩
        rw [L_X8_nextToken_165.eq_2]
        simp (disch := omega) only [ixN, clN, nI_add, pk_mul, subN, divN, remN, leN, ltN, eqN, le0N, eq0N, lt0N, ge0N, gt0N, if_pos, if_neg, if_true, if_false, Option.bind_some, shrN, shlN, andN1, nI_or, andm1, modS, true_or, or_true, e11, e12, e13, e15, f1, m_in1 q1, J_X8_nextToken_239, e12', l1]
      · obtain ⟨τ', l1, l2, l3, l4, l5, l6⟩ := go (nI 10 * v + nI (B q) - nI 48)
        refine ⟨τ', fun K => ?_, l2, by rw [l3, show q + 1 + dl B m (q + 1) = q + (dl B m (q + 1) + 1) by omega], l4, l5, fun y => l6 (by omega)⟩
        rw [L_X8_nextToken_165.eq_2]
        simp (disch := omega) only [ixN, clN, nI_add, pk_mul, subN, divN, remN, leN, ltN, eqN, le0N, eq0N, lt0N, ge0N, gt0N, if_pos, if_neg, if_true, if_false, Option.bind_some, shrN, shlN, andN1, nI_or, andm1, modS, true_or, or_true, e11, e12, e13, e15, f1, m_in1 q1, J_X8_nextToken_239, e12', l1]
    · have q0 : nI (B q) < nI 48 ∨ nI 57 < nI (B q) := by
        rw [ltN (by omega) (by omega), ltN (by omega) (by omega)]; omega
      rw [dl, dv, if_neg z, if_neg z]
      refine ⟨τ, fun K => ?_, FrT.rf τ, e12, e13, rfl, fun _ => e15⟩
      rw [L_X8_nextToken_165.eq_2]
      simp (disch := omega) only [ixN, clN, nI_add, pk_mul, subN, divN, remN, leN, ltN, eqN, le0N, eq0N, lt0N, ge0N, gt0N, if_pos, if_neg, if_true, if_false, Option.bind_some, shrN, shlN, andN1, nI_or, andm1, modS, true_or, or_true, e11, e12, e13, e15, f1, m_in0 q0]
theorem t118 {ρ : St} {s : Nat} (h11 : ρ.2 11 = nI n) (h12 : ρ.2 12 = nI p) (hp : p < n) (hn : n ≤ 120) (hs : s ≠ 3) (h5 : s < 5) : J_X8_nextToken_118 (nI s) ρ = some (setF (setF ρ 14 (nI s)) 12 (nI (p + 1))) := by
  have g11 : (setF ρ 14 (nI s)).2 11 = nI n := by rw [setF_ne (by decide)]; exact h11
  have g12 : (setF ρ 14 (nI s)).2 12 = nI p := by rw [setF_ne (by decide)]; exact h12
  unfold J_X8_nextToken_118
  rw [g11, g12, if_neg (by rw [leN (by omega) (by omega)]; omega)]
  unfold J_X8_nextToken_142
  rw [setF_ne (by decide), setF_get, if_neg (by rw [eqN (by omega) (by omega)]; exact hs), nI_add]
theorem t118d {ρ : St} {b : Int32} (h11 : ρ.2 11 = nI n) (h12 : ρ.2 12 = nI p) (h15 : ρ.2 15 = b) (hp : p < n) (hn : n ≤ 120) : J_X8_nextToken_118 (nI 3) ρ = L_X8_nextToken_165 (fun σ => if ((σ.2 12) - (σ.2 13)) ≤ (nI 2) then (some (setF σ 14 (nI 3))) else (some (setF σ 14 (nI 0)))) fuel (setF (setF (setF ρ 14 (nI 3)) 12 (nI (p + 1))) 15 (b - nI 48)) := by
  have g11 : (setF ρ 14 (nI 3)).2 11 = nI n := by rw [setF_ne (by decide)]; exact h11
  have g12 : (setF ρ 14 (nI 3)).2 12 = nI p := by rw [setF_ne (by decide)]; exact h12
  have g15 : ∀ x, (setF (setF ρ 14 (nI 3)) 12 x).2 15 = b := fun x => by rw [setF_ne (by decide), setF_ne (by decide)]; exact h15
  unfold J_X8_nextToken_118
  rw [g11, g12, if_neg (by rw [leN (by omega) (by omega)]; omega)]
  unfold J_X8_nextToken_142
  rw [setF_ne (by decide), setF_get, if_pos rfl, nI_add, g15]
theorem t34 {ρ : St} {b : Nat} (h11 : ρ.2 11 = nI n) (h12 : ρ.2 12 = nI p) (hp : p < n) (hn : n ≤ 120) (hb : b < 256) : J_X8_nextToken_34 (nI b) ρ = if 97 ≤ b ∧ b ≤ 122 then J_X8_nextToken_118 (nI 2) (setF ρ 15 (nI b)) else if 48 ≤ b ∧ b ≤ 57 then J_X8_nextToken_118 (nI 3) (setF ρ 15 (nI b)) else if b = 44 ∨ b = 59 then J_X8_nextToken_118 (nI 4) (setF ρ 15 (nI b)) else J_X8_nextToken_118 (nI 0) (setF ρ 15 (nI b)) := by
  have g11 : (setF ρ 15 (nI b)).2 11 = nI n := by rw [setF_ne (by decide)]; exact h11
  have g12 : (setF ρ 15 (nI b)).2 12 = nI p := by rw [setF_ne (by decide)]; exact h12
  unfold J_X8_nextToken_34
  rw [g11, g12, if_neg (by rw [eqN (by omega) (by omega)]; omega), setF_get]
  by_cases z1 : 97 ≤ b ∧ b ≤ 122
  · rw [m_in1 (by rw [ltN (by omega) (by omega), ltN (by omega) (by omega)]; omega) (by omega) (by omega), Option.bind_some, if_pos z1]
    exact if_neg (show ¬ nI 1 = 0 by decide)
  rw [m_in0 (by rw [ltN (by omega) (by omega), ltN (by omega) (by omega)]; omega) (by omega) (by omega), Option.bind_some, if_neg z1]
  show (if nI 0 = 0 then (F_X8_in ((setF ρ 15 (nI b)).2 15).toInt64 (lN 48) (lN 57) (setF ρ 15 (nI b))).bind _ else _) = _
  rw [if_pos (show nI 0 = 0 from rfl), setF_get]
  by_cases z2 : 48 ≤ b ∧ b ≤ 57
  · rw [m_in1 (by rw [ltN (by omega) (by omega), ltN (by omega) (by omega)]; omega) (by omega) (by omega), Option.bind_some, if_pos z2]
    exact if_neg (show ¬ nI 1 = 0 by decide)
  rw [m_in0 (by rw [ltN (by omega) (by omega), ltN (by omega) (by omega)]; omega) (by omega) (by omega), Option.bind_some, if_neg z2]
  show (if nI 0 = 0 then (if (setF ρ 15 (nI b)).2 15 = nI 44 then J_X8_nextToken_118 (nI 4) (setF ρ 15 (nI b)) else if (setF ρ 15 (nI b)).2 15 = nI 59 then J_X8_nextToken_118 (nI 4) (setF ρ 15 (nI b)) else J_X8_nextToken_118 (nI 0) (setF ρ 15 (nI b))) else _) = _
  rw [if_pos (show nI 0 = 0 from rfl), setF_get]
  by_cases z3 : b = 44
  · rw [if_pos (by rw [z3]), if_pos (Or.inl z3)]
  rw [if_neg (by rw [eqN (by omega) (by omega)]; exact z3)]
  by_cases z4 : b = 59
  · rw [if_pos (by rw [z4]), if_pos (Or.inr z4)]
  rw [if_neg (by rw [eqN (by omega) (by omega)]; exact z4), if_neg (fun y => y.elim z3 z4)]
theorem m_token (t : TB τ B n) (e12 : τ.2 12 = nI p) (hp : p ≤ n) (e16 : τ.2 16 = nI 0) : ∃ τ', F_X8_nextToken τ = some τ' ∧ TM τ' B n p ∧ FrT τ τ' := by
  obtain ⟨hn, e11, eb⟩ := id t
  have g12 : (setF τ 13 (nI p)).2 12 = nI p := by rw [setF_ne (by decide)]; exact e12
  have g11 : (setF τ 13 (nI p)).2 11 = nI n := by rw [setF_ne (by decide)]; exact e11
  have fin : ∀ (x : Int32) (s c : Nat), FrT τ (setF (setF (setF (setF τ 13 (nI p)) 15 x) 14 (nI s)) 12 (nI c)) := fun x s c => ((((FrT.rf τ).F _ (by omega)).F _ (by omega)).F _ (by omega)).F _ (by omega)
  have r16 : ∀ (x : Int32) (s c : Nat), (setF (setF (setF (setF τ 13 (nI p)) 15 x) 14 (nI s)) 12 (nI c)).2 16 = nI 0 := fun x s c => by
    rw [setF_ne (by decide), setF_ne (by decide), setF_ne (by decide), setF_ne (by decide), e16]
  have r13 : ∀ (x : Int32) (s c : Nat), (setF (setF (setF (setF τ 13 (nI p)) 15 x) 14 (nI s)) 12 (nI c)).2 13 = nI p := fun x s c => by
    rw [setF_ne (by decide), setF_ne (by decide), setF_ne (by decide), setF_get]
  have r14 : ∀ (x : Int32) (s c : Nat), (setF (setF (setF (setF τ 13 (nI p)) 15 x) 14 (nI s)) 12 (nI c)).2 14 = nI s := fun x s c => by
    rw [setF_ne (by decide), setF_get]
  have r15 : ∀ (x : Int32) (s c : Nat), (setF (setF (setF (setF τ 13 (nI p)) 15 x) 14 (nI s)) 12 (nI c)).2 15 = x := fun x s c => by
    rw [setF_ne (by decide), setF_ne (by decide), setF_get]
  have r12 : ∀ (x : Int32) (s c : Nat), (setF (setF (setF (setF τ 13 (nI p)) 15 x) 14 (nI s)) 12 (nI c)).2 12 = nI c := fun x s c => setF_get _ _ _
  by_cases z : p = n
  · refine ⟨setF (setF (setF (setF τ 13 (nI p)) 15 (-1000000)) 14 (nI 1)) 12 (nI (p + 0)), ?_, ⟨t.fr (fin _ _ _), hp, r16 _ _ _, r13 _ _ _, Or.inl ⟨z, r14 _ _ _⟩⟩, fin _ _ _⟩
    have k11 : ∀ x, (setF (setF τ 13 (nI p)) 15 x).2 11 = nI n := fun x => by rw [setF_ne (by decide)]; exact g11
    have k12 : ∀ x, (setF (setF τ 13 (nI p)) 15 x).2 12 = nI p := fun x => by rw [setF_ne (by decide)]; exact g12
    have l11 : ∀ x y, (setF (setF (setF τ 13 (nI p)) 15 x) 14 y).2 11 = nI n := fun x y => by rw [setF_ne (by decide)]; exact k11 x
    have l12 : ∀ x y, (setF (setF (setF τ 13 (nI p)) 15 x) 14 y).2 12 = nI p := fun x y => by rw [setF_ne (by decide)]; exact k12 x
    unfold F_X8_nextToken
    rw [e12, g11, g12, if_pos (nI_le (by omega) (by omega))]
    unfold J_X8_nextToken_34
    rw [k11, k12, if_pos (by rw [z])]
    unfold J_X8_nextToken_118
    rw [l11, l12, if_pos (nI_le (by omega) (by omega))]
    unfold J_X8_nextToken_142
    rw [setF_ne (by decide), setF_get, if_neg (by decide), nI_add]
  have f1 := (eb p (by omega)).1
  have f2 := (eb p (by omega)).2
  have h11 : (setF (setF τ 13 (nI p)) 15 (nI (B p))).2 11 = nI n := by rw [setF_ne (by decide)]; exact g11
  have h12 : (setF (setF τ 13 (nI p)) 15 (nI (B p))).2 12 = nI p := by rw [setF_ne (by decide)]; exact g12
  have st : F_X8_nextToken τ = J_X8_nextToken_34 (nI (B p)) (setF τ 13 (nI p)) := by
    unfold F_X8_nextToken
    rw [e12, g11, g12, if_neg (by rw [leN (by omega) (by omega)]; omega), if_pos (by rw [ixN (by omega)]; omega), clN (by omega), setF_1, f1]
  rw [t34 g11 g12 (by omega) hn f2] at st
  by_cases z1 : 97 ≤ B p ∧ B p ≤ 122
  · rw [if_pos z1, t118 h11 h12 (by omega) hn (by omega) (by omega)] at st
    exact ⟨_, st, ⟨t.fr (fin _ _ _), hp, r16 _ _ _, r13 _ _ _, Or.inr (Or.inl ⟨by omega, z1.1, z1.2, r14 _ _ _, r15 _ _ _, r12 _ _ _⟩)⟩, fin _ _ _⟩
  rw [if_neg z1] at st
  by_cases z2 : 48 ≤ B p ∧ B p ≤ 57
  · rw [if_pos z2, t118d h11 h12 (setF_get _ _ _) (by omega) hn, subN (by omega)] at st
    obtain ⟨m, hm⟩ : ∃ m, n - p = m + 1 := ⟨n - p - 1, by omega⟩
    have hf := fuel_ge
    have fr : FrT τ (setF (setF (setF (setF (setF τ 13 (nI p)) 15 (nI (B p))) 14 (nI 3)) 12 (nI (p + 1))) 15 (nI (B p - 48))) := (fin _ _ _).F _ (by omega)
    obtain ⟨τ', l1, l2, l3, l4, l5, l6⟩ := m_digits (B := B) (n := n) (p := p) m fuel (p + 1) (setF (setF (setF (setF (setF τ 13 (nI p)) 15 (nI (B p))) 14 (nI 3)) 12 (nI (p + 1))) 15 (nI (B p - 48))) (nI (B p - 48)) (by omega) (by omega) (t.fr fr) (by rw [setF_ne (by decide), setF_get]) (by rw [setF_ne (by decide), r13]) (by omega) (setF_get _ _ _)
    have l5' : τ'.2 16 = nI 0 := l5.trans (by rw [setF_ne (by decide), r16])
    have d1 : dl B (n - p) p = dl B m (p + 1) + 1 := by rw [hm, dl, if_pos z2]
    have d2 : dv B (n - p) p (nI 0) = dv B m (p + 1) (nI (B p - 48)) := by
      rw [hm, dv, if_pos z2, pk_mul, nI_add, subN (by omega), show 10 * 0 + B p - 48 = B p - 48 by omega]
    have fr2 := fr.tr l2
    rw [l1] at st
    have dle := dl_le B m (p + 1)
    by_cases z3 : dl B (n - p) p ≤ 2
    · refine ⟨setF τ' 14 (nI 3), st.trans ?_, ⟨t.fr (fr2.F _ (by omega)), hp, by rw [setF_ne (by decide)]; exact l5', by rw [setF_ne (by decide)]; exact l4, Or.inr (Or.inr (Or.inr (Or.inl ⟨by omega, z2, z3, setF_get _ _ _, ?_, ?_⟩)))⟩, fr2.F _ (by omega)⟩
      · rw [l3, l4, subN (by omega), if_pos (nI_le (by omega) (by omega))]
      · rw [setF_ne (by decide), l6 (by omega), d2]
      · rw [setF_ne (by decide), l3, d1, show p + 1 + dl B m (p + 1) = p + (dl B m (p + 1) + 1) by omega]
    · refine ⟨setF τ' 14 (nI 0), st.trans ?_, ⟨t.fr (fr2.F _ (by omega)), hp, by rw [setF_ne (by decide)]; exact l5', by rw [setF_ne (by decide)]; exact l4, Or.inr (Or.inr (Or.inr (Or.inr ⟨by omega, setF_get _ _ _, Or.inl ⟨z2, by omega⟩⟩)))⟩, fr2.F _ (by omega)⟩
      rw [l3, l4, subN (by omega), if_neg (by rw [leN (by omega) (by omega)]; omega)]
  rw [if_neg z2] at st
  by_cases z3 : B p = 44 ∨ B p = 59
  · rw [if_pos z3, t118 h11 h12 (by omega) hn (by omega) (by omega)] at st
    exact ⟨_, st, ⟨t.fr (fin _ _ _), hp, r16 _ _ _, r13 _ _ _, Or.inr (Or.inr (Or.inl ⟨by omega, z3, r14 _ _ _, r15 _ _ _, r12 _ _ _⟩))⟩, fin _ _ _⟩
  · rw [if_neg z3, t118 h11 h12 (by omega) hn (by omega) (by omega)] at st
    exact ⟨_, st, ⟨t.fr (fin _ _ _), hp, r16 _ _ _, r13 _ _ _, Or.inr (Or.inr (Or.inr (Or.inr ⟨by omega, r14 _ _ _, Or.inr ⟨z1, z2, by omega, by omega⟩⟩)))⟩, fin _ _ _⟩
end TAPE2
