/-! rows laid, set, copied -/
theorem setA_2 (σ : St) (k i : Nat) (v : Int32) : (setA σ k i v).2 = σ.2 := rfl
theorem setR_2 (σ : St) (k : Nat) (f : Nat → Int32) : (setR σ k f).2 = σ.2 := rfl
theorem FB0 {r : Int32} {σ τ υ : St} (i : Inv σ) {P7 : Option (Int32 × St)} {P8 : St → Option (Int32 × St)} (e7 : P7 = some (r, setF τ 0 (nI 0))) (e8 : P8 (setF τ 0 (nI 0)) = some (r, υ)) (t2 : τ.2 = σ.2) (u2 : υ.2 = (setF (setF (setF τ 0 (nI 0)) 8 (nI 0)) 9 (nI 0)).2) (ar : ∀ k, k ≠ 20 → k ≠ 21 → k ≠ 26 → k ≠ 27 → k ≠ 28 → ¬ (38 ≤ k ∧ k < 46) → υ.1 k = σ.1 k) (ir : InvR υ) : Ag P7 P8 := by
  refine ⟨_, _, _, e7, e8, Inv.rows i ar (fun j h0 h8 h9 => ?_) ir ?_⟩
  · rw [u2, setF_ne h9, setF_ne h8, setF_ne h0, t2]
  · unfold InvS
    rw [u2, setF_get, setF_ne (by decide), setF_ne (by decide), setF_get]
section ROWS2
variable {σ : St}
theorem c_layL {i n : Nat} (hi : i ≤ 7) (hn : n ≤ 40) : ∀ (mm N a : Nat) (σ : St), a + mm = n → mm < N → ∃ w, (∀ K, L_X5_lay_17 K N (nI i) (nI n) (nI a) σ = K (setR σ (38 + i) w)) ∧ (∀ j, j < n → a ≤ j → w j = nI 0) ∧ ∀ j, j < a → w j = σ.1 (38 + i) j := by
  intro mm
  induction mm with
  | zero =>
    intro N a σ ha hN
    obtain ⟨N, rfl⟩ : ∃ n', N = n' + 1 := ⟨N - 1, by omega⟩
    refine ⟨σ.1 (38 + i), fun K => ?_, fun i h1 h2 => by omega, fun i _ => rfl⟩
    rw [L_X5_lay_17.eq_2]
    simp (disch := omega) only [ixN, clN, nI_add, pk_mul, subN, divN, remN, leN, ltN, eqN, le0N, eq0N, lt0N, ge0N, gt0N, if_pos, if_neg, if_true, if_false, Option.bind_some, shrN, shlN, andN1, nI_or, andm1, modS, true_or, or_true]
    congr 1
    apply St.ext
    · intro k
      by_cases q : k = 38 + i
      · rw [q, setR_get]
      · rw [setR_ne q]
    · intro j; rfl
  | succ mm ih =>
    intro N a σ ha hN
    obtain ⟨N, rfl⟩ : ∃ n', N = n' + 1 := ⟨N - 1, by omega⟩
    obtain ⟨w, l1, l2, l3⟩ := ih N (a + 1) (setA σ (38 + i) a (nI 0)) (by omega) (by omega)
    refine ⟨w, fun K => ?_, fun j h1 h2 => ?_, fun j hj => ?_⟩
    · rw [L_X5_lay_17.eq_2]
      simp (disch := omega) only [ixN, clN, nI_add, pk_mul, subN, divN, remN, leN, ltN, eqN, le0N, eq0N, lt0N, ge0N, gt0N, if_pos, if_neg, if_true, if_false, Option.bind_some, shrN, shlN, andN1, nI_or, andm1, modS, true_or, or_true, l1]
      congr 1
      apply St.ext
      · intro k
        by_cases q : k = 38 + i
        · rw [q, setR_get, setR_get]
        · rw [setR_ne q, setR_ne q, setA_32 q]
      · intro j; rfl
    · by_cases q : j = a
      · rw [q, l3 _ (by omega), setA_get, pk_us]
      · rw [l2 j h1 (by omega)]
    · rw [l3 j (by omega), setA_get, pk_un (by omega)]
theorem m_layL {i : Nat} (hi : i ≤ 7) {a3 : Int32} : ∀ (mm N a : Nat) (σ : St), a + mm = 40 → mm < N → ∃ w, (∀ K, L_X8_row_65 K N (nI i) a3 (nI a) σ = K a3 (setR σ 28 w)) ∧ (∀ j, j < 40 → a ≤ j → w (40 * i + j) = nI 0) ∧ ∀ j, (j < 40 * i + a ∨ 40 * i + 40 ≤ j) → w j = σ.1 28 j := by
  intro mm
  induction mm with
  | zero =>
    intro N a σ ha hN
    obtain ⟨N, rfl⟩ : ∃ n', N = n' + 1 := ⟨N - 1, by omega⟩
    refine ⟨σ.1 28, fun K => ?_, fun i h1 h2 => by omega, fun i _ => rfl⟩
    rw [L_X8_row_65.eq_2]
    simp (disch := omega) only [ixN, clN, nI_add, pk_mul, subN, divN, remN, leN, ltN, eqN, le0N, eq0N, lt0N, ge0N, gt0N, if_pos, if_neg, if_true, if_false, Option.bind_some, shrN, shlN, andN1, nI_or, andm1, modS, true_or, or_true]
    congr 1
    apply St.ext
    · intro k
      by_cases q : k = 28
      · rw [q, setR_get]
      · rw [setR_ne q]
    · intro j; rfl
  | succ mm ih =>
    intro N a σ ha hN
    obtain ⟨N, rfl⟩ : ∃ n', N = n' + 1 := ⟨N - 1, by omega⟩
    obtain ⟨w, l1, l2, l3⟩ := ih N (a + 1) (setA σ 28 (40 * i + a) (nI 0)) (by omega) (by omega)
    refine ⟨w, fun K => ?_, fun j h1 h2 => ?_, fun j hj => ?_⟩
    · rw [L_X8_row_65.eq_2]
      simp (disch := omega) only [ixN, clN, nI_add, pk_mul, subN, divN, remN, leN, ltN, eqN, le0N, eq0N, lt0N, ge0N, gt0N, if_pos, if_neg, if_true, if_false, Option.bind_some, shrN, shlN, andN1, nI_or, andm1, modS, true_or, or_true, l1]
      congr 1
      apply St.ext
      · intro k
        by_cases q : k = 28
        · rw [q, setR_get, setR_get]
        · rw [setR_ne q, setR_ne q, setA_32 q]
      · intro j; rfl
    · by_cases q : j = a
      · rw [q, l3 _ (by omega), setA_get, pk_us]
      · rw [l2 j h1 (by omega)]
    · rw [l3 j (by omega), setA_get, pk_un (by omega)]
theorem e_row (i : Inv σ) (x y z : Int32) : Ag (F_X7_row x y z σ) (F_X8_row x y z) := by
  by_cases q1 : x < nI 0 ∨ nI 7 < x
  · refine Ag.q i (-1000001) σ ?_ (Scr.rf σ) (fun τ s => ⟨setF τ 8 (nI 0), ?_, scr8 s⟩)
    · unfold F_X7_row
      simp (disch := omega) only [ixN, clN, nI_add, pk_mul, subN, divN, remN, leN, ltN, eqN, le0N, eq0N, lt0N, ge0N, gt0N, if_pos, if_neg, if_true, if_false, Option.bind_some, shrN, shlN, andN1, nI_or, andm1, modS, true_or, or_true, c_isRow0 q1]
    · unfold F_X8_row
      simp (disch := omega) only [ixN, clN, nI_add, pk_mul, subN, divN, remN, leN, ltN, eqN, le0N, eq0N, lt0N, ge0N, gt0N, if_pos, if_neg, if_true, if_false, Option.bind_some, shrN, shlN, andN1, nI_or, andm1, modS, true_or, or_true, m_isRow0 q1]
  obtain ⟨k, -, hk, rfl⟩ := in_N (by omega) (by omega) q1
  by_cases q2 : y < nI 0 ∨ nI 2 < y
  · refine Ag.q i (-1000001) σ ?_ (Scr.rf σ) (fun τ s => ⟨setF τ 8 (nI 0), ?_, scr8 s⟩)
    · unfold F_X7_row
      simp (disch := omega) only [ixN, clN, nI_add, pk_mul, subN, divN, remN, leN, ltN, eqN, le0N, eq0N, lt0N, ge0N, gt0N, if_pos, if_neg, if_true, if_false, Option.bind_some, shrN, shlN, andN1, nI_or, andm1, modS, true_or, or_true, c_isRow1 hk, c_within0 q2]
    · unfold F_X8_row
      simp (disch := omega) only [ixN, clN, nI_add, pk_mul, subN, divN, remN, leN, ltN, eqN, le0N, eq0N, lt0N, ge0N, gt0N, if_pos, if_neg, if_true, if_false, Option.bind_some, shrN, shlN, andN1, nI_or, andm1, modS, true_or, or_true, m_isRow1 hk, m_in0 q2]
  by_cases q3 : z ≤ nI 40
  · by_cases q4 : 0 ≤ z
    · have hz : ¬ z < 0 := fun w => by
        have a := Int32.lt_iff_toInt_lt.mp w
        have b := Int32.le_iff_toInt_le.mp q4
        omega
      obtain ⟨n, hn, rfl⟩ := nI_of hz
      have hn40 : n ≤ 40 := by
        have a := Int32.le_iff_toInt_le.mp q3
        rw [nI_toInt hn, nI_toInt (by omega)] at a
        omega
      obtain ⟨l, -, hl, rfl⟩ := in_N (by omega) (by omega) q2
      have hf := fuel_ge
      obtain ⟨w1, l1, l2, -⟩ := c_layL hk hn40 n fuel 0 (setA (setA σ 20 k (nI l)) 21 k (nI n)) (by omega) (by omega)
      obtain ⟨w2, m1, m2, m3⟩ := m_layL hk (a3 := nI n) 40 fuel 0 (setA (setA (setF (setF (setF (setR (setA (setA σ 20 k (nI l)) 21 k (nI n)) (38 + k) w1) 0 (nI 0)) 8 (nI 0)) 9 (nI 0)) 26 k (nI l)) 27 k (nI n)) (by omega) (by omega)
      refine FB0 (r := nI n) (τ := setR (setA (setA σ 20 k (nI l)) 21 k (nI n)) (38 + k) w1) (υ := setR (setA (setA (setF (setF (setF (setR (setA (setA σ 20 k (nI l)) 21 k (nI n)) (38 + k) w1) 0 (nI 0)) 8 (nI 0)) 9 (nI 0)) 26 k (nI l)) 27 k (nI n)) 28 w2) i ?_ ?_ rfl rfl (fun j h1 h2 h3 h4 h5 h6 => ?_) (fun r hr => ?_)
      · unfold F_X7_row F_X5_lay F_X7_unfound
        simp (disch := omega) only [ixN, clN, nI_add, pk_mul, subN, divN, remN, leN, ltN, eqN, le0N, eq0N, lt0N, ge0N, gt0N, if_pos, if_neg, if_true, if_false, Option.bind_some, shrN, shlN, andN1, nI_or, andm1, modS, true_or, or_true, c_isRow1 hk, c_within1 q2, l1]
      · unfold F_X8_row
        simp (disch := omega) only [ixN, clN, nI_add, pk_mul, subN, divN, remN, leN, ltN, eqN, le0N, eq0N, lt0N, ge0N, gt0N, if_pos, if_neg, if_true, if_false, Option.bind_some, shrN, shlN, andN1, nI_or, andm1, modS, true_or, or_true, m_isRow1 hk, m_in1 q2, m1]
      · simp (disch := omega) only [setF_1, setA_32, setA_get, setR_ne, setR_get, setF_ne, setF_get, setA_2, setR_2, pk_us, pk_un]
      · by_cases e : r = k
        · subst e
          right
          refine ⟨n, l, hn40, hl, ?_, ?_, ?_, ?_, fun j hj => ?_⟩
          · simp (disch := omega) only [setF_1, setA_32, setA_get, setR_ne, setR_get, setF_ne, setF_get, setA_2, setR_2, pk_us, pk_un]
          · simp (disch := omega) only [setF_1, setA_32, setA_get, setR_ne, setR_get, setF_ne, setF_get, setA_2, setR_2, pk_us, pk_un]
          · simp (disch := omega) only [setF_1, setA_32, setA_get, setR_ne, setR_get, setF_ne, setF_get, setA_2, setR_2, pk_us, pk_un]
          · simp (disch := omega) only [setF_1, setA_32, setA_get, setR_ne, setR_get, setF_ne, setF_get, setA_2, setR_2, pk_us, pk_un]
          · simp (disch := omega) only [setF_1, setA_32, setA_get, setR_ne, setR_get, setF_ne, setF_get, setA_2, setR_2, pk_us, pk_un]
            rw [l2 j hj (by omega), m2 j (by omega) (by omega)]
        · refine (i.2.1 r hr).fr ?_ ?_ ?_ ?_ ?_ (fun j hj => ?_)
          · simp (disch := omega) only [setF_1, setA_32, setA_get, setR_ne, setR_get, setF_ne, setF_get, setA_2, setR_2, pk_us, pk_un]
          · simp (disch := omega) only [setF_1, setA_32, setA_get, setR_ne, setR_get, setF_ne, setF_get, setA_2, setR_2, pk_us, pk_un]
          · simp (disch := omega) only [setF_1, setA_32, setA_get, setR_ne, setR_get, setF_ne, setF_get, setA_2, setR_2, pk_us, pk_un]
          · simp (disch := omega) only [setF_1, setA_32, setA_get, setR_ne, setR_get, setF_ne, setF_get, setA_2, setR_2, pk_us, pk_un]
          · simp (disch := omega) only [setF_1, setA_32, setA_get, setR_ne, setR_get, setF_ne, setF_get, setA_2, setR_2, pk_us, pk_un]
          · rw [setR_get, m3 _ (by omega)]
            simp (disch := omega) only [setF_1, setA_32, setA_get, setR_ne, setR_get, setF_ne, setF_get, setA_2, setR_2, pk_us, pk_un]
    · refine FB (w := 4) i ?_ ?_
      · unfold F_X7_row F_X7_found
        simp (disch := omega) only [ixN, clN, nI_add, pk_mul, subN, divN, remN, leN, ltN, eqN, le0N, eq0N, lt0N, ge0N, gt0N, if_pos, if_neg, if_true, if_false, Option.bind_some, shrN, shlN, andN1, nI_or, andm1, modS, true_or, or_true, c_isRow1 hk, c_within1 q2, q3, q4]
      · unfold F_X8_row F_X8_finding
        simp (disch := omega) only [ixN, clN, nI_add, pk_mul, subN, divN, remN, leN, ltN, eqN, le0N, eq0N, lt0N, ge0N, gt0N, if_pos, if_neg, if_true, if_false, Option.bind_some, shrN, shlN, andN1, nI_or, andm1, modS, true_or, or_true, m_isRow1 hk, m_in1 q2, q3, q4]
  · refine Ag.q i (-1000001) σ ?_ (Scr.rf σ) (fun τ s => ⟨setF τ 8 (nI 0), ?_, scr8 s⟩)
    · unfold F_X7_row
      simp (disch := omega) only [ixN, clN, nI_add, pk_mul, subN, divN, remN, leN, ltN, eqN, le0N, eq0N, lt0N, ge0N, gt0N, if_pos, if_neg, if_true, if_false, Option.bind_some, shrN, shlN, andN1, nI_or, andm1, modS, true_or, or_true, c_isRow1 hk, c_within1 q2, q3]
    · unfold F_X8_row
      simp (disch := omega) only [ixN, clN, nI_add, pk_mul, subN, divN, remN, leN, ltN, eqN, le0N, eq0N, lt0N, ge0N, gt0N, if_pos, if_neg, if_true, if_false, Option.bind_some, shrN, shlN, andN1, nI_or, andm1, modS, true_or, or_true, m_isRow1 hk, m_in1 q2, q3]
end ROWS2
