/-! rows of items -/
theorem Inv.rows {σ υ : St} (i : Inv σ) (ar : ∀ k, k ≠ 20 → k ≠ 21 → k ≠ 26 → k ≠ 27 → k ≠ 28 → ¬ (38 ≤ k ∧ k < 46) → υ.1 k = σ.1 k) (fl : ∀ j, j ≠ 0 → j ≠ 8 → j ≠ 9 → υ.2 j = σ.2 j) (r : InvR υ) (s : InvS υ) : Inv υ := by
  obtain ⟨⟨h, iN⟩, -, iT, iA, iI, iB, -⟩ := i
  have sa : ∀ k, (k < 20 ∨ (22 ≤ k ∧ k < 26) ∨ (29 ≤ k ∧ k < 38) ∨ 46 ≤ k) → υ.1 k = σ.1 k := fun k hk => ar k (by omega) (by omega) (by omega) (by omega) (by omega) (by omega)
  exact ⟨⟨h, iN.fr (sa 4 (by omega)) (sa 29 (by omega))⟩, r, iT.fr (sa 22 (by omega)) (sa 33 (by omega)) (fun j hj => fl j (by omega) (by omega) (by omega)), iA.fr (sa 32 (by omega)) (fun k h1 h2 => sa k (by omega)) (fun j hj => fl j (by omega) (by omega) (by omega)), iI.fr (fun k hk => sa k (by omega)), iB.fr (sa 24 (by omega)) (sa 37 (by omega)) (fun j hj => fl j (by omega) (by omega) (by omega)), s⟩
theorem rowOK.fr {σ τ : St} {r : Nat} (o : rowOK σ r) (h20 : τ.1 20 r = σ.1 20 r) (h21 : τ.1 21 r = σ.1 21 r) (h26 : τ.1 26 r = σ.1 26 r) (h27 : τ.1 27 r = σ.1 27 r) (h38 : τ.1 (38 + r) = σ.1 (38 + r)) (h28 : ∀ j, j < 40 → τ.1 28 (40 * r + j) = σ.1 28 (40 * r + j)) : rowOK τ r := by
  rcases o with ⟨a, b⟩ | ⟨n, l, hn, hl, a, b, c, d, e⟩
  · exact Or.inl ⟨h21.trans a, h26.trans b⟩
  · exact Or.inr ⟨n, l, hn, hl, h21.trans a, h27.trans b, h20.trans c, h26.trans d, fun j hj => by rw [h38, h28 j (by omega)]; exact e j hj⟩
section ROWS
variable {σ : St}
theorem c_isRow0 {x : Int32} (q : x < nI 0 ∨ nI 7 < x) (τ : St) : F_X5_isRow x τ = some (nI 0, τ) := by
  unfold F_X5_isRow
  rcases q with q | q
  · rw [if_pos (show x < 0 from q)]
  · by_cases z : x < 0
    · rw [if_pos z]
    · rw [if_neg z, if_pos]
      have := Int32.lt_iff_toInt_lt.mp q
      rw [nI_toInt (by omega)] at this
      rw [Int32.le_iff_toInt_le, nI_toInt (by omega)]
      omega
theorem c_isRow1 {i : Nat} (hi : i ≤ 7) (τ : St) : F_X5_isRow (nI i) τ = some (nI 1, τ) := by
  unfold F_X5_isRow
  simp (disch := omega) only [ixN, clN, nI_add, pk_mul, subN, divN, remN, leN, ltN, eqN, le0N, eq0N, lt0N, ge0N, gt0N, if_pos, if_neg, if_true, if_false, Option.bind_some, shrN, shlN, andN1, nI_or, andm1, modS, true_or, or_true]
theorem m_isRow0 {x : Int32} (q : x < nI 0 ∨ nI 7 < x) (τ : St) : F_X8_isRow x τ = some (nI 0, τ) := by
  unfold F_X8_isRow
  rw [m_in0 q (by omega) (by omega), Option.bind_some]
  exact if_pos (Or.inl rfl)
theorem m_isRow1 {i : Nat} (hi : i ≤ 7) (τ : St) : F_X8_isRow (nI i) τ = some (nI 1, τ) := by
  unfold F_X8_isRow
  have q : ¬ (nI i < nI 0 ∨ nI 7 < nI i) := by
    rw [ltN (by omega) (by omega), ltN (by omega) (by omega)]; omega
  rw [m_in1 q (by omega) (by omega), Option.bind_some]
  exact if_pos (Or.inr rfl)
theorem c_miss1 {i : Nat} (hi : i ≤ 7) (e : σ.1 21 i = -1) : F_X5_isMissing (nI i) σ = some (nI 1, σ) := by
  unfold F_X5_isMissing
  simp (disch := omega) only [ixN, clN, nI_add, pk_mul, subN, divN, remN, leN, ltN, eqN, le0N, eq0N, lt0N, ge0N, gt0N, if_pos, if_neg, if_true, if_false, Option.bind_some, shrN, shlN, andN1, nI_or, andm1, modS, true_or, or_true, e]
theorem nm1 {n : Nat} (h : n < 2147483648) : ¬ nI n = -1 := fun e => by
  have := congrArg Int32.toInt e
  rw [nI_toInt (by omega)] at this
  have e1 : (-1 : Int32).toInt = -1 := by decide
  omega
theorem c_miss0 {i n : Nat} (hi : i ≤ 7) (e : σ.1 21 i = nI n) (hn : n ≤ 40) : F_X5_isMissing (nI i) σ = some (nI 0, σ) := by
  unfold F_X5_isMissing
  simp (disch := omega) only [ixN, clN, nI_add, pk_mul, subN, divN, remN, leN, ltN, eqN, le0N, eq0N, lt0N, ge0N, gt0N, if_pos, if_neg, if_true, if_false, Option.bind_some, shrN, shlN, andN1, nI_or, andm1, modS, true_or, or_true, e]
  rw [if_neg (nm1 (by omega))]
theorem c_str1 {i n s t : Nat} (hi : i ≤ 7) (e : σ.1 21 i = nI n) (hn : n ≤ 40) (h : s + t ≤ n) : F_X5_hasStretch (nI i) (nI s) (nI t) σ = some (nI 1, σ) := by
  unfold F_X5_hasStretch
  simp (disch := omega) only [ixN, clN, nI_add, pk_mul, subN, divN, remN, leN, ltN, eqN, le0N, eq0N, lt0N, ge0N, gt0N, if_pos, if_neg, if_true, if_false, Option.bind_some, shrN, shlN, andN1, nI_or, andm1, modS, true_or, or_true, e]
theorem c_str0 {i n : Nat} {x y : Int32} (hi : i ≤ 7) (e : σ.1 21 i = nI n) (hn : n ≤ 40) (h : ¬ ∃ s t, x = nI s ∧ y = nI t ∧ s + t ≤ n) : F_X5_hasStretch (nI i) x y σ = some (nI 0, σ) := by
  unfold F_X5_hasStretch
  by_cases q1 : x < 0
  · rw [if_pos q1]
  · by_cases q2 : y < 0
    · rw [if_neg q1, if_pos q2]
    · obtain ⟨s, hs, rfl⟩ := nI_of q1
      obtain ⟨t, ht, rfl⟩ := nI_of q2
      have hh : ¬ s + t ≤ n := fun z => h ⟨s, t, rfl, rfl, z⟩
      by_cases q3 : n < s
      · simp (disch := omega) only [ixN, clN, nI_add, pk_mul, subN, divN, remN, leN, ltN, eqN, le0N, eq0N, lt0N, ge0N, gt0N, if_pos, if_neg, if_true, if_false, Option.bind_some, shrN, shlN, andN1, nI_or, andm1, modS, true_or, or_true, e]
      · simp (disch := omega) only [ixN, clN, nI_add, pk_mul, subN, divN, remN, leN, ltN, eqN, le0N, eq0N, lt0N, ge0N, gt0N, if_pos, if_neg, if_true, if_false, Option.bind_some, shrN, shlN, andN1, nI_or, andm1, modS, true_or, or_true, e]
theorem FB {w : Nat} (i : Inv σ) {P7 : Option (Int32 × St)} {P8 : St → Option (Int32 × St)} (e7 : P7 = some ((-1000010 : Int32) - nI w, setF σ 0 (nI w))) (e8 : P8 (setF σ 0 (nI w)) = some ((-1000010 : Int32) - nI w, setF (setF (setF (setF σ 0 (nI w)) 8 (nI 0)) 9 (nI 0)) 9 (nI w))) : Ag P7 P8 := by
  refine ⟨_, _, _, e7, e8, Inv.rows i (fun k _ _ _ _ _ _ => rfl) (fun j h0 h8 h9 => ?_) (i.2.1.fr (fun k _ => rfl)) ?_⟩
  · rw [setF_ne h9, setF_ne h9, setF_ne h8, setF_ne h0]
  · show (setF _ 9 _).2 0 = (setF _ 9 _).2 9
    rw [setF_get, setF_ne (by decide), setF_ne (by decide), setF_ne (by decide), setF_get]
theorem e_drop (i : Inv σ) (x : Int32) : Ag (F_X7_drop x σ) (F_X8_drop x) := by
  by_cases q1 : x < nI 0 ∨ nI 7 < x
  · refine Ag.q i (-1000001) σ ?_ (Scr.rf σ) (fun τ s => ⟨setF τ 8 (nI 0), ?_, scr8 s⟩)
    · unfold F_X7_drop
      simp (disch := omega) only [ixN, clN, nI_add, pk_mul, subN, divN, remN, leN, ltN, eqN, le0N, eq0N, lt0N, ge0N, gt0N, if_pos, if_neg, if_true, if_false, Option.bind_some, shrN, shlN, andN1, nI_or, andm1, modS, true_or, or_true, c_isRow0 q1]
    · unfold F_X8_drop
      simp (disch := omega) only [ixN, clN, nI_add, pk_mul, subN, divN, remN, leN, ltN, eqN, le0N, eq0N, lt0N, ge0N, gt0N, if_pos, if_neg, if_true, if_false, Option.bind_some, shrN, shlN, andN1, nI_or, andm1, modS, true_or, or_true, m_isRow0 q1]
  obtain ⟨k, -, hk, rfl⟩ := in_N (by omega) (by omega) q1
  rcases i.2.1 k (by omega) with ⟨a, b⟩ | ⟨n, l, hn, hl, a, b, c, d, e⟩
  · refine FB (w := 1) i ?_ ?_
    · unfold F_X7_drop F_X7_found
      simp (disch := omega) only [ixN, clN, nI_add, pk_mul, subN, divN, remN, leN, ltN, eqN, le0N, eq0N, lt0N, ge0N, gt0N, if_pos, if_neg, if_true, if_false, Option.bind_some, shrN, shlN, andN1, nI_or, andm1, modS, true_or, or_true, c_isRow1 hk, c_miss1 hk a]
    · unfold F_X8_drop F_X8_finding
      have e26 : (setF (setF (setF σ 0 (nI 1)) 8 (nI 0)) 9 (nI 0)).1 26 k = -1 := b
      simp (disch := omega) only [ixN, clN, nI_add, pk_mul, subN, divN, remN, leN, ltN, eqN, le0N, eq0N, lt0N, ge0N, gt0N, if_pos, if_neg, if_true, if_false, Option.bind_some, shrN, shlN, andN1, nI_or, andm1, modS, true_or, or_true, m_isRow1 hk, e26]
      rw [if_neg (by decide)]
  · let τ1 : St := setF (setA σ 21 k (-1)) 0 (nI 0)
    let τ2 : St := setF (setF τ1 8 (nI 0)) 9 (nI 0)
    have e26 : τ2.1 26 k = nI l := by
      show (setA σ 21 k (-1)).1 26 k = _
      rw [setA_32 (by decide)]; exact d
    have e27 : (setA τ2 26 k (-1)).1 27 k = nI n := by
      rw [setA_32 (by decide)]
      show (setA σ 21 k (-1)).1 27 k = _
      rw [setA_32 (by decide)]; exact b
    refine ⟨nI n, τ1, setA τ2 26 k (-1), ?_, ?_, Inv.rows i (fun j h20 h21 h26 _ _ _ => ?_) (fun j h0 h8 h9 => ?_) (fun r hr => ?_) ?_⟩
    · unfold F_X7_drop F_X5_takeAway F_X7_unfound
      simp (disch := omega) only [ixN, clN, nI_add, pk_mul, subN, divN, remN, leN, ltN, eqN, le0N, eq0N, lt0N, ge0N, gt0N, if_pos, if_neg, if_true, if_false, Option.bind_some, shrN, shlN, andN1, nI_or, andm1, modS, true_or, or_true, c_isRow1 hk, c_miss0 hk a hn, a]
      rfl
    · unfold F_X8_drop
      show ((F_X8_isRow (nI k) (setF τ1 8 (nI 0))).bind _) = _
      rw [m_isRow1 hk, Option.bind_some]
      show (if nI 1 = 0 then _ else if ix (nI k) 8 then if 0 ≤ τ2.1 26 (nI k).toNatClampNeg then if ix (nI k) 8 then if ix (nI k) 8 then some ((setA τ2 26 (nI k).toNatClampNeg (-1)).1 27 (nI k).toNatClampNeg, setA τ2 26 (nI k).toNatClampNeg (-1)) else none else none else _ else none) = _
      simp (disch := omega) only [ixN, clN, nI_add, pk_mul, subN, divN, remN, leN, ltN, eqN, le0N, eq0N, lt0N, ge0N, gt0N, if_pos, if_neg, if_true, if_false, Option.bind_some, shrN, shlN, andN1, nI_or, andm1, modS, true_or, or_true, e26, e27]
    · rw [setA_32 h26]
      show (setA σ 21 k (-1)).1 j = _
      rw [setA_32 h21]
    · show (setF (setF (setF (setA σ 21 k (-1)) 0 (nI 0)) 8 (nI 0)) 9 (nI 0)).2 j = _
      rw [setF_ne h9, setF_ne h8, setF_ne h0]; rfl
    · by_cases z : r = k
      · subst z
        left
        constructor
        · rw [setA_32 (by decide)]
          show (setA σ 21 r (-1)).1 21 r = _
          rw [setA_get, pk_us]
        · rw [setA_get, pk_us]
      · refine (i.2.1 r hr).fr ?_ ?_ ?_ ?_ ?_ (fun j hj => ?_)
        · rw [setA_32 (by decide)]
          show (setA σ 21 k (-1)).1 20 r = _
          rw [setA_32 (by decide)]
        · rw [setA_32 (by decide)]
          show (setA σ 21 k (-1)).1 21 r = _
          rw [setA_get, pk_un z]
        · rw [setA_get, pk_un z]
          show (setA σ 21 k (-1)).1 26 r = _
          rw [setA_32 (by decide)]
        · rw [setA_32 (by decide)]
          show (setA σ 21 k (-1)).1 27 r = _
          rw [setA_32 (by decide)]
        · rw [setA_32 (by omega)]
          show (setA σ 21 k (-1)).1 (38 + r) = _
          rw [setA_32 (by omega)]
        · rw [setA_32 (by decide)]
          show (setA σ 21 k (-1)).1 28 _ = _
          rw [setA_32 (by decide)]
    · show (setF (setF (setF (setA σ 21 k (-1)) 0 (nI 0)) 8 (nI 0)) 9 (nI 0)).2 0 = (setF (setF (setF (setA σ 21 k (-1)) 0 (nI 0)) 8 (nI 0)) 9 (nI 0)).2 9
      rw [setF_get, setF_ne (by decide), setF_ne (by decide), setF_get]
end ROWS
