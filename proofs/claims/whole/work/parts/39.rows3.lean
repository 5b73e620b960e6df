/-! set, feed, count -/
section ROWS3
variable {σ : St}
theorem e_set (i : Inv σ) (x y z : Int32) : Ag (F_X7_set x y z σ) (F_X8_set x y z) := by
  by_cases q1 : x < nI 0 ∨ nI 7 < x
  · refine Ag.q i (-1000001) σ ?_ (Scr.rf σ) (fun τ s => ⟨setF τ 8 (nI 0), ?_, scr8 s⟩)
    · unfold F_X7_set
      simp (disch := omega) only [ixN, clN, nI_add, pk_mul, subN, divN, remN, leN, ltN, eqN, le0N, eq0N, lt0N, ge0N, gt0N, if_pos, if_neg, if_true, if_false, Option.bind_some, shrN, shlN, andN1, nI_or, andm1, modS, true_or, or_true, c_isRow0 q1]
    · unfold F_X8_set
      simp (disch := omega) only [ixN, clN, nI_add, pk_mul, subN, divN, remN, leN, ltN, eqN, le0N, eq0N, lt0N, ge0N, gt0N, if_pos, if_neg, if_true, if_false, Option.bind_some, shrN, shlN, andN1, nI_or, andm1, modS, true_or, or_true, m_isRow0 q1]
  obtain ⟨k, -, hk, rfl⟩ := in_N (by omega) (by omega) q1
  rcases i.2.1 k (by omega) with ⟨a, b⟩ | ⟨n, l, hn, hl, a, b, c, d, e⟩
  · refine FB (w := 1) i ?_ ?_
    · unfold F_X7_set F_X7_found
      simp (disch := omega) only [ixN, clN, nI_add, pk_mul, subN, divN, remN, leN, ltN, eqN, le0N, eq0N, lt0N, ge0N, gt0N, if_pos, if_neg, if_true, if_false, Option.bind_some, shrN, shlN, andN1, nI_or, andm1, modS, true_or, or_true, c_isRow1 hk, c_miss1 hk a]
    · unfold F_X8_set F_X8_finding
      have e26 : (setF (setF (setF σ 0 (nI 1)) 8 (nI 0)) 9 (nI 0)).1 26 k = -1 := b
      simp (disch := omega) only [ixN, clN, nI_add, pk_mul, subN, divN, remN, leN, ltN, eqN, le0N, eq0N, lt0N, ge0N, gt0N, if_pos, if_neg, if_true, if_false, Option.bind_some, shrN, shlN, andN1, nI_or, andm1, modS, true_or, or_true, m_isRow1 hk, e26]
      rw [if_neg (by decide)]
  · by_cases q2 : ∃ s, s < n ∧ y = nI s
    · obtain ⟨s, hs, rfl⟩ := q2
      let v : Int32 := if l = 0 then z.toInt8.toInt32 else if l = 1 then z.toInt16.toInt32 else z
      have e20 : σ.1 20 k = nI l := c
      have pu : ∀ v, J_X5_put_37 (nI k) (nI s) v (nI s) σ = some (v, setA σ (38 + k) s v) := fun v => by
        unfold J_X5_put_37
        simp (disch := omega) only [ixN, clN, nI_add, pk_mul, subN, divN, remN, leN, ltN, eqN, le0N, eq0N, lt0N, ge0N, gt0N, if_pos, if_neg, if_true, if_false, Option.bind_some, shrN, shlN, andN1, nI_or, andm1, modS, true_or, or_true, setF_1, setA_32, setA_get, setR_ne, setR_get, setF_ne, setF_get, setA_2, setR_2, pk_us, pk_un]
      have cp : F_X5_put (nI k) (nI s) z σ = some (v, setA σ (38 + k) s v) := by
        unfold F_X5_put
        show _ = some ((if l = 0 then z.toInt8.toInt32 else if l = 1 then z.toInt16.toInt32 else z), setA σ (38 + k) s (if l = 0 then z.toInt8.toInt32 else if l = 1 then z.toInt16.toInt32 else z))
        by_cases l0 : l = 0
        · subst l0
          simp (disch := omega) only [ixN, clN, nI_add, pk_mul, subN, divN, remN, leN, ltN, eqN, le0N, eq0N, lt0N, ge0N, gt0N, if_pos, if_neg, if_true, if_false, Option.bind_some, shrN, shlN, andN1, nI_or, andm1, modS, true_or, or_true, e20, pu]
        · by_cases l1 : l = 1
          · subst l1
            simp (disch := omega) only [ixN, clN, nI_add, pk_mul, subN, divN, remN, leN, ltN, eqN, le0N, eq0N, lt0N, ge0N, gt0N, if_pos, if_neg, if_true, if_false, Option.bind_some, shrN, shlN, andN1, nI_or, andm1, modS, true_or, or_true, e20, pu]
          · simp (disch := omega) only [ixN, clN, nI_add, pk_mul, subN, divN, remN, leN, ltN, eqN, le0N, eq0N, lt0N, ge0N, gt0N, if_pos, if_neg, if_true, if_false, Option.bind_some, shrN, shlN, andN1, nI_or, andm1, modS, true_or, or_true, e20, pu]
      let υ0 : St := setF (setF (setF (setA σ (38 + k) s v) 0 (nI 0)) 8 (nI 0)) 9 (nI 0)
      have f26 : υ0.1 26 k = nI l := by
        show (setA σ (38 + k) s v).1 26 k = _
        rw [setA_32 (by omega)]; exact d
      have f27 : υ0.1 27 k = nI n := by
        show (setA σ (38 + k) s v).1 27 k = _
        rw [setA_32 (by omega)]; exact b
      have mu : ∀ v, J_X8_set_99 (nI k) (nI s) v (nI (40 * k + s)) υ0 = some (v, setA υ0 28 (40 * k + s) v) := fun v => by
        unfold J_X8_set_99
        simp (disch := omega) only [ixN, clN, nI_add, pk_mul, subN, divN, remN, leN, ltN, eqN, le0N, eq0N, lt0N, ge0N, gt0N, if_pos, if_neg, if_true, if_false, Option.bind_some, shrN, shlN, andN1, nI_or, andm1, modS, true_or, or_true, setF_1, setA_32, setA_get, setR_ne, setR_get, setF_ne, setF_get, setA_2, setR_2, pk_us, pk_un]
      have qi : ¬ (nI s < nI 0 ∨ nI (n - 1) < nI s) := by
        rw [ltN (by omega) (by omega), ltN (by omega) (by omega)]; omega
      refine FB0 (r := v) (τ := setA σ (38 + k) s v) (υ := setA υ0 28 (40 * k + s) v) i ?_ ?_ rfl rfl (fun j h1 h2 h3 h4 h5 h6 => ?_) (fun r hr => ?_)
      · unfold F_X7_set F_X7_unfound
        simp (disch := omega) only [ixN, clN, nI_add, pk_mul, subN, divN, remN, leN, ltN, eqN, le0N, eq0N, lt0N, ge0N, gt0N, if_pos, if_neg, if_true, if_false, Option.bind_some, shrN, shlN, andN1, nI_or, andm1, modS, true_or, or_true, c_isRow1 hk, c_miss0 hk a hn, c_str1 (s := s) (t := 1) hk a hn (by omega), cp]
      · unfold F_X8_set
        rw [m_isRow1 hk, Option.bind_some]
        show (if nI 1 = 0 then _ else if ix (nI k) 8 then if 0 ≤ υ0.1 26 (nI k).toNatClampNeg then if ix (nI k) 8 then (F_X8_in (nI s).toInt64 (lN 0) (υ0.1 27 (nI k).toNatClampNeg - nI 1).toInt64 υ0).bind _ else none else _ else none) = _
        have mi : F_X8_in (nI s).toInt64 (lN 0) (nI (n - 1)).toInt64 υ0 = some (nI 1, υ0) := by
          rw [← i64_N (n := n - 1) (by omega)]; exact m_in1 qi (by omega) (by omega) υ0
        simp (disch := omega) only [ixN, clN, nI_add, pk_mul, subN, divN, remN, leN, ltN, eqN, le0N, eq0N, lt0N, ge0N, gt0N, if_pos, if_neg, if_true, if_false, Option.bind_some, shrN, shlN, andN1, nI_or, andm1, modS, true_or, or_true, f26, f27, mi]
        show _ = some ((if l = 0 then z.toInt8.toInt32 else if l = 1 then z.toInt16.toInt32 else z), setA υ0 28 (40 * k + s) (if l = 0 then z.toInt8.toInt32 else if l = 1 then z.toInt16.toInt32 else z))
        by_cases l0 : l = 0
        · subst l0
          simp (disch := omega) only [ixN, clN, nI_add, pk_mul, subN, divN, remN, leN, ltN, eqN, le0N, eq0N, lt0N, ge0N, gt0N, if_pos, if_neg, if_true, if_false, Option.bind_some, shrN, shlN, andN1, nI_or, andm1, modS, true_or, or_true, mu]
        · by_cases l1 : l = 1
          · subst l1
            simp (disch := omega) only [ixN, clN, nI_add, pk_mul, subN, divN, remN, leN, ltN, eqN, le0N, eq0N, lt0N, ge0N, gt0N, if_pos, if_neg, if_true, if_false, Option.bind_some, shrN, shlN, andN1, nI_or, andm1, modS, true_or, or_true, mu]
          · simp (disch := omega) only [ixN, clN, nI_add, pk_mul, subN, divN, remN, leN, ltN, eqN, le0N, eq0N, lt0N, ge0N, gt0N, if_pos, if_neg, if_true, if_false, Option.bind_some, shrN, shlN, andN1, nI_or, andm1, modS, true_or, or_true, mu]
      · show (setA (setF (setF (setF (setA σ (38 + k) s v) 0 (nI 0)) 8 (nI 0)) 9 (nI 0)) 28 (40 * k + s) v).1 j = _
        simp (disch := omega) only [setF_1, setA_32, setA_get, setR_ne, setR_get, setF_ne, setF_get, setA_2, setR_2, pk_us, pk_un]
      · show rowOK (setA (setF (setF (setF (setA σ (38 + k) s v) 0 (nI 0)) 8 (nI 0)) 9 (nI 0)) 28 (40 * k + s) v) r
        by_cases e : r = k
        · subst e
          right
          refine ⟨n, l, hn, hl, ?_, ?_, ?_, ?_, fun j hj => ?_⟩
          · simp (disch := omega) only [setF_1, setA_32, setA_get, setR_ne, setR_get, setF_ne, setF_get, setA_2, setR_2, pk_us, pk_un]; exact a
          · simp (disch := omega) only [setF_1, setA_32, setA_get, setR_ne, setR_get, setF_ne, setF_get, setA_2, setR_2, pk_us, pk_un]; exact b
          · simp (disch := omega) only [setF_1, setA_32, setA_get, setR_ne, setR_get, setF_ne, setF_get, setA_2, setR_2, pk_us, pk_un]; exact c
          · simp (disch := omega) only [setF_1, setA_32, setA_get, setR_ne, setR_get, setF_ne, setF_get, setA_2, setR_2, pk_us, pk_un]; exact d
          · by_cases js : j = s
            · subst js
              simp (disch := omega) only [setF_1, setA_32, setA_get, setR_ne, setR_get, setF_ne, setF_get, setA_2, setR_2, pk_us, pk_un]
            · simp (disch := omega) only [setF_1, setA_32, setA_get, setR_ne, setR_get, setF_ne, setF_get, setA_2, setR_2, pk_us, pk_un]
              exact e j hj
        · refine (i.2.1 r hr).fr ?_ ?_ ?_ ?_ ?_ (fun j hj => ?_)
          · simp (disch := omega) only [setF_1, setA_32, setA_get, setR_ne, setR_get, setF_ne, setF_get, setA_2, setR_2, pk_us, pk_un]
          · simp (disch := omega) only [setF_1, setA_32, setA_get, setR_ne, setR_get, setF_ne, setF_get, setA_2, setR_2, pk_us, pk_un]
          · simp (disch := omega) only [setF_1, setA_32, setA_get, setR_ne, setR_get, setF_ne, setF_get, setA_2, setR_2, pk_us, pk_un]
          · simp (disch := omega) only [setF_1, setA_32, setA_get, setR_ne, setR_get, setF_ne, setF_get, setA_2, setR_2, pk_us, pk_un]
          · simp (disch := omega) only [setF_1, setA_32, setA_get, setR_ne, setR_get, setF_ne, setF_get, setA_2, setR_2, pk_us, pk_un]
          · simp (disch := omega) only [setF_1, setA_32, setA_get, setR_ne, setR_get, setF_ne, setF_get, setA_2, setR_2, pk_us, pk_un]
    · have ns : ¬ ∃ s t, y = nI s ∧ nI 1 = nI t ∧ s + t ≤ n := by
        rintro ⟨s, t, rfl, ht, hh⟩
        rw [eqN (by omega) (by omega)] at ht
        exact q2 ⟨s, by omega, rfl⟩
      refine FB (w := 2) i ?_ ?_
      · unfold F_X7_set F_X7_found
        simp (disch := omega) only [ixN, clN, nI_add, pk_mul, subN, divN, remN, leN, ltN, eqN, le0N, eq0N, lt0N, ge0N, gt0N, if_pos, if_neg, if_true, if_false, Option.bind_some, shrN, shlN, andN1, nI_or, andm1, modS, true_or, or_true, c_isRow1 hk, c_miss0 hk a hn, c_str0 hk a hn ns]
      · unfold F_X8_set F_X8_finding
        have e26 : (setF (setF (setF σ 0 (nI 2)) 8 (nI 0)) 9 (nI 0)).1 26 k = nI l := d
        have e27 : (setF (setF (setF σ 0 (nI 2)) 8 (nI 0)) 9 (nI 0)).1 27 k = nI n := b
        have mi : ∀ τ, F_X8_in y.toInt64 (lN 0) (nI n - nI 1).toInt64 τ = some (nI 0, τ) := fun τ => by
          rw [i64_N (by omega), m_in, if_pos]
          by_cases y0 : y < nI 0
          · exact Or.inl y0
          · right
            obtain ⟨s, hs, rfl⟩ := nI_of (x := y) y0
            have : ¬ s < n := fun z => q2 ⟨s, z, rfl⟩
            rw [sub1_lt (by omega), leN (by omega) (by omega)]
            omega
        simp (disch := omega) only [ixN, clN, nI_add, pk_mul, subN, divN, remN, leN, ltN, eqN, le0N, eq0N, lt0N, ge0N, gt0N, if_pos, if_neg, if_true, if_false, Option.bind_some, shrN, shlN, andN1, nI_or, andm1, modS, true_or, or_true, m_isRow1 hk, e26, e27, mi]
theorem e_feed (i : Inv σ) (x : Int32) : Ag (F_X7_feed x σ) (F_X8_feed x) := by
  obtain ⟨⟨h, iN⟩, iR, ⟨⟨n, hn, a1, a11, ab⟩, fl⟩, iA, iI, iB, iS⟩ := id i
  by_cases q1 : x < nI 0 ∨ nI 255 < x
  · refine Ag.q i (-1000001) σ ?_ (Scr.rf σ) (fun τ s => ⟨setF τ 8 (nI 0), ?_, scr8 s⟩)
    · unfold F_X7_feed
      simp (disch := omega) only [ixN, clN, nI_add, pk_mul, subN, divN, remN, leN, ltN, eqN, le0N, eq0N, lt0N, ge0N, gt0N, if_pos, if_neg, if_true, if_false, Option.bind_some, shrN, shlN, andN1, nI_or, andm1, modS, true_or, or_true, c_within0 q1]
    · unfold F_X8_feed
      simp (disch := omega) only [ixN, clN, nI_add, pk_mul, subN, divN, remN, leN, ltN, eqN, le0N, eq0N, lt0N, ge0N, gt0N, if_pos, if_neg, if_true, if_false, Option.bind_some, shrN, shlN, andN1, nI_or, andm1, modS, true_or, or_true, m_in0 q1]
  obtain ⟨b, -, hb, rfl⟩ := in_N (by omega) (by omega) q1
  by_cases q2 : n < 120
  · let τ1 : St := setF (setA σ 22 n (nI b)) 1 (nI (n + 1))
    let υ1 : St := setF (setA (setF τ1 8 (nI 0)) 33 n (nI b)) 11 (nI (n + 1))
    have ar : ∀ k, k ≠ 22 → k ≠ 33 → υ1.1 k = σ.1 k := fun k h1 h2 => by
      show (setF (setA (setF (setF (setA σ 22 n (nI b)) 1 (nI (n + 1))) 8 (nI 0)) 33 n (nI b)) 11 (nI (n + 1))).1 k = _
      simp (disch := omega) only [setF_1, setA_32, setA_get, setR_ne, setR_get, setF_ne, setF_get, setA_2, setR_2, pk_us, pk_un]
    have ff : ∀ k, k ≠ 1 → k ≠ 8 → k ≠ 11 → υ1.2 k = σ.2 k := fun k h1 h2 h3 => by
      show (setF (setA (setF (setF (setA σ 22 n (nI b)) 1 (nI (n + 1))) 8 (nI 0)) 33 n (nI b)) 11 (nI (n + 1))).2 k = _
      simp (disch := omega) only [setF_1, setA_32, setA_get, setR_ne, setR_get, setF_ne, setF_get, setA_2, setR_2, pk_us, pk_un]
    have g11 : (setF τ1 8 (nI 0)).2 11 = nI n := by
      show (setF (setF (setA σ 22 n (nI b)) 1 (nI (n + 1))) 8 (nI 0)).2 11 = _
      simp (disch := omega) only [setF_1, setA_32, setA_get, setR_ne, setR_get, setF_ne, setF_get, setA_2, setR_2, pk_us, pk_un]
      exact a11
    refine ⟨nI (n + 1), τ1, υ1, ?_, ?_, ⟨h, iN.fr (ar 4 (by omega) (by omega)) (ar 29 (by omega) (by omega))⟩, iR.fr (fun k hk => ar k (by omega) (by omega)), ⟨⟨n + 1, by omega, ?_, ?_, fun j hj => ?_⟩, ?_⟩, iA.fr (ar 32 (by omega) (by omega)) (fun k h1 h2 => ar k (by omega) (by omega)) (fun j hj => ff j (by omega) (by omega) (by omega)), iI.fr (fun k hk => ar k (by omega) (by omega)), iB.fr (ar 24 (by omega) (by omega)) (ar 37 (by omega) (by omega)) (fun j hj => ff j (by omega) (by omega) (by omega)), iS.fr (fun j hj => ff j (by omega) (by omega) (by omega))⟩
    · unfold F_X7_feed F_X6_append
      have g1 : (setA σ 22 n (nI b)).2 1 = nI n := a1
      simp (disch := omega) only [ixN, clN, nI_add, pk_mul, subN, divN, remN, leN, ltN, eqN, le0N, eq0N, lt0N, ge0N, gt0N, if_pos, if_neg, if_true, if_false, Option.bind_some, shrN, shlN, andN1, nI_or, andm1, modS, true_or, or_true, c_within1 q1, a1, g1, setF_get]
      rfl
    · unfold F_X8_feed
      have g2 : (setA (setF τ1 8 (nI 0)) 33 n (nI b)).2 11 = nI n := g11
      simp (disch := omega) only [ixN, clN, nI_add, pk_mul, subN, divN, remN, leN, ltN, eqN, le0N, eq0N, lt0N, ge0N, gt0N, if_pos, if_neg, if_true, if_false, Option.bind_some, shrN, shlN, andN1, nI_or, andm1, modS, true_or, or_true, m_in1 q1, g11, g2, setF_get]
      rfl
    · show (setF (setA (setF (setF (setA σ 22 n (nI b)) 1 (nI (n + 1))) 8 (nI 0)) 33 n (nI b)) 11 (nI (n + 1))).2 1 = _
      simp (disch := omega) only [setF_1, setA_32, setA_get, setR_ne, setR_get, setF_ne, setF_get, setA_2, setR_2, pk_us, pk_un]
    · exact setF_get _ _ _
    · have e22 : υ1.1 22 = upd (σ.1 22) n (nI b) := by
        show (setF (setA (setF (setF (setA σ 22 n (nI b)) 1 (nI (n + 1))) 8 (nI 0)) 33 n (nI b)) 11 (nI (n + 1))).1 22 = _
        simp (disch := omega) only [setF_1, setA_32, setA_get, setR_ne, setR_get, setF_ne, setF_get, setA_2, setR_2, pk_us, pk_un]
      have e33 : υ1.1 33 = upd (σ.1 33) n (nI b) := by
        show (setF (setA (setF (setF (setA σ 22 n (nI b)) 1 (nI (n + 1))) 8 (nI 0)) 33 n (nI b)) 11 (nI (n + 1))).1 33 = _
        simp (disch := omega) only [setF_1, setA_32, setA_get, setR_ne, setR_get, setF_ne, setF_get, setA_2, setR_2, pk_us, pk_un]
      rw [e22, e33]
      by_cases z : j = n
      · rw [z, pk_us, pk_us]; exact ⟨rfl, b, by omega, rfl⟩
      · rw [pk_un z, pk_un z]; exact ab j (by omega)
    · rw [ff 2 (by omega) (by omega) (by omega), ff 18 (by omega) (by omega) (by omega)]; exact fl
  · obtain rfl : n = 120 := by omega
    refine Ag.q i (-1000003) σ ?_ (Scr.rf σ) (fun τ s => ⟨setF τ 8 (nI 0), ?_, scr8 s⟩)
    · unfold F_X7_feed F_X6_append
      simp (disch := omega) only [ixN, clN, nI_add, pk_mul, subN, divN, remN, leN, ltN, eqN, le0N, eq0N, lt0N, ge0N, gt0N, if_pos, if_neg, if_true, if_false, Option.bind_some, shrN, shlN, andN1, nI_or, andm1, modS, true_or, or_true, c_within1 q1, a1]
    · unfold F_X8_feed
      have g2 : (setF τ 8 (nI 0)).2 11 = nI 120 := by rw [setF_ne (by decide), s.2 11 (nsf (by omega))]; exact a11
      simp (disch := omega) only [ixN, clN, nI_add, pk_mul, subN, divN, remN, leN, ltN, eqN, le0N, eq0N, lt0N, ge0N, gt0N, if_pos, if_neg, if_true, if_false, Option.bind_some, shrN, shlN, andN1, nI_or, andm1, modS, true_or, or_true, m_in1 q1, g2]
def ct (f : Nat → Int32) : Nat → Nat
  | 0 => 0
  | m + 1 => ct f m + if f m = -1 then 0 else 1
theorem ct_le (f : Nat → Int32) : ∀ m, ct f m ≤ m := by
  intro m
  induction m with
  | zero => exact Nat.le_refl _
  | succ m ih => rw [ct]; split <;> omega
theorem e_count (i : Inv σ) (x : Int32) : Ag (F_X7_count x σ) (F_X8_count x) := by
  obtain ⟨⟨h, c, m, w, b⟩, iR, ⟨⟨n, hn, a1, a11, ab⟩, fl⟩, iA, iI, iB, iS⟩ := id i
  obtain ⟨na, xx, S, ca, ma, so⟩ := InvA_iff.mp iA
  have hf := fuel_ge
  have L7 : ∀ (mm N a : Nat), a + mm = 8 → mm < N → ∀ K, L_X5_howMany_4 K N (nI (ct (σ.1 21) a)) (nI a) σ = K (nI (ct (σ.1 21) 8)) σ := by
    intro mm
    induction mm with
    | zero =>
      intro N a ha hN K
      obtain ⟨N, rfl⟩ : ∃ n', N = n' + 1 := ⟨N - 1, by omega⟩
      obtain rfl : a = 8 := by omega
      rw [L_X5_howMany_4.eq_2]
      simp (disch := omega) only [ixN, clN, nI_add, pk_mul, subN, divN, remN, leN, ltN, eqN, le0N, eq0N, lt0N, ge0N, gt0N, if_pos, if_neg, if_true, if_false, Option.bind_some, shrN, shlN, andN1, nI_or, andm1, modS, true_or, or_true]
    | succ mm ih =>
      intro N a ha hN K
      obtain ⟨N, rfl⟩ : ∃ n', N = n' + 1 := ⟨N - 1, by omega⟩
      have hi := ih N (a + 1) (by omega) (by omega) K
      rw [ct] at hi
      rw [L_X5_howMany_4.eq_2, ← hi]
      rcases iR a (by omega) with ⟨e, -⟩ | ⟨n, l, hn, hl, e, -⟩
      · simp (disch := omega) only [ixN, clN, nI_add, pk_mul, subN, divN, remN, leN, ltN, eqN, le0N, eq0N, lt0N, ge0N, gt0N, if_pos, if_neg, if_true, if_false, Option.bind_some, shrN, shlN, andN1, nI_or, andm1, modS, true_or, or_true, c_miss1 (show a ≤ 7 by omega) e, e]
      · rw [e, if_neg (nm1 (by omega))]
        simp (disch := omega) only [ixN, clN, nI_add, pk_mul, subN, divN, remN, leN, ltN, eqN, le0N, eq0N, lt0N, ge0N, gt0N, if_pos, if_neg, if_true, if_false, Option.bind_some, shrN, shlN, andN1, nI_or, andm1, modS, true_or, or_true, c_miss0 (show a ≤ 7 by omega) e hn]
  have L8 : ∀ (τ : St), Scr σ τ → ∀ (mm N a : Nat), a + mm = 8 → mm < N → ∀ K, L_X8_count_58 K N (nI (ct (σ.1 21) a)) (nI a) τ = K (nI (ct (σ.1 21) 8)) τ := by
    intro τ s mm
    induction mm with
    | zero =>
      intro N a ha hN K
      obtain ⟨N, rfl⟩ : ∃ n', N = n' + 1 := ⟨N - 1, by omega⟩
      obtain rfl : a = 8 := by omega
      rw [L_X8_count_58.eq_2]
      simp (disch := omega) only [ixN, clN, nI_add, pk_mul, subN, divN, remN, leN, ltN, eqN, le0N, eq0N, lt0N, ge0N, gt0N, if_pos, if_neg, if_true, if_false, Option.bind_some, shrN, shlN, andN1, nI_or, andm1, modS, true_or, or_true]
    | succ mm ih =>
      intro N a ha hN K
      obtain ⟨N, rfl⟩ : ∃ n', N = n' + 1 := ⟨N - 1, by omega⟩
      have hi := ih N (a + 1) (by omega) (by omega) K
      rw [ct] at hi
      rw [L_X8_count_58.eq_2, ← hi, s.1 26 (nsc (by omega))]
      rcases iR a (by omega) with ⟨e, e'⟩ | ⟨n, l, hn, hl, e, -, -, e', -⟩
      · simp (disch := omega) only [ixN, clN, nI_add, pk_mul, subN, divN, remN, leN, ltN, eqN, le0N, eq0N, lt0N, ge0N, gt0N, if_pos, if_neg, if_true, if_false, Option.bind_some, shrN, shlN, andN1, nI_or, andm1, modS, true_or, or_true, e, e']
        rw [if_pos (by decide)]
      · rw [e, if_neg (nm1 (by omega))]
        simp (disch := omega) only [ixN, clN, nI_add, pk_mul, subN, divN, remN, leN, ltN, eqN, le0N, eq0N, lt0N, ge0N, gt0N, if_pos, if_neg, if_true, if_false, Option.bind_some, shrN, shlN, andN1, nI_or, andm1, modS, true_or, or_true, e']
  refine Ag.q i (if x = 0 then nI (ct (σ.1 21) 8) else if x = 1 then nI (h 0) else if x = 2 then nI (h 2) else if x = 3 then nI (h 4) else if x = 4 then nI (h 3) else if x = 5 then nI (sA h (h 2)) else if x = 6 then nI na else if x = 7 then nI n else (-1000001)) σ ?_ (Scr.rf σ) (fun τ s => ⟨setF τ 8 (nI 0), ?_, scr8 s⟩)
  · unfold F_X7_count F_X5_howMany
    have l := L7 8 fuel 0 (by omega) (by omega)
    rw [show ct (σ.1 21) 0 = 0 from rfl] at l
    simp (disch := omega) only [ixN, clN, nI_add, pk_mul, subN, divN, remN, leN, ltN, eqN, le0N, eq0N, lt0N, ge0N, gt0N, if_pos, if_neg, if_true, if_false, Option.bind_some, shrN, shlN, andN1, nI_or, andm1, modS, true_or, or_true, l, c 0 (by omega), c 2 (by omega), c 4 (by omega), c 3 (by omega), c_soundsInAll c w, ca.2.2.1, a1]
    split
    · rfl
    · split
      · rfl
      · split
        · rfl
        · split
          · rfl
          · split
            · rfl
            · split
              · rfl
              · split
                · rfl
                · split <;> rfl
  · unfold F_X8_count
    have l := L8 (setF τ 8 (nI 0)) (scr8 s) 8 fuel 0 (by omega) (by omega)
    rw [show ct (σ.1 21) 0 = 0 from rfl] at l
    have m8 := mr8 m s
    have g10 : (setF τ 8 (nI 0)).2 10 = nI na := by rw [(scr8 s).2 10 (nsf (by omega))]; exact ma.1
    have g11 : (setF τ 8 (nI 0)).2 11 = nI n := by rw [(scr8 s).2 11 (nsf (by omega))]; exact a11
    simp (disch := omega) only [ixN, clN, nI_add, pk_mul, subN, divN, remN, leN, ltN, eqN, le0N, eq0N, lt0N, ge0N, gt0N, if_pos, if_neg, if_true, if_false, Option.bind_some, shrN, shlN, andN1, nI_or, andm1, modS, true_or, or_true, l, m8.a0, m8.a2, m8.a3, m8.a4, m29_sounds m8 w, g10, g11]
    split
    · rfl
    · split
      · rfl
      · split
        · rfl
        · split
          · rfl
          · split
            · rfl
            · split
              · rfl
              · split
                · rfl
                · split <;> rfl
end ROWS3
