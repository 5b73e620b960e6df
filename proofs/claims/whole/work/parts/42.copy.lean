/-! copy -/
section COPY
variable {σ : St}
theorem nI_of0 {x : Int32} (h : ¬ x < 0) : ∃ n, n < 2147483648 ∧ x = nI n := nI_of h
theorem m_cpF {i k s d t : Nat} (hi : i ≤ 7) (hk : k ≤ 7) (hs : s + t ≤ 40) (hd : d + t ≤ 40) (W : Nat → Int32) (ov : d ≤ s) : ∀ (mm N a : Nat) (σ : St), a + mm = t → mm < N → (∀ j, j < a → σ.1 28 (40 * k + d + j) = W (40 * i + s + j)) → (∀ q, (q < 40 * k + d ∨ 40 * k + d + a ≤ q) → σ.1 28 q = W q) → ∃ w, (∀ K, L_X8_copy_143 K N (nI i) (nI s) (nI k) (nI d) (nI t) (nI 1) (nI a) σ = K (nI t) (setR σ 28 w)) ∧ (∀ j, j < t → w (40 * k + d + j) = W (40 * i + s + j)) ∧ ∀ q, (q < 40 * k + d ∨ 40 * k + d + t ≤ q) → w q = W q := by
  intro mm
  induction mm with
  | zero =>
    intro N a σ ha hN h1 h2
    obtain ⟨N, rfl⟩ : ∃ n', N = n' + 1 := ⟨N - 1, by omega⟩
    refine ⟨σ.1 28, fun K => ?_, fun j hj => h1 j (by omega), fun q hq => h2 q (by omega)⟩
    rw [L_X8_copy_143.eq_2]
    simp (disch := omega) only [ixN, clN, nI_add, pk_mul, subN, divN, remN, leN, ltN, eqN, le0N, eq0N, lt0N, ge0N, gt0N, if_pos, if_neg, if_true, if_false, Option.bind_some, shrN, shlN, andN1, nI_or, andm1, modS, true_or, or_true]
    congr 1
    apply St.ext
    · intro k
      by_cases q : k = 28
      · rw [q, setR_get]
      · rw [setR_ne q]
    · intro j; rfl
  | succ mm ih =>
    intro N a σ ha hN h1 h2
    obtain ⟨N, rfl⟩ : ∃ n', N = n' + 1 := ⟨N - 1, by omega⟩
    have rd : σ.1 28 (40 * i + s + a) = W (40 * i + s + a) := h2 _ (by omega)
    obtain ⟨w, l1, l2, l3⟩ := ih N (a + 1) (setA σ 28 (40 * k + d + a) (W (40 * i + s + a))) (by omega) (by omega) (fun j hj => by
      rw [setA_get]
      by_cases z : j = a
      · rw [z, pk_us]
      · rw [pk_un (by omega), h1 j (by omega)]) (fun q hq => by rw [setA_get, pk_un (by omega), h2 q (by omega)])
    refine ⟨w, fun K => ?_, l2, l3⟩
    rw [L_X8_copy_143.eq_2]
    simp (disch := omega) only [ixN, clN, nI_add, pk_mul, subN, divN, remN, leN, ltN, eqN, le0N, eq0N, lt0N, ge0N, gt0N, if_pos, if_neg, if_true, if_false, Option.bind_some, shrN, shlN, andN1, nI_or, andm1, modS, true_or, or_true, J_X8_copy_167, rd, l1]
    congr 1
    apply St.ext
    · intro k
      by_cases q : k = 28
      · rw [q, setR_get, setR_get]
      · rw [setR_ne q, setR_ne q, setA_32 q]
    · intro j; rfl
theorem m_cpB {i k s d t : Nat} (hi : i ≤ 7) (hk : k ≤ 7) (hs : s + t ≤ 40) (hd : d + t ≤ 40) (W : Nat → Int32) (ov : s < d) : ∀ (mm N a : Nat) (σ : St), a + mm = t → mm < N → (∀ j, j < t → t ≤ j + a → σ.1 28 (40 * k + d + j) = W (40 * i + s + j)) → (∀ q, (q + a < 40 * k + d + t ∨ 40 * k + d + t ≤ q) → σ.1 28 q = W q) → ∃ w, (∀ K, L_X8_copy_143 K N (nI i) (nI s) (nI k) (nI d) (nI t) (nI 0) (nI a) σ = K (nI t) (setR σ 28 w)) ∧ (∀ j, j < t → w (40 * k + d + j) = W (40 * i + s + j)) ∧ ∀ q, (q < 40 * k + d ∨ 40 * k + d + t ≤ q) → w q = W q := by
  intro mm
  induction mm with
  | zero =>
    intro N a σ ha hN h1 h2
    obtain ⟨N, rfl⟩ : ∃ n', N = n' + 1 := ⟨N - 1, by omega⟩
    refine ⟨σ.1 28, fun K => ?_, fun j hj => h1 j hj (by omega), fun q hq => h2 q (by omega)⟩
    rw [L_X8_copy_143.eq_2]
    simp (disch := omega) only [ixN, clN, nI_add, pk_mul, subN, divN, remN, leN, ltN, eqN, le0N, eq0N, lt0N, ge0N, gt0N, if_pos, if_neg, if_true, if_false, Option.bind_some, shrN, shlN, andN1, nI_or, andm1, modS, true_or, or_true]
    congr 1
    apply St.ext
    · intro k
      by_cases q : k = 28
      · rw [q, setR_get]
      · rw [setR_ne q]
    · intro j; rfl
  | succ mm ih =>
    intro N a σ ha hN h1 h2
    obtain ⟨N, rfl⟩ : ∃ n', N = n' + 1 := ⟨N - 1, by omega⟩
    have rd : σ.1 28 (40 * i + s + (t - 1 - a)) = W (40 * i + s + (t - 1 - a)) := h2 _ (by omega)
    obtain ⟨w, l1, l2, l3⟩ := ih N (a + 1) (setA σ 28 (40 * k + d + (t - 1 - a)) (W (40 * i + s + (t - 1 - a)))) (by omega) (by omega) (fun j hj hj2 => by
      rw [setA_get]
      by_cases z : j = t - 1 - a
      · rw [z, pk_us]
      · rw [pk_un (by omega), h1 j hj (by omega)]) (fun q hq => by rw [setA_get, pk_un (by omega), h2 q (by omega)])
    refine ⟨w, fun K => ?_, l2, l3⟩
    rw [L_X8_copy_143.eq_2]
    simp (disch := omega) only [ixN, clN, nI_add, pk_mul, subN, divN, remN, leN, ltN, eqN, le0N, eq0N, lt0N, ge0N, gt0N, if_pos, if_neg, if_true, if_false, Option.bind_some, shrN, shlN, andN1, nI_or, andm1, modS, true_or, or_true, J_X8_copy_167, rd, l1]
    congr 1
    apply St.ext
    · intro k
      by_cases q : k = 28
      · rw [q, setR_get, setR_get]
      · rw [setR_ne q, setR_ne q, setA_32 q]
    · intro j; rfl
theorem lg2 {s t n : Nat} (hs : s < 2147483648) (ht : t < 2147483648) (hn : n ≤ 40) : (0 < lg_cmp ((nI s).toInt64 + (nI t).toInt64) (nI n).toInt64 ↔ n < s + t) ∧ (lg_cmp ((nI s).toInt64 + (nI t).toInt64) (nI n).toInt64 ≤ 0 ↔ s + t ≤ n) := by
  rw [lc_gt, lc_le, nI_l (by omega), nI_l (by omega), nI_l (by omega), lN_add, Int64.lt_iff_toInt_lt, Int64.le_iff_toInt_le]
  have e1 : (lN (s + t)).toInt = ((s + t : Nat) : Int) := lg_ofNat_toInt (by omega)
  have e2 : (lN n).toInt = (n : Int) := lg_ofNat_toInt (by omega)
  rw [e1, e2]
  omega
theorem bt1 {α : Type} (v : St) (A B : Int32 × St → Option α) : ((some (nI 1, v)).bind fun z => if z.1 = 0 then A z else B z) = B (nI 1, v) := by
  rw [Option.bind_some]
  exact if_neg (show ¬ nI 1 = 0 by decide)
theorem bt0 {α : Type} (v : St) (A B : Int32 × St → Option α) : ((some (nI 0, v)).bind fun z => if z.1 = 0 then A z else B z) = A (nI 0, v) := by
  rw [Option.bind_some]
  exact if_pos (show nI 0 = 0 by decide)
theorem m_copy_eq {i1 k1 : Nat} (hi1 : i1 ≤ 7) (hk1 : k1 ≤ 7) (a2 a4 a5 : Int32) (τ υ : St) (hu : υ = setF (setF τ 8 (nI 0)) 9 (nI 0)) : F_X8_copy (nI i1) a2 (nI k1) a4 a5 τ = (if υ.1 26 i1 < 0 then J_X8_copy_45 υ else if 0 ≤ υ.1 26 k1 then (if υ.1 26 i1 = υ.1 26 k1 then (if a2 < 0 then J_X8_copy_121 υ else if a4 < 0 then J_X8_copy_121 υ else if a5 < 0 then J_X8_copy_121 υ else if 0 < lg_cmp (a2.toInt64 + a5.toInt64) (υ.1 27 i1).toInt64 then J_X8_copy_121 υ else if lg_cmp (a4.toInt64 + a5.toInt64) (υ.1 27 k1).toInt64 ≤ 0 then (if a2 < a4 then L_X8_copy_143 (fun a5 σ => some (a5, σ)) fuel (nI i1) a2 (nI k1) a4 a5 (nI 0) (nI 0) υ else L_X8_copy_143 (fun a5 σ => some (a5, σ)) fuel (nI i1) a2 (nI k1) a4 a5 (nI 1) (nI 0) υ) else J_X8_copy_121 υ) else some ((-1000010 : Int32) - nI 5, setF υ 9 (nI 5))) else J_X8_copy_45 υ) := by
  subst hu
  unfold F_X8_copy
  rw [m_isRow1 hi1, bt1, m_isRow1 hk1, bt1]
  have e : ix (nI i1) 8 := (ixN (by omega)).mpr (by omega)
  have e' : ix (nI k1) 8 := (ixN (by omega)).mpr (by omega)
  have cl : (nI i1).toNatClampNeg = i1 := clN (by omega)
  have cl' : (nI k1).toNatClampNeg = k1 := clN (by omega)
  simp only [if_pos e, if_pos e', cl, cl']
  rfl
theorem c_copy_eq {i1 k1 n n' l l' : Nat} (hi1 : i1 ≤ 7) (hk1 : k1 ≤ 7) (hn : n ≤ 40) (hn' : n' ≤ 40) (a : σ.1 21 i1 = nI n) (a' : σ.1 21 k1 = nI n') (c : σ.1 20 i1 = nI l) (c' : σ.1 20 k1 = nI l') (a2 a4 a5 : Int32) : F_X7_copy (nI i1) a2 (nI k1) a4 a5 σ = (if nI l = nI l' then ((F_X5_hasStretch (nI i1) a2 a5 σ).bind fun z8 => if z8.1 = 0 then (J_X7_copy_101 z8.2) else ((F_X5_hasStretch (nI k1) a4 a5 z8.2).bind fun z10 => if z10.1 = 0 then (J_X7_copy_101 z10.2) else if (¬ a2 < 0 ∧ ¬ a4 < 0 ∧ ¬ a5 < 0 ∧ a2.toNatClampNeg + a5.toNatClampNeg ≤ 40 ∧ a4.toNatClampNeg + a5.toNatClampNeg ≤ 40) then (F_X7_unfound a5 (cpyA z10.2 (38 + i1) a2.toNatClampNeg (38 + k1) a4.toNatClampNeg a5.toNatClampNeg)).bind fun z14 => some (z14.1, z14.2) else none)) else some ((-1000010 : Int32) - nI 5, setF σ 0 (nI 5))) := by
  unfold F_X7_copy
  rw [c_isRow1 hi1, bt1, c_isRow1 hk1, bt1, c_miss0 hi1 a hn, bt0, c_miss0 hk1 a' hn', bt0]
  have e : ix (nI i1) 8 := (ixN (by omega)).mpr (by omega)
  have e' : ix (nI k1) 8 := (ixN (by omega)).mpr (by omega)
  have cl : (nI i1).toNatClampNeg = i1 := clN (by omega)
  have cl' : (nI k1).toNatClampNeg = k1 := clN (by omega)
  simp only [if_pos e, if_pos e', cl, cl', c, c']
  rfl
theorem e_copy (i : Inv σ) (x a2 y a4 a5 : Int32) : Ag (F_X7_copy x a2 y a4 a5 σ) (F_X8_copy x a2 y a4 a5) := by
  by_cases q1 : x < nI 0 ∨ nI 7 < x
  · refine Ag.q i (-1000001) σ ?_ (Scr.rf σ) (fun τ s => ⟨setF τ 8 (nI 0), ?_, scr8 s⟩)
    · unfold F_X7_copy
      rw [c_isRow0 q1, bt0]
    · unfold F_X8_copy
      rw [m_isRow0 q1, bt0]
  obtain ⟨i1, -, hi1, rfl⟩ := in_N (by omega) (by omega) q1
  by_cases q2 : y < nI 0 ∨ nI 7 < y
  · refine Ag.q i (-1000001) σ ?_ (Scr.rf σ) (fun τ s => ⟨setF τ 8 (nI 0), ?_, scr8 s⟩)
    · unfold F_X7_copy
      rw [c_isRow1 hi1, bt1, c_isRow0 q2, bt0]
    · unfold F_X8_copy
      rw [m_isRow1 hi1, bt1, m_isRow0 q2, bt0]
  obtain ⟨k1, -, hk1, rfl⟩ := in_N (by omega) (by omega) q2
  rcases i.2.1 i1 (by omega) with ⟨a, b⟩ | ⟨n, l, hn, hl, a, b, c, d, e⟩
  · refine FB (w := 1) i ?_ ?_
    · unfold F_X7_copy
      rw [c_isRow1 hi1, bt1, c_isRow1 hk1, bt1, c_miss1 hi1 a, bt1]
      rfl
    · have e26 : (setF (setF (setF σ 0 (nI 1)) 8 (nI 0)) 9 (nI 0)).1 26 i1 = -1 := b
      rw [m_copy_eq hi1 hk1 _ _ _ _ _ rfl, e26, if_pos (by decide)]
      rfl
  rcases i.2.1 k1 (by omega) with ⟨a', b'⟩ | ⟨n', l', hn', hl', a', b', c', d', e'⟩
  · refine FB (w := 1) i ?_ ?_
    · unfold F_X7_copy
      rw [c_isRow1 hi1, bt1, c_isRow1 hk1, bt1, c_miss0 hi1 a hn, bt0, c_miss1 hk1 a', bt1]
      rfl
    · have e26 : (setF (setF (setF σ 0 (nI 1)) 8 (nI 0)) 9 (nI 0)).1 26 i1 = nI l := d
      have e26' : (setF (setF (setF σ 0 (nI 1)) 8 (nI 0)) 9 (nI 0)).1 26 k1 = -1 := b'
      rw [m_copy_eq hi1 hk1 _ _ _ _ _ rfl, e26, e26', if_neg (by rw [lt0N (by omega)]; exact fun z => z), if_neg (by decide)]
      rfl
  by_cases ll : l = l'
  · subst ll
    by_cases ok : ∃ s dd t, s < 2147483648 ∧ dd < 2147483648 ∧ t < 2147483648 ∧ a2 = nI s ∧ a4 = nI dd ∧ a5 = nI t ∧ s + t ≤ n ∧ dd + t ≤ n'
    · obtain ⟨s, dd, t, hs, hd, ht, rfl, rfl, rfl, o1, o2⟩ := ok
      let τ1 : St := cpyA σ (38 + i1) s (38 + k1) dd t
      let υ0 : St := setF (setF (setF τ1 0 (nI 0)) 8 (nI 0)) 9 (nI 0)
      have ar1 : ∀ k, k ≠ 38 + k1 → υ0.1 k = σ.1 k := fun k hk => by
        show (setR σ (38 + k1) _).1 k = _
        rw [setR_ne hk]
      have g26 : υ0.1 26 i1 = nI l := by rw [ar1 26 (by omega)]; exact d
      have g26' : υ0.1 26 k1 = nI l := by rw [ar1 26 (by omega)]; exact d'
      have g27 : υ0.1 27 i1 = nI n := by rw [ar1 27 (by omega)]; exact b
      have g27' : υ0.1 27 k1 = nI n' := by rw [ar1 27 (by omega)]; exact b'
      have g28 : υ0.1 28 = σ.1 28 := ar1 28 (by omega)
      have hf := fuel_ge
      have lp : ∃ w, (∀ K : Int32 → St → Option (Int32 × St), (if nI s < nI dd then L_X8_copy_143 K fuel (nI i1) (nI s) (nI k1) (nI dd) (nI t) (nI 0) (nI 0) υ0 else L_X8_copy_143 K fuel (nI i1) (nI s) (nI k1) (nI dd) (nI t) (nI 1) (nI 0) υ0) = K (nI t) (setR υ0 28 w)) ∧ (∀ j, j < t → w (40 * k1 + dd + j) = σ.1 28 (40 * i1 + s + j)) ∧ ∀ q, (q < 40 * k1 + dd ∨ 40 * k1 + dd + t ≤ q) → w q = σ.1 28 q := by
        by_cases z : s < dd
        · obtain ⟨w, l1, l2, l3⟩ := m_cpB hi1 hk1 (show s + t ≤ 40 by omega) (show dd + t ≤ 40 by omega) (σ.1 28) z t fuel 0 υ0 (by omega) (by omega) (fun j h1 h2 => by omega) (fun q _ => by rw [g28])
          exact ⟨w, fun K => by rw [if_pos (nI_lt z (by omega)), l1], l2, l3⟩
        · obtain ⟨w, l1, l2, l3⟩ := m_cpF hi1 hk1 (show s + t ≤ 40 by omega) (show dd + t ≤ 40 by omega) (σ.1 28) (by omega) t fuel 0 υ0 (by omega) (by omega) (fun j h1 => by omega) (fun q _ => by rw [g28])
          exact ⟨w, fun K => by rw [if_neg (by rw [ltN (by omega) (by omega)]; exact z), l1], l2, l3⟩
      obtain ⟨w, l1, l2, l3⟩ := lp
      refine FB0 (r := nI t) (τ := τ1) (υ := setR υ0 28 w) i ?_ ?_ rfl rfl (fun j h1 h2 h3 h4 h5 h6 => ?_) (fun r hr => ?_)
      · rw [c_copy_eq hi1 hk1 hn hn' a a' c c', if_pos rfl, c_str1 hi1 a hn o1, bt1, c_str1 hk1 a' hn' o2, bt1, clN hs, clN hd, clN ht, if_pos ⟨by rw [lt0N (by omega)]; exact fun z => z, by rw [lt0N (by omega)]; exact fun z => z, by rw [lt0N (by omega)]; exact fun z => z, by omega, by omega⟩]
        rfl
      · rw [m_copy_eq hi1 hk1 _ _ _ _ υ0 rfl]
        rw [g26, g26', g27, g27', l1, if_neg (by rw [lt0N (by omega)]; exact fun z => z), if_pos (by rw [ge0N (by omega)]; trivial), if_pos rfl, if_neg (by rw [lt0N (by omega)]; exact fun z => z), if_neg (by rw [lt0N (by omega)]; exact fun z => z), if_neg (by rw [lt0N (by omega)]; exact fun z => z), if_neg (by rw [(lg2 (by omega) (by omega) hn).1]; omega), if_pos ((lg2 (by omega) (by omega) hn').2.mpr o2)]
      · rw [setR_ne h5, ar1 j (by omega)]
      · by_cases er : r = k1
        · subst er
          right
          refine ⟨n', l, hn', hl', ?_, ?_, ?_, ?_, fun j hj => ?_⟩
          · rw [setR_ne (by omega), ar1 21 (by omega)]; exact a'
          · rw [setR_ne (by omega)]; exact g27'
          · rw [setR_ne (by omega), ar1 20 (by omega)]; exact c'
          · rw [setR_ne (by omega)]; exact g26'
          · rw [setR_ne (by omega), setR_get]
            show (setR σ (38 + r) (va_cpy (σ.1 (38 + i1)) (σ.1 (38 + r)) s dd t)).1 (38 + r) j = _
            rw [setR_get]
            unfold va_cpy
            by_cases z : dd ≤ j ∧ j < dd + t
            · show (if dd ≤ j ∧ j < dd + t then _ else _) = _
              rw [if_pos z, show 40 * r + j = 40 * r + dd + (j - dd) by omega, l2 (j - dd) (by omega), e _ (by omega), show 40 * i1 + (s + (j - dd)) = 40 * i1 + s + (j - dd) by omega]
            · show (if dd ≤ j ∧ j < dd + t then _ else _) = _
              rw [if_neg z, l3 _ (by omega), e' j hj]
        · refine (i.2.1 r hr).fr ?_ ?_ ?_ ?_ ?_ (fun j hj => ?_)
          · rw [setR_ne (by omega), ar1 20 (by omega)]
          · rw [setR_ne (by omega), ar1 21 (by omega)]
          · rw [setR_ne (by omega), ar1 26 (by omega)]
          · rw [setR_ne (by omega), ar1 27 (by omega)]
          · rw [setR_ne (by omega), ar1 (38 + r) (by omega)]
          · rw [setR_get, l3 _ (by omega)]
    · refine FB (w := 2) i ?_ ?_
      · rw [c_copy_eq hi1 hk1 hn hn' a a' c c', if_pos rfl]
        by_cases ok1 : ∃ s t, a2 = nI s ∧ a5 = nI t ∧ s + t ≤ n
        · obtain ⟨s, t, rfl, rfl, o1⟩ := ok1
          have nk : ¬ ∃ s' t', a4 = nI s' ∧ nI t = nI t' ∧ s' + t' ≤ n' := by
            rintro ⟨s', t', rfl, et, o2⟩
            rw [eqN (by omega) (by omega)] at et
            exact ok ⟨s, s', t, by omega, by omega, by omega, rfl, rfl, rfl, o1, by omega⟩
          rw [c_str1 hi1 a hn o1, bt1, c_str0 hk1 a' hn' nk, bt0]
          rfl
        · rw [c_str0 hi1 a hn ok1, bt0]
          rfl
      · let υ0 : St := setF (setF (setF σ 0 (nI 2)) 8 (nI 0)) 9 (nI 0)
        have jf : J_X8_copy_121 υ0 = some ((-1000010 : Int32) - nI 2, setF υ0 9 (nI 2)) := rfl
        have g26 : υ0.1 26 i1 = nI l := d
        have g26' : υ0.1 26 k1 = nI l := d'
        have g27 : υ0.1 27 i1 = nI n := b
        have g27' : υ0.1 27 k1 = nI n' := b'
        rw [m_copy_eq hi1 hk1 _ _ _ _ υ0 rfl]
        rw [g26, g26', g27, g27', jf, if_neg (by rw [lt0N (by omega)]; exact fun z => z), if_pos (by rw [ge0N (by omega)]; trivial), if_pos rfl]
        by_cases z1 : a2 < 0
        · rw [if_pos z1]
        by_cases z2 : a4 < 0
        · rw [if_neg z1, if_pos z2]
        by_cases z3 : a5 < 0
        · rw [if_neg z1, if_neg z2, if_pos z3]
        rw [if_neg z1, if_neg z2, if_neg z3]
        obtain ⟨s, hs, rfl⟩ := nI_of z1
        obtain ⟨dd, hd, rfl⟩ := nI_of z2
        obtain ⟨t, ht, rfl⟩ := nI_of z3
        by_cases z4 : n < s + t
        · rw [if_pos ((lg2 (by omega) (by omega) hn).1.mpr z4)]
        · rw [if_neg (fun q => z4 ((lg2 (by omega) (by omega) hn).1.mp q)), if_neg (fun q => ok ⟨s, dd, t, by omega, by omega, by omega, rfl, rfl, rfl, by omega, (lg2 (by omega) (by omega) hn').2.mp q⟩)]
  · refine FB (w := 5) i ?_ ?_
    · rw [c_copy_eq hi1 hk1 hn hn' a a' c c', if_neg (by rw [eqN (by omega) (by omega)]; exact ll)]
    · have e26 : (setF (setF (setF σ 0 (nI 5)) 8 (nI 0)) 9 (nI 0)).1 26 i1 = nI l := d
      have e26' : (setF (setF (setF σ 0 (nI 5)) 8 (nI 0)) 9 (nI 0)).1 26 k1 = nI l' := d'
      rw [m_copy_eq hi1 hk1 _ _ _ _ _ rfl, e26, e26', if_neg (by rw [lt0N (by omega)]; exact fun z => z), if_pos (by rw [ge0N (by omega)]; trivial), if_neg (by rw [eqN (by omega) (by omega)]; exact ll)]
end COPY
