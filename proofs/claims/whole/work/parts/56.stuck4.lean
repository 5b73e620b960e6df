/-! stuck: the reference -/
section STUCK4
variable {σ : St} {h : Hs}
theorem m_wt {τ : St} (m0 : MR (τ.1 29) h) (w : WF h) {c T : Nat} (hc : c ≤ 10) (hT : T < 128) (a1 a2 a4 : Int32) (a5 a7 : Int64) : ∀ (mm N p : Nat), p + mm = h 2 → mm < N → ∀ K, L_X8_stuck_92 K N a1 a2 (nI c) a4 a5 a7 (nI T) (lN (wt (h 3) T c p)) (nI p) τ = K a1 a2 (nI c) a4 a5 a7 (nI T) (lN (wt (h 3) T c (h 2))) τ := by
  have h7 := w.2.2.1
  have h3 := w.taps
  intro mm
  induction mm with
  | zero =>
    intro N p hp hN K
    obtain ⟨N, rfl⟩ : ∃ n', N = n' + 1 := ⟨N - 1, by omega⟩
    rw [L_X8_stuck_92.eq_2]
    simp (disch := omega) only [ixN, clN, nI_add, pk_mul, subN, divN, remN, leN, ltN, eqN, le0N, eq0N, lt0N, ge0N, gt0N, if_pos, if_neg, if_true, if_false, Option.bind_some, shrN, shlN, andN1, nI_or, andm1, modS, true_or, or_true, m0.a2]
    rw [show p = h 2 by omega]
  | succ mm ih =>
    intro N p hp hN K
    obtain ⟨N, rfl⟩ : ∃ n', N = n' + 1 := ⟨N - 1, by omega⟩
    have hi := ih N (p + 1) (by omega) (by omega) K
    rw [wt] at hi
    rw [L_X8_stuck_92.eq_2, ← hi]
    by_cases z : h 3 / 2 ^ p % 2 = 1
    · by_cases z2 : T / 2 ^ p % 2 = 1
      · rw [if_pos z, if_pos z2, ← lN_mul]
        simp (disch := omega) only [ixN, clN, nI_add, pk_mul, subN, divN, remN, leN, ltN, eqN, le0N, eq0N, lt0N, ge0N, gt0N, if_pos, if_neg, if_true, if_false, Option.bind_some, shrN, shlN, andN1, nI_or, andm1, modS, true_or, or_true, m0.a2, m0.a3, m_has, z, z2, nI_l]
      · rw [if_pos z, if_neg z2, ← lN_mul, ← lN_sub hc]
        simp (disch := omega) only [ixN, clN, nI_add, pk_mul, subN, divN, remN, leN, ltN, eqN, le0N, eq0N, lt0N, ge0N, gt0N, if_pos, if_neg, if_true, if_false, Option.bind_some, shrN, shlN, andN1, nI_or, andm1, modS, true_or, or_true, m0.a2, m0.a3, m_has, z, z2, nI_l]
    · rw [if_neg z]
      simp (disch := omega) only [ixN, clN, nI_add, pk_mul, subN, divN, remN, leN, ltN, eqN, le0N, eq0N, lt0N, ge0N, gt0N, if_pos, if_neg, if_true, if_false, Option.bind_some, shrN, shlN, andN1, nI_or, andm1, modS, true_or, or_true, m0.a2, m0.a3, m_has, z, lN_mul, Nat.mul_one]
theorem m_like (c0 : MR (σ.1 29) h) (w : WF h) {c j t : Nat} (hc : c ≤ 10) (hj : j < 6) (ht : t ≤ 60) (a4 : Int32) : ∀ (m N T n1 n2 : Nat) (g e : Nat → Int32), T + m = h 3 + 1 → m < N → ∃ g' e', ∀ K, L_X8_stuck_61 K N (nI j) (nI t) (nI c) a4 (lN n1) (lN n2) (nI T) (st3 31 σ g e) = K a4 (lN (nm (okS h j t) (h 3) c m T n1)) (lN (nm (fun _ => true) (h 3) c m T n2)) (st3 31 σ g' e') := by
  have h3 := w.taps
  have h7 := w.2.2.1
  have hf := fuel_ge
  have cl4 : (nI 4).toNatClampNeg = 4 := rfl
  have ix4 : ix (nI 4) 80 := by decide
  intro m
  induction m with
  | zero =>
    intro N T n1 n2 g e hT hN
    obtain ⟨N, rfl⟩ : ∃ n', N = n' + 1 := ⟨N - 1, by omega⟩
    refine ⟨g, e, fun K => ?_⟩
    rw [L_X8_stuck_61.eq_2, if_pos ix4]
    simp only [cl4, U_29, c0.a3]
    rw [if_pos (nI_lt (by omega) (by omega))]
    rfl
  | succ m ih =>
    intro N T n1 n2 g e hT hN
    obtain ⟨N, rfl⟩ : ∃ n', N = n' + 1 := ⟨N - 1, by omega⟩
    have tl : T &&& (127 ^^^ h 3) ≤ T := Nat.and_le_left
    have rd : ∃ g1 e1, ∀ K, L_X8_stuck_61 K (N + 1) (nI j) (nI t) (nI c) a4 (lN n1) (lN n2) (nI T) (st3 31 σ g e) = L_X8_stuck_61 K N (nI j) (nI t) (nI c) a4 (lN (if decide (T &&& (127 ^^^ h 3) = 0) && okS h j t T then n1 + Wg (h 3) c T else n1)) (lN (if decide (T &&& (127 ^^^ h 3) = 0) && true then n2 + Wg (h 3) c T else n2)) (nI (T + 1)) (st3 31 σ g1 e1) := by
      by_cases sb : T &&& (127 ^^^ h 3) = 0
      · obtain ⟨g1, e1, c1⟩ := m_lay (σ := σ) (g := g) (e := e) c0
        obtain ⟨g3, e3, l3, -, -⟩ := m_hear (σ := σ) (e := e) (c1.upd (i := 3) (j := 4) (h 3 &&& (127 ^^^ T)) (by omega) rfl) (shut_wf w T) ht
        refine ⟨g3, e3, fun K => ?_⟩
        have mu : MR ((st3 31 σ g e).1 29) h := by rw [U_29]; exact c0
        have lw := m_wt mu w hc (show T < 128 by omega) (nI j) (nI t) a4 (lN n1) (lN n2) (h 2) fuel 0 (by omega) (by omega)
        have hle := sub_le T (by omega) (h 3) h3 sb
        rw [show wt (h 3) T c 0 = 1 from rfl, wt_Wg h7 (by omega) w.2.2.2.1 (Nat.lt_of_le_of_lt hle w.2.2.2.1) sb] at lw
        have ol := bit_le t _ (shut_wf w T)
        have fz := fo_orn (2 ^ j) t (uH h 3 (h 3 &&& (127 ^^^ T)))
        rw [and_bit] at fz
        rw [L_X8_stuck_61.eq_2, if_pos ix4]
        simp only [cl4, U_29, c0.a3, if_pos ix4, andnot T (show T < 128 by omega) (h 3) h3]
        rw [if_neg (by rw [ltN (by omega) (by omega)]; omega), if_pos (show nI (T &&& (127 ^^^ h 3)) = 0 by rw [sb]; rfl), lw, e1, Option.bind_some]
        simp only [U_a, U_A, c1.a3, andnot (h 3) h3 T (show T < 128 by omega), l3, Option.bind_some]
        rw [m_has (by omega) (by omega), Option.bind_some, decide_eq_true sb, Bool.true_and, Bool.true_and, if_pos rfl, lN_add, lN_add, lN_add, nI_add, Nat.add_zero]
        unfold okS
        by_cases z : fo (2 ^ j) t (uH h 3 (h 3 &&& (127 ^^^ T))) = 0
        · rw [decide_eq_false (fun y => y z), if_neg (show ¬ false = true by decide), if_neg (fz.mp z)]
          exact if_pos (show nI 0 = 0 by decide)
        · rw [decide_eq_true z, if_pos (show true = true from rfl), if_pos (Classical.byContradiction (fun y => z (fz.mpr y)))]
          exact if_neg (show ¬ nI 1 = 0 by decide)
      · refine ⟨g, e, fun K => ?_⟩
        rw [L_X8_stuck_61.eq_2, if_pos ix4]
        simp only [cl4, U_29, c0.a3, if_pos ix4, andnot T (show T < 128 by omega) (h 3) h3]
        rw [if_neg (by rw [ltN (by omega) (by omega)]; omega), if_neg (by rw [eq0N (by omega)]; exact sb), decide_eq_false sb, Bool.false_and, Bool.false_and, if_neg (by decide), if_neg (by decide), nI_add]
    obtain ⟨g1, e1, r1⟩ := rd
    obtain ⟨g2, e2, l2⟩ := ih N (T + 1) (if decide (T &&& (127 ^^^ h 3) = 0) && okS h j t T then n1 + Wg (h 3) c T else n1) (if decide (T &&& (127 ^^^ h 3) = 0) && true then n2 + Wg (h 3) c T else n2) g1 e1 (by omega) (by omega)
    exact ⟨g2, e2, fun K => by rw [r1, l2]; rfl⟩
end STUCK4
