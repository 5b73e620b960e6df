/-! stuck -/
def okS (h : Hs) (j t : Nat) (T : Nat) : Bool := decide (¬ fo (2 ^ j) t (uH h 3 (h 3 &&& (127 ^^^ T))) = 0)
section STUCK3
variable {σ : St} {h : Hs}
theorem shut_wf (w : WF h) (T : Nat) : WF (uH h 3 (h 3 &&& (127 ^^^ T))) := w.taps' (Nat.lt_of_le_of_lt Nat.and_le_left w.2.2.2.1)
theorem x_shut {f o : Nat → Int32} (c0 : CR (σ.1 10) h) (w : WF h) {T j t : Nat} (hT : T < 128) (hj : j < 6) (ht : t ≤ 60) : ∃ f' o', F_X2_hearsWithShut (nI T) (nI j) (nI t) (st2 12 σ f o) = some (if okS h j t T then nI 1 else nI 0, st2 12 σ f' o') := by
  have h3 := w.taps
  have k2 : 2 ^ j < 2147483648 := shl_lt (by omega)
  obtain ⟨f1, e1, c1⟩ := x_begin (σ := σ) (f := f) (o := o) c0
  obtain ⟨f3, o3, e3⟩ := x_first (σ := σ) (o := o) (c1.upd 3 (h 3 &&& (127 ^^^ T))) (shut_wf w T) k2 ht
  refine ⟨f3, o3, ?_⟩
  have hb := fo_le (2 ^ j) t (uH h 3 (h 3 &&& (127 ^^^ T)))
  unfold F_X2_hearsWithShut okS
  by_cases z : fo (2 ^ j) t (uH h 3 (h 3 &&& (127 ^^^ T))) = 0
  · rw [decide_eq_false (fun y => y z), if_neg (by decide)]
    simp (disch := omega) only [ixN, clN, nI_add, pk_mul, subN, divN, remN, leN, ltN, eqN, le0N, eq0N, lt0N, ge0N, gt0N, if_pos, if_neg, if_true, if_false, Option.bind_some, shrN, shlN, andN1, nI_or, andm1, modS, true_or, or_true, e1, T_a, T_A, c1 3 (by omega), andnot, e3, z]
  · rw [decide_eq_true z, if_pos rfl]
    simp (disch := omega) only [ixN, clN, nI_add, pk_mul, subN, divN, remN, leN, ltN, eqN, le0N, eq0N, lt0N, ge0N, gt0N, if_pos, if_neg, if_true, if_false, Option.bind_some, shrN, shlN, andN1, nI_or, andm1, modS, true_or, or_true, e1, T_a, T_A, c1 3 (by omega), andnot, e3]
theorem Wg_le {S c T : Nat} (hc : c ≤ 10) : Wg S c T ≤ 10 ^ 7 * 10 ^ 7 := by
  unfold Wg
  have p1 := pc7_le T
  have p2 := pc7_le S
  refine Nat.mul_le_mul ?_ ?_
  · exact Nat.le_trans (Nat.pow_le_pow_left hc _) (Nat.pow_le_pow_right (by decide) p1)
  · exact Nat.le_trans (Nat.pow_le_pow_left (show 10 - c ≤ 10 by omega) _) (Nat.pow_le_pow_right (by decide) (by omega))
theorem pc_mono {S T : Nat} (hT : T < 128) (hS : S < 128) (sb : T &&& (127 ^^^ S) = 0) : pc7 T ≤ pc7 S := by
  rw [← cnt_7, ← cnt_7]
  exact cnt_le (fun p => sub_bit hT hS sb p) 7
theorem x_like (c0 : CR (σ.1 10) h) (w : WF h) {c j t : Nat} (hc : c ≤ 10) (hj : j < 6) (ht : t ≤ 60) (a4 : Int32) (a6 : Int64) : ∀ (m N T acc : Nat) (f o : Nat → Int32), T + m = 128 → m < N → ∃ f' o', ∀ K, L_X2_likelihood_29 K N (nI j) (nI t) (nI c) a4 (nI (h 3)) a6 (lN acc) (nI T) (st2 12 σ f o) = K a4 a6 (lN (nm (okS h j t) (h 3) c m T acc)) (st2 12 σ f' o') := by
  have h3 := w.taps
  intro m
  induction m with
  | zero =>
    intro N T acc f o hT hN
    obtain ⟨N, rfl⟩ : ∃ n', N = n' + 1 := ⟨N - 1, by omega⟩
    refine ⟨f, o, fun K => ?_⟩
    rw [L_X2_likelihood_29.eq_2, if_pos (nI_le (by omega) (by omega))]
    rfl
  | succ m ih =>
    intro N T acc f o hT hN
    obtain ⟨N, rfl⟩ : ∃ n', N = n' + 1 := ⟨N - 1, by omega⟩
    have tl : T &&& (127 ^^^ h 3) ≤ T := Nat.and_le_left
    have rd : ∃ f1 o1, ∀ K, L_X2_likelihood_29 K (N + 1) (nI j) (nI t) (nI c) a4 (nI (h 3)) a6 (lN acc) (nI T) (st2 12 σ f o) = L_X2_likelihood_29 K N (nI j) (nI t) (nI c) a4 (nI (h 3)) a6 (lN (if decide (T &&& (127 ^^^ h 3) = 0) && okS h j t T then acc + Wg (h 3) c T else acc)) (nI (T + 1)) (st2 12 σ f1 o1) := by
      by_cases sb : T &&& (127 ^^^ h 3) = 0
      · have pm := pc_mono (show T < 128 by omega) h3 sb
        have pS := pc7_le (h 3)
        have wl := Wg_le (S := h 3) (T := T) hc
        have hd : ∀ K, L_X2_likelihood_29 K (N + 1) (nI j) (nI t) (nI c) a4 (nI (h 3)) a6 (lN acc) (nI T) (st2 12 σ f o) = if (lg_cmp (lN (Wg (h 3) c T)) (lN 0)) ≤ 0 then (L_X2_likelihood_29 K N (nI j) (nI t) (nI c) a4 (nI (h 3)) a6 (lN acc + lN 0) (nI T + nI 1) (st2 12 σ f o)) else ((F_X2_hearsWithShut (nI T) (nI j) (nI t) (st2 12 σ f o)).bind fun z8 => if z8.1 = 0 then (L_X2_likelihood_29 K N (nI j) (nI t) (nI c) a4 (nI (h 3)) a6 (lN acc + lN 0) (nI T + nI 1) z8.2) else (L_X2_likelihood_29 K N (nI j) (nI t) (nI c) a4 (nI (h 3)) a6 (lN acc + lN (Wg (h 3) c T)) (nI T + nI 1) z8.2)) := fun K => by
          rw [L_X2_likelihood_29.eq_2, if_neg (by rw [leN (by omega) (by omega)]; omega), andnot T (by omega) _ h3, sb, if_pos (show nI 0 = 0 by decide), c_bits (by omega), Option.bind_some]
          show (F_X2_power (nI c) (nI (pc7 T)) (st2 12 σ f o)).bind _ = _
          rw [c_power hc (pc7_le T), Option.bind_some]
          show (F_J6_bitCount_0f7a4 (nI (h 3)) (st2 12 σ f o)).bind _ = _
          rw [c_bits h3, Option.bind_some]
          show (F_X2_power (nI 10 - nI c) (nI (pc7 (h 3)) - nI (pc7 T)) (st2 12 σ f o)).bind _ = _
          rw [subN hc, subN pm, c_power (by omega) (by omega), Option.bind_some]
          simp only [lN_mul]
          rfl
        by_cases w0 : Wg (h 3) c T = 0
        · refine ⟨f, o, fun K => ?_⟩
          rw [hd, if_pos ((lc_le _ _).mpr (by rw [w0]; exact Int64.le_refl _)), lN_add, nI_add, w0, Nat.add_zero]
          split <;> rfl
        · obtain ⟨f1, o1, e1⟩ := x_shut (σ := σ) (f := f) (o := o) c0 w (T := T) (j := j) (t := t) (by omega) hj ht
          refine ⟨f1, o1, fun K => ?_⟩
          rw [hd, if_neg (fun y => by
            have := (lc_le _ _).mp y
            rw [Int64.le_iff_toInt_le, lB (by omega), lB (by omega)] at this
            omega), e1, Option.bind_some, decide_eq_true sb, Bool.true_and, lN_add, lN_add, nI_add, Nat.add_zero]
          by_cases z : okS h j t T = true
          · rw [if_pos z, if_pos z]
            exact if_neg (show ¬ nI 1 = 0 by decide)
          · rw [if_neg z, if_neg z]
            exact if_pos (show nI 0 = 0 by decide)
      · refine ⟨f, o, fun K => ?_⟩
        rw [L_X2_likelihood_29.eq_2, if_neg (by rw [leN (by omega) (by omega)]; omega), andnot T (by omega) _ h3, if_neg (by rw [eq0N (by omega)]; exact sb), decide_eq_false sb, Bool.false_and, if_neg (by decide), nI_add]
    obtain ⟨f1, o1, r1⟩ := rd
    obtain ⟨f2, o2, l2⟩ := ih N (T + 1) (if decide (T &&& (127 ^^^ h 3) = 0) && okS h j t T then acc + Wg (h 3) c T else acc) f1 o1 (by omega) (by omega)
    exact ⟨f2, o2, fun K => by rw [r1, l2]; rfl⟩
end STUCK3
