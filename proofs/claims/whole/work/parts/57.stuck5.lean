/-! stuck: both -/
section STUCK5
variable {σ : St}
theorem AgL.q (i : Inv σ) {P7 : Option (Int64 × St)} {P8 : St → Option (Int64 × St)} (r : Int64) (τ : St) (e7 : P7 = some (r, τ)) (s : Scr σ τ) (m8 : ∀ τ, Scr σ τ → ∃ υ, P8 τ = some (r, υ) ∧ Scr σ υ) : AgL P7 P8 := by
  obtain ⟨υ, e8, s8⟩ := m8 τ s
  exact ⟨r, τ, υ, e7, e8, i.scr s8⟩
theorem e_stuck (i : Inv σ) (x y z u : Int32) : AgL (F_X7_stuck x y z u σ) (F_X8_stuck x y z u) := by
  obtain ⟨⟨h, c, m, w, b⟩, -⟩ := id i
  have hH := w.1
  have h3 := w.taps
  have hf := fuel_ge
  by_cases q1 : x < 0 ∨ nI (h 0) ≤ x
  · refine AgL.q i (-1000001) σ ?_ (Scr.rf σ) (fun τ s => ⟨setF τ 8 (nI 0), ?_, scr8 s⟩)
    · unfold F_X7_stuck
      rw [c_isHorn0 c w q1, bt0]
    · unfold F_X8_stuck
      rw [m_isHorn0 (mr8 m s) w q1, bt0]
  by_cases q2 : y < nI 1 ∨ nI 30 < y
  · refine AgL.q i (-1000001) σ ?_ (Scr.rf σ) (fun τ s => ⟨setF τ 8 (nI 0), ?_, scr8 s⟩)
    · unfold F_X7_stuck
      rw [c_isHorn1 c w q1, bt1, c_within0 q2, bt0]
    · unfold F_X8_stuck
      rw [m_isHorn1 (mr8 m s) w q1, bt1, m_in0 q2 (by omega) (by omega), bt0]
  by_cases q3 : z < nI 0 ∨ nI 10 < z
  · refine AgL.q i (-1000001) σ ?_ (Scr.rf σ) (fun τ s => ⟨setF τ 8 (nI 0), ?_, scr8 s⟩)
    · unfold F_X7_stuck
      rw [c_isHorn1 c w q1, bt1, c_within1 q2, bt1, c_within0 q3, bt0]
    · unfold F_X8_stuck
      rw [m_isHorn1 (mr8 m s) w q1, bt1, m_in1 q2 (by omega) (by omega), bt1, m_in0 q3 (by omega) (by omega), bt0]
  by_cases q4 : u < nI 0 ∨ nI 1 < u
  · refine AgL.q i (-1000001) σ ?_ (Scr.rf σ) (fun τ s => ⟨setF τ 8 (nI 0), ?_, scr8 s⟩)
    · unfold F_X7_stuck
      rw [c_isHorn1 c w q1, bt1, c_within1 q2, bt1, c_within1 q3, bt1, c_within0 q4, bt0]
    · unfold F_X8_stuck
      rw [m_isHorn1 (mr8 m s) w q1, bt1, m_in1 q2 (by omega) (by omega), bt1, m_in1 q3 (by omega) (by omega), bt1, m_in0 q4 (by omega) (by omega), bt0]
  obtain ⟨j, hj, rfl⟩ := in_H (by omega) q1
  obtain ⟨t, ht1, ht2, rfl⟩ := in_N (by omega) (by omega) q2
  obtain ⟨d, -, hd, rfl⟩ := in_N (by omega) (by omega) q3
  obtain ⟨y, -, hy, rfl⟩ := in_N (by omega) (by omega) q4
  obtain ⟨nu, hnu⟩ : ∃ nu, nu = nm (okS h j t) (h 3) d (h 3 + 1) 0 0 := ⟨_, rfl⟩
  obtain ⟨to, hto⟩ : ∃ to, to = 10 ^ pc7 (h 3) := ⟨_, rfl⟩
  have tot : nm (fun _ => true) (h 3) d (h 3 + 1) 0 0 = to := by rw [hto, ← tot_10 (h 3) h3 d (by omega), nm_128 _ h3]
  have nle : nu ≤ to := by rw [hnu, ← tot]; exact nm_le _ _ _ _ _ _ _ (Nat.le_refl _)
  have p7 := pc7_le (h 3)
  have tl : to ≤ 10 ^ 7 := by rw [hto]; exact Nat.pow_le_pow_right (by decide) p7
  have tp : 0 < to := by rw [hto]; exact Nat.pow_pos (by decide)
  obtain ⟨g, hg⟩ : ∃ g, g = Nat.gcd to nu := ⟨_, rfl⟩
  have gp : 0 < g := by rw [hg]; exact Nat.gcd_pos_of_pos_left _ tp
  have gl : g ≤ to := by rw [hg]; exact Nat.gcd_le_left _ tp
  obtain ⟨f1, o1, l1⟩ := x_like (σ := sn σ) (sn_10 c) w (c := d) (j := j) (t := t) hd (by omega) (by omega) (if y = 0 then nI 1 else nI 0) (lN to) 128 fuel 0 0 ((sn σ).1 13) ((sn σ).1 14) (by omega) (by omega)
  rw [etaT, nm_128 _ h3, ← hnu] at l1
  refine AgL.q i (if y = 0 then lN (nu / g) else lN (to / g)) (st2 12 (sn σ) f1 o1) ?_ ((sn_scr σ).T f1 o1) (fun τ s => ?_)
  · have c3 : (sn σ).1 10 3 = nI (h 3) := sn_10 c 3 (by omega)
    have cl3 : (nI 3).toNatClampNeg = 3 := rfl
    have ix3 : ix (nI 3) 80 := by decide
    have ge1 : 0 ≤ lg_cmp (lN g) (lN 1) := by
      rw [Int32.le_iff_toInt_le]
      have := lc_lt (lN g) (lN 1)
      rw [Int32.lt_iff_toInt_lt, lN_lt (by omega) (by omega)] at this
      have e0 : (0 : Int32).toInt = 0 := by decide
      omega
    have lk : ∀ fl : Int32, fl = (if y = 0 then nI 1 else nI 0) → F_X2_likelihood (nI j) (nI t) (nI d) fl (sn σ) = some (if y = 0 then lN (nu / g) else lN (to / g), st2 12 (sn σ) f1 o1) := fun fl hfl => by
      subst hfl
      unfold F_X2_likelihood F_X2_commonDivisor
      rw [if_pos ix3]
      simp only [cl3, c3]
      rw [c_bits h3, Option.bind_some]
      show (F_X2_power (nI 10) (nI (pc7 (h 3))) (sn σ)).bind _ = _
      rw [c_power (by omega) p7, Option.bind_some, ← hto]
      show L_X2_likelihood_29 _ fuel (nI j) (nI t) (nI d) _ (nI (h 3)) (lN to) (lN 0) (nI 0) (sn σ) = _
      rw [l1, c_gcd 24 fuel 0 to nu (by omega) (by omega) (by omega) (by omega) (by omega), Option.bind_some, ← hg]
      simp only [if_pos ge1, if_pos (ne0L (show g < 2147483648 by omega) (show g ≠ 0 by omega)), lN_divB (show to < 9223372036854775808 by omega) gp (show g < 9223372036854775808 by omega), lN_divB (show nu < 9223372036854775808 by omega) gp (show g < 9223372036854775808 by omega)]
      obtain rfl | rfl : y = 0 ∨ y = 1 := by omega
      · rfl
      · rfl
    unfold F_X7_stuck J_X7_stuck_62
    rw [c_isHorn1 c w q1, bt1, c_within1 q2, bt1, c_within1 q3, bt1, c_within1 q4, bt1]
    show (F_X7_seen σ).bind _ = _
    rw [c_seen, Option.bind_some]
    obtain rfl | rfl : y = 0 ∨ y = 1 := by omega
    · rw [if_pos (show nI 0 = 0 by decide), lk (nI 1) rfl]
      rfl
    · rw [if_neg (show ¬ nI 1 = 0 by decide), lk (nI 0) rfl]
      rfl
  · obtain ⟨g2, e2, l2⟩ := m_like (σ := setF τ 8 (nI 0)) (mr8 m s) w (c := d) (j := j) (t := t) hd (by omega) (by omega) (nI y) (h 3 + 1) fuel 0 0 0 ((setF τ 8 (nI 0)).1 31) ((setF τ 8 (nI 0)).1 34) (by omega) (by omega)
    rw [etaU, ← hnu, tot] at l2
    refine ⟨st3 31 (setF τ 8 (nI 0)) g2 e2, ?_, (scr8 s).U g2 e2⟩
    unfold F_X8_stuck
    rw [m_isHorn1 (mr8 m s) w q1, bt1, m_in1 q2 (by omega) (by omega), bt1, m_in1 q3 (by omega) (by omega), bt1, m_in1 q4 (by omega) (by omega), bt1]
    show L_X8_stuck_61 _ fuel _ _ _ _ _ _ _ (setF τ 8 (nI 0)) = _
    rw [l2, m_gcd 24 fuel nu to (by omega) (by omega) (by omega) (by omega), Nat.gcd_comm, ← hg, if_pos (ne0L (show g < 2147483648 by omega) (show g ≠ 0 by omega)), if_pos (ne0L (show g < 2147483648 by omega) (show g ≠ 0 by omega)), lN_divB (by omega) gp (by omega), lN_divB (by omega) gp (by omega)]
    obtain rfl | rfl : y = 0 ∨ y = 1 := by omega
    · rfl
    · rfl
end STUCK5
