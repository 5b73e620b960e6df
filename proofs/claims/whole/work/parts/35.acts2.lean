/-! the acts -/
theorem nI_xor (a b : Nat) : nI a ^^^ nI b = nI (a ^^^ b) := by
  apply Int32.toBitVec_inj.mp
  rw [Int32.toBitVec_xor]
  show (Int32.ofNat a).toBitVec ^^^ (Int32.ofNat b).toBitVec = (Int32.ofNat (a ^^^ b)).toBitVec
  simp only [Int32.toBitVec_ofNat']
  apply BitVec.eq_of_getLsbD_eq
  intro i hi
  simp [hi]
theorem MA.fr {σ τ : St} {n : Nat} {S : Nat → Hs} (a : MA σ n S) (h1 : τ.1 32 = σ.1 32) (h2 : τ.2 10 = σ.2 10) : MA τ n S := by
  unfold MA at *
  rw [h1, h2]
  exact a
theorem CA.fr {σ τ : St} {n x : Nat} {S : Nat → Hs} (a : CA σ n x S) (h1 : ∀ k, 46 ≤ k → k < 70 → τ.1 k = σ.1 k) (h2 : τ.2 5 = σ.2 5) (h3 : τ.2 6 = σ.2 6) : CA τ n x S := by
  obtain ⟨p, q, r, s, t⟩ := a
  exact ⟨p, q, h3.trans r, h2.trans s, fun j hj => by rw [h1 _ (by omega) (by omega)]; exact t j hj⟩
theorem CA.N {σ : St} {n x : Nat} {S : Nat → Hs} (a : CA σ n x S) (f o : Nat → Int32) : CA (st2 3 σ f o) n x S := a.fr (fun k h1 h2 => st2_k (by omega) (by omega)) rfl rfl
theorem MA.N {σ : St} {n : Nat} {S : Nat → Hs} (a : MA σ n S) (g e : Nat → Int32) : MA (st3 29 σ g e) n S := a.fr (st3_k (by decide) (by decide)) rfl
/-- one act: what is kept, then the house changed on both sides -/
theorem AK {σ : St} (i : Inv σ) {h : Hs} (c : CR (σ.1 4) h) (m : MR (σ.1 29) h) (w : WF h) (b : h 4 ≤ 999) : ∃ τ1, F_X0_keep σ = some τ1 ∧ τ1.1 4 = σ.1 4 ∧ τ1.1 5 = σ.1 5 ∧ ∀ f o h', CR f h' → WF h' → h' 4 ≤ 999 → ∃ υ1, F_X8_keep (setF (st2 3 τ1 f o) 8 (nI 0)) = some υ1 ∧ MR ((setF (st2 3 τ1 f o) 8 (nI 0)).1 29) h ∧ υ1.1 29 = σ.1 29 ∧ ∀ g e, MR g h' → Inv (st3 29 υ1 g e) := by
  obtain ⟨n, x, S, ca, ma, so⟩ := InvA_iff.mp i.2.2.2.1
  obtain ⟨τ1, k1, ca1, fc1, t4, t5⟩ := c_keep ca c
  refine ⟨τ1, k1, t4, t5, fun f o h' c' w' b' => ?_⟩
  have fc2 := fc1.tr (FC.N τ1 f o)
  have m2 : MR ((setF (st2 3 τ1 f o) 8 (nI 0)).1 29) h := by
    rw [setF_1, fc2.1 29 (by omega) (by omega) (by omega)]; exact m
  have ma2 : MA (setF (st2 3 τ1 f o) 8 (nI 0)) n S := ma.fr (by rw [setF_1, fc2.1 32 (by omega) (by omega) (by omega)]) (by rw [setF_ne (by decide), fc2.2 10 (by omega) (by omega)])
  obtain ⟨υ1, k2, ma3, fm1, u29, u34⟩ := m_keep ca.1 ma2 m2
  refine ⟨υ1, k2, m2, by rw [u29, setF_1, fc2.1 29 (by omega) (by omega) (by omega)], fun g e mg => ?_⟩
  refine Inv.act i fc2 (h' := h') (by rw [st2_a]; exact c') (ca1.N f o) (((FM.e8 _).tr fm1).tr (FM.N υ1 g e)) (by rw [st3_a (by decide)]; exact mg) (ma3.N g e) w' b' (so.keep ca.1 w b)
section ACTS
variable {σ : St}
theorem hS_4 {h : Hs} {x wd l n : Nat} : hS h x wd l n 4 = h 4 := by
  unfold hS
  rw [if_neg (by omega)]
theorem hZ_4 {h : Hs} : hZ h 4 = h 4 := by
  unfold hZ
  rw [if_neg (by omega)]
theorem e_speak (i : Inv σ) (x y z : Int32) : Ag (F_X7_speak x y z σ) (F_X8_speak x y z) := by
  obtain ⟨⟨h, c, m, w, b⟩, -⟩ := id i
  have hH := w.1
  by_cases q1 : x < 0 ∨ nI (h 0) ≤ x
  · refine Ag.q i (-1000001) σ ?_ (Scr.rf σ) (fun τ s => ⟨setF τ 8 (nI 0), ?_, scr8 s⟩)
    · unfold F_X7_speak
      simp (disch := omega) only [ixN, clN, nI_add, pk_mul, subN, divN, remN, leN, ltN, eqN, le0N, eq0N, lt0N, ge0N, gt0N, if_pos, if_neg, if_true, if_false, Option.bind_some, shrN, shlN, andN1, nI_or, andm1, modS, true_or, or_true, c_isHorn0 c w q1]
    · unfold F_X8_speak
      simp (disch := omega) only [ixN, clN, nI_add, pk_mul, subN, divN, remN, leN, ltN, eqN, le0N, eq0N, lt0N, ge0N, gt0N, if_pos, if_neg, if_true, if_false, Option.bind_some, shrN, shlN, andN1, nI_or, andm1, modS, true_or, or_true, m_isHorn0 (mr8 m s) w q1]
  by_cases q2 : y < nI 0 ∨ nI 9 < y
  · refine Ag.q i (-1000001) σ ?_ (Scr.rf σ) (fun τ s => ⟨setF τ 8 (nI 0), ?_, scr8 s⟩)
    · unfold F_X7_speak
      simp (disch := omega) only [ixN, clN, nI_add, pk_mul, subN, divN, remN, leN, ltN, eqN, le0N, eq0N, lt0N, ge0N, gt0N, if_pos, if_neg, if_true, if_false, Option.bind_some, shrN, shlN, andN1, nI_or, andm1, modS, true_or, or_true, c_isHorn1 c w q1, c_within0 q2]
    · unfold F_X8_speak
      simp (disch := omega) only [ixN, clN, nI_add, pk_mul, subN, divN, remN, leN, ltN, eqN, le0N, eq0N, lt0N, ge0N, gt0N, if_pos, if_neg, if_true, if_false, Option.bind_some, shrN, shlN, andN1, nI_or, andm1, modS, true_or, or_true, m_isHorn1 (mr8 m s) w q1, m_in0 q2]
  by_cases q3 : z < nI 1 ∨ nI 99 < z
  · refine Ag.q i (-1000001) σ ?_ (Scr.rf σ) (fun τ s => ⟨setF τ 8 (nI 0), ?_, scr8 s⟩)
    · unfold F_X7_speak
      simp (disch := omega) only [ixN, clN, nI_add, pk_mul, subN, divN, remN, leN, ltN, eqN, le0N, eq0N, lt0N, ge0N, gt0N, if_pos, if_neg, if_true, if_false, Option.bind_some, shrN, shlN, andN1, nI_or, andm1, modS, true_or, or_true, c_isHorn1 c w q1, c_within1 q2, c_within0 q3]
    · unfold F_X8_speak
      simp (disch := omega) only [ixN, clN, nI_add, pk_mul, subN, divN, remN, leN, ltN, eqN, le0N, eq0N, lt0N, ge0N, gt0N, if_pos, if_neg, if_true, if_false, Option.bind_some, shrN, shlN, andN1, nI_or, andm1, modS, true_or, or_true, m_isHorn1 (mr8 m s) w q1, m_in1 q2, m_in0 q3]
  obtain ⟨j, hj, rfl⟩ := in_H (by omega) q1
  obtain ⟨y, -, hy, rfl⟩ := in_N (by omega) (by omega) q2
  obtain ⟨z, hz1, hz2, rfl⟩ := in_N (by omega) (by omega) q3
  obtain ⟨τ1, k1, t4, t5, rest⟩ := AK i c m w b
  obtain ⟨f', l1, c1⟩ := n_letIn (r := 3) (σ := τ1) (f := τ1.1 4) (o := τ1.1 5) (by rw [t4]; exact c) w (x := j) (wd := y) (l := z) (by omega) hy hz2
  rw [eta3] at l1
  obtain ⟨υ1, k2, m8, u29, rest⟩ := rest f' (τ1.1 5) _ c1 (hS_wf w hy ⟨hz1, hz2⟩) (by rw [hS_4]; exact b)
  obtain ⟨g', l2, m2⟩ := m_speech (k := 29) (by decide) (σ := υ1) (g := υ1.1 29) (e := υ1.1 34) (by rw [u29]; exact m) w (x := j) (wd := y) (l := z) (by omega) hy hz2
  rw [eta29] at l2
  refine ⟨nI (nS h j z (h 2)), st2 3 τ1 f' (τ1.1 5), st3 29 υ1 g' (υ1.1 34), ?_, ?_, rest g' _ m2⟩
  · unfold F_X7_speak
    simp (disch := omega) only [ixN, clN, nI_add, pk_mul, subN, divN, remN, leN, ltN, eqN, le0N, eq0N, lt0N, ge0N, gt0N, if_pos, if_neg, if_true, if_false, Option.bind_some, shrN, shlN, andN1, nI_or, andm1, modS, true_or, or_true, c_isHorn1 c w q1, c_within1 q2, c_within1 q3, k1, l1]
  · unfold F_X8_speak
    simp (disch := omega) only [ixN, clN, nI_add, pk_mul, subN, divN, remN, leN, ltN, eqN, le0N, eq0N, lt0N, ge0N, gt0N, if_pos, if_neg, if_true, if_false, Option.bind_some, shrN, shlN, andN1, nI_or, andm1, modS, true_or, or_true, m_isHorn1 m8 w q1, m_in1 q2, m_in1 q3, k2, l2]
theorem e_dent (i : Inv σ) (x y : Int32) : Ag (F_X7_dent x y σ) (F_X8_dent x y) := by
  obtain ⟨⟨h, c, m, w, b⟩, -⟩ := id i
  have hH := w.2.2.1
  by_cases q1 : x < 0 ∨ nI (h 2) ≤ x
  · refine Ag.q i (-1000001) σ ?_ (Scr.rf σ) (fun τ s => ⟨setF τ 8 (nI 0), ?_, scr8 s⟩)
    · unfold F_X7_dent
      simp (disch := omega) only [ixN, clN, nI_add, pk_mul, subN, divN, remN, leN, ltN, eqN, le0N, eq0N, lt0N, ge0N, gt0N, if_pos, if_neg, if_true, if_false, Option.bind_some, shrN, shlN, andN1, nI_or, andm1, modS, true_or, or_true, c_isPipe0 c w q1]
    · unfold F_X8_dent
      simp (disch := omega) only [ixN, clN, nI_add, pk_mul, subN, divN, remN, leN, ltN, eqN, le0N, eq0N, lt0N, ge0N, gt0N, if_pos, if_neg, if_true, if_false, Option.bind_some, shrN, shlN, andN1, nI_or, andm1, modS, true_or, or_true, m_isPipe0 (mr8 m s) w q1]
  by_cases q2 : y < nI 0 ∨ nI 9 < y
  · refine Ag.q i (-1000001) σ ?_ (Scr.rf σ) (fun τ s => ⟨setF τ 8 (nI 0), ?_, scr8 s⟩)
    · unfold F_X7_dent
      simp (disch := omega) only [ixN, clN, nI_add, pk_mul, subN, divN, remN, leN, ltN, eqN, le0N, eq0N, lt0N, ge0N, gt0N, if_pos, if_neg, if_true, if_false, Option.bind_some, shrN, shlN, andN1, nI_or, andm1, modS, true_or, or_true, c_isPipe1 c w q1, c_within0 q2]
    · unfold F_X8_dent
      simp (disch := omega) only [ixN, clN, nI_add, pk_mul, subN, divN, remN, leN, ltN, eqN, le0N, eq0N, lt0N, ge0N, gt0N, if_pos, if_neg, if_true, if_false, Option.bind_some, shrN, shlN, andN1, nI_or, andm1, modS, true_or, or_true, m_isPipe1 (mr8 m s) w q1, m_in0 q2]
  obtain ⟨p, hp, rfl⟩ := in_H (by omega) q1
  obtain ⟨y, -, hy, rfl⟩ := in_N (by omega) (by omega) q2
  obtain ⟨τ1, k1, t4, t5, rest⟩ := AK i c m w b
  obtain ⟨υ1, k2, m8, u29, rest⟩ := rest (upd (τ1.1 4) (33 + p) (nI y)) (τ1.1 5) (uH h (33 + p) y) (by rw [t4]; exact c.upd _ _) (w.dent' hp hy) (by rw [uH_ne (by omega)]; exact b)
  have mu : MR (υ1.1 29) h := by rw [u29]; exact m
  have e1 : setA τ1 4 (33 + p) (nI y) = st2 3 τ1 (upd (τ1.1 4) (33 + p) (nI y)) (τ1.1 5) := by
    have := st2_A 3 τ1 (τ1.1 4) (τ1.1 5) (33 + p) (nI y)
    rwa [eta3] at this
  have e2 : setA υ1 29 (17 + 9 * p + 4) (nI y) = st3 29 υ1 (upd (υ1.1 29) (17 + 9 * p + 4) (nI y)) (υ1.1 34) := by
    have := st3_A (k := 29) (by decide) υ1 (υ1.1 29) (υ1.1 34) (17 + 9 * p + 4) (nI y)
    rwa [eta29] at this
  refine ⟨nI (h (33 + p)), st2 3 τ1 (upd (τ1.1 4) (33 + p) (nI y)) (τ1.1 5), st3 29 υ1 (upd (υ1.1 29) (17 + 9 * p + 4) (nI y)) (υ1.1 34), ?_, ?_, rest _ _ (mu.upd y (by omega) (pmD p (by omega)))⟩
  · unfold F_X7_dent
    simp (disch := omega) only [ixN, clN, nI_add, pk_mul, subN, divN, remN, leN, ltN, eqN, le0N, eq0N, lt0N, ge0N, gt0N, if_pos, if_neg, if_true, if_false, Option.bind_some, shrN, shlN, andN1, nI_or, andm1, modS, true_or, or_true, c_isPipe1 c w q1, c_within1 q2, k1, t4, c (33 + p) (by omega), e1]
  · unfold F_X8_dent
    simp (disch := omega) only [ixN, clN, nI_add, pk_mul, subN, divN, remN, leN, ltN, eqN, le0N, eq0N, lt0N, ge0N, gt0N, if_pos, if_neg, if_true, if_false, Option.bind_some, shrN, shlN, andN1, nI_or, andm1, modS, true_or, or_true, m_isPipe1 m8 w q1, m_in1 q2, k2, m_of, mu.dn (show p < 7 by omega), e2]
theorem e_tap (i : Inv σ) (x y : Int32) : Ag (F_X7_tap x y σ) (F_X8_tap x y) := by
  obtain ⟨⟨h, c, m, w, b⟩, -⟩ := id i
  have hH := w.2.2.1
  have ht := w.taps
  by_cases q1 : x < 0 ∨ nI (h 2) ≤ x
  · refine Ag.q i (-1000001) σ ?_ (Scr.rf σ) (fun τ s => ⟨setF τ 8 (nI 0), ?_, scr8 s⟩)
    · unfold F_X7_tap
      simp (disch := omega) only [ixN, clN, nI_add, pk_mul, subN, divN, remN, leN, ltN, eqN, le0N, eq0N, lt0N, ge0N, gt0N, if_pos, if_neg, if_true, if_false, Option.bind_some, shrN, shlN, andN1, nI_or, andm1, modS, true_or, or_true, c_isPipe0 c w q1]
    · unfold F_X8_tap
      simp (disch := omega) only [ixN, clN, nI_add, pk_mul, subN, divN, remN, leN, ltN, eqN, le0N, eq0N, lt0N, ge0N, gt0N, if_pos, if_neg, if_true, if_false, Option.bind_some, shrN, shlN, andN1, nI_or, andm1, modS, true_or, or_true, m_isPipe0 (mr8 m s) w q1]
  by_cases q2 : y < nI 0 ∨ nI 1 < y
  · refine Ag.q i (-1000001) σ ?_ (Scr.rf σ) (fun τ s => ⟨setF τ 8 (nI 0), ?_, scr8 s⟩)
    · unfold F_X7_tap
      simp (disch := omega) only [ixN, clN, nI_add, pk_mul, subN, divN, remN, leN, ltN, eqN, le0N, eq0N, lt0N, ge0N, gt0N, if_pos, if_neg, if_true, if_false, Option.bind_some, shrN, shlN, andN1, nI_or, andm1, modS, true_or, or_true, c_isPipe1 c w q1, c_within0 q2]
    · unfold F_X8_tap
      simp (disch := omega) only [ixN, clN, nI_add, pk_mul, subN, divN, remN, leN, ltN, eqN, le0N, eq0N, lt0N, ge0N, gt0N, if_pos, if_neg, if_true, if_false, Option.bind_some, shrN, shlN, andN1, nI_or, andm1, modS, true_or, or_true, m_isPipe1 (mr8 m s) w q1, m_in0 q2]
  obtain ⟨p, hp, rfl⟩ := in_H (by omega) q1
  obtain ⟨y, -, hy, rfl⟩ := in_N (by omega) (by omega) q2
  have hd : h 3 / 2 ^ p ≤ h 3 := Nat.div_le_self _ _
  have hr : (if h 3 / 2 ^ p % 2 = 1 then nI 1 else nI 0) = nI (h 3 / 2 ^ p % 2) := by
    rcases Nat.mod_two_eq_zero_or_one (h 3 / 2 ^ p) with z | z <;> rw [z] <;> rfl
  have op : F_X4_isOpen 3 (nI p) σ = some (nI (h 3 / 2 ^ p % 2), σ) := by rw [c_isOpen c w (by omega), hr]
  have hmod : h 3 / 2 ^ p % 2 < 2 := Nat.mod_lt _ (by decide)
  have cl : ∀ s1, F_X7_tap (nI p) (nI y) σ = J_X7_tap_41 (nI p) (nI y) (nI (h 3 / 2 ^ p % 2)) σ ∨ s1 = 0 := fun s1 => by
    left
    unfold F_X7_tap
    by_cases z : y = 1
    · subst z
      simp (disch := omega) only [ixN, clN, nI_add, pk_mul, subN, divN, remN, leN, ltN, eqN, le0N, eq0N, lt0N, ge0N, gt0N, if_pos, if_neg, if_true, if_false, Option.bind_some, shrN, shlN, andN1, nI_or, andm1, modS, true_or, or_true, c_isPipe1 c w q1, c_within1 q2, op]
    · obtain rfl : y = 0 := by omega
      simp (disch := omega) only [ixN, clN, nI_add, pk_mul, subN, divN, remN, leN, ltN, eqN, le0N, eq0N, lt0N, ge0N, gt0N, if_pos, if_neg, if_true, if_false, Option.bind_some, shrN, shlN, andN1, nI_or, andm1, modS, true_or, or_true, c_isPipe1 c w q1, c_within1 q2, op]
  have cl := (cl 1).resolve_right (by decide)
  by_cases q3 : h 3 / 2 ^ p % 2 = y
  · refine Ag.q i (-1000002) σ ?_ (Scr.rf σ) (fun τ s => ⟨setF τ 8 (nI 0), ?_, scr8 s⟩)
    · rw [cl]
      unfold J_X7_tap_41
      rw [if_pos (by rw [q3])]
    · unfold F_X8_tap
      simp (disch := omega) only [ixN, clN, nI_add, pk_mul, subN, divN, remN, leN, ltN, eqN, le0N, eq0N, lt0N, ge0N, gt0N, if_pos, if_neg, if_true, if_false, Option.bind_some, shrN, shlN, andN1, nI_or, andm1, modS, true_or, or_true, m_isPipe1 (mr8 m s) w q1, m_in1 q2, (mr8 m s).a3, q3]
  · obtain ⟨τ1, k1, t4, t5, rest⟩ := AK i c m w b
    have hp2 : 2 ^ p < 2 ^ h 2 := Nat.pow_lt_pow_right (by decide) hp
    have hx2 : h 3 ^^^ 2 ^ p < 2 ^ h 2 := Nat.xor_lt_two_pow w.2.2.2.1 hp2
    obtain ⟨υ1, k2, m8, u29, rest⟩ := rest (upd (τ1.1 4) 3 (nI (h 3 ^^^ 2 ^ p))) (τ1.1 5) (uH h 3 (h 3 ^^^ 2 ^ p)) (by rw [t4]; exact c.upd _ _) (w.taps' hx2) (by rw [uH_ne (by omega)]; exact b)
    have mu : MR (υ1.1 29) h := by rw [u29]; exact m
    have e1 : ∀ v, setA τ1 4 3 v = st2 3 τ1 (upd (τ1.1 4) 3 v) (τ1.1 5) := fun v => by
      have := st2_A 3 τ1 (τ1.1 4) (τ1.1 5) 3 v
      rwa [eta3] at this
    have e2 : ∀ v, setA υ1 29 4 v = st3 29 υ1 (upd (υ1.1 29) 4 v) (υ1.1 34) := fun v => by
      have := st3_A (k := 29) (by decide) υ1 (υ1.1 29) (υ1.1 34) 4 v
      rwa [eta29] at this
    refine ⟨nI (h 3 ^^^ 2 ^ p), st2 3 τ1 (upd (τ1.1 4) 3 (nI (h 3 ^^^ 2 ^ p))) (τ1.1 5), st3 29 υ1 (upd (υ1.1 29) 4 (nI (h 3 ^^^ 2 ^ p))) (υ1.1 34), ?_, ?_, rest _ _ (mu.upd (i := 3) _ (by omega) rfl)⟩
    · rw [cl]
      unfold J_X7_tap_41
      have ne : ¬ nI (h 3 / 2 ^ p % 2) = nI y := fun z => q3 ((eqN (by omega) (by omega)).mp z)
      rw [if_neg ne]
      simp (disch := omega) only [ixN, clN, nI_add, pk_mul, subN, divN, remN, leN, ltN, eqN, le0N, eq0N, lt0N, ge0N, gt0N, if_pos, if_neg, if_true, if_false, Option.bind_some, shrN, shlN, andN1, nI_or, andm1, modS, true_or, or_true, k1, t4, c 3 (by omega), nI_xor, e1, st2_a, pk_us]
    · unfold F_X8_tap
      simp (disch := omega) only [ixN, clN, nI_add, pk_mul, subN, divN, remN, leN, ltN, eqN, le0N, eq0N, lt0N, ge0N, gt0N, if_pos, if_neg, if_true, if_false, Option.bind_some, shrN, shlN, andN1, nI_or, andm1, modS, true_or, or_true, m_isPipe1 m8 w q1, m_in1 q2, m8.a3, k2, mu.a3, nI_xor, e2, st3_a (show 29 ≠ 34 by decide), pk_us]
theorem e_hush (i : Inv σ) : Ag (F_X7_hush σ) F_X8_hush := by
  obtain ⟨⟨h, c, m, w, b⟩, -⟩ := id i
  by_cases q1 : h 0 = 0
  · refine Ag.q i (-1000002) σ ?_ (Scr.rf σ) (fun τ s => ⟨setF τ 8 (nI 0), ?_, scr8 s⟩)
    · unfold F_X7_hush
      simp (disch := omega) only [ixN, clN, nI_add, pk_mul, subN, divN, remN, leN, ltN, eqN, le0N, eq0N, lt0N, ge0N, gt0N, if_pos, if_neg, if_true, if_false, Option.bind_some, shrN, shlN, andN1, nI_or, andm1, modS, true_or, or_true, c_stands0 c w q1]
    · unfold F_X8_hush
      simp (disch := omega) only [ixN, clN, nI_add, pk_mul, subN, divN, remN, leN, ltN, eqN, le0N, eq0N, lt0N, ge0N, gt0N, if_pos, if_neg, if_true, if_false, Option.bind_some, shrN, shlN, andN1, nI_or, andm1, modS, true_or, or_true, m_isThere0 (mr8 m s) w q1]
  · obtain ⟨τ1, k1, t4, t5, rest⟩ := AK i c m w b
    have cu : CR (τ1.1 4) h := by rw [t4]; exact c
    obtain ⟨f', l1, c1⟩ := n_silence (r := 3) (σ := τ1) (f := τ1.1 4) (o := τ1.1 5) cu
    rw [eta3] at l1
    obtain ⟨υ1, k2, m8, u29, rest⟩ := rest f' (τ1.1 5) _ c1 (hZ_wf w) (by rw [hZ_4]; exact b)
    obtain ⟨g', l2, m2⟩ := m_silence (k := 29) (by decide) (σ := υ1) (g := υ1.1 29) (e := υ1.1 34) (by rw [u29]; exact m) w
    rw [eta29] at l2
    refine ⟨nI (sA h (h 2)), st2 3 τ1 f' (τ1.1 5), st3 29 υ1 g' (υ1.1 34), ?_, ?_, rest g' _ m2⟩
    · unfold F_X7_hush
      simp (disch := omega) only [ixN, clN, nI_add, pk_mul, subN, divN, remN, leN, ltN, eqN, le0N, eq0N, lt0N, ge0N, gt0N, if_pos, if_neg, if_true, if_false, Option.bind_some, shrN, shlN, andN1, nI_or, andm1, modS, true_or, or_true, c_stands1 c w q1, k1, c_soundsInAll cu w, l1]
    · unfold F_X8_hush
      simp (disch := omega) only [ixN, clN, nI_add, pk_mul, subN, divN, remN, leN, ltN, eqN, le0N, eq0N, lt0N, ge0N, gt0N, if_pos, if_neg, if_true, if_false, Option.bind_some, shrN, shlN, andN1, nI_or, andm1, modS, true_or, or_true, m_isThere1 m8 w q1, k2, l2]
/-- breath after breath -/
def kns : Nat → Nat → (Nat → Hs) → Hs → Nat × (Nat → Hs)
  | 0, n, S, _ => (n, S)
  | m + 1, n, S, h => kns m (kn n) (kS n S h) (hB h)
def rsb : Nat → Hs → Int32 → Int32
  | 0, _, a => a
  | m + 1, h, _ => rsb m (hB h) (nI (hrd h (h 0)))
theorem kn_le (n : Nat) : kn n ≤ 24 := by unfold kn; split <;> omega
theorem hB_4 {h : Hs} (w : WF h) : hB h 4 = h 4 + 1 := by rw [hB_T w.2.2.1, if_pos rfl]
theorem kns_so : ∀ m n S h, n ≤ 24 → SO n S → WF h → h 4 + m ≤ 999 → SO (kns m n S h).1 (kns m n S h).2 ∧ (bn m h) 4 ≤ 999 := by
  intro m
  induction m with
  | zero => intro n S h hn s w b; exact ⟨s, by show h 4 ≤ 999; omega⟩
  | succ m ih => intro n S h hn s w b; exact ih (kn n) (kS n S h) (hB h) (kn_le n) (s.keep hn w (by omega)) (hB_wf w) (by rw [hB_4 w]; omega)
theorem c_breaths (M : Nat) (hM : M ≤ 24) : ∀ (m N i : Nat) (σ : St) (n x : Nat) (S : Nat → Hs) (h : Hs) (a : Int32), i + m = M → m < N → CA σ n x S → CR (σ.1 4) h → WF h → ∃ τ x', (∀ K, L_X7_breathe_50 K N (nI M) a (nI i) σ = K (rsb m h a) τ) ∧ CA τ (kns m n S h).1 x' (kns m n S h).2 ∧ CR (τ.1 4) (bn m h) ∧ FC σ τ := by
  intro m
  induction m with
  | zero =>
    intro N i σ n x S h a hi hN ca c w
    obtain ⟨N, rfl⟩ : ∃ n', N = n' + 1 := ⟨N - 1, by omega⟩
    refine ⟨σ, x, fun K => ?_, ca, c, ⟨fun _ _ _ _ => rfl, fun _ _ _ => rfl⟩⟩
    rw [L_X7_breathe_50.eq_2, if_pos (nI_le (by omega) (by omega))]
    rfl
  | succ m ih =>
    intro N i σ n x S h a hi hN ca c w
    obtain ⟨N, rfl⟩ : ∃ n', N = n' + 1 := ⟨N - 1, by omega⟩
    obtain ⟨τ1, k1, ca1, fc1, t4, t5⟩ := c_keep ca c
    obtain ⟨f', o', l1, c1, -⟩ := n_passBreath (r := 3) (σ := τ1) (f := τ1.1 4) (o := τ1.1 5) (by rw [t4]; exact c) w
    rw [eta3] at l1
    obtain ⟨τ, x', l2, ca2, c2, fc2⟩ := ih N (i + 1) (st2 3 τ1 f' o') (kn n) ((x + 1) % 24) (kS n S h) (hB h) (nI (hrd h (h 0))) (by omega) (by omega) (ca1.N f' o') (by rw [st2_a]; exact c1) (hB_wf w)
    refine ⟨τ, x', fun K => ?_, ca2, c2, (fc1.tr (FC.N τ1 f' o')).tr fc2⟩
    rw [L_X7_breathe_50.eq_2]
    simp (disch := omega) only [ixN, clN, nI_add, pk_mul, subN, divN, remN, leN, ltN, eqN, le0N, eq0N, lt0N, ge0N, gt0N, if_pos, if_neg, if_true, if_false, Option.bind_some, shrN, shlN, andN1, nI_or, andm1, modS, true_or, or_true, k1, l1, l2]
    rfl
theorem m_breaths (M : Nat) (hM : M ≤ 24) : ∀ (m N i : Nat) (σ : St) (n : Nat) (S : Nat → Hs) (h : Hs) (a : Int32), i + m = M → m < N → n ≤ 24 → MA σ n S → MR (σ.1 29) h → WF h → ∃ τ, (∀ K, L_X8_breathe_51 K N (nI M) a (nI i) σ = K (rsb m h a) τ) ∧ MA τ (kns m n S h).1 (kns m n S h).2 ∧ MR (τ.1 29) (bn m h) ∧ FM σ τ := by
  intro m
  induction m with
  | zero =>
    intro N i σ n S h a hi hN hn ca c w
    obtain ⟨N, rfl⟩ : ∃ n', N = n' + 1 := ⟨N - 1, by omega⟩
    refine ⟨σ, fun K => ?_, ca, c, ⟨fun _ _ _ _ => rfl, fun _ _ _ => rfl⟩⟩
    rw [L_X8_breathe_51.eq_2, if_pos (nI_le (by omega) (by omega))]
    rfl
  | succ m ih =>
    intro N i σ n S h a hi hN hn ca c w
    obtain ⟨N, rfl⟩ : ∃ n', N = n' + 1 := ⟨N - 1, by omega⟩
    obtain ⟨τ1, k1, ca1, fc1, t4, t5⟩ := m_keep hn ca c
    obtain ⟨f', o', l1, c1, -⟩ := m_breath (k := 29) (by decide) (σ := τ1) (g := τ1.1 29) (e := τ1.1 34) (by rw [t4]; exact c) w
    rw [eta29] at l1
    obtain ⟨τ, l2, ca2, c2, fc2⟩ := ih N (i + 1) (st3 29 τ1 f' o') (kn n) (kS n S h) (hB h) (nI (hrd h (h 0))) (by omega) (by omega) (kn_le n) (ca1.N f' o') (by rw [st3_a (by decide)]; exact c1) (hB_wf w)
    refine ⟨τ, fun K => ?_, ca2, c2, (fc1.tr (FM.N τ1 f' o')).tr fc2⟩
    rw [L_X8_breathe_51.eq_2]
    simp (disch := omega) only [ixN, clN, nI_add, pk_mul, subN, divN, remN, leN, ltN, eqN, le0N, eq0N, lt0N, ge0N, gt0N, if_pos, if_neg, if_true, if_false, Option.bind_some, shrN, shlN, andN1, nI_or, andm1, modS, true_or, or_true, k1, l1, l2]
    rfl
theorem e_breathe (i : Inv σ) (x : Int32) : Ag (F_X7_breathe x σ) (F_X8_breathe x) := by
  obtain ⟨⟨h, c, m, w, b⟩, -⟩ := id i
  by_cases q1 : h 0 = 0
  · refine Ag.q i (-1000002) σ ?_ (Scr.rf σ) (fun τ s => ⟨setF τ 8 (nI 0), ?_, scr8 s⟩)
    · unfold F_X7_breathe
      simp (disch := omega) only [ixN, clN, nI_add, pk_mul, subN, divN, remN, leN, ltN, eqN, le0N, eq0N, lt0N, ge0N, gt0N, if_pos, if_neg, if_true, if_false, Option.bind_some, shrN, shlN, andN1, nI_or, andm1, modS, true_or, or_true, c_stands0 c w q1]
    · unfold F_X8_breathe
      simp (disch := omega) only [ixN, clN, nI_add, pk_mul, subN, divN, remN, leN, ltN, eqN, le0N, eq0N, lt0N, ge0N, gt0N, if_pos, if_neg, if_true, if_false, Option.bind_some, shrN, shlN, andN1, nI_or, andm1, modS, true_or, or_true, m_isThere0 (mr8 m s) w q1]
  by_cases q2 : x < nI 1 ∨ nI 24 < x
  · refine Ag.q i (-1000001) σ ?_ (Scr.rf σ) (fun τ s => ⟨setF τ 8 (nI 0), ?_, scr8 s⟩)
    · unfold F_X7_breathe
      simp (disch := omega) only [ixN, clN, nI_add, pk_mul, subN, divN, remN, leN, ltN, eqN, le0N, eq0N, lt0N, ge0N, gt0N, if_pos, if_neg, if_true, if_false, Option.bind_some, shrN, shlN, andN1, nI_or, andm1, modS, true_or, or_true, c_stands1 c w q1, c_within0 q2]
    · unfold F_X8_breathe
      simp (disch := omega) only [ixN, clN, nI_add, pk_mul, subN, divN, remN, leN, ltN, eqN, le0N, eq0N, lt0N, ge0N, gt0N, if_pos, if_neg, if_true, if_false, Option.bind_some, shrN, shlN, andN1, nI_or, andm1, modS, true_or, or_true, m_isThere1 (mr8 m s) w q1, m_in0 q2]
  obtain ⟨M, hM1, hM2, rfl⟩ := in_N (by omega) (by omega) q2
  have c4 := c 4 (by omega)
  by_cases q3 : h 4 + M ≤ 999
  · obtain ⟨n, xx, S, ca, ma, so⟩ := InvA_iff.mp i.2.2.2.1
    have hf := fuel_ge
    obtain ⟨τ, x', l1, ca1, c1, fc1⟩ := c_breaths M hM2 M fuel 0 σ n xx S h (nI 0) (by omega) (by omega) ca c w
    have m8 : MR ((setF τ 8 (nI 0)).1 29) h := by rw [setF_1, fc1.1 29 (by omega) (by omega) (by omega)]; exact m
    obtain ⟨υ, l2, ma1, m1, fm1⟩ := m_breaths M hM2 M fuel 0 (setF τ 8 (nI 0)) n S h (nI 0) (by omega) (by omega) ca.1 (ma.fr (by rw [setF_1, fc1.1 32 (by omega) (by omega) (by omega)]) (by rw [setF_ne (by decide), fc1.2 10 (by omega) (by omega)])) m8 w
    obtain ⟨so1, b1⟩ := kns_so M n S h ca.1 so w q3
    refine ⟨rsb M h (nI 0), τ, υ, ?_, ?_, Inv.act i fc1 c1 ca1 ((FM.e8 _).tr fm1) m1 ma1 (bn_wf M h w) b1 so1⟩
    · unfold F_X7_breathe
      simp (disch := omega) only [ixN, clN, nI_add, pk_mul, subN, divN, remN, leN, ltN, eqN, le0N, eq0N, lt0N, ge0N, gt0N, if_pos, if_neg, if_true, if_false, Option.bind_some, shrN, shlN, andN1, nI_or, andm1, modS, true_or, or_true, c_stands1 c w q1, c_within1 q2, c4, l1]
    · unfold F_X8_breathe
      simp (disch := omega) only [ixN, clN, nI_add, pk_mul, subN, divN, remN, leN, ltN, eqN, le0N, eq0N, lt0N, ge0N, gt0N, if_pos, if_neg, if_true, if_false, Option.bind_some, shrN, shlN, andN1, nI_or, andm1, modS, true_or, or_true, m_isThere1 m8 w q1, m_in1 q2, m8.a4, l2]
  · refine Ag.q i (-1000003) σ ?_ (Scr.rf σ) (fun τ s => ⟨setF τ 8 (nI 0), ?_, scr8 s⟩)
    · unfold F_X7_breathe
      simp (disch := omega) only [ixN, clN, nI_add, pk_mul, subN, divN, remN, leN, ltN, eqN, le0N, eq0N, lt0N, ge0N, gt0N, if_pos, if_neg, if_true, if_false, Option.bind_some, shrN, shlN, andN1, nI_or, andm1, modS, true_or, or_true, c_stands1 c w q1, c_within1 q2, c4]
    · unfold F_X8_breathe
      simp (disch := omega) only [ixN, clN, nI_add, pk_mul, subN, divN, remN, leN, ltN, eqN, le0N, eq0N, lt0N, ge0N, gt0N, if_pos, if_neg, if_true, if_false, Option.bind_some, shrN, shlN, andN1, nI_or, andm1, modS, true_or, or_true, m_isThere1 (mr8 m s) w q1, m_in1 q2, (mr8 m s).a4]
end ACTS
