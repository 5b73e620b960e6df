/-! calls that only ask: each answers alike -/
theorem setF_1 (σ : St) (k : Nat) (v : Int32) : (setF σ k v).1 = σ.1 := rfl
theorem setF_get (σ : St) (k : Nat) (v : Int32) : (setF σ k v).2 k = v := if_pos rfl
theorem setF_ne {σ : St} {k j : Nat} {v : Int32} (h : j ≠ k) : (setF σ k v).2 j = σ.2 j := if_neg h
theorem scr8 {σ τ : St} (s : Scr σ τ) : Scr σ (setF τ 8 (nI 0)) := s.F _ (by decide)
theorem mr8 {σ τ : St} {h : Hs} (m : MR (σ.1 29) h) (s : Scr σ τ) : MR ((setF τ 8 (nI 0)).1 29) h := by
  rw [setF_1, s.1 29 (nsc (by omega))]
  exact m
theorem bn_wf : ∀ n h, WF h → WF (bn n h) := by
  intro n
  induction n with
  | zero => intro h w; exact w
  | succ n ih => intro h w; exact ih _ (hB_wf w)
theorem Ag.q {σ : St} (i : Inv σ) {P7 : Option (Int32 × St)} {P8 : St → Option (Int32 × St)} (r : Int32) (τ : St) (e7 : P7 = some (r, τ)) (s : Scr σ τ) (m8 : ∀ τ, Scr σ τ → ∃ υ, P8 τ = some (r, υ) ∧ Scr σ υ) : Ag P7 P8 := by
  obtain ⟨υ, e8, s8⟩ := m8 τ s
  exact ⟨r, τ, υ, e7, e8, i.scr s8⟩
section ASK1
variable {σ : St}
theorem layU {υ : St} {h : Hs} (m : MR (υ.1 29) h) : ∃ g', F_X8_layThen υ = some (st3 31 υ g' (υ.1 34)) ∧ MR g' h := by
  obtain ⟨g', e, c⟩ := m_lay (σ := υ) (g := υ.1 31) (e := υ.1 34) m
  rw [etaU] at e
  exact ⟨g', e, c⟩
theorem beginT {υ : St} {h : Hs} (c : CR (υ.1 10) h) : ∃ f', F_X2_begin υ = some (st2 12 υ f' (υ.1 14)) ∧ CR f' h := by
  obtain ⟨f', e, c⟩ := x_begin (σ := υ) (f := υ.1 13) (o := υ.1 14) c
  rw [etaT] at e
  exact ⟨f', e, c⟩
theorem e_fault (i : Inv σ) : Ag (F_X7_fault σ) F_X8_fault := Ag.q i (σ.2 2) σ rfl (Scr.rf σ) (fun τ s => ⟨setF τ 8 (nI 0), by
  show some ((setF τ 8 (nI 0)).2 18, _) = _
  rw [setF_ne (by decide), s.2 18 (nsf (by omega)), ← i.2.2.1.2], scr8 s⟩)
theorem e_status (i : Inv σ) : Ag (F_X7_status σ) F_X8_status := Ag.q i (σ.2 0) σ rfl (Scr.rf σ) (fun τ s => ⟨setF τ 8 (nI 0), by
  show some ((setF τ 8 (nI 0)).2 9, _) = _
  rw [setF_ne (by decide), s.2 9 (nsf (by omega)), ← i.2.2.2.2.2.2], scr8 s⟩)
theorem e_first (i : Inv σ) (x : Int32) : Ag (F_X7_first x σ) (F_X8_first x) := by
  obtain ⟨⟨h, c, m, w, b⟩, -⟩ := id i
  have hH := w.1
  by_cases q : x < 0 ∨ nI (h 0) ≤ x
  · refine Ag.q i (-1000001) σ ?_ (Scr.rf σ) (fun τ s => ⟨setF τ 8 (nI 0), ?_, scr8 s⟩)
    · unfold F_X7_first
      simp (disch := omega) only [ixN, clN, nI_add, pk_mul, subN, divN, remN, leN, ltN, eqN, le0N, eq0N, lt0N, ge0N, gt0N, if_pos, if_neg, if_true, if_false, Option.bind_some, shrN, shlN, andN1, nI_or, andm1, modS, true_or, or_true, c_isHorn0 c w q]
    · unfold F_X8_first
      simp (disch := omega) only [ixN, clN, nI_add, pk_mul, subN, divN, remN, leN, ltN, eqN, le0N, eq0N, lt0N, ge0N, gt0N, if_pos, if_neg, if_true, if_false, Option.bind_some, shrN, shlN, andN1, nI_or, andm1, modS, true_or, or_true, m_isHorn0 (mr8 m s) w q]
  · obtain ⟨j, hj, rfl⟩ := in_H (by omega) q
    have hp : 2 ^ j < 2147483648 := shl_lt (by omega)
    have hfb := fo_le (2 ^ j) 60 h
    obtain ⟨f1, e1, c1⟩ := beginT (sn_10 c)
    obtain ⟨f2, o2, e2⟩ := x_first (σ := sn σ) (o := (sn σ).1 14) c1 w (H := 2 ^ j) (n := 60) hp (by omega)
    refine Ag.q i (if fo (2 ^ j) 60 h = 0 then (-1000000) else nI (fo (2 ^ j) 60 h)) (st2 12 (sn σ) f2 o2) ?_ ((sn_scr σ).T f2 o2) (fun τ s => ?_)
    · unfold F_X7_first F_X2_firstHearing
      simp (disch := omega) only [ixN, clN, nI_add, pk_mul, subN, divN, remN, leN, ltN, eqN, le0N, eq0N, lt0N, ge0N, gt0N, if_pos, if_neg, if_true, if_false, Option.bind_some, shrN, shlN, andN1, nI_or, andm1, modS, true_or, or_true, c_isHorn1 c w q, c_seen, e1, e2]
      by_cases z : fo (2 ^ j) 60 h = 0
      · rw [if_pos z, if_pos z]; rfl
      · rw [if_neg z, if_neg z]; rfl
    · obtain ⟨g3, e3, c3⟩ := layU (mr8 m s)
      obtain ⟨g4, e4, l4⟩ := m_first (σ := setF τ 8 (nI 0)) (e := (setF τ 8 (nI 0)).1 34) c3 w (j := j) (by omega)
      refine ⟨_, ?_, (scr8 s).U g4 e4⟩
      unfold F_X8_first
      simp (disch := omega) only [ixN, clN, nI_add, pk_mul, subN, divN, remN, leN, ltN, eqN, le0N, eq0N, lt0N, ge0N, gt0N, if_pos, if_neg, if_true, if_false, Option.bind_some, shrN, shlN, andN1, nI_or, andm1, modS, true_or, or_true, m_isHorn1 (mr8 m s) w q, e3, l4]
theorem e_round (i : Inv σ) (x : Int32) : Ag (F_X7_round x σ) (F_X8_round x) := by
  obtain ⟨⟨h, c, m, w, b⟩, -⟩ := id i
  have hH := w.1
  by_cases q : x < 0 ∨ nI (h 0) ≤ x
  · refine Ag.q i (-1000001) σ ?_ (Scr.rf σ) (fun τ s => ⟨setF τ 8 (nI 0), ?_, scr8 s⟩)
    · unfold F_X7_round
      simp (disch := omega) only [ixN, clN, nI_add, pk_mul, subN, divN, remN, leN, ltN, eqN, le0N, eq0N, lt0N, ge0N, gt0N, if_pos, if_neg, if_true, if_false, Option.bind_some, shrN, shlN, andN1, nI_or, andm1, modS, true_or, or_true, c_isHorn0 c w q]
    · unfold F_X8_round
      simp (disch := omega) only [ixN, clN, nI_add, pk_mul, subN, divN, remN, leN, ltN, eqN, le0N, eq0N, lt0N, ge0N, gt0N, if_pos, if_neg, if_true, if_false, Option.bind_some, shrN, shlN, andN1, nI_or, andm1, modS, true_or, or_true, m_isHorn0 (mr8 m s) w q]
  · obtain ⟨j, hj, rfl⟩ := in_H (by omega) q
    have hp : 2 ^ j < 2147483648 := shl_lt (by omega)
    have w2 := hZ_wf w
    have w3 := hS_wf w2 (x := j) (wd := 0) (l := 90) (by omega) (by omega)
    have hfb := fo_le (2 ^ j) 60 (hS (hZ h) j 0 90 (hZ h 2))
    obtain ⟨f1, e1, c1⟩ := beginT (sn_10 c)
    obtain ⟨f2, e2, c2⟩ := n_silence (r := 12) (σ := sn σ) (o := (sn σ).1 14) c1
    obtain ⟨f3, e3, c3⟩ := n_letIn (r := 12) (σ := sn σ) (o := (sn σ).1 14) c2 w2 (x := j) (wd := 0) (l := 90) (by omega) (by omega) (by omega)
    obtain ⟨f4, o4, e4⟩ := x_first (σ := sn σ) (o := (sn σ).1 14) c3 w3 (H := 2 ^ j) (n := 60) hp (by omega)
    refine Ag.q i (if fo (2 ^ j) 60 (hS (hZ h) j 0 90 (hZ h 2)) = 0 then (-1000000) else nI (fo (2 ^ j) 60 (hS (hZ h) j 0 90 (hZ h 2)))) (st2 12 (sn σ) f4 o4) ?_ ((sn_scr σ).T f4 o4) (fun τ s => ?_)
    · unfold F_X7_round F_X2_breathsRound
      simp (disch := omega) only [ixN, clN, nI_add, pk_mul, subN, divN, remN, leN, ltN, eqN, le0N, eq0N, lt0N, ge0N, gt0N, if_pos, if_neg, if_true, if_false, Option.bind_some, shrN, shlN, andN1, nI_or, andm1, modS, true_or, or_true, c_isHorn1 c w q, c_seen, e1, e2, e3, e4]
      by_cases z : fo (2 ^ j) 60 (hS (hZ h) j 0 90 (hZ h 2)) = 0
      · rw [if_pos z, if_pos z]; rfl
      · rw [if_neg z, if_neg z]; rfl
    · obtain ⟨g3, e5, c5⟩ := layU (mr8 m s)
      obtain ⟨g4, e6, c6⟩ := m_silence (k := 31) (σ := setF τ 8 (nI 0)) (e := (setF τ 8 (nI 0)).1 34) (by decide) c5 w
      obtain ⟨g5, e7, c7⟩ := m_speech (k := 31) (σ := setF τ 8 (nI 0)) (e := (setF τ 8 (nI 0)).1 34) (by decide) c6 w2 (x := j) (wd := 0) (l := 90) (by omega) (by omega) (by omega)
      obtain ⟨g6, e8, l8⟩ := m_first (σ := setF τ 8 (nI 0)) (e := (setF τ 8 (nI 0)).1 34) c7 w3 (j := j) (by omega)
      refine ⟨_, ?_, (scr8 s).U g6 e8⟩
      unfold F_X8_round
      simp (disch := omega) only [ixN, clN, nI_add, pk_mul, subN, divN, remN, leN, ltN, eqN, le0N, eq0N, lt0N, ge0N, gt0N, if_pos, if_neg, if_true, if_false, Option.bind_some, shrN, shlN, andN1, nI_or, andm1, modS, true_or, or_true, m_isHorn1 (mr8 m s) w q, e5, e6, e7, l8]
theorem e_hearers (i : Inv σ) (x : Int32) : Ag (F_X7_hearers x σ) (F_X8_hearers x) := by
  obtain ⟨⟨h, c, m, w, b⟩, -⟩ := id i
  have hH := w.1
  by_cases q0 : h 0 = 0
  · refine Ag.q i (-1000002) σ ?_ (Scr.rf σ) (fun τ s => ⟨setF τ 8 (nI 0), ?_, scr8 s⟩)
    · unfold F_X7_hearers
      simp (disch := omega) only [ixN, clN, nI_add, pk_mul, subN, divN, remN, leN, ltN, eqN, le0N, eq0N, lt0N, ge0N, gt0N, if_pos, if_neg, if_true, if_false, Option.bind_some, shrN, shlN, andN1, nI_or, andm1, modS, true_or, or_true, c_stands0 c w q0]
    · unfold F_X8_hearers
      simp (disch := omega) only [ixN, clN, nI_add, pk_mul, subN, divN, remN, leN, ltN, eqN, le0N, eq0N, lt0N, ge0N, gt0N, if_pos, if_neg, if_true, if_false, Option.bind_some, shrN, shlN, andN1, nI_or, andm1, modS, true_or, or_true, m_isThere0 (mr8 m s) w q0]
  · by_cases q : x < nI 1 ∨ nI 60 < x
    · refine Ag.q i (-1000001) σ ?_ (Scr.rf σ) (fun τ s => ⟨setF τ 8 (nI 0), ?_, scr8 s⟩)
      · unfold F_X7_hearers
        simp (disch := omega) only [ixN, clN, nI_add, pk_mul, subN, divN, remN, leN, ltN, eqN, le0N, eq0N, lt0N, ge0N, gt0N, if_pos, if_neg, if_true, if_false, Option.bind_some, shrN, shlN, andN1, nI_or, andm1, modS, true_or, or_true, c_stands1 c w q0, c_within0 q]
      · unfold F_X8_hearers
        simp (disch := omega) only [ixN, clN, nI_add, pk_mul, subN, divN, remN, leN, ltN, eqN, le0N, eq0N, lt0N, ge0N, gt0N, if_pos, if_neg, if_true, if_false, Option.bind_some, shrN, shlN, andN1, nI_or, andm1, modS, true_or, or_true, m_isThere1 (mr8 m s) w q0, m_in0 q]
    · obtain ⟨n, hn1, hn, rfl⟩ := in_N (by omega) (by omega) q
      obtain ⟨f2, o2, e2⟩ := x_hear (σ := sn σ) (f := (sn σ).1 13) (o := (sn σ).1 14) (sn_10 c) w hn
      rw [etaT] at e2
      refine Ag.q i (nI (orn n h)) (st2 12 (sn σ) f2 o2) ?_ ((sn_scr σ).T f2 o2) (fun τ s => ?_)
      · unfold F_X7_hearers
        simp (disch := omega) only [ixN, clN, nI_add, pk_mul, subN, divN, remN, leN, ltN, eqN, le0N, eq0N, lt0N, ge0N, gt0N, if_pos, if_neg, if_true, if_false, Option.bind_some, shrN, shlN, andN1, nI_or, andm1, modS, true_or, or_true, c_stands1 c w q0, c_within1 q, c_seen, e2]
      · obtain ⟨g3, e3, c3⟩ := layU (mr8 m s)
        obtain ⟨g4, e4, l4, -, -⟩ := m_hear (σ := setF τ 8 (nI 0)) (e := (setF τ 8 (nI 0)).1 34) c3 w hn
        refine ⟨_, ?_, (scr8 s).U g4 e4⟩
        unfold F_X8_hearers
        simp (disch := omega) only [ixN, clN, nI_add, pk_mul, subN, divN, remN, leN, ltN, eqN, le0N, eq0N, lt0N, ge0N, gt0N, if_pos, if_neg, if_true, if_false, Option.bind_some, shrN, shlN, andN1, nI_or, andm1, modS, true_or, or_true, m_isThere1 (mr8 m s) w q0, m_in1 q, e3, l4]
theorem e_quiet (i : Inv σ) : Ag (F_X7_quiet σ) F_X8_quiet := by
  obtain ⟨⟨h, c, m, w, b⟩, -⟩ := id i
  have hH := w.1
  by_cases q0 : h 0 = 0
  · refine Ag.q i (-1000002) σ ?_ (Scr.rf σ) (fun τ s => ⟨setF τ 8 (nI 0), ?_, scr8 s⟩)
    · unfold F_X7_quiet
      simp (disch := omega) only [ixN, clN, nI_add, pk_mul, subN, divN, remN, leN, ltN, eqN, le0N, eq0N, lt0N, ge0N, gt0N, if_pos, if_neg, if_true, if_false, Option.bind_some, shrN, shlN, andN1, nI_or, andm1, modS, true_or, or_true, c_stands0 c w q0]
    · unfold F_X8_quiet
      simp (disch := omega) only [ixN, clN, nI_add, pk_mul, subN, divN, remN, leN, ltN, eqN, le0N, eq0N, lt0N, ge0N, gt0N, if_pos, if_neg, if_true, if_false, Option.bind_some, shrN, shlN, andN1, nI_or, andm1, modS, true_or, or_true, m_isThere0 (mr8 m s) w q0]
  · obtain ⟨f2, o2, e2⟩ := x_quiet (σ := sn σ) (f := (sn σ).1 13) (o := (sn σ).1 14) (sn_10 c) w
    rw [etaT] at e2
    refine Ag.q i (qf 60 0 h) (st2 12 (sn σ) f2 o2) ?_ ((sn_scr σ).T f2 o2) (fun τ s => ?_)
    · unfold F_X7_quiet
      simp (disch := omega) only [ixN, clN, nI_add, pk_mul, subN, divN, remN, leN, ltN, eqN, le0N, eq0N, lt0N, ge0N, gt0N, if_pos, if_neg, if_true, if_false, Option.bind_some, shrN, shlN, andN1, nI_or, andm1, modS, true_or, or_true, c_stands1 c w q0, c_seen, e2]
    · obtain ⟨g3, e3, c3⟩ := layU (mr8 m s)
      obtain ⟨g4, e4, l4⟩ := m_quiet (σ := setF τ 8 (nI 0)) (e := (setF τ 8 (nI 0)).1 34) c3 w
      refine ⟨_, ?_, (scr8 s).U g4 e4⟩
      unfold F_X8_quiet
      simp (disch := omega) only [ixN, clN, nI_add, pk_mul, subN, divN, remN, leN, ltN, eqN, le0N, eq0N, lt0N, ge0N, gt0N, if_pos, if_neg, if_true, if_false, Option.bind_some, shrN, shlN, andN1, nI_or, andm1, modS, true_or, or_true, m_isThere1 (mr8 m s) w q0, e3, l4]
theorem e_ahead (i : Inv σ) (x y u : Int32) : Ag (F_X7_ahead x y u σ) (F_X8_ahead x y u) := by
  obtain ⟨⟨h, c, m, w, b⟩, -⟩ := id i
  have hH := w.1
  by_cases q : (x < 0 ∨ nI (h 0) ≤ x) ∨ (y < nI 1 ∨ nI 60 < y) ∨ (u < nI 0 ∨ nI 1 < u)
  · refine Ag.q i (-1000001) σ ?_ (Scr.rf σ) (fun τ s => ⟨setF τ 8 (nI 0), ?_, scr8 s⟩)
    · unfold F_X7_ahead
      by_cases q1 : x < 0 ∨ nI (h 0) ≤ x
      · simp (disch := omega) only [ixN, clN, nI_add, pk_mul, subN, divN, remN, leN, ltN, eqN, le0N, eq0N, lt0N, ge0N, gt0N, if_pos, if_neg, if_true, if_false, Option.bind_some, shrN, shlN, andN1, nI_or, andm1, modS, true_or, or_true, c_isHorn0 c w q1]
      · by_cases q2 : y < nI 1 ∨ nI 60 < y
        · simp (disch := omega) only [ixN, clN, nI_add, pk_mul, subN, divN, remN, leN, ltN, eqN, le0N, eq0N, lt0N, ge0N, gt0N, if_pos, if_neg, if_true, if_false, Option.bind_some, shrN, shlN, andN1, nI_or, andm1, modS, true_or, or_true, c_isHorn1 c w q1, c_within0 q2]
        · simp (disch := omega) only [ixN, clN, nI_add, pk_mul, subN, divN, remN, leN, ltN, eqN, le0N, eq0N, lt0N, ge0N, gt0N, if_pos, if_neg, if_true, if_false, Option.bind_some, shrN, shlN, andN1, nI_or, andm1, modS, true_or, or_true, c_isHorn1 c w q1, c_within1 q2, c_within0 ((q.resolve_left q1).resolve_left q2)]
    · unfold F_X8_ahead
      by_cases q1 : x < 0 ∨ nI (h 0) ≤ x
      · simp (disch := omega) only [ixN, clN, nI_add, pk_mul, subN, divN, remN, leN, ltN, eqN, le0N, eq0N, lt0N, ge0N, gt0N, if_pos, if_neg, if_true, if_false, Option.bind_some, shrN, shlN, andN1, nI_or, andm1, modS, true_or, or_true, m_isHorn0 (mr8 m s) w q1]
      · by_cases q2 : y < nI 1 ∨ nI 60 < y
        · simp (disch := omega) only [ixN, clN, nI_add, pk_mul, subN, divN, remN, leN, ltN, eqN, le0N, eq0N, lt0N, ge0N, gt0N, if_pos, if_neg, if_true, if_false, Option.bind_some, shrN, shlN, andN1, nI_or, andm1, modS, true_or, or_true, m_isHorn1 (mr8 m s) w q1, m_in0 q2]
        · simp (disch := omega) only [ixN, clN, nI_add, pk_mul, subN, divN, remN, leN, ltN, eqN, le0N, eq0N, lt0N, ge0N, gt0N, if_pos, if_neg, if_true, if_false, Option.bind_some, shrN, shlN, andN1, nI_or, andm1, modS, true_or, or_true, m_isHorn1 (mr8 m s) w q1, m_in1 q2, m_in0 ((q.resolve_left q1).resolve_left q2)]
  · have q1 : ¬ (x < 0 ∨ nI (h 0) ≤ x) := fun z => q (Or.inl z)
    have q2 : ¬ (y < nI 1 ∨ nI 60 < y) := fun z => q (Or.inr (Or.inl z))
    have q3 : ¬ (u < nI 0 ∨ nI 1 < u) := fun z => q (Or.inr (Or.inr z))
    clear q
    obtain ⟨j, hj, rfl⟩ := in_H (by omega) q1
    obtain ⟨n, hn1, hn, rfl⟩ := in_N (by omega) (by omega) q2
    obtain ⟨v, hv1, hv, rfl⟩ := in_N (by omega) (by omega) q3
    obtain ⟨f2, o2, e2⟩ := x_sound (σ := sn σ) (f := (sn σ).1 13) (o := (sn σ).1 14) (sn_10 c) w (j := j) (n := n) (by omega) ⟨hn1, hn⟩
    rw [etaT] at e2
    have hb := (wn_vs (bn_wf (n - 1) h w) j).1
    refine Ag.q i (if wn (bn (n - 1) h) j = 0 then (-1000000) else if v = 0 then nI (wn (bn (n - 1) h) j / 100) else nI (wn (bn (n - 1) h) j % 100)) (st2 12 (sn σ) f2 o2) ?_ ((sn_scr σ).T f2 o2) (fun τ s => ?_)
    · unfold F_X7_ahead
      generalize wn (bn (n - 1) h) j = s at hb e2
      simp (disch := omega) only [ixN, clN, nI_add, pk_mul, subN, divN, remN, leN, ltN, eqN, le0N, eq0N, lt0N, ge0N, gt0N, if_pos, if_neg, if_true, if_false, Option.bind_some, shrN, shlN, andN1, nI_or, andm1, modS, true_or, or_true, c_isHorn1 c w q1, c_within1 q2, c_within1 q3, c_seen, e2, F_X7_wordOrNone, F_X4_wordOf, F_X4_loudnessOf]
      by_cases z : s = 0
      · subst z
        by_cases z2 : v = 0
        · rw [if_pos z2]; rfl
        · rw [if_neg z2]; rfl
      · by_cases z2 : v = 0
        · rw [if_pos z2, if_neg z, if_neg z, if_pos z2]; rfl
        · rw [if_neg z2, if_neg z, if_neg z, if_neg z2]
    · obtain ⟨g3, e3, c3⟩ := layU (mr8 m s)
      obtain ⟨g4, e4, l4, -, z4⟩ := m_hear (σ := setF τ 8 (nI 0)) (e := (setF τ 8 (nI 0)).1 34) c3 w hn
      have zj := z4 (by omega) j hj
      refine ⟨_, ?_, (scr8 s).U g4 e4⟩
      unfold F_X8_ahead
      generalize wn (bn (n - 1) h) j = s at hb zj
      simp (disch := omega) only [ixN, clN, nI_add, pk_mul, subN, divN, remN, leN, ltN, eqN, le0N, eq0N, lt0N, ge0N, gt0N, if_pos, if_neg, if_true, if_false, Option.bind_some, shrN, shlN, andN1, nI_or, andm1, modS, true_or, or_true, m_isHorn1 (mr8 m ‹Scr σ τ›) w q1, m_in1 q2, m_in1 q3, e3, l4, U_b, zj]
      by_cases z : s = 0
      · rw [if_pos z, if_pos z]
      · by_cases z2 : v = 0
        · rw [if_neg z, if_pos z2, if_neg z, if_pos z2]
        · rw [if_neg z, if_neg z2, if_neg z, if_neg z2]
end ASK1
