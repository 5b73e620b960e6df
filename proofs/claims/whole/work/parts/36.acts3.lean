/-! undo, image, restore -/
section ACTS3
variable {σ : St}
theorem e_undo (i : Inv σ) : Ag (F_X7_undo σ) F_X8_undo := by
  obtain ⟨⟨h, c, m, w, b⟩, -⟩ := id i
  obtain ⟨n, x, S, ca, ma, so⟩ := InvA_iff.mp i.2.2.2.1
  obtain ⟨hn, hx, k6, k5, kc⟩ := id ca
  obtain ⟨k10, km⟩ := id ma
  by_cases q1 : n = 0
  · subst q1
    refine Ag.q i (-1000002) σ ?_ (Scr.rf σ) (fun τ s => ⟨setF τ 8 (nI 0), ?_, scr8 s⟩)
    · unfold F_X7_undo
      rw [k6, if_pos (show nI 0 = 0 from rfl)]
    · unfold F_X8_undo
      rw [setF_ne (by decide), s.2 10 (nsf (by omega)), k10, if_pos (show nI 0 = 0 from rfl)]
  · obtain ⟨x', hx', ex⟩ : ∃ x', x' < 24 ∧ x' = (x + 23) % 24 := ⟨_, Nat.mod_lt _ (by decide), rfl⟩
    let τ0 : St := setF (setF σ 5 (nI x')) 6 (nI (n - 1))
    have lt : F_X0_latest σ = some (46 + x', τ0) := by
      unfold F_X0_latest
      rw [k5]
      have e6 : ∀ v, (setF σ 5 v).2 6 = nI n := fun v => by rw [setF_ne (by decide)]; exact k6
      have e5 : ∀ u v, (setF (setF σ 5 v) 6 u).2 5 = v := fun u v => by rw [setF_ne (by decide), setF_get]
      by_cases z : x = 0
      · obtain rfl : x' = 23 := by omega
        simp (disch := omega) only [ixN, clN, nI_add, pk_mul, subN, divN, remN, leN, ltN, eqN, le0N, eq0N, lt0N, ge0N, gt0N, if_pos, if_neg, if_true, if_false, Option.bind_some, shrN, shlN, andN1, nI_or, andm1, modS, true_or, or_true, J_X0_latest_19, e6, e5, z]
        rfl
      · obtain rfl : x' = x - 1 := by omega
        simp (disch := omega) only [ixN, clN, nI_add, pk_mul, subN, divN, remN, leN, ltN, eqN, le0N, eq0N, lt0N, ge0N, gt0N, if_pos, if_neg, if_true, if_false, Option.bind_some, shrN, shlN, andN1, nI_or, andm1, modS, true_or, or_true, J_X0_latest_19, e6, e5]
        rfl
    have row := kc (n - 1) (by omega)
    rw [show (x + 24 - n + (n - 1)) % 24 = x' by omega] at row
    let τ1 : St := cpyA τ0 (46 + x') 0 4 0 80
    have tk : F_X4_take 3 (46 + x') τ0 = some τ1 := n_take
    have e6 : τ1.2 6 = nI (n - 1) := setF_get (setF σ 5 (nI x')) 6 (nI (n - 1))
    have c1 : CR (τ1.1 4) (S (n - 1)) := fun j hj => by
      show (setR τ0 4 (va_cpy (τ0.1 (46 + x')) (τ0.1 4) 0 0 80)).1 4 j = _
      rw [setR_get, sb_cpy0 hj]
      exact row j hj
    have a4 : ∀ k, k ≠ 4 → τ1.1 k = σ.1 k := fun k h4 => by
      show (setR τ0 4 _).1 k = _
      rw [setR_ne h4]; rfl
    have fc : FC σ τ1 := ⟨fun k h4 h5 hk => a4 k h4, fun j h5 h6 => by
      show (setF (setF σ 5 (nI x')) 6 (nI (n - 1))).2 j = _
      rw [setF_ne h6, setF_ne h5]⟩
    have ca1 : CA τ1 (n - 1) x' S := ⟨by omega, hx', e6, by
      show (setF (setF σ 5 (nI x')) 6 (nI (n - 1))).2 5 = _
      rw [setF_ne (by decide), setF_get], fun j hj => by
      rw [a4 _ (by omega), show (x' + 24 - (n - 1) + j) % 24 = (x + 24 - n + j) % 24 by omega]
      exact kc j (by omega)⟩
    have L : ∀ (mm N a : Nat) (σ : St) (A : Nat), a + mm = 80 → mm < N → σ.2 10 = nI A → A < 24 → ∃ w, (∀ K, L_X8_undo_27 K N (nI a) σ = K (setR σ 29 w)) ∧ (∀ i, i < 80 → a ≤ i → w i = σ.1 32 (80 * A + i)) ∧ ∀ i, i < a → w i = σ.1 29 i := by
      intro mm
      induction mm with
      | zero =>
        intro N a σ A ha hN k10 hA
        obtain ⟨N, rfl⟩ : ∃ n', N = n' + 1 := ⟨N - 1, by omega⟩
        refine ⟨σ.1 29, fun K => ?_, fun i h1 h2 => by omega, fun i _ => rfl⟩
        rw [L_X8_undo_27.eq_2]
        simp (disch := omega) only [ixN, clN, nI_add, pk_mul, subN, divN, remN, leN, ltN, eqN, le0N, eq0N, lt0N, ge0N, gt0N, if_pos, if_neg, if_true, if_false, Option.bind_some, shrN, shlN, andN1, nI_or, andm1, modS, true_or, or_true]
        congr 1
        apply St.ext
        · intro k
          by_cases q : k = 29
          · rw [q, setR_get]
          · rw [setR_ne q]
        · intro j; rfl
      | succ mm ih =>
        intro N a σ A ha hN k10 hA
        obtain ⟨N, rfl⟩ : ∃ n', N = n' + 1 := ⟨N - 1, by omega⟩
        obtain ⟨w, l1, l2, l3⟩ := ih N (a + 1) (setA σ 29 a (σ.1 32 (80 * A + a))) A (by omega) (by omega) k10 hA
        refine ⟨w, fun K => ?_, fun i h1 h2 => ?_, fun i hi => ?_⟩
        · rw [L_X8_undo_27.eq_2, k10]
          simp (disch := omega) only [ixN, clN, nI_add, pk_mul, subN, divN, remN, leN, ltN, eqN, le0N, eq0N, lt0N, ge0N, gt0N, if_pos, if_neg, if_true, if_false, Option.bind_some, shrN, shlN, andN1, nI_or, andm1, modS, true_or, or_true, l1]
          congr 1
          apply St.ext
          · intro k
            by_cases q : k = 29
            · rw [q, setR_get, setR_get]
            · rw [setR_ne q, setR_ne q, setA_32 q]
          · intro j; rfl
        · by_cases q : i = a
          · rw [q, l3 _ (by omega), setA_get, pk_us]
          · rw [l2 i h1 (by omega), setA_32 (by decide)]
        · rw [l3 i (by omega), setA_get, pk_un (by omega)]
    have f10 : (setF τ1 8 (nI 0)).2 10 = nI n := by rw [setF_ne (by decide), fc.2 10 (by omega) (by omega)]; exact k10
    have hf := fuel_ge
    obtain ⟨u, l1, l2, -⟩ := L 80 fuel 0 (setF (setF τ1 8 (nI 0)) 10 (nI (n - 1))) (n - 1) (by omega) (by omega) (setF_get _ _ _) (by omega)
    have r10 : (setR (setF (setF τ1 8 (nI 0)) 10 (nI (n - 1))) 29 u).2 10 = nI (n - 1) := setF_get (setF τ1 8 (nI 0)) 10 (nI (n - 1))
    refine ⟨nI (n - 1), τ1, setR (setF (setF τ1 8 (nI 0)) 10 (nI (n - 1))) 29 u, ?_, ?_, Inv.act i fc c1 ca1 ⟨fun k h1 _ _ => by rw [setR_ne h1]; rfl, fun j h8 h10 => ?_⟩ ?_ ⟨r10, fun j hj => ?_⟩ (so (n - 1) (by omega)).1 (so (n - 1) (by omega)).2 (fun j hj => so j (by omega))⟩
    · unfold F_X7_undo
      have hxx : (46 ≤ 46 + x' ∧ 46 + x' < 72) := by omega
      simp (disch := omega) only [ixN, clN, nI_add, pk_mul, subN, divN, remN, leN, ltN, eqN, le0N, eq0N, lt0N, ge0N, gt0N, if_pos, if_neg, if_true, if_false, Option.bind_some, shrN, shlN, andN1, nI_or, andm1, modS, true_or, or_true, k6, lt, tk, e6]
    · unfold F_X8_undo
      simp (disch := omega) only [ixN, clN, nI_add, pk_mul, subN, divN, remN, leN, ltN, eqN, le0N, eq0N, lt0N, ge0N, gt0N, if_pos, if_neg, if_true, if_false, Option.bind_some, shrN, shlN, andN1, nI_or, andm1, modS, true_or, or_true, f10, l1, r10]
    · show (setF (setF τ1 8 (nI 0)) 10 (nI (n - 1))).2 j = _
      rw [setF_ne h10, setF_ne h8]
    · rw [setR_get]
      intro j hj
      have hp := pm_lt j hj
      rw [l2 _ hp (by omega)]
      show τ1.1 32 _ = _
      rw [a4 32 (by decide)]
      exact km (n - 1) (by omega) j hj
    · rw [setR_ne (by decide)]
      show ∀ i, i < 80 → τ1.1 32 _ = _
      rw [a4 32 (by decide)]
      exact km j (by omega)
theorem e_restore (i : Inv σ) (x : Int32) : Ag (F_X7_restore x σ) (F_X8_restore x) := by
  obtain ⟨⟨h, c, m, w, b⟩, -⟩ := id i
  by_cases q1 : x < nI 0 ∨ nI 1 < x
  · refine Ag.q i (-1000001) σ ?_ (Scr.rf σ) (fun τ s => ⟨setF τ 8 (nI 0), ?_, scr8 s⟩)
    · unfold F_X7_restore
      simp (disch := omega) only [ixN, clN, nI_add, pk_mul, subN, divN, remN, leN, ltN, eqN, le0N, eq0N, lt0N, ge0N, gt0N, if_pos, if_neg, if_true, if_false, Option.bind_some, shrN, shlN, andN1, nI_or, andm1, modS, true_or, or_true, c_within0 q1]
    · unfold F_X8_restore
      simp (disch := omega) only [ixN, clN, nI_add, pk_mul, subN, divN, remN, leN, ltN, eqN, le0N, eq0N, lt0N, ge0N, gt0N, if_pos, if_neg, if_true, if_false, Option.bind_some, shrN, shlN, andN1, nI_or, andm1, modS, true_or, or_true, m_in0 q1]
  obtain ⟨k, -, hk, rfl⟩ := in_N (by omega) (by omega) q1
  rcases i.2.2.2.2.1 k (by omega) with ⟨z1, z2⟩ | ⟨z2, hh, cc, mm, ww, bb, h0⟩
  · refine Ag.q i (-1000002) σ ?_ (Scr.rf σ) (fun τ s => ⟨setF τ 8 (nI 0), ?_, scr8 s⟩)
    · unfold F_X7_restore
      simp (disch := omega) only [ixN, clN, nI_add, pk_mul, subN, divN, remN, leN, ltN, eqN, le0N, eq0N, lt0N, ge0N, gt0N, if_pos, if_neg, if_true, if_false, Option.bind_some, shrN, shlN, andN1, nI_or, andm1, modS, true_or, or_true, c_within1 q1, z1]
    · unfold F_X8_restore
      have e35 : (setF τ 8 (nI 0)).1 35 k = nI 0 := by rw [setF_1, s.1 35 (nsc (by omega)), z2]
      simp (disch := omega) only [ixN, clN, nI_add, pk_mul, subN, divN, remN, leN, ltN, eqN, le0N, eq0N, lt0N, ge0N, gt0N, if_pos, if_neg, if_true, if_false, Option.bind_some, shrN, shlN, andN1, nI_or, andm1, modS, true_or, or_true, m_in1 q1, e35]
  · have w0 := ww.1
    let τ1 : St := cpyA σ (70 + k) 0 4 0 80
    have tk : F_X4_take 3 (70 + k) σ = some τ1 := n_take
    have a4 : ∀ k, k ≠ 4 → τ1.1 k = σ.1 k := fun k h4 => by
      show (setR σ 4 _).1 k = _
      rw [setR_ne h4]
    have c1 : CR (τ1.1 4) hh := fun j hj => by
      show (setR σ 4 (va_cpy (σ.1 (70 + k)) (σ.1 4) 0 0 80)).1 4 j = _
      rw [setR_get, sb_cpy0 hj]
      exact cc j hj
    have fc : FC σ (setF τ1 6 (nI 0)) := ⟨fun k h4 h5 hk => by rw [setF_1, a4 k h4], fun j h5 h6 => by rw [setF_ne h6]; rfl⟩
    obtain ⟨n, xx, S, ca, ma, so⟩ := InvA_iff.mp i.2.2.2.1
    have ca1 : CA (setF τ1 6 (nI 0)) 0 xx S := ⟨by omega, ca.2.1, setF_get _ _ _, by rw [setF_ne (by decide)]; exact ca.2.2.2.1, fun j hj => by omega⟩
    have L : ∀ (mm N a : Nat) (σ : St), a + mm = 80 → mm < N → ∃ w, (∀ K, L_X8_restore_32 K N (nI k) (nI a) σ = K (setR σ 29 w)) ∧ (∀ i, i < 80 → a ≤ i → w i = σ.1 36 (80 * k + i)) ∧ ∀ i, i < a → w i = σ.1 29 i := by
      intro mm
      induction mm with
      | zero =>
        intro N a σ ha hN
        obtain ⟨N, rfl⟩ : ∃ n', N = n' + 1 := ⟨N - 1, by omega⟩
        refine ⟨σ.1 29, fun K => ?_, fun i h1 h2 => by omega, fun i _ => rfl⟩
        rw [L_X8_restore_32.eq_2]
        simp (disch := omega) only [ixN, clN, nI_add, pk_mul, subN, divN, remN, leN, ltN, eqN, le0N, eq0N, lt0N, ge0N, gt0N, if_pos, if_neg, if_true, if_false, Option.bind_some, shrN, shlN, andN1, nI_or, andm1, modS, true_or, or_true]
        congr 1
        apply St.ext
        · intro k
          by_cases q : k = 29
          · rw [q, setR_get]
          · rw [setR_ne q]
        · intro j; rfl
      | succ mm ih =>
        intro N a σ ha hN
        obtain ⟨N, rfl⟩ : ∃ n', N = n' + 1 := ⟨N - 1, by omega⟩
        obtain ⟨w, l1, l2, l3⟩ := ih N (a + 1) (setA σ 29 a (σ.1 36 (80 * k + a))) (by omega) (by omega)
        refine ⟨w, fun K => ?_, fun i h1 h2 => ?_, fun i hi => ?_⟩
        · rw [L_X8_restore_32.eq_2]
          simp (disch := omega) only [ixN, clN, nI_add, pk_mul, subN, divN, remN, leN, ltN, eqN, le0N, eq0N, lt0N, ge0N, gt0N, if_pos, if_neg, if_true, if_false, Option.bind_some, shrN, shlN, andN1, nI_or, andm1, modS, true_or, or_true, l1]
          congr 1
          apply St.ext
          · intro k
            by_cases q : k = 29
            · rw [q, setR_get, setR_get]
            · rw [setR_ne q, setR_ne q, setA_32 q]
          · intro j; rfl
        · by_cases q : i = a
          · rw [q, l3 _ (by omega), setA_get, pk_us]
          · rw [l2 i h1 (by omega), setA_32 (by decide)]
        · rw [l3 i (by omega), setA_get, pk_un (by omega)]
    have hf := fuel_ge
    obtain ⟨u, l1, l2, -⟩ := L 80 fuel 0 (setF (setF τ1 6 (nI 0)) 8 (nI 0)) (by omega) (by omega)
    have e35 : (setF (setF τ1 6 (nI 0)) 8 (nI 0)).1 35 k = nI 1 := by rw [setF_1, setF_1, a4 35 (by decide), z2]
    refine ⟨nI 1, setF τ1 6 (nI 0), setF (setR (setF (setF τ1 6 (nI 0)) 8 (nI 0)) 29 u) 10 (nI 0), ?_, ?_, Inv.act (S := S) i fc (by rw [setF_1]; exact c1) ca1 ⟨fun k h1 _ _ => by rw [setF_1, setR_ne h1]; rfl, fun j h8 h10 => ?_⟩ ?_ ⟨setF_get _ _ _, fun j hj => by omega⟩ ww bb (fun j hj => by omega)⟩
    · unfold F_X7_restore F_X0_forget
      simp (disch := omega) only [ixN, clN, nI_add, pk_mul, subN, divN, remN, leN, ltN, eqN, le0N, eq0N, lt0N, ge0N, gt0N, if_pos, if_neg, if_true, if_false, Option.bind_some, shrN, shlN, andN1, nI_or, andm1, modS, true_or, or_true, c_within1 q1, cc 0 (by omega), tk]
    · unfold F_X8_restore
      simp (disch := omega) only [ixN, clN, nI_add, pk_mul, subN, divN, remN, leN, ltN, eqN, le0N, eq0N, lt0N, ge0N, gt0N, if_pos, if_neg, if_true, if_false, Option.bind_some, shrN, shlN, andN1, nI_or, andm1, modS, true_or, or_true, m_in1 q1, e35, l1]
    · rw [setF_ne h10]
      show (setF (setF τ1 6 (nI 0)) 8 (nI 0)).2 j = _
      rw [setF_ne h8]
    · rw [setF_1, setR_get]
      intro j hj
      have hp := pm_lt j hj
      rw [l2 _ hp (by omega)]
      show τ1.1 36 _ = _
      rw [a4 36 (by decide)]
      exact mm j hj
theorem e_image (i : Inv σ) (x : Int32) : Ag (F_X7_image x σ) (F_X8_image x) := by
  obtain ⟨⟨h, c, m, w, b⟩, iR, iT, iA, iI, iB, iS⟩ := id i
  by_cases q1 : x < nI 0 ∨ nI 1 < x
  · refine Ag.q i (-1000001) σ ?_ (Scr.rf σ) (fun τ s => ⟨setF τ 8 (nI 0), ?_, scr8 s⟩)
    · unfold F_X7_image
      simp (disch := omega) only [ixN, clN, nI_add, pk_mul, subN, divN, remN, leN, ltN, eqN, le0N, eq0N, lt0N, ge0N, gt0N, if_pos, if_neg, if_true, if_false, Option.bind_some, shrN, shlN, andN1, nI_or, andm1, modS, true_or, or_true, c_within0 q1]
    · unfold F_X8_image
      simp (disch := omega) only [ixN, clN, nI_add, pk_mul, subN, divN, remN, leN, ltN, eqN, le0N, eq0N, lt0N, ge0N, gt0N, if_pos, if_neg, if_true, if_false, Option.bind_some, shrN, shlN, andN1, nI_or, andm1, modS, true_or, or_true, m_in0 q1]
  obtain ⟨k, -, hk, rfl⟩ := in_N (by omega) (by omega) q1
  by_cases q2 : h 0 = 0
  · refine Ag.q i (-1000002) σ ?_ (Scr.rf σ) (fun τ s => ⟨setF τ 8 (nI 0), ?_, scr8 s⟩)
    · unfold F_X7_image
      simp (disch := omega) only [ixN, clN, nI_add, pk_mul, subN, divN, remN, leN, ltN, eqN, le0N, eq0N, lt0N, ge0N, gt0N, if_pos, if_neg, if_true, if_false, Option.bind_some, shrN, shlN, andN1, nI_or, andm1, modS, true_or, or_true, c_within1 q1, c_stands0 c w q2]
    · unfold F_X8_image
      simp (disch := omega) only [ixN, clN, nI_add, pk_mul, subN, divN, remN, leN, ltN, eqN, le0N, eq0N, lt0N, ge0N, gt0N, if_pos, if_neg, if_true, if_false, Option.bind_some, shrN, shlN, andN1, nI_or, andm1, modS, true_or, or_true, m_in1 q1, m_isThere0 (mr8 m s) w q2]
  · let τ1 : St := cpyA σ 4 0 (70 + k) 0 80
    have a4 : ∀ j, j ≠ 70 + k → τ1.1 j = σ.1 j := fun j h4 => by
      show (setR σ (70 + k) _).1 j = _
      rw [setR_ne h4]
    have c1 : CR (τ1.1 (70 + k)) h := fun j hj => by
      show (setR σ (70 + k) (va_cpy (σ.1 4) (σ.1 (70 + k)) 0 0 80)).1 (70 + k) j = _
      rw [setR_get, sb_cpy0 hj]
      exact c j hj
    have L : ∀ (mm N a : Nat) (σ : St), a + mm = 80 → mm < N → ∃ w, (∀ K, L_X8_image_30 K N (nI k) (nI a) σ = K (nI k) (setR σ 36 w)) ∧ (∀ i, i < 80 → a ≤ i → w (80 * k + i) = σ.1 29 i) ∧ ∀ i, (i < 80 * k + a ∨ 80 * k + 80 ≤ i) → w i = σ.1 36 i := by
      intro mm
      induction mm with
      | zero =>
        intro N a σ ha hN
        obtain ⟨N, rfl⟩ : ∃ n', N = n' + 1 := ⟨N - 1, by omega⟩
        refine ⟨σ.1 36, fun K => ?_, fun i h1 h2 => by omega, fun i _ => rfl⟩
        rw [L_X8_image_30.eq_2]
        simp (disch := omega) only [ixN, clN, nI_add, pk_mul, subN, divN, remN, leN, ltN, eqN, le0N, eq0N, lt0N, ge0N, gt0N, if_pos, if_neg, if_true, if_false, Option.bind_some, shrN, shlN, andN1, nI_or, andm1, modS, true_or, or_true]
        congr 1
        apply St.ext
        · intro k
          by_cases q : k = 36
          · rw [q, setR_get]
          · rw [setR_ne q]
        · intro j; rfl
      | succ mm ih =>
        intro N a σ ha hN
        obtain ⟨N, rfl⟩ : ∃ n', N = n' + 1 := ⟨N - 1, by omega⟩
        obtain ⟨w, l1, l2, l3⟩ := ih N (a + 1) (setA σ 36 (80 * k + a) (σ.1 29 a)) (by omega) (by omega)
        refine ⟨w, fun K => ?_, fun i h1 h2 => ?_, fun i hi => ?_⟩
        · rw [L_X8_image_30.eq_2]
          simp (disch := omega) only [ixN, clN, nI_add, pk_mul, subN, divN, remN, leN, ltN, eqN, le0N, eq0N, lt0N, ge0N, gt0N, if_pos, if_neg, if_true, if_false, Option.bind_some, shrN, shlN, andN1, nI_or, andm1, modS, true_or, or_true, l1]
          congr 1
          apply St.ext
          · intro k
            by_cases q : k = 36
            · rw [q, setR_get, setR_get]
            · rw [setR_ne q, setR_ne q, setA_32 q]
          · intro j; rfl
        · by_cases q : i = a
          · rw [q, l3 _ (by omega), setA_get, pk_us]
          · rw [l2 i h1 (by omega), setA_32 (by decide)]
        · rw [l3 i (by omega), setA_get, pk_un (by omega)]
    have hf := fuel_ge
    have m8 : MR ((setF τ1 8 (nI 0)).1 29) h := by rw [setF_1, a4 29 (by omega)]; exact m
    obtain ⟨u, l1, l2, l3⟩ := L 80 fuel 0 (setF τ1 8 (nI 0)) (by omega) (by omega)
    have nb1 : nb (nI 1) = nI 1 := by decide +kernel
    have fr : ∀ j, j ≠ 70 + k → j ≠ 36 → j ≠ 35 → (setA (setR (setF τ1 8 (nI 0)) 36 u) 35 k (nI 1)).1 j = σ.1 j := fun j h1 h2 h3 => by
      rw [setA_32 h3, setR_ne h2, setF_1, a4 j h1]
    have ff : ∀ j, j ≠ 8 → (setA (setR (setF τ1 8 (nI 0)) 36 u) 35 k (nI 1)).2 j = σ.2 j := fun j h1 => by
      show (setF τ1 8 (nI 0)).2 j = _
      rw [setF_ne h1]; rfl
    have e36 : (setA (setR (setF τ1 8 (nI 0)) 36 u) 35 k (nI 1)).1 36 = u := by rw [setA_32 (by decide), setR_get]
    have e35 : (setA (setR (setF τ1 8 (nI 0)) 36 u) 35 k (nI 1)).1 35 = upd (σ.1 35) k (nI 1) := by rw [setA_get, setR_ne (by decide), setF_1, a4 35 (by omega)]
    have e70 : ∀ j, j < 2 → (setA (setR (setF τ1 8 (nI 0)) 36 u) 35 k (nI 1)).1 (70 + j) = τ1.1 (70 + j) := fun j hj => by rw [setA_32 (by omega), setR_ne (by omega), setF_1]
    refine ⟨nI 1, τ1, setA (setR (setF τ1 8 (nI 0)) 36 u) 35 k (nI 1), ?_, ?_, ⟨h, ?_, ?_, w, b⟩, iR.fr (fun j hj => fr j (by omega) (by omega) (by omega)), iT.fr (fr _ (by omega) (by omega) (by omega)) (fr _ (by omega) (by omega) (by omega)) (fun j hj => ff j (by omega)), iA.fr (fr _ (by omega) (by omega) (by omega)) (fun j h1 h2 => fr j (by omega) (by omega) (by omega)) (fun j hj => ff j (by omega)), fun j hj => ?_, iB.fr (fr _ (by omega) (by omega) (by omega)) (fr _ (by omega) (by omega) (by omega)) (fun j hj => ff j (by omega)), iS.fr (fun j hj => ff j (by omega))⟩
    · unfold F_X7_image
      simp (disch := omega) only [ixN, clN, nI_add, pk_mul, subN, divN, remN, leN, ltN, eqN, le0N, eq0N, lt0N, ge0N, gt0N, if_pos, if_neg, if_true, if_false, Option.bind_some, shrN, shlN, andN1, nI_or, andm1, modS, true_or, or_true, c_within1 q1, c_stands1 c w q2, show ((0 : Nat) + 80 ≤ 80) = True by decide, not_false_eq_true, true_and, and_true]
      rfl
    · unfold F_X8_image
      simp (disch := omega) only [ixN, clN, nI_add, pk_mul, subN, divN, remN, leN, ltN, eqN, le0N, eq0N, lt0N, ge0N, gt0N, if_pos, if_neg, if_true, if_false, Option.bind_some, shrN, shlN, andN1, nI_or, andm1, modS, true_or, or_true, m_in1 q1, m_isThere1 m8 w q2, l1, nb1]
    · rw [fr 4 (by omega) (by omega) (by omega)]; exact c
    · rw [fr 29 (by omega) (by omega) (by omega)]; exact m
    · rw [e36, e35, e70 j hj]
      by_cases z : j = k
      · subst z
        right
        refine ⟨by rw [pk_us], h, c1, fun i hi => ?_, w, b, q2⟩
        have hp := pm_lt i hi
        rw [l2 _ hp (by omega)]
        exact m8 i hi
      · rw [pk_un z, a4 (70 + j) (by omega)]
        rcases iI j hj with ⟨z1, z2⟩ | ⟨z2, hh, cc, mm, ww⟩
        · exact Or.inl ⟨z1, z2⟩
        · refine Or.inr ⟨z2, hh, cc, fun i hi => ?_, ww⟩
          have hp := pm_lt i hi
          rw [l3 _ (by omega)]
          show τ1.1 36 _ = _
          rw [a4 36 (by omega)]
          exact mm i hi
end ACTS3
