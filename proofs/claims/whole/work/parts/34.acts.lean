/-! acts that can be undone: the class keeps them in a ring, the reference in a row -/
def CA (σ : St) (n x : Nat) (S : Nat → Hs) : Prop := n ≤ 24 ∧ x < 24 ∧ σ.2 6 = nI n ∧ σ.2 5 = nI x ∧ ∀ j, j < n → CR (σ.1 (46 + (x + 24 - n + j) % 24)) (S j)
def MA (σ : St) (n : Nat) (S : Nat → Hs) : Prop := σ.2 10 = nI n ∧ ∀ j, j < n → ∀ i, i < 80 → σ.1 32 (80 * j + pm i) = nI (S j i)
def SO (n : Nat) (S : Nat → Hs) : Prop := ∀ j, j < n → WF (S j) ∧ S j 4 ≤ 999
theorem InvA_iff {σ : St} : InvA σ ↔ ∃ n x S, CA σ n x S ∧ MA σ n S ∧ SO n S := by
  constructor
  · rintro ⟨n, x, S, a, b, c, d, e, g⟩
    exact ⟨n, x, S, ⟨a, b, c, e, fun j hj => (g j hj).1⟩, ⟨d, fun j hj => (g j hj).2.1⟩, fun j hj => (g j hj).2.2⟩
  · rintro ⟨n, x, S, ⟨a, b, c, d, e⟩, ⟨f, g⟩, k⟩
    exact ⟨n, x, S, a, b, c, f, d, fun j hj => ⟨e j hj, g j hj, k j hj⟩⟩
def kn (n : Nat) : Nat := if n < 24 then n + 1 else 24
def kS (n : Nat) (S : Nat → Hs) (h : Hs) : Nat → Hs := fun j => if n < 24 then (if j = n then h else S j) else (if j = 23 then h else S (j + 1))
theorem SO.keep {n : Nat} {S : Nat → Hs} {h : Hs} (s : SO n S) (hn : n ≤ 24) (w : WF h) (b : h 4 ≤ 999) : SO (kn n) (kS n S h) := fun j hj => by
  unfold kn at hj
  unfold kS
  by_cases q : n < 24
  · rw [if_pos q] at hj ⊢
    by_cases q2 : j = n
    · rw [if_pos q2]; exact ⟨w, b⟩
    · rw [if_neg q2]; exact s j (by omega)
  · rw [if_neg q] at hj ⊢
    by_cases q2 : j = 23
    · rw [if_pos q2]; exact ⟨w, b⟩
    · rw [if_neg q2]; exact s (j + 1) (by omega)
def FC (σ τ : St) : Prop := (∀ k, k ≠ 4 → k ≠ 5 → ¬ (46 ≤ k ∧ k < 70) → τ.1 k = σ.1 k) ∧ ∀ j, j ≠ 5 → j ≠ 6 → τ.2 j = σ.2 j
def FM (σ τ : St) : Prop := (∀ k, k ≠ 29 → k ≠ 32 → k ≠ 34 → τ.1 k = σ.1 k) ∧ ∀ j, j ≠ 8 → j ≠ 10 → τ.2 j = σ.2 j
theorem FC.tr {a b c : St} (h1 : FC a b) (h2 : FC b c) : FC a c := ⟨fun k x y z => (h2.1 k x y z).trans (h1.1 k x y z), fun j x y => (h2.2 j x y).trans (h1.2 j x y)⟩
theorem FM.tr {a b c : St} (h1 : FM a b) (h2 : FM b c) : FM a c := ⟨fun k x y z => (h2.1 k x y z).trans (h1.1 k x y z), fun j x y => (h2.2 j x y).trans (h1.2 j x y)⟩
theorem FC.N (σ : St) (f o : Nat → Int32) : FC σ (st2 3 σ f o) := ⟨fun k h4 h5 _ => st2_k h4 h5, fun _ _ _ => rfl⟩
theorem FM.N (σ : St) (g e : Nat → Int32) : FM σ (st3 29 σ g e) := ⟨fun k h1 _ h3 => st3_k h1 h3, fun _ _ _ => rfl⟩
theorem FM.e8 (σ : St) : FM σ (setF σ 8 (nI 0)) := ⟨fun _ _ _ _ => rfl, fun j h _ => setF_ne h⟩
theorem Inv.act {σ τ υ : St} {h' : Hs} {n x : Nat} {S : Nat → Hs} (i : Inv σ) (fc : FC σ τ) (c : CR (τ.1 4) h') (ca : CA τ n x S) (fm : FM τ υ) (m : MR (υ.1 29) h') (ma : MA υ n S) (w : WF h') (b : h' 4 ≤ 999) (so : SO n S) : Inv υ := by
  obtain ⟨-, iR, iT, iA, iI, iB, iS⟩ := i
  have ar : ∀ k, k ≠ 4 → k ≠ 5 → ¬ (46 ≤ k ∧ k < 70) → k ≠ 29 → k ≠ 32 → k ≠ 34 → υ.1 k = σ.1 k := fun k a b c d e f => (fm.1 k d e f).trans (fc.1 k a b c)
  have fl : ∀ j, j ≠ 5 → j ≠ 6 → j ≠ 8 → j ≠ 10 → υ.2 j = σ.2 j := fun j a b c d => (fm.2 j c d).trans (fc.2 j a b)
  refine ⟨⟨h', by rw [fm.1 4 (by omega) (by omega) (by omega)]; exact c, m, w, b⟩, iR.fr (fun k hk => ar k (by omega) (by omega) (by omega) (by omega) (by omega) (by omega)), iT.fr (ar 22 (by omega) (by omega) (by omega) (by omega) (by omega) (by omega)) (ar 33 (by omega) (by omega) (by omega) (by omega) (by omega) (by omega)) (fun j hj => fl j (by omega) (by omega) (by omega) (by omega)), ?_, iI.fr (fun k hk => ar k (by omega) (by omega) (by omega) (by omega) (by omega) (by omega)), iB.fr (ar 24 (by omega) (by omega) (by omega) (by omega) (by omega) (by omega)) (ar 37 (by omega) (by omega) (by omega) (by omega) (by omega) (by omega)) (fun j hj => fl j (by omega) (by omega) (by omega) (by omega)), iS.fr (fun j hj => fl j (by omega) (by omega) (by omega) (by omega))⟩
  rw [InvA_iff]
  refine ⟨n, x, S, ⟨ca.1, ca.2.1, ?_, ?_, fun j hj => ?_⟩, ma, so⟩
  · rw [fm.2 6 (by omega) (by omega)]; exact ca.2.2.1
  · rw [fm.2 5 (by omega) (by omega)]; exact ca.2.2.2.1
  · rw [fm.1 _ (by omega) (by omega) (by omega)]; exact ca.2.2.2.2 j hj
theorem c_keep {σ : St} {n x : Nat} {S : Nat → Hs} {h : Hs} (ca : CA σ n x S) (c : CR (σ.1 4) h) : ∃ τ, F_X0_keep σ = some τ ∧ CA τ (kn n) ((x + 1) % 24) (kS n S h) ∧ FC σ τ ∧ τ.1 4 = σ.1 4 ∧ τ.1 5 = σ.1 5 := by
  obtain ⟨hn, hx, k6, k5, kc⟩ := ca
  let σ1 : St := setR σ (46 + x) (va_cpy (σ.1 4) (σ.1 (46 + x)) 0 0 80)
  have e1 : F_X0_keep σ = some (setF (setF σ1 5 (nI ((x + 1) % 24))) 6 (nI (kn n))) := by
    unfold F_X0_keep
    rw [k5]
    have es : cpyA σ 4 0 (46 + x) 0 80 = σ1 := rfl
    have e5 : σ1.2 5 = nI x := k5
    have e6 : ∀ v, (setF σ1 5 v).2 6 = nI n := fun v => by rw [setF_ne (by decide)]; exact k6
    unfold kn
    by_cases q : 24 ≤ x + 1
    · rw [show (x + 1) % 24 = 0 by omega]
      by_cases q2 : n < 24
      · simp (disch := omega) only [ixN, clN, nI_add, pk_mul, subN, divN, remN, leN, ltN, eqN, le0N, eq0N, lt0N, ge0N, gt0N, if_pos, if_neg, if_true, if_false, Option.bind_some, shrN, shlN, andN1, nI_or, andm1, modS, true_or, or_true, es, e5, J_X0_keep_39, e6, show ¬ (0 : Int32) < 0 by decide, not_false_eq_true, true_and, and_true, show (0 + 80 ≤ 80) = True by decide]
      · obtain rfl : n = 24 := by omega
        rw [if_neg (show ¬ 24 < 24 by decide)]
        simp (disch := omega) only [ixN, clN, nI_add, pk_mul, subN, divN, remN, leN, ltN, eqN, le0N, eq0N, lt0N, ge0N, gt0N, if_pos, if_neg, if_true, if_false, Option.bind_some, shrN, shlN, andN1, nI_or, andm1, modS, true_or, or_true, es, e5, J_X0_keep_39, e6, not_false_eq_true, true_and, and_true, show (0 + 80 ≤ 80) = True by decide]
    · rw [show (x + 1) % 24 = x + 1 by omega]
      by_cases q2 : n < 24
      · simp (disch := omega) only [ixN, clN, nI_add, pk_mul, subN, divN, remN, leN, ltN, eqN, le0N, eq0N, lt0N, ge0N, gt0N, if_pos, if_neg, if_true, if_false, Option.bind_some, shrN, shlN, andN1, nI_or, andm1, modS, true_or, or_true, es, e5, J_X0_keep_39, e6, not_false_eq_true, true_and, and_true, show (0 + 80 ≤ 80) = True by decide]
      · obtain rfl : n = 24 := by omega
        rw [if_neg (show ¬ 24 < 24 by decide)]
        simp (disch := omega) only [ixN, clN, nI_add, pk_mul, subN, divN, remN, leN, ltN, eqN, le0N, eq0N, lt0N, ge0N, gt0N, if_pos, if_neg, if_true, if_false, Option.bind_some, shrN, shlN, andN1, nI_or, andm1, modS, true_or, or_true, es, e5, J_X0_keep_39, e6, not_false_eq_true, true_and, and_true, show (0 + 80 ≤ 80) = True by decide]
  refine ⟨_, e1, ⟨?_, Nat.mod_lt _ (by decide), setF_get _ _ _, by rw [setF_ne (by decide), setF_get], fun j hj => ?_⟩, ⟨fun k h4 h5 hk => ?_, fun j h5 h6 => ?_⟩, ?_, ?_⟩
  · unfold kn; split <;> omega
  · show CR (σ1.1 _) _
    unfold kn at hj ⊢
    unfold kS
    by_cases q : n < 24
    · rw [if_pos q] at hj ⊢
      rw [if_pos q]
      by_cases q2 : j = n
      · rw [if_pos q2, show ((x + 1) % 24 + 24 - (n + 1) + j) % 24 = x by omega]
        show CR ((setR σ (46 + x) _).1 (46 + x)) h
        rw [setR_get]
        exact fun i hi => by rw [sb_cpy0 hi]; exact c i hi
      · rw [if_neg q2, show ((x + 1) % 24 + 24 - (n + 1) + j) % 24 = (x + 24 - n + j) % 24 by omega]
        show CR ((setR σ (46 + x) _).1 _) (S j)
        rw [setR_ne (by omega)]
        exact kc j (by omega)
    · rw [if_neg q] at hj ⊢
      rw [if_neg q]
      have n24 : n = 24 := by omega
      by_cases q2 : j = 23
      · rw [if_pos q2, show ((x + 1) % 24 + 24 - 24 + j) % 24 = x by omega]
        show CR ((setR σ (46 + x) _).1 (46 + x)) h
        rw [setR_get]
        exact fun i hi => by rw [sb_cpy0 hi]; exact c i hi
      · rw [if_neg q2, show ((x + 1) % 24 + 24 - 24 + j) % 24 = (x + 24 - n + (j + 1)) % 24 by omega]
        show CR ((setR σ (46 + x) _).1 _) (S (j + 1))
        rw [setR_ne (by omega)]
        exact kc (j + 1) (by omega)
  · show (setR σ (46 + x) _).1 k = _
    rw [setR_ne (by omega)]
  · rw [setF_ne h6, setF_ne h5]; rfl
  · show (setR σ (46 + x) _).1 4 = _
    rw [setR_ne (by omega)]
  · show (setR σ (46 + x) _).1 5 = _
    rw [setR_ne (by omega)]
theorem setA_32 {σ : St} {k i : Nat} {v : Int32} {j : Nat} (h : j ≠ k) : (setA σ k i v).1 j = σ.1 j := if_neg h
theorem setA_get (σ : St) (k i : Nat) (v : Int32) : (setA σ k i v).1 k = upd (σ.1 k) i v := if_pos rfl
theorem m_keep {σ : St} {n : Nat} {S : Nat → Hs} {h : Hs} (hn : n ≤ 24) (ma : MA σ n S) (m : MR (σ.1 29) h) : ∃ τ, F_X8_keep σ = some τ ∧ MA τ (kn n) (kS n S h) ∧ FM σ τ ∧ τ.1 29 = σ.1 29 ∧ τ.1 34 = σ.1 34 := by
  obtain ⟨k10, km⟩ := ma
  -- the row behind: 80 places from 80 * a on
  have L2 : ∀ (mm N a : Nat) (σ : St) (A : Nat), a + mm = 80 → mm < N → σ.2 10 = nI A → A < 24 → ∃ w, (∀ K, L_X8_keep_51 K N (nI a) σ = K (setR σ 32 w)) ∧ (∀ i, i < 80 → a ≤ i → w (80 * A + i) = σ.1 29 i) ∧ ∀ i, (i < 80 * A + a ∨ 80 * A + 80 ≤ i) → w i = σ.1 32 i := by
    intro mm
    induction mm with
    | zero =>
      intro N a σ A ha hN k10 hA
      obtain ⟨N, rfl⟩ : ∃ n', N = n' + 1 := ⟨N - 1, by omega⟩
      refine ⟨σ.1 32, fun K => ?_, fun i h1 h2 => by omega, fun i _ => rfl⟩
      rw [L_X8_keep_51.eq_2]
      simp (disch := omega) only [ixN, clN, nI_add, pk_mul, subN, divN, remN, leN, ltN, eqN, le0N, eq0N, lt0N, ge0N, gt0N, if_pos, if_neg, if_true, if_false, Option.bind_some, shrN, shlN, andN1, nI_or, andm1, modS, true_or, or_true]
      congr 1
      apply St.ext
      · intro k
        by_cases q : k = 32
        · rw [q, setR_get]
        · rw [setR_ne q]
      · intro j; rfl
    | succ mm ih =>
      intro N a σ A ha hN k10 hA
      obtain ⟨N, rfl⟩ : ∃ n', N = n' + 1 := ⟨N - 1, by omega⟩
      obtain ⟨w, l1, l2, l3⟩ := ih N (a + 1) (setA σ 32 (80 * A + a) (σ.1 29 a)) A (by omega) (by omega) k10 hA
      refine ⟨w, fun K => ?_, fun i h1 h2 => ?_, fun i hi => ?_⟩
      · rw [L_X8_keep_51.eq_2, k10]
        simp (disch := omega) only [ixN, clN, nI_add, pk_mul, subN, divN, remN, leN, ltN, eqN, le0N, eq0N, lt0N, ge0N, gt0N, if_pos, if_neg, if_true, if_false, Option.bind_some, shrN, shlN, andN1, nI_or, andm1, modS, true_or, or_true, l1]
        congr 1
        apply St.ext
        · intro k
          by_cases q : k = 32
          · rw [q, setR_get, setR_get]
          · rw [setR_ne q, setR_ne q, setA_32 q]
        · intro j; rfl
      · by_cases q : i = a
        · rw [q, l3 _ (by omega), setA_get, pk_us]
        · rw [l2 i h1 (by omega), setA_32 (by decide)]
      · rw [l3 i (by omega), setA_get, pk_un (by omega)]
  have L1 : ∀ (mm N a : Nat) (σ : St) (W : Nat → Int32), a + mm = 1840 → mm < N → (∀ i, i < a → σ.1 32 i = W (i + 80)) → (∀ i, a ≤ i → σ.1 32 i = W i) → ∃ w, (∀ K, L_X8_keep_11 K N (nI a) σ = K (setR σ 32 w)) ∧ ∀ i, i < 1840 → w i = W (i + 80) := by
    intro mm
    induction mm with
    | zero =>
      intro N a σ W ha hN h1 h2
      obtain ⟨N, rfl⟩ : ∃ n', N = n' + 1 := ⟨N - 1, by omega⟩
      refine ⟨σ.1 32, fun K => ?_, fun i hi => h1 i (by omega)⟩
      rw [L_X8_keep_11.eq_2]
      simp (disch := omega) only [ixN, clN, nI_add, pk_mul, subN, divN, remN, leN, ltN, eqN, le0N, eq0N, lt0N, ge0N, gt0N, if_pos, if_neg, if_true, if_false, Option.bind_some, shrN, shlN, andN1, nI_or, andm1, modS, true_or, or_true]
      congr 1
      apply St.ext
      · intro k
        by_cases q : k = 32
        · rw [q, setR_get]
        · rw [setR_ne q]
      · intro j; rfl
    | succ mm ih =>
      intro N a σ W ha hN h1 h2
      obtain ⟨N, rfl⟩ : ∃ n', N = n' + 1 := ⟨N - 1, by omega⟩
      obtain ⟨w, l1, l2⟩ := ih N (a + 1) (setA σ 32 a (σ.1 32 (a + 80))) W (by omega) (by omega) (fun i hi => by
        rw [setA_get]
        by_cases q : i = a
        · rw [q, pk_us, h2 _ (by omega)]
        · rw [pk_un q, h1 i (by omega)]) (fun i hi => by rw [setA_get, pk_un (by omega), h2 i (by omega)])
      refine ⟨w, fun K => ?_, l2⟩
      rw [L_X8_keep_11.eq_2]
      simp (disch := omega) only [ixN, clN, nI_add, pk_mul, subN, divN, remN, leN, ltN, eqN, le0N, eq0N, lt0N, ge0N, gt0N, if_pos, if_neg, if_true, if_false, Option.bind_some, shrN, shlN, andN1, nI_or, andm1, modS, true_or, or_true, l1]
      congr 1
      apply St.ext
      · intro k
        by_cases q : k = 32
        · rw [q, setR_get, setR_get]
        · rw [setR_ne q, setR_ne q, setA_32 q]
      · intro j; rfl
  unfold F_X8_keep
  have hm := fuel_ge
  by_cases q : n < 24
  · obtain ⟨w, l1, l2, l3⟩ := L2 80 fuel 0 σ n (by omega) (by omega) k10 q
    refine ⟨setF (setR σ 32 w) 10 (nI (n + 1)), ?_, ⟨by rw [setF_get]; unfold kn; rw [if_pos q], fun j hj i hi => ?_⟩, ⟨fun k h1 h2 h3 => by rw [setF_1, setR_ne h2], fun j h8 h10 => setF_ne h10⟩, by rw [setF_1, setR_ne (by decide)], by rw [setF_1, setR_ne (by decide)]⟩
    · rw [k10]
      have e10 : (setR σ 32 w).2 10 = nI n := k10
      simp (disch := omega) only [ixN, clN, nI_add, pk_mul, subN, divN, remN, leN, ltN, eqN, le0N, eq0N, lt0N, ge0N, gt0N, if_pos, if_neg, if_true, if_false, Option.bind_some, shrN, shlN, andN1, nI_or, andm1, modS, true_or, or_true, l1, e10]
    · rw [setF_1, setR_get]
      unfold kn at hj
      rw [if_pos q] at hj
      unfold kS
      rw [if_pos q]
      have hp := pm_lt i hi
      by_cases q2 : j = n
      · rw [if_pos q2, q2, l2 _ hp (by omega)]; exact m i hi
      · rw [if_neg q2, l3 _ (by omega)]; exact km j (by omega) i hi
  · have n24 : n = 24 := by omega
    subst n24
    obtain ⟨w0, a1, a2⟩ := L1 1840 fuel 0 σ (σ.1 32) (by omega) (by omega) (fun i hi => by omega) (fun i _ => rfl)
    obtain ⟨w, l1, l2, l3⟩ := L2 80 fuel 0 (setF (setR σ 32 w0) 10 (nI 23)) 23 (by omega) (by omega) (setF_get _ _ _) (by omega)
    refine ⟨setF (setR (setF (setR σ 32 w0) 10 (nI 23)) 32 w) 10 (nI 24), ?_, ⟨setF_get _ _ _, fun j hj i hi => ?_⟩, ⟨fun k h1 h2 h3 => by rw [setF_1, setR_ne h2, setF_1, setR_ne h2], fun j h8 h10 => by rw [setF_ne h10]; show (setF (setR σ 32 w0) 10 (nI 23)).2 j = _; rw [setF_ne h10]; rfl⟩, by rw [setF_1, setR_ne (by decide), setF_1, setR_ne (by decide)], by rw [setF_1, setR_ne (by decide), setF_1, setR_ne (by decide)]⟩
    · rw [k10]
      have e10 : (setR σ 32 w0).2 10 = nI 24 := k10
      have e11 : (setR (setF (setR σ 32 w0) 10 (nI 23)) 32 w).2 10 = nI 23 := setF_get (setR σ 32 w0) 10 (nI 23)
      simp (disch := omega) only [ixN, clN, nI_add, pk_mul, subN, divN, remN, leN, ltN, eqN, le0N, eq0N, lt0N, ge0N, gt0N, if_pos, if_neg, if_true, if_false, Option.bind_some, shrN, shlN, andN1, nI_or, andm1, modS, true_or, or_true, a1, e10, l1, e11]
    · rw [setF_1, setR_get]
      unfold kS
      rw [if_neg (by omega)]
      have hp := pm_lt i hi
      have hj : j < 24 := hj
      by_cases q2 : j = 23
      · rw [if_pos q2, q2, l2 _ hp (by omega), setF_1, setR_ne (by decide)]; exact m i hi
      · rw [if_neg q2, l3 _ (by omega), setF_1, setR_get, a2 _ (by omega), show 80 * j + pm i + 80 = 80 * (j + 1) + pm i by omega]; exact km (j + 1) (by omega) i hi
