/-! what holds between two calls -/
def scA : List Nat := [5, 7, 8, 10, 11, 13, 14, 30, 31, 34]
def scF : List Nat := [3, 4, 8, 12, 13, 14, 15, 16, 17]
/-- two states alike but for what is scratch -/
def Scr (σ τ : St) : Prop := (∀ k, k ∉ scA → τ.1 k = σ.1 k) ∧ ∀ j, j ∉ scF → τ.2 j = σ.2 j
theorem Scr.rf (σ : St) : Scr σ σ := ⟨fun _ _ => rfl, fun _ _ => rfl⟩
theorem Scr.tr {a b c : St} (h1 : Scr a b) (h2 : Scr b c) : Scr a c := ⟨fun k hk => (h2.1 k hk).trans (h1.1 k hk), fun j hj => (h2.2 j hj).trans (h1.2 j hj)⟩
theorem Scr.R {σ τ : St} (h : Scr σ τ) {k : Nat} (f : Nat → Int32) (hk : k ∈ scA) : Scr σ (setR τ k f) := ⟨fun j hj => by
  have e : j ≠ k := fun e => hj (by rw [e]; exact hk)
  rw [setR_ne e]
  exact h.1 j hj, fun j hj => h.2 j hj⟩
theorem Scr.F {σ τ : St} (h : Scr σ τ) {k : Nat} (v : Int32) (hk : k ∈ scF) : Scr σ (setF τ k v) := ⟨fun j hj => h.1 j hj, fun j hj => by
  show (if j = k then v else τ.2 j) = _
  have e : j ≠ k := fun e => hj (by rw [e]; exact hk)
  rw [if_neg e]
  exact h.2 j hj⟩
theorem Scr.T {σ τ : St} (h : Scr σ τ) (f o : Nat → Int32) : Scr σ (st2 12 τ f o) := (h.R f (by decide)).R o (by decide)
theorem Scr.U {σ τ : St} (h : Scr σ τ) (g e : Nat → Int32) : Scr σ (st3 31 τ g e) := (h.R g (by decide)).R e (by decide)
def InvN (σ : St) (h : Hs) : Prop := CR (σ.1 4) h ∧ MR (σ.1 29) h ∧ WF h ∧ h 4 ≤ 999
def rowOK (σ : St) (i : Nat) : Prop := (σ.1 21 i = -1 ∧ σ.1 26 i = -1) ∨ ∃ n l, n ≤ 40 ∧ l ≤ 2 ∧ σ.1 21 i = nI n ∧ σ.1 27 i = nI n ∧ σ.1 20 i = nI l ∧ σ.1 26 i = nI l ∧ ∀ j, j < n → σ.1 (38 + i) j = σ.1 28 (40 * i + j)
def InvR (σ : St) : Prop := ∀ i, i < 8 → rowOK σ i
def InvT (σ : St) : Prop := (∃ n, n ≤ 120 ∧ σ.2 1 = nI n ∧ σ.2 11 = nI n ∧ ∀ i, i < n → σ.1 22 i = σ.1 33 i ∧ ∃ b, b < 256 ∧ σ.1 22 i = nI b) ∧ σ.2 2 = σ.2 18
def InvA (σ : St) : Prop := ∃ (n x : Nat) (S : Nat → Hs), n ≤ 24 ∧ x < 24 ∧ σ.2 6 = nI n ∧ σ.2 10 = nI n ∧ σ.2 5 = nI x ∧ ∀ j, j < n → CR (σ.1 (46 + (x + 24 - n + j) % 24)) (S j) ∧ (∀ i, i < 80 → σ.1 32 (80 * j + pm i) = nI (S j i)) ∧ WF (S j) ∧ S j 4 ≤ 999
def InvI (σ : St) : Prop := ∀ k, k < 2 → (σ.1 (70 + k) 0 = nI 0 ∧ σ.1 35 k = nI 0) ∨ (σ.1 35 k = nI 1 ∧ ∃ h : Hs, CR (σ.1 (70 + k)) h ∧ (∀ i, i < 80 → σ.1 36 (80 * k + pm i) = nI (h i)) ∧ WF h ∧ h 4 ≤ 999 ∧ h 0 ≠ 0)
def InvB (σ : St) : Prop := ∃ t, t ≤ 16 ∧ σ.2 7 = nI t ∧ σ.2 19 = nI t ∧ ∀ i, i < t → σ.1 24 i = σ.1 37 i
def InvS (σ : St) : Prop := σ.2 0 = σ.2 9
def Inv (σ : St) : Prop := (∃ h, InvN σ h) ∧ InvR σ ∧ InvT σ ∧ InvA σ ∧ InvI σ ∧ InvB σ ∧ InvS σ
/-! what each rests on -/
theorem InvN.fr {σ τ : St} {h : Hs} (i : InvN σ h) (h1 : τ.1 4 = σ.1 4) (h2 : τ.1 29 = σ.1 29) : InvN τ h := by
  unfold InvN at *
  rw [h1, h2]
  exact i
theorem InvR.fr {σ τ : St} (i : InvR σ) (h : ∀ k, k = 20 ∨ k = 21 ∨ k = 26 ∨ k = 27 ∨ k = 28 ∨ (38 ≤ k ∧ k < 46) → τ.1 k = σ.1 k) : InvR τ := fun r hr => by
  have z := i r hr
  unfold rowOK at *
  rw [h 20 (by omega), h 21 (by omega), h 26 (by omega), h 27 (by omega), h 28 (by omega), h (38 + r) (by omega)]
  exact z
theorem InvT.fr {σ τ : St} (i : InvT σ) (h1 : τ.1 22 = σ.1 22) (h2 : τ.1 33 = σ.1 33) (f : ∀ j, j = 1 ∨ j = 2 ∨ j = 11 ∨ j = 18 → τ.2 j = σ.2 j) : InvT τ := by
  unfold InvT at *
  rw [h1, h2, f 1 (by omega), f 2 (by omega), f 11 (by omega), f 18 (by omega)]
  exact i
theorem InvA.fr {σ τ : St} (i : InvA σ) (h1 : τ.1 32 = σ.1 32) (h2 : ∀ k, 46 ≤ k → k < 70 → τ.1 k = σ.1 k) (f : ∀ j, j = 5 ∨ j = 6 ∨ j = 10 → τ.2 j = σ.2 j) : InvA τ := by
  obtain ⟨n, x, S, a, b, c, d, e, g⟩ := i
  refine ⟨n, x, S, a, b, by rw [f 6 (by omega)]; exact c, by rw [f 10 (by omega)]; exact d, by rw [f 5 (by omega)]; exact e, fun j hj => ?_⟩
  rw [h1, h2 _ (by omega) (by omega)]
  exact g j hj
theorem InvI.fr {σ τ : St} (i : InvI σ) (h : ∀ k, k = 35 ∨ k = 36 ∨ k = 70 ∨ k = 71 → τ.1 k = σ.1 k) : InvI τ := fun k hk => by
  have z := i k hk
  rw [h 35 (by omega), h 36 (by omega), h (70 + k) (by omega)]
  exact z
theorem InvB.fr {σ τ : St} (i : InvB σ) (h1 : τ.1 24 = σ.1 24) (h2 : τ.1 37 = σ.1 37) (f : ∀ j, j = 7 ∨ j = 19 → τ.2 j = σ.2 j) : InvB τ := by
  unfold InvB at *
  rw [h1, h2, f 7 (by omega), f 19 (by omega)]
  exact i
theorem InvS.fr {σ τ : St} (i : InvS σ) (f : ∀ j, j = 0 ∨ j = 9 → τ.2 j = σ.2 j) : InvS τ := by
  unfold InvS at *
  rw [f 0 (by omega), f 9 (by omega)]
  exact i
theorem nsc {k : Nat} (h : k < 5 ∨ k = 6 ∨ k = 9 ∨ k = 12 ∨ (15 ≤ k ∧ k < 30) ∨ k = 32 ∨ k = 33 ∨ 35 ≤ k) : k ∉ scA := by
  intro z
  simp only [scA, List.mem_cons, List.not_mem_nil, or_false] at z
  omega
theorem nsf {k : Nat} (h : k < 3 ∨ k = 5 ∨ k = 6 ∨ k = 7 ∨ k = 9 ∨ k = 10 ∨ k = 11 ∨ 18 ≤ k) : k ∉ scF := by
  intro z
  simp only [scF, List.mem_cons, List.not_mem_nil, or_false] at z
  omega
theorem Inv.scr {σ τ : St} (i : Inv σ) (s : Scr σ τ) : Inv τ := by
  obtain ⟨⟨h, iN⟩, iR, iT, iA, iI, iB, iS⟩ := i
  have sa : ∀ {k : Nat}, (k < 5 ∨ k = 6 ∨ k = 9 ∨ k = 12 ∨ (15 ≤ k ∧ k < 30) ∨ k = 32 ∨ k = 33 ∨ 35 ≤ k) → τ.1 k = σ.1 k := fun hk => s.1 _ (nsc hk)
  have sf : ∀ {k : Nat}, (k < 3 ∨ k = 5 ∨ k = 6 ∨ k = 7 ∨ k = 9 ∨ k = 10 ∨ k = 11 ∨ 18 ≤ k) → τ.2 k = σ.2 k := fun hk => s.2 _ (nsf hk)
  exact ⟨⟨h, iN.fr (sa (by omega)) (sa (by omega))⟩, iR.fr (fun k hk => sa (by omega)), iT.fr (sa (by omega)) (sa (by omega)) (fun j hj => sf (by omega)), iA.fr (sa (by omega)) (fun k h1 h2 => sa (by omega)) (fun j hj => sf (by omega)), iI.fr (fun k hk => sa (by omega)), iB.fr (sa (by omega)) (sa (by omega)) (fun j hj => sf (by omega)), iS.fr (fun j hj => sf (by omega))⟩
/-! the tests of arguments -/
theorem lc_lt (x y : Int64) : lg_cmp x y < 0 ↔ x < y := by
  unfold lg_cmp
  by_cases h : x > y
  · rw [if_pos h]
    exact ⟨fun z => absurd z (by decide), fun z => absurd (Int64.lt_trans z h) (Int64.lt_irrefl)⟩
  · rw [if_neg h]
    by_cases h2 : x = y
    · rw [if_pos h2, h2]
      exact ⟨fun z => absurd z (by decide), fun z => absurd z (Int64.lt_irrefl)⟩
    · rw [if_neg h2]
      refine ⟨fun _ => ?_, fun _ => by decide⟩
      rw [Int64.lt_iff_toInt_lt]
      have h' : ¬ y.toInt < x.toInt := fun z => h (Int64.lt_iff_toInt_lt.mpr z)
      have h2' : x.toInt ≠ y.toInt := fun z => h2 (Int64.toInt_inj.mp z)
      omega
theorem lc_gt (x y : Int64) : 0 < lg_cmp x y ↔ y < x := by
  unfold lg_cmp
  by_cases h : x > y
  · rw [if_pos h]
    exact ⟨fun _ => h, fun _ => by decide⟩
  · rw [if_neg h]
    by_cases h2 : x = y
    · rw [if_pos h2]
      exact ⟨fun z => absurd z (by decide), fun z => absurd z h⟩
    · rw [if_neg h2]
      exact ⟨fun z => absurd z (by decide), fun z => absurd z h⟩
theorem lc_eq (x y : Int64) : lg_cmp x y = 0 ↔ x = y := by
  unfold lg_cmp
  by_cases h : x > y
  · rw [if_pos h]
    refine ⟨fun z => absurd z (by decide), fun z => ?_⟩
    rw [z] at h
    exact absurd h (Int64.lt_irrefl)
  · rw [if_neg h]
    by_cases h2 : x = y
    · rw [if_pos h2]
      exact ⟨fun _ => h2, fun _ => rfl⟩
    · rw [if_neg h2]
      exact ⟨fun z => absurd z (by decide), fun z => absurd z h2⟩
theorem lc_le (x y : Int64) : lg_cmp x y ≤ 0 ↔ x ≤ y := by
  have h := lc_gt x y
  rw [Int64.le_iff_toInt_le]
  rw [Int64.lt_iff_toInt_lt] at h
  rw [Int32.le_iff_toInt_le]
  rw [Int32.lt_iff_toInt_lt] at h
  show (lg_cmp x y).toInt ≤ 0 ↔ _
  have h : 0 < (lg_cmp x y).toInt ↔ y.toInt < x.toInt := h
  omega
theorem i64_lt (x y : Int32) : x.toInt64 < y.toInt64 ↔ x < y := by
  rw [Int64.lt_iff_toInt_lt, Int32.toInt_toInt64, Int32.toInt_toInt64, Int32.lt_iff_toInt_lt]
theorem i64_N {n : Nat} (h : n < 2147483648) : lN n = (nI n).toInt64 := (nI_l (by omega)).symm
theorem m_in (x a b : Int32) (τ : St) : F_X8_in x.toInt64 a.toInt64 b.toInt64 τ = some (if x < a ∨ b < x then nI 0 else nI 1, τ) := by
  unfold F_X8_in
  by_cases h1 : x < a
  · rw [if_pos ((lc_lt _ _).mpr ((i64_lt _ _).mpr h1)), if_pos (Or.inl h1)]
  · rw [if_neg (fun z => h1 ((i64_lt _ _).mp ((lc_lt _ _).mp z)))]
    by_cases h2 : b < x
    · rw [if_pos ((lc_gt _ _).mpr ((i64_lt _ _).mpr h2)), if_pos (Or.inr h2)]
    · rw [if_neg (fun z => h2 ((i64_lt _ _).mp ((lc_gt _ _).mp z))), if_neg (fun z => z.elim h1 h2)]
theorem m_inN {a b : Nat} (x : Int32) (ha : a < 2147483648) (hb : b < 2147483648) (τ : St) : F_X8_in x.toInt64 (lN a) (lN b) τ = some (if x < nI a ∨ nI b < x then nI 0 else nI 1, τ) := by
  rw [i64_N ha, i64_N hb, m_in]
theorem c_within (x a b : Int32) (τ : St) : F_X7_isWithin x a b τ = some (if x < a ∨ b < x then nI 0 else nI 1, τ) := by
  unfold F_X7_isWithin
  by_cases h1 : x < a
  · rw [if_pos h1, if_pos (Or.inl h1)]
  · rw [if_neg h1]
    by_cases h2 : b < x
    · rw [if_pos h2, if_pos (Or.inr h2)]
    · rw [if_neg h2, if_neg (fun z => z.elim h1 h2)]
theorem in_N {x : Int32} {a b : Nat} (hb : b < 1000000000) (ha : a < 1000000000) (h : ¬ (x < nI a ∨ nI b < x)) : ∃ j, a ≤ j ∧ j ≤ b ∧ x = nI j := by
  have h1 : ¬ x.toInt < (a : Int) := fun z => h (Or.inl (Int32.lt_iff_toInt_lt.mpr (by rw [nI_toInt (by omega)]; exact z)))
  have h2 : ¬ (b : Int) < x.toInt := fun z => h (Or.inr (Int32.lt_iff_toInt_lt.mpr (by rw [nI_toInt (by omega)]; exact z)))
  obtain ⟨j, hj, e⟩ := nI_of (x := x) (fun z => by
    have := Int32.lt_iff_toInt_lt.mp z
    have e0 : (0 : Int32).toInt = 0 := by decide
    omega)
  rw [e, nI_toInt hj] at h1 h2
  exact ⟨j, by omega, by omega, e⟩
theorem in_H {x : Int32} {n : Nat} (hn : n < 1000000000) (h : ¬ (x < 0 ∨ nI n ≤ x)) : ∃ j, j < n ∧ x = nI j := by
  obtain ⟨j, hj, e⟩ := nI_of (x := x) (fun z => h (Or.inl z))
  refine ⟨j, ?_, e⟩
  rcases Nat.lt_or_ge j n with z | z
  · exact z
  · exact absurd (Or.inr (by rw [e]; exact nI_le z hj)) h
section TESTS
variable {σ : St} {h : Hs}
theorem eta3 (σ : St) : st2 3 σ (σ.1 4) (σ.1 5) = σ := st2_eta 3 σ
theorem eta29 (σ : St) : st3 29 σ (σ.1 29) (σ.1 34) = σ := st3_eta (by decide) σ
theorem c_isHorn (c : CR (σ.1 4) h) (w : WF h) (x : Int32) : F_X4_isHorn 3 x σ = some (if x < 0 ∨ nI (h 0) ≤ x then nI 0 else nI 1, σ) := by
  have := n_isHorn (r := 3) (σ := σ) (o := σ.1 5) c w x
  rwa [eta3] at this
theorem c_isPipe (c : CR (σ.1 4) h) (w : WF h) (x : Int32) : F_X4_isPipe 3 x σ = some (if x < 0 ∨ nI (h 2) ≤ x then nI 0 else nI 1, σ) := by
  have := n_isPipe (r := 3) (σ := σ) (o := σ.1 5) c w x
  rwa [eta3] at this
theorem c_stands (c : CR (σ.1 4) h) (w : WF h) : F_X4_stands 3 σ = some (if h 0 = 0 then nI 0 else nI 1, σ) := by
  have := n_stands (r := 3) (σ := σ) (o := σ.1 5) c w
  rwa [eta3] at this
theorem sub1_lt {n : Nat} (hn : n < 1000000) (x : Int32) : nI n - nI 1 < x ↔ nI n ≤ x := by
  rw [Int32.lt_iff_toInt_lt, pk_sub_toInt (by omega) (by omega), Int32.le_iff_toInt_le, nI_toInt (by omega)]
  omega
theorem m_isHorn (c : MR (σ.1 29) h) (w : WF h) (x : Int32) : F_X8_isHorn x σ = some (if x < 0 ∨ nI (h 0) ≤ x then nI 0 else nI 1, σ) := by
  unfold F_X8_isHorn
  have h0 := w.1
  simp (disch := omega) only [ixN, clN, nI_add, pk_mul, subN, divN, remN, leN, ltN, eqN, le0N, eq0N, lt0N, ge0N, gt0N, if_pos, if_neg, if_true, if_false, Option.bind_some, shrN, shlN, andN1, nI_or, andm1, modS, true_or, or_true, c.a0]
  rw [i64_N (n := 0) (by omega), m_in, Option.bind_some, nI_0]
  simp only [sub1_lt (show h 0 < 1000000 by omega)]
  by_cases q : x < 0 ∨ nI (h 0) ≤ x
  · rw [if_pos q]; rfl
  · rw [if_neg q]; rfl
theorem m_isPipe (c : MR (σ.1 29) h) (w : WF h) (x : Int32) : F_X8_isPipe x σ = some (if x < 0 ∨ nI (h 2) ≤ x then nI 0 else nI 1, σ) := by
  unfold F_X8_isPipe
  have h0 := w.2.2.1
  simp (disch := omega) only [ixN, clN, nI_add, pk_mul, subN, divN, remN, leN, ltN, eqN, le0N, eq0N, lt0N, ge0N, gt0N, if_pos, if_neg, if_true, if_false, Option.bind_some, shrN, shlN, andN1, nI_or, andm1, modS, true_or, or_true, c.a2]
  rw [i64_N (n := 0) (by omega), m_in, Option.bind_some, nI_0]
  simp only [sub1_lt (show h 2 < 1000000 by omega)]
  by_cases q : x < 0 ∨ nI (h 2) ≤ x
  · rw [if_pos q]; rfl
  · rw [if_neg q]; rfl
theorem m_isThere (c : MR (σ.1 29) h) (w : WF h) : F_X8_isThere σ = some (if h 0 = 0 then nI 0 else nI 1, σ) := by
  unfold F_X8_isThere
  have h0 := w.1
  simp (disch := omega) only [ixN, clN, nI_add, pk_mul, subN, divN, remN, leN, ltN, eqN, le0N, eq0N, lt0N, ge0N, gt0N, if_pos, if_neg, if_true, if_false, Option.bind_some, shrN, shlN, andN1, nI_or, andm1, modS, true_or, or_true, c.a0]
  by_cases q : h 0 = 0
  · rw [if_pos q, if_pos q]
  · rw [if_neg q, if_neg q]
/-- now is as the house is -/
def sn (σ : St) : St := setR σ 10 (va_cpy (σ.1 4) (σ.1 10) 0 0 80)
theorem c_seen : F_X7_seen σ = some (sn σ) := by
  unfold F_X7_seen
  rw [n_take]
  rfl
theorem sn_10 (c : CR (σ.1 4) h) : CR ((sn σ).1 10) h := fun i hi => by
  unfold sn
  rw [setR_get, sb_cpy0 hi]
  exact c i hi
theorem sn_scr (σ : St) : Scr σ (sn σ) := (Scr.rf σ).R _ (by decide)
theorem etaT (σ : St) : st2 12 σ (σ.1 13) (σ.1 14) = σ := st2_eta 12 σ
theorem etaU (σ : St) : st3 31 σ (σ.1 31) (σ.1 34) = σ := st3_eta (by decide) σ
end TESTS
section TESTS2
variable {σ : St} {h : Hs}
theorem c_isHorn1 (c : CR (σ.1 4) h) (w : WF h) {x : Int32} (q : ¬ (x < 0 ∨ nI (h 0) ≤ x)) : F_X4_isHorn 3 x σ = some (nI 1, σ) := by rw [c_isHorn c w, if_neg q]
theorem c_isHorn0 (c : CR (σ.1 4) h) (w : WF h) {x : Int32} (q : x < 0 ∨ nI (h 0) ≤ x) : F_X4_isHorn 3 x σ = some (nI 0, σ) := by rw [c_isHorn c w, if_pos q]
theorem c_isPipe1 (c : CR (σ.1 4) h) (w : WF h) {x : Int32} (q : ¬ (x < 0 ∨ nI (h 2) ≤ x)) : F_X4_isPipe 3 x σ = some (nI 1, σ) := by rw [c_isPipe c w, if_neg q]
theorem c_isPipe0 (c : CR (σ.1 4) h) (w : WF h) {x : Int32} (q : x < 0 ∨ nI (h 2) ≤ x) : F_X4_isPipe 3 x σ = some (nI 0, σ) := by rw [c_isPipe c w, if_pos q]
theorem m_isHorn1 (c : MR (σ.1 29) h) (w : WF h) {x : Int32} (q : ¬ (x < 0 ∨ nI (h 0) ≤ x)) : F_X8_isHorn x σ = some (nI 1, σ) := by rw [m_isHorn c w, if_neg q]
theorem m_isHorn0 (c : MR (σ.1 29) h) (w : WF h) {x : Int32} (q : x < 0 ∨ nI (h 0) ≤ x) : F_X8_isHorn x σ = some (nI 0, σ) := by rw [m_isHorn c w, if_pos q]
theorem m_isPipe1 (c : MR (σ.1 29) h) (w : WF h) {x : Int32} (q : ¬ (x < 0 ∨ nI (h 2) ≤ x)) : F_X8_isPipe x σ = some (nI 1, σ) := by rw [m_isPipe c w, if_neg q]
theorem m_isPipe0 (c : MR (σ.1 29) h) (w : WF h) {x : Int32} (q : x < 0 ∨ nI (h 2) ≤ x) : F_X8_isPipe x σ = some (nI 0, σ) := by rw [m_isPipe c w, if_pos q]
theorem c_stands1 (c : CR (σ.1 4) h) (w : WF h) (q : ¬ h 0 = 0) : F_X4_stands 3 σ = some (nI 1, σ) := by rw [c_stands c w, if_neg q]
theorem c_stands0 (c : CR (σ.1 4) h) (w : WF h) (q : h 0 = 0) : F_X4_stands 3 σ = some (nI 0, σ) := by rw [c_stands c w, if_pos q]
theorem m_isThere1 (c : MR (σ.1 29) h) (w : WF h) (q : ¬ h 0 = 0) : F_X8_isThere σ = some (nI 1, σ) := by rw [m_isThere c w, if_neg q]
theorem m_isThere0 (c : MR (σ.1 29) h) (w : WF h) (q : h 0 = 0) : F_X8_isThere σ = some (nI 0, σ) := by rw [m_isThere c w, if_pos q]
theorem c_within1 {x a b : Int32} (q : ¬ (x < a ∨ b < x)) (τ : St) : F_X7_isWithin x a b τ = some (nI 1, τ) := by rw [c_within, if_neg q]
theorem c_within0 {x a b : Int32} (q : x < a ∨ b < x) (τ : St) : F_X7_isWithin x a b τ = some (nI 0, τ) := by rw [c_within, if_pos q]
theorem m_in1 {x : Int32} {a b : Nat} (q : ¬ (x < nI a ∨ nI b < x)) (ha : a < 2147483648) (hb : b < 2147483648) (τ : St) : F_X8_in x.toInt64 (lN a) (lN b) τ = some (nI 1, τ) := by rw [m_inN x ha hb, if_neg q]
theorem m_in0 {x : Int32} {a b : Nat} (q : x < nI a ∨ nI b < x) (ha : a < 2147483648) (hb : b < 2147483648) (τ : St) : F_X8_in x.toInt64 (lN a) (lN b) τ = some (nI 0, τ) := by rw [m_inN x ha hb, if_pos q]
end TESTS2
/-- class and reference answer alike, and what holds between calls holds again -/
def Ag (P7 : Option (Int32 × St)) (P8 : St → Option (Int32 × St)) : Prop := ∃ r σ1 σ2, P7 = some (r, σ1) ∧ P8 σ1 = some (r, σ2) ∧ Inv σ2
def AgL (P7 : Option (Int64 × St)) (P8 : St → Option (Int64 × St)) : Prop := ∃ r σ1 σ2, P7 = some (r, σ1) ∧ P8 σ1 = some (r, σ2) ∧ Inv σ2
