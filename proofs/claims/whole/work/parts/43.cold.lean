/-! cold -/
theorem cz_le (h : Hs) (a : Nat) : ∀ n, cz h a n ≤ n := by
  intro n
  induction n generalizing a with
  | zero => exact Nat.le_refl _
  | succ n ih =>
    have := ih (a + 1)
    unfold cz
    split <;> omega
def em (h : Hs) : Nat → Nat
  | 0 => 0
  | P + 1 => if cz h (40 + 4 * P) 4 = 0 then em h P ||| 2 ^ P else em h P
def mc (h : Hs) (acc : Nat) : Nat → Nat
  | 0 => acc
  | P + 1 => if cz h (40 + 4 * P) 4 = 0 then mc h acc P else mc h acc P &&& (127 ^^^ 2 ^ P)
set_option maxRecDepth 100000 in
theorem andnot : ∀ a, a < 128 → ∀ b, b < 128 → nI a &&& (nI b ^^^ (-1 : Int32)) = nI (a &&& (127 ^^^ b)) := by decide +kernel
set_option maxRecDepth 100000 in
theorem andall : ∀ a, a < 128 → nI a &&& (-1 : Int32) = nI a := by decide +kernel
theorem em_bit (h : Hs) (j : Nat) : ∀ P, (em h P).testBit j = decide (j < P ∧ cz h (40 + 4 * j) 4 = 0) := by
  intro P
  induction P with
  | zero => simp [em]
  | succ P ih =>
    rw [em]
    by_cases z : cz h (40 + 4 * P) 4 = 0
    · rw [if_pos z, Nat.testBit_or, ih, Nat.testBit_two_pow]
      by_cases q : j = P
      · subst q; simp [z]
      · have q2 : ¬ P = j := fun e => q e.symm
        have : (j < P + 1) ↔ j < P := by omega
        simp [q2, this]
    · rw [if_neg z, ih]
      by_cases q : j = P
      · subst q; simp [z]
      · have : (j < P + 1) ↔ j < P := by omega
        simp [this]
theorem em_lt (h : Hs) : ∀ P, em h P < 2 ^ P := by
  intro P
  induction P with
  | zero => exact Nat.one_pos
  | succ P ih =>
    rw [em]
    have : 2 ^ P < 2 ^ (P + 1) := Nat.pow_lt_pow_right (by decide) (by omega)
    split
    · exact Nat.or_lt_two_pow (by omega) this
    · omega
theorem mc_lt (h : Hs) {acc : Nat} (ha : acc < 128) : ∀ P, mc h acc P < 128 := by
  intro P
  induction P with
  | zero => exact ha
  | succ P ih =>
    rw [mc]
    split
    · exact ih
    · exact Nat.lt_of_le_of_lt Nat.and_le_left ih
theorem mc_bit (h : Hs) {acc : Nat} {j : Nat} (hj : j < 7) : ∀ P, P ≤ 7 → (mc h acc P).testBit j = (acc.testBit j && (decide (P ≤ j) || decide (cz h (40 + 4 * j) 4 = 0))) := by
  intro P
  induction P with
  | zero => intro _; simp [mc]
  | succ P ih =>
    intro hP
    rw [mc]
    have ih := ih (by omega)
    have e127 : (127 : Nat).testBit j = true := by
      have := Nat.testBit_two_pow_sub_one 7 j
      rw [show 2 ^ 7 - 1 = 127 by rfl] at this
      rw [this]; exact decide_eq_true hj
    by_cases z : cz h (40 + 4 * P) 4 = 0
    · rw [if_pos z, ih]
      by_cases q : j = P
      · subst q; simp [z]
      · have : (P + 1 ≤ j) ↔ P ≤ j := by omega
        simp [this]
    · rw [if_neg z, Nat.testBit_and, ih, Nat.testBit_xor, e127, Nat.testBit_two_pow]
      by_cases q : j = P
      · subst q
        have : ¬ j + 1 ≤ j := by omega
        simp [z]
      · have q2 : ¬ P = j := fun e => q e.symm
        have : (P + 1 ≤ j) ↔ P ≤ j := by omega
        simp [q2, this]
theorem mc_em {h : Hs} (w : WF h) {acc : Nat} (ha : acc < 2 ^ h 2) : mc h acc (h 2) = acc &&& em h (h 2) := by
  have h7 := w.2.2.1
  have h128 : acc < 128 := by
    have : 2 ^ h 2 ≤ 2 ^ 7 := Nat.pow_le_pow_right (by decide) h7
    omega
  apply Nat.eq_of_testBit_eq
  intro j
  rw [Nat.testBit_and, em_bit]
  by_cases hj : j < 7
  · rw [mc_bit h hj _ h7]
    by_cases q : j < h 2
    · have : ¬ h 2 ≤ j := by omega
      simp [q, this]
    · have : acc.testBit j = false := Nat.testBit_lt_two_pow (Nat.lt_of_lt_of_le ha (Nat.pow_le_pow_right (by decide) (by omega)))
      rw [this]; simp
  · have e1 : (mc h acc (h 2)).testBit j = false := Nat.testBit_lt_two_pow (Nat.lt_of_lt_of_le (mc_lt h h128 _) (show 2 ^ 7 ≤ 2 ^ j from Nat.pow_le_pow_right (by decide) (by omega)))
    have : acc.testBit j = false := Nat.testBit_lt_two_pow (Nat.lt_of_lt_of_le h128 (show 2 ^ 7 ≤ 2 ^ j from Nat.pow_le_pow_right (by decide) (by omega)))
    rw [e1, this]; simp
/-- empty now and after each of n breaths -/
def cl : Nat → Hs → Nat → Nat
  | 0, _, acc => acc
  | n + 1, h, acc => cl n (hB h) (acc &&& em (hB h) (hB h 2))
theorem hB_2 {h : Hs} : hB h 2 = h 2 := hB_lo (by omega) (by omega)
section COLD
variable {σ : St} {h : Hs} {f o : Nat → Int32}
theorem x_empty (c : CR f h) (w : WF h) : F_X2_emptyPipes (st2 12 σ f o) = some (nI (em h (h 2)), st2 12 σ f o) := by
  unfold F_X2_emptyPipes
  have h7 := w.2.2.1
  have hf := fuel_ge
  have L : ∀ (mm N p : Nat), p + mm = h 2 → mm < N → ∀ K, L_X2_emptyPipes_4 K N (nI (em h p)) (nI p) (st2 12 σ f o) = K (nI (em h (h 2))) (st2 12 σ f o) := by
    intro mm
    induction mm with
    | zero =>
      intro N p hp hN K
      obtain ⟨N, rfl⟩ : ∃ n', N = n' + 1 := ⟨N - 1, by omega⟩
      rw [L_X2_emptyPipes_4.eq_2]
      simp (disch := omega) only [ixN, clN, nI_add, pk_mul, subN, divN, remN, leN, ltN, eqN, le0N, eq0N, lt0N, ge0N, gt0N, if_pos, if_neg, if_true, if_false, Option.bind_some, shrN, shlN, andN1, nI_or, andm1, modS, true_or, or_true, T_a, c 2 (by omega)]
      rw [show p = h 2 by omega]
    | succ mm ih =>
      intro N p hp hN K
      obtain ⟨N, rfl⟩ : ∃ n', N = n' + 1 := ⟨N - 1, by omega⟩
      have hi := ih N (p + 1) (by omega) (by omega) K
      rw [em] at hi
      rw [L_X2_emptyPipes_4.eq_2, ← hi]
      have hc : cz h (40 + 4 * p) 4 ≤ 4 := cz_le _ _ _
      by_cases z : cz h (40 + 4 * p) 4 = 0
      · simp (disch := omega) only [ixN, clN, nI_add, pk_mul, subN, divN, remN, leN, ltN, eqN, le0N, eq0N, lt0N, ge0N, gt0N, if_pos, if_neg, if_true, if_false, Option.bind_some, shrN, shlN, andN1, nI_or, andm1, modS, true_or, or_true, T_a, c 2 (by omega), n_soundsIn c w (show p < 7 by omega), z]
      · simp (disch := omega) only [ixN, clN, nI_add, pk_mul, subN, divN, remN, leN, ltN, eqN, le0N, eq0N, lt0N, ge0N, gt0N, if_pos, if_neg, if_true, if_false, Option.bind_some, shrN, shlN, andN1, nI_or, andm1, modS, true_or, or_true, T_a, c 2 (by omega), n_soundsIn c w (show p < 7 by omega), z]
  have l := L (h 2) fuel 0 (by omega) (by omega)
  rw [show em h 0 = 0 from rfl] at l
  rw [l]
theorem x_cold {M : Nat} (hM : M ≤ 60) : ∀ (mm N i acc : Nat) (h : Hs) (f o : Nat → Int32), i + mm = M → mm < N → CR f h → WF h → ∃ f' o', ∀ K, L_X2_coldPipes_11 K N (nI M) (nI acc) (nI i) (st2 12 σ f o) = K (nI (cl mm h acc)) (st2 12 σ f' o') := by
  intro mm
  induction mm with
  | zero =>
    intro N i acc h f o hi hN c w
    obtain ⟨N, rfl⟩ : ∃ n', N = n' + 1 := ⟨N - 1, by omega⟩
    refine ⟨f, o, fun K => ?_⟩
    rw [L_X2_coldPipes_11.eq_2, if_pos (nI_le (by omega) (by omega))]
    rfl
  | succ mm ih =>
    intro N i acc h f o hi hN c w
    obtain ⟨N, rfl⟩ : ∃ n', N = n' + 1 := ⟨N - 1, by omega⟩
    obtain ⟨f1, o1, e1, c1, -⟩ := n_passBreath (r := 12) (σ := σ) (o := o) c w
    obtain ⟨f2, o2, l⟩ := ih N (i + 1) (acc &&& em (hB h) (hB h 2)) (hB h) f1 o1 (by omega) (by omega) c1 (hB_wf w)
    refine ⟨f2, o2, fun K => ?_⟩
    rw [L_X2_coldPipes_11.eq_2]
    simp (disch := omega) only [ixN, clN, nI_add, pk_mul, subN, divN, remN, leN, ltN, eqN, le0N, eq0N, lt0N, ge0N, gt0N, if_pos, if_neg, if_true, if_false, Option.bind_some, shrN, shlN, andN1, nI_or, andm1, modS, true_or, or_true, false_or, or_false, nI_and, e1, x_empty c1 (hB_wf w), l]
    rfl
theorem m_coldP {σ : St} {g e : Nat → Int32} (m0 : σ.1 29 2 = nI (h 2)) (c : MR g h) (w : WF h) {acc : Nat} (ha : acc < 128) (a1 a3 : Int32) : ∀ (mm N p : Nat), p + mm = h 2 → mm < N → ∀ K, L_X8_cold_55 K N a1 (nI (mc h acc p)) a3 (nI p) (st3 31 σ g e) = K a1 (nI (mc h acc (h 2))) a3 (st3 31 σ g e) := by
  intro mm
  have h7 := w.2.2.1
  induction mm with
  | zero =>
    intro N p hp hN K
    obtain ⟨N, rfl⟩ : ∃ n', N = n' + 1 := ⟨N - 1, by omega⟩
    rw [L_X8_cold_55.eq_2]
    simp (disch := omega) only [ixN, clN, nI_add, pk_mul, subN, divN, remN, leN, ltN, eqN, le0N, eq0N, lt0N, ge0N, gt0N, if_pos, if_neg, if_true, if_false, Option.bind_some, shrN, shlN, andN1, nI_or, andm1, modS, true_or, or_true, U_29, m0]
    rw [show p = h 2 by omega]
  | succ mm ih =>
    intro N p hp hN K
    obtain ⟨N, rfl⟩ : ∃ n', N = n' + 1 := ⟨N - 1, by omega⟩
    have hi := ih N (p + 1) (by omega) (by omega) K
    rw [mc] at hi
    rw [L_X8_cold_55.eq_2, ← hi]
    have hb := mc_lt h ha p
    have hp2 : 2 ^ p < 128 := Nat.lt_of_lt_of_le (Nat.pow_lt_pow_right (a := 2) (by decide) (show p < 7 by omega)) (by decide)
    have hc : cz h (40 + 4 * p) 4 ≤ 4 := cz_le _ _ _
    by_cases z : cz h (40 + 4 * p) 4 = 0
    · simp (disch := omega) only [ixN, clN, nI_add, pk_mul, subN, divN, remN, leN, ltN, eqN, le0N, eq0N, lt0N, ge0N, gt0N, if_pos, if_neg, if_true, if_false, Option.bind_some, shrN, shlN, andN1, nI_or, andm1, modS, true_or, or_true, U_29, m0, m_soundsIn (k := 31) (by decide) c w (show p < h 2 by omega), z, andall]
    · simp (disch := omega) only [ixN, clN, nI_add, pk_mul, subN, divN, remN, leN, ltN, eqN, le0N, eq0N, lt0N, ge0N, gt0N, if_pos, if_neg, if_true, if_false, Option.bind_some, shrN, shlN, andN1, nI_or, andm1, modS, true_or, or_true, U_29, m0, m_soundsIn (k := 31) (by decide) c w (show p < h 2 by omega), z, andnot]
def cm : Nat → Hs → Nat → Nat
  | 0, h, acc => mc h acc (h 2)
  | n + 1, h, acc => cm n (hB h) (mc h acc (h 2))
theorem cm_cl : ∀ n h acc, WF h → acc < 2 ^ h 2 → cm n h acc = cl n h (acc &&& em h (h 2)) := by
  intro n
  induction n with
  | zero => intro h acc w ha; exact mc_em w ha
  | succ n ih =>
    intro h acc w ha
    have hl : mc h acc (h 2) < 2 ^ (hB h) 2 := by
      rw [mc_em w ha, hB_2]; exact Nat.lt_of_le_of_lt Nat.and_le_left ha
    show cm n (hB h) (mc h acc (h 2)) = cl n (hB h) ((acc &&& em h (h 2)) &&& em (hB h) (hB h 2))
    rw [ih (hB h) _ (hB_wf w) hl, mc_em w ha]
theorem m_cold {M : Nat} (hM : M ≤ 60) : ∀ (mm N i acc : Nat) (h : Hs) (g e : Nat → Int32), i + mm = M → mm + 1 < N → σ.1 29 2 = nI (h 2) → MR g h → WF h → acc < 128 → ∃ g' e', ∀ K, L_X8_cold_47 K N (nI M) (nI acc) (nI i) (st3 31 σ g e) = K (nI (cm mm h acc)) (st3 31 σ g' e') := by
  intro mm
  have hf := fuel_ge
  induction mm with
  | zero =>
    intro N i acc h g e hi hN m0 c w ha
    have h7 := w.2.2.1
    obtain ⟨N, rfl⟩ : ∃ n', N = n' + 2 := ⟨N - 2, by omega⟩
    obtain ⟨g1, e1, l1, c1, -⟩ := m_breath (k := 31) (by decide) (σ := σ) (e := e) c w
    refine ⟨g1, e1, fun K => ?_⟩
    have l := m_coldP (σ := σ) (e := e) m0 c w ha (nI M) (nI i) (h 2) fuel 0 (by omega) (by omega)
    rw [show mc h acc 0 = acc from rfl] at l
    rw [L_X8_cold_47.eq_2, if_neg (by rw [ltN (by omega) (by omega)]; omega), l, l1, Option.bind_some]
    show L_X8_cold_47 K (N + 1) _ _ (nI i + nI 1) _ = _
    rw [nI_add, L_X8_cold_47.eq_2, if_pos (nI_lt (by omega) (by omega))]
    rfl
  | succ mm ih =>
    intro N i acc h g e hi hN m0 c w ha
    have h7 := w.2.2.1
    obtain ⟨N, rfl⟩ : ∃ n', N = n' + 1 := ⟨N - 1, by omega⟩
    obtain ⟨g1, e1, l1, c1, -⟩ := m_breath (k := 31) (by decide) (σ := σ) (e := e) c w
    obtain ⟨g2, e2, l2⟩ := ih N (i + 1) (mc h acc (h 2)) (hB h) g1 e1 (by omega) (by omega) (by rw [hB_2]; exact m0) c1 (hB_wf w) (mc_lt h ha _)
    refine ⟨g2, e2, fun K => ?_⟩
    have l := m_coldP (σ := σ) (e := e) m0 c w ha (nI M) (nI i) (h 2) fuel 0 (by omega) (by omega)
    rw [show mc h acc 0 = acc from rfl] at l
    rw [L_X8_cold_47.eq_2, if_neg (by rw [ltN (by omega) (by omega)]; omega), l, l1, Option.bind_some]
    show L_X8_cold_47 K N _ _ (nI i + nI 1) _ = _
    rw [nI_add, l2]
    rfl
theorem e_cold (i : Inv σ) (x : Int32) : Ag (F_X7_cold x σ) (F_X8_cold x) := by
  obtain ⟨⟨h, c, m, w, b⟩, -⟩ := id i
  have h7 := w.2.2.1
  have hf := fuel_ge
  by_cases q1 : h 0 = 0
  · refine Ag.q i (-1000002) σ ?_ (Scr.rf σ) (fun τ s => ⟨setF τ 8 (nI 0), ?_, scr8 s⟩)
    · unfold F_X7_cold
      simp (disch := omega) only [ixN, clN, nI_add, pk_mul, subN, divN, remN, leN, ltN, eqN, le0N, eq0N, lt0N, ge0N, gt0N, if_pos, if_neg, if_true, if_false, Option.bind_some, shrN, shlN, andN1, nI_or, andm1, modS, true_or, or_true, c_stands0 c w q1]
    · unfold F_X8_cold
      simp (disch := omega) only [ixN, clN, nI_add, pk_mul, subN, divN, remN, leN, ltN, eqN, le0N, eq0N, lt0N, ge0N, gt0N, if_pos, if_neg, if_true, if_false, Option.bind_some, shrN, shlN, andN1, nI_or, andm1, modS, true_or, or_true, m_isThere0 (mr8 m s) w q1]
  by_cases q2 : x < nI 1 ∨ nI 60 < x
  · refine Ag.q i (-1000001) σ ?_ (Scr.rf σ) (fun τ s => ⟨setF τ 8 (nI 0), ?_, scr8 s⟩)
    · unfold F_X7_cold
      simp (disch := omega) only [ixN, clN, nI_add, pk_mul, subN, divN, remN, leN, ltN, eqN, le0N, eq0N, lt0N, ge0N, gt0N, if_pos, if_neg, if_true, if_false, Option.bind_some, shrN, shlN, andN1, nI_or, andm1, modS, true_or, or_true, c_stands1 c w q1, c_within0 q2]
    · unfold F_X8_cold
      simp (disch := omega) only [ixN, clN, nI_add, pk_mul, subN, divN, remN, leN, ltN, eqN, le0N, eq0N, lt0N, ge0N, gt0N, if_pos, if_neg, if_true, if_false, Option.bind_some, shrN, shlN, andN1, nI_or, andm1, modS, true_or, or_true, m_isThere1 (mr8 m s) w q1, m_in0 q2]
  obtain ⟨M, hM1, hM2, rfl⟩ := in_N (by omega) (by omega) q2
  obtain ⟨f1, e1, c1⟩ := beginT (sn_10 c)
  obtain ⟨f2, o2, l2⟩ := x_cold (σ := sn σ) hM2 M fuel 0 (em h (h 2)) h f1 ((sn σ).1 14) (by omega) (by omega) c1 w
  have hp : 0 < 2 ^ h 2 := Nat.two_pow_pos _
  have hp7 : 2 ^ h 2 ≤ 2 ^ 7 := Nat.pow_le_pow_right (by decide) h7
  have all : (2 ^ h 2 - 1) &&& em h (h 2) = em h (h 2) := by
    rw [Nat.and_comm, Nat.and_two_pow_sub_one_eq_mod, Nat.mod_eq_of_lt (em_lt h _)]
  refine Ag.q i (nI (cl M h (em h (h 2)))) (st2 12 (sn σ) f2 o2) ?_ ((sn_scr σ).T f2 o2) (fun τ s => ?_)
  · unfold F_X7_cold F_X2_coldPipes
    simp (disch := omega) only [ixN, clN, nI_add, pk_mul, subN, divN, remN, leN, ltN, eqN, le0N, eq0N, lt0N, ge0N, gt0N, if_pos, if_neg, if_true, if_false, Option.bind_some, shrN, shlN, andN1, nI_or, andm1, modS, true_or, or_true, c_stands1 c w q1, c_within1 q2, c_seen, e1, x_empty c1 w, l2]
  · obtain ⟨g3, e3, c3⟩ := layU (mr8 m s)
    obtain ⟨g4, e4, l4⟩ := m_cold (σ := setF τ 8 (nI 0)) hM2 M fuel 0 (2 ^ h 2 - 1) h g3 ((setF τ 8 (nI 0)).1 34) (by omega) (by omega) (mr8 m s).a2 c3 w (by omega)
    refine ⟨_, ?_, (scr8 s).U g4 e4⟩
    unfold F_X8_cold
    simp (disch := omega) only [ixN, clN, nI_add, pk_mul, subN, divN, remN, leN, ltN, eqN, le0N, eq0N, lt0N, ge0N, gt0N, if_pos, if_neg, if_true, if_false, Option.bind_some, shrN, shlN, andN1, nI_or, andm1, modS, true_or, or_true, m_isThere1 (mr8 m s) w q1, m_in1 q2, e3, U_29, (mr8 m s).a2, l4, cm_cl M h _ w (show 2 ^ h 2 - 1 < 2 ^ h 2 by omega), all]
end COLD
