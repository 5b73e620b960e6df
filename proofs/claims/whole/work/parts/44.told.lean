/-! what is told in a row: spoke -/
def wv (h : Hs) (j : Nat) : Int32 := if wn h j = 0 then -1 else nI (wn h j / 100)
def ht (j : Nat) (V : Nat → Int32) : Nat → Hs → Nat → Bool
  | 0, _, _ => true
  | n + 1, h, a => decide (wv h j = V a) && ht j V n (hB h) (a + 1)
theorem ht_congr {j : Nat} {V U : Nat → Int32} : ∀ n h a, (∀ i, a ≤ i → i < a + n → V i = U i) → ht j V n h a = ht j U n h a := by
  intro n
  induction n with
  | zero => intro h a _; rfl
  | succ n ih =>
    intro h a e
    rw [ht, ht, e a (by omega) (by omega), ih (hB h) (a + 1) (fun i h1 h2 => e i (by omega) (by omega))]
theorem hB_0 {h : Hs} : hB h 0 = h 0 := hB_lo (by omega) (by omega)
section TOLD
variable {σ : St}
theorem x_told {k j s t : Nat} (hk : k ≠ 13 ∧ k ≠ 14) (hj : j < 6) (hst : s + t ≤ 40) : ∀ (mm N a : Nat) (h : Hs) (f o : Nat → Int32), a + mm = t → mm < N → CR f h → WF h → ∃ f' o', ∀ K, L_X2_isHeardAsTold_3 k K N (nI j) (nI s) (nI t) (nI (s + a)) (st2 12 σ f o) = if ht j (fun i => σ.1 k (s + i)) mm h a then K (st2 12 σ f' o') else some (nI 0, st2 12 σ f' o') := by
  intro mm
  induction mm with
  | zero =>
    intro N a h f o ha hN c w
    obtain ⟨N, rfl⟩ : ∃ n', N = n' + 1 := ⟨N - 1, by omega⟩
    refine ⟨f, o, fun K => ?_⟩
    rw [L_X2_isHeardAsTold_3.eq_2]
    simp (disch := omega) only [ixN, clN, nI_add, pk_mul, subN, divN, remN, leN, ltN, eqN, le0N, eq0N, lt0N, ge0N, gt0N, if_pos, if_neg, if_true, if_false, Option.bind_some, shrN, shlN, andN1, nI_or, andm1, modS, true_or, or_true, ht]
  | succ mm ih =>
    intro N a h f o ha hN c w
    obtain ⟨N, rfl⟩ : ∃ n', N = n' + 1 := ⟨N - 1, by omega⟩
    obtain ⟨f1, o1, e1, c1, z1⟩ := n_passBreath (r := 12) (σ := σ) (o := o) c w
    obtain ⟨f2, o2, l⟩ := ih N (a + 1) (hB h) f1 o1 (by omega) (by omega) c1 (hB_wf w)
    have wb : wn h j ≤ 999 := by have := wn_vs w j; unfold vs at this; omega
    have wh : F_X2_wordHeard (nI j) (st2 12 σ f1 o1) = some (wv h j, st2 12 σ f1 o1) := by
      unfold F_X2_wordHeard F_X4_wordOf wv
      by_cases z : wn h j = 0
      · simp (disch := omega) only [ixN, clN, nI_add, pk_mul, subN, divN, remN, leN, ltN, eqN, le0N, eq0N, lt0N, ge0N, gt0N, if_pos, if_neg, if_true, if_false, Option.bind_some, shrN, shlN, andN1, nI_or, andm1, modS, true_or, or_true, T_b, z1 j hj, z]
      · simp (disch := omega) only [ixN, clN, nI_add, pk_mul, subN, divN, remN, leN, ltN, eqN, le0N, eq0N, lt0N, ge0N, gt0N, if_pos, if_neg, if_true, if_false, Option.bind_some, shrN, shlN, andN1, nI_or, andm1, modS, true_or, or_true, T_b, z1 j hj, z]
    by_cases q : wv h j = σ.1 k (s + a)
    · refine ⟨f2, o2, fun K => ?_⟩
      rw [L_X2_isHeardAsTold_3.eq_2]
      simp (disch := omega) only [ixN, clN, nI_add, pk_mul, subN, divN, remN, leN, ltN, eqN, le0N, eq0N, lt0N, ge0N, gt0N, if_pos, if_neg, if_true, if_false, Option.bind_some, shrN, shlN, andN1, nI_or, andm1, modS, true_or, or_true, e1, wh, T_k hk.1 hk.2, q]
      have := l K
      rw [show s + (a + 1) = s + a + 1 by omega] at this
      rw [this, ht, q]
      simp only [decide_true, Bool.true_and]
    · refine ⟨f1, o1, fun K => ?_⟩
      rw [L_X2_isHeardAsTold_3.eq_2]
      simp (disch := omega) only [ixN, clN, nI_add, pk_mul, subN, divN, remN, leN, ltN, eqN, le0N, eq0N, lt0N, ge0N, gt0N, if_pos, if_neg, if_true, if_false, Option.bind_some, shrN, shlN, andN1, nI_or, andm1, modS, true_or, or_true, e1, wh, T_k hk.1 hk.2, q]
      rw [ht]
      simp only [q, decide_false, Bool.false_and]
      rfl
theorem x_told0 {k j s t : Nat} {h : Hs} {f o : Nat → Int32} (hk : k ≠ 13 ∧ k ≠ 14) (hj : j < 6) (hst : s + t ≤ 40) (c : CR f h) (w : WF h) : ∃ f' o', F_X2_isHeardAsTold (nI j) k (nI s) (nI t) (st2 12 σ f o) = some (if ht j (fun i => σ.1 k (s + i)) t h 0 then nI 1 else nI 0, st2 12 σ f' o') := by
  have hf := fuel_ge
  obtain ⟨f', o', l⟩ := x_told (σ := σ) hk hj hst t fuel 0 h f o (by omega) (by omega) c w
  refine ⟨f', o', ?_⟩
  unfold F_X2_isHeardAsTold
  have := l (fun σ => some (nI 1, σ))
  rw [Nat.add_zero] at this
  rw [this]
  split <;> rfl
theorem m_told {b j t : Nat} (hj : j < 6) (hb : b + t ≤ 320) (ht12 : t ≤ 40) : ∀ (mm N a fl : Nat) (h : Hs) (g e : Nat → Int32), a + mm = t → mm < N → j < h 0 → fl ≤ 1 → MR g h → WF h → ∃ g' e', ∀ K, L_X8_hearsSo_6 K N (nI j) (nI b) (nI t) (nI fl) (nI a) (st3 31 σ g e) = K (if fl = 1 ∧ ht j (fun i => σ.1 28 (b + i)) mm h a = true then nI 1 else nI 0) (st3 31 σ g' e') := by
  intro mm
  induction mm with
  | zero =>
    intro N a fl h g e ha hN hh hfl c w
    obtain ⟨N, rfl⟩ : ∃ n', N = n' + 1 := ⟨N - 1, by omega⟩
    refine ⟨g, e, fun K => ?_⟩
    rw [L_X8_hearsSo_6.eq_2, if_pos (nI_le (by omega) (by omega))]
    obtain rfl | rfl : fl = 0 ∨ fl = 1 := by omega
    · rfl
    · rfl
  | succ mm ih =>
    intro N a fl h g e ha hN hh hfl c w
    have h6 := w.1
    obtain ⟨N, rfl⟩ : ∃ n', N = n' + 1 := ⟨N - 1, by omega⟩
    obtain ⟨g1, e1, l1, c1, z1⟩ := m_breath (k := 31) (by decide) (σ := σ) (e := e) c w
    have wb : wn h j ≤ 999 := by have := wn_vs w j; unfold vs at this; omega
    have hl := hrd_lt w
    have bit := hrd_bit h (h 0) j
    have u28 : ∀ g e, (st3 31 σ g e).1 28 = σ.1 28 := fun g e => st3_k (by decide) (by decide)
    have stp : ∀ K, L_X8_hearsSo_6 K (N + 1) (nI j) (nI b) (nI t) (nI fl) (nI a) (st3 31 σ g e) = L_X8_hearsSo_6 K N (nI j) (nI b) (nI t) (nI (if fl = 1 ∧ wv h j = σ.1 28 (b + a) then 1 else 0)) (nI (a + 1)) (st3 31 σ g1 e1) := fun K => by
      rw [L_X8_hearsSo_6.eq_2, if_neg (by rw [leN (by omega) (by omega)]; omega), l1, Option.bind_some]
      show (F_X8_has (nI (hrd h (h 0))) (nI j) (st3 31 σ g1 e1)).bind _ = _
      rw [m_has (by omega) (by omega), Option.bind_some]
      have jj : ∀ v, v = wv h j → J_X8_hearsSo_40 (fun a1 a2 a3 a4 a5 σ => L_X8_hearsSo_6 K N a1 a2 a3 a4 a5 σ) (nI j) (nI b) (nI t) (nI fl) (nI a) v (st3 31 σ g1 e1) = L_X8_hearsSo_6 K N (nI j) (nI b) (nI t) (nI (if fl = 1 ∧ wv h j = σ.1 28 (b + a) then 1 else 0)) (nI (a + 1)) (st3 31 σ g1 e1) := fun v hv => by
        subst hv
        unfold J_X8_hearsSo_40
        obtain rfl | rfl : fl = 0 ∨ fl = 1 := by omega
        · rw [if_neg (show ¬ ((0 : Nat) = 1 ∧ wv h j = σ.1 28 (b + a)) from fun z => absurd z.1 (by decide))]
          simp (disch := omega) only [ixN, clN, nI_add, pk_mul, subN, divN, remN, leN, ltN, eqN, le0N, eq0N, lt0N, ge0N, gt0N, if_pos, if_neg, if_true, if_false, Option.bind_some, shrN, shlN, andN1, nI_or, andm1, modS, true_or, or_true]
        · by_cases q : wv h j = σ.1 28 (b + a)
          · rw [if_pos (show (1 : Nat) = 1 ∧ wv h j = σ.1 28 (b + a) from ⟨rfl, q⟩)]
            simp (disch := omega) only [ixN, clN, nI_add, pk_mul, subN, divN, remN, leN, ltN, eqN, le0N, eq0N, lt0N, ge0N, gt0N, if_pos, if_neg, if_true, if_false, Option.bind_some, shrN, shlN, andN1, nI_or, andm1, modS, true_or, or_true, u28, q]
          · rw [if_neg (show ¬ ((1 : Nat) = 1 ∧ wv h j = σ.1 28 (b + a)) from fun z => q z.2)]
            simp (disch := omega) only [ixN, clN, nI_add, pk_mul, subN, divN, remN, leN, ltN, eqN, le0N, eq0N, lt0N, ge0N, gt0N, if_pos, if_neg, if_true, if_false, Option.bind_some, shrN, shlN, andN1, nI_or, andm1, modS, true_or, or_true, u28, q]
      by_cases z : wn h j = 0
      · have nb : ¬ hrd h (h 0) / 2 ^ j % 2 = 1 := fun y => (bit.mp y).2 z
        have e1 : wv h j = -1 := if_pos z
        simp (disch := omega) only [ixN, clN, nI_add, pk_mul, subN, divN, remN, leN, ltN, eqN, le0N, eq0N, lt0N, ge0N, gt0N, if_pos, if_neg, if_true, if_false, Option.bind_some, shrN, shlN, andN1, nI_or, andm1, modS, true_or, or_true]
        exact jj (-1) e1.symm
      · have yb : hrd h (h 0) / 2 ^ j % 2 = 1 := bit.mpr ⟨hh, z⟩
        have ev : wv h j = nI (wn h j / 100) := if_neg z
        simp (disch := omega) only [ixN, clN, nI_add, pk_mul, subN, divN, remN, leN, ltN, eqN, le0N, eq0N, lt0N, ge0N, gt0N, if_pos, if_neg, if_true, if_false, Option.bind_some, shrN, shlN, andN1, nI_or, andm1, modS, true_or, or_true, U_b, z1 j hh]
        exact jj _ ev.symm
    obtain ⟨g2, e2, l⟩ := ih N (a + 1) (if fl = 1 ∧ wv h j = σ.1 28 (b + a) then 1 else 0) (hB h) g1 e1 (by omega) (by omega) (by rw [hB_0]; exact hh) (by split <;> omega) c1 (hB_wf w)
    refine ⟨g2, e2, fun K => ?_⟩
    rw [stp K, l K]
    congr 1
    by_cases z1 : fl = 1
    · by_cases z2 : wv h j = σ.1 28 (b + a)
      · rw [if_pos (show fl = 1 ∧ wv h j = σ.1 28 (b + a) from ⟨z1, z2⟩)]
        simp only [ht, z1, z2, decide_true, Bool.true_and, true_and]
      · rw [if_neg (show ¬ (fl = 1 ∧ wv h j = σ.1 28 (b + a)) from fun y => z2 y.2)]
        rw [if_neg (fun y => absurd y.1 (by decide)), if_neg (fun y => by have := y.2; rw [ht, decide_eq_false z2, Bool.false_and] at this; exact Bool.noConfusion this)]
    · rw [if_neg (show ¬ (fl = 1 ∧ wv h j = σ.1 28 (b + a)) from fun y => z1 y.1)]
      rw [if_neg (fun y => absurd y.1 (by decide)), if_neg (fun y => z1 y.1)]
theorem m_told0 {b j t : Nat} {h : Hs} {g e : Nat → Int32} (hj : j < 6) (hb : b + t ≤ 320) (t12 : t ≤ 40) (hh : j < h 0) (c : MR g h) (w : WF h) : ∃ g' e', F_X8_hearsSo (nI j) (nI b) (nI t) (st3 31 σ g e) = some (if ht j (fun i => σ.1 28 (b + i)) t h 0 then nI 1 else nI 0, st3 31 σ g' e') := by
  have hf := fuel_ge
  obtain ⟨g', e', l⟩ := m_told (σ := σ) hj hb t12 t fuel 0 1 h g e (by omega) (by omega) hh (by omega) c w
  refine ⟨g', e', ?_⟩
  unfold F_X8_hearsSo
  rw [l]
  by_cases q : ht j (fun i => σ.1 28 (b + i)) t h 0 = true
  · have e : (if (1 : Nat) = 1 ∧ ht j (fun i => σ.1 28 (b + i)) t h 0 = true then nI 1 else nI 0) = nI 1 := if_pos ⟨rfl, q⟩
    rw [e, if_pos q]; exact if_pos (Or.inr rfl)
  · have e : (if (1 : Nat) = 1 ∧ ht j (fun i => σ.1 28 (b + i)) t h 0 = true then nI 1 else nI 0) = nI 0 := if_neg (fun z => q z.2)
    rw [e, if_neg q]; exact if_pos (Or.inl rfl)
end TOLD
