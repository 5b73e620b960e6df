/-! who -/
def hW (h : Hs) (p q v : Nat) : Hs := if q = 0 then uH h (5 + p) v else if q = 1 then uH h (33 + p) v else uH h 3 (if v = 0 then h 3 &&& (127 ^^^ 2 ^ p) else h 3 ||| 2 ^ p)
def fw (h : Hs) (p q j : Nat) (V : Nat → Int32) (t : Nat) : Nat → Nat → Nat → Nat
  | 0, acc, _ => acc
  | n + 1, acc, v => fw h p q j V t n (if ht j V t (hW h p q v) 0 then acc ||| 2 ^ v else acc) (v + 1)
theorem fw_congr {h : Hs} {p q j : Nat} {V U : Nat → Int32} {t : Nat} (e : ∀ i, i < t → V i = U i) : ∀ n acc v, fw h p q j V t n acc v = fw h p q j U t n acc v := by
  intro n
  induction n with
  | zero => intro acc v; rfl
  | succ n ih => intro acc v; rw [fw, fw, ih, ht_congr t (hW h p q v) 0 (fun i _ hi => e i (by omega))]
set_option maxRecDepth 100000 in
theorem orput : ∀ a, a < 128 → ∀ p, p < 7 → ((a &&& (127 ^^^ 2 ^ p)) ||| 2 ^ p) = a ||| 2 ^ p := by decide +kernel
theorem lim : ∀ q v top lo : Nat, q ≤ 2 → (top = if q = 0 then 5 else if q = 1 then 9 else 1) → (lo = if q = 0 then 1 else 0) → True := fun _ _ _ _ _ _ _ => trivial
def okv (q v : Nat) : Prop := (q = 0 ∧ 1 ≤ v ∧ v ≤ 5) ∨ (q = 1 ∧ v ≤ 9) ∨ (q = 2 ∧ v ≤ 1)
theorem p2lt {p : Nat} (hp : p < 7) : 2 ^ p < 128 := Nat.lt_of_lt_of_le (Nat.pow_lt_pow_right (a := 2) (by decide) hp) (by decide)
theorem hW_wf {h : Hs} (w : WF h) {p q v : Nat} (hp : p < h 2) (o : okv q v) : WF (hW h p q v) := by
  have h7 := w.2.2.1
  have ht := w.2.2.2.1
  have hp2 : 2 ^ p < 2 ^ h 2 := Nat.pow_lt_pow_right (by decide) hp
  unfold hW
  rcases o with ⟨rfl, a, b⟩ | ⟨rfl, a⟩ | ⟨rfl, a⟩
  · exact w.kind' hp ⟨a, b⟩
  · exact w.dent' hp a
  · refine w.taps' ?_
    split
    · exact Nat.lt_of_le_of_lt Nat.and_le_left ht
    · exact Nat.or_lt_two_pow ht hp2
theorem hW_0 {h : Hs} {p q v : Nat} : hW h p q v 0 = h 0 := by
  unfold hW
  split
  · exact uH_ne (by omega)
  · split
    · exact uH_ne (by omega)
    · exact uH_ne (by omega)
section WHO
variable {σ : St}
theorem x_suppose {h : Hs} {f o : Nat → Int32} {p q v : Nat} (c : CR f h) (w : WF h) (hp : p < 7) (ok : okv q v) : ∃ f', F_X2_suppose (nI p) (nI q) (nI v) (st2 12 σ f o) = some (st2 12 σ f' o) ∧ CR f' (hW h p q v) := by
  have h7 := w.taps
  have p2 := p2lt hp
  unfold F_X2_suppose hW
  rcases ok with ⟨rfl, a, b⟩ | ⟨rfl, a⟩ | ⟨rfl, a⟩
  · refine ⟨upd f (5 + p) (nI v), ?_, c.upd _ _⟩
    simp (disch := omega) only [ixN, clN, nI_add, pk_mul, subN, divN, remN, leN, ltN, eqN, le0N, eq0N, lt0N, ge0N, gt0N, if_pos, if_neg, if_true, if_false, Option.bind_some, shrN, shlN, andN1, nI_or, andm1, modS, true_or, or_true, T_A]
  · refine ⟨upd f (33 + p) (nI v), ?_, c.upd _ _⟩
    simp (disch := omega) only [ixN, clN, nI_add, pk_mul, subN, divN, remN, leN, ltN, eqN, le0N, eq0N, lt0N, ge0N, gt0N, if_pos, if_neg, if_true, if_false, Option.bind_some, shrN, shlN, andN1, nI_or, andm1, modS, true_or, or_true, T_A]
  · refine ⟨upd f 3 (nI (if v = 0 then h 3 &&& (127 ^^^ 2 ^ p) else h 3 ||| 2 ^ p)), ?_, c.upd _ _⟩
    obtain rfl | rfl : v = 0 ∨ v = 1 := by omega
    · have z : nI 0 <<< (nI p &&& 31) = nI 0 := by
        obtain rfl | rfl | rfl | rfl | rfl | rfl | rfl : p = 0 ∨ p = 1 ∨ p = 2 ∨ p = 3 ∨ p = 4 ∨ p = 5 ∨ p = 6 := by omega
        all_goals rfl
      simp (disch := omega) only [ixN, clN, nI_add, pk_mul, subN, divN, remN, leN, ltN, eqN, le0N, eq0N, lt0N, ge0N, gt0N, if_pos, if_neg, if_true, if_false, Option.bind_some, shrN, shlN, andN1, nI_or, andm1, modS, true_or, or_true, T_A, T_a, c 3 (by omega), andnot, z, Nat.or_zero]
    · simp (disch := omega) only [ixN, clN, nI_add, pk_mul, subN, divN, remN, leN, ltN, eqN, le0N, eq0N, lt0N, ge0N, gt0N, if_pos, if_neg, if_true, if_false, Option.bind_some, shrN, shlN, andN1, nI_or, andm1, modS, true_or, or_true, T_A, T_a, c 3 (by omega), andnot, orput]
theorem x_who {k p q j s t top : Nat} {h : Hs} (hk : k ≠ 13 ∧ k ≠ 14) (hj : j < 6) (hp : p < h 2) (hst : s + t ≤ 40) (c0 : CR (σ.1 10) h) (w : WF h) (ht9 : top ≤ 9) : ∀ (mm N v acc : Nat) (f o : Nat → Int32), v + mm = top + 1 → mm < N → (∀ v', v ≤ v' → v' ≤ top → okv q v') → ∃ f' o', ∀ K, L_X2_whatFits_39 k K N (nI p) (nI q) (nI j) (nI s) (nI t) (nI top) (nI acc) (nI v) (st2 12 σ f o) = K (nI (fw h p q j (fun i => σ.1 k (s + i)) t mm acc v)) (st2 12 σ f' o') := by
  intro mm
  have h7 := w.2.2.1
  induction mm with
  | zero =>
    intro N v acc f o hv hN ok
    obtain ⟨N, rfl⟩ : ∃ n', N = n' + 1 := ⟨N - 1, by omega⟩
    refine ⟨f, o, fun K => ?_⟩
    rw [L_X2_whatFits_39.eq_2, if_pos (nI_lt (by omega) (by omega))]
    rfl
  | succ mm ih =>
    intro N v acc f o hv hN ok
    obtain ⟨N, rfl⟩ : ∃ n', N = n' + 1 := ⟨N - 1, by omega⟩
    have okn := ok v (by omega) (by omega)
    obtain ⟨f1, e1, c1⟩ := x_begin (σ := σ) (f := f) (o := o) c0
    obtain ⟨f2, e2, c2⟩ := x_suppose (σ := σ) (o := o) c1 w (show p < 7 by omega) okn
    obtain ⟨f3, o3, e3⟩ := x_told0 (σ := σ) (o := o) hk hj hst c2 (hW_wf w hp okn)
    obtain ⟨f4, o4, l⟩ := ih N (v + 1) (if ht j (fun i => σ.1 k (s + i)) t (hW h p q v) 0 then acc ||| 2 ^ v else acc) f3 o3 (by omega) (by omega) (fun v' h1 h2 => ok v' (by omega) h2)
    refine ⟨f4, o4, fun K => ?_⟩
    rw [L_X2_whatFits_39.eq_2]
    by_cases z : ht j (fun i => σ.1 k (s + i)) t (hW h p q v) 0 = true
    · have l := l K
      rw [if_pos z] at e3 l
      rw [fw, if_pos z, ← l]
      simp (disch := omega) only [ixN, clN, nI_add, pk_mul, subN, divN, remN, leN, ltN, eqN, le0N, eq0N, lt0N, ge0N, gt0N, if_pos, if_neg, if_true, if_false, Option.bind_some, shrN, shlN, andN1, nI_or, andm1, modS, true_or, or_true, e1, e2, e3]
    · have l := l K
      rw [if_neg z] at e3 l
      rw [fw, if_neg z, ← l]
      simp (disch := omega) only [ixN, clN, nI_add, pk_mul, subN, divN, remN, leN, ltN, eqN, le0N, eq0N, lt0N, ge0N, gt0N, if_pos, if_neg, if_true, if_false, Option.bind_some, shrN, shlN, andN1, nI_or, andm1, modS, true_or, or_true, e1, e2, e3]
theorem m_who1 {k p q j s t top v acc : Nat} {h : Hs} {g e : Nat → Int32} (hk : k ≤ 7) (hj : j < h 0) (hp : p < h 2) (hst : s + t ≤ 40) (c0 : MR (σ.1 29) h) (w : WF h) (hv : v ≤ top) (ht9 : top ≤ 9) (ok : okv q v) : ∃ g' e', ∀ K91 K224, J_X8_who_112 K91 K224 (nI p) (nI q) (nI j) (nI k) (nI s) (nI t) (nI acc) (nI v) (nI top) (nI v) (st3 31 σ g e) = K91 (nI p) (nI q) (nI j) (nI k) (nI s) (nI t) (nI (if ht j (fun i => σ.1 28 (40 * k + s + i)) t (hW h p q v) 0 then acc ||| 2 ^ v else acc)) (nI (v + 1)) (st3 31 σ g' e') := by
  have h7 := w.2.2.1
  have h6 := w.1
  have hw := hW_wf w hp ok
  have ht3 := w.taps
  have p2 := p2lt (show p < 7 by omega)
  obtain ⟨g1, e1, c1⟩ := m_lay (σ := σ) (g := g) (e := e) c0
  have fin : ∀ g2, MR g2 (hW h p q v) → ∃ g' e', ∀ K91, J_X8_who_187 K91 (nI p) (nI q) (nI j) (nI k) (nI s) (nI t) (nI acc) (nI v) (st3 31 σ g2 e) = K91 (nI p) (nI q) (nI j) (nI k) (nI s) (nI t) (nI (if ht j (fun i => σ.1 28 (40 * k + s + i)) t (hW h p q v) 0 then acc ||| 2 ^ v else acc)) (nI (v + 1)) (st3 31 σ g' e') := fun g2 c2 => by
    obtain ⟨g3, o3, e3⟩ := m_told0 (σ := σ) (e := e) (b := 40 * k + s) (j := j) (t := t) (by omega) (by omega) (by omega) (by rw [hW_0]; exact hj) c2 hw
    refine ⟨g3, o3, fun K91 => ?_⟩
    unfold J_X8_who_187
    by_cases z : ht j (fun i => σ.1 28 (40 * k + s + i)) t (hW h p q v) 0 = true
    · rw [if_pos z] at e3 ⊢
      simp (disch := omega) only [ixN, clN, nI_add, pk_mul, subN, divN, remN, leN, ltN, eqN, le0N, eq0N, lt0N, ge0N, gt0N, if_pos, if_neg, if_true, if_false, Option.bind_some, shrN, shlN, andN1, nI_or, andm1, modS, true_or, or_true, e3]
    · rw [if_neg z] at e3 ⊢
      simp (disch := omega) only [ixN, clN, nI_add, pk_mul, subN, divN, remN, leN, ltN, eqN, le0N, eq0N, lt0N, ge0N, gt0N, if_pos, if_neg, if_true, if_false, Option.bind_some, shrN, shlN, andN1, nI_or, andm1, modS, true_or, or_true, e3, Nat.or_zero]
  have up : ∃ g2, MR g2 (hW h p q v) ∧ ∀ K91 K224, J_X8_who_112 K91 K224 (nI p) (nI q) (nI j) (nI k) (nI s) (nI t) (nI acc) (nI v) (nI top) (nI v) (st3 31 σ g e) = J_X8_who_187 (fun a1 a2 a3 a4 a5 a6 a8 a9 σ => K91 a1 a2 a3 a4 a5 a6 a8 a9 σ) (nI p) (nI q) (nI j) (nI k) (nI s) (nI t) (nI acc) (nI v) (st3 31 σ g2 e) := by
    unfold J_X8_who_112 J_X8_who_183 J_X8_who_159 hW
    rcases ok with ⟨rfl, a, b⟩ | ⟨rfl, a⟩ | ⟨rfl, a⟩
    · refine ⟨upd g1 (17 + 9 * p + 0) (nI v), c1.upd v (by omega) (pmK p (by omega)), fun K91 K224 => ?_⟩
      simp (disch := omega) only [ixN, clN, nI_add, pk_mul, subN, divN, remN, leN, ltN, eqN, le0N, eq0N, lt0N, ge0N, gt0N, if_pos, if_neg, if_true, if_false, Option.bind_some, shrN, shlN, andN1, nI_or, andm1, modS, true_or, or_true, e1, U_A, Nat.add_zero]
    · refine ⟨upd g1 (17 + 9 * p + 4) (nI v), c1.upd v (by omega) (pmD p (by omega)), fun K91 K224 => ?_⟩
      simp (disch := omega) only [ixN, clN, nI_add, pk_mul, subN, divN, remN, leN, ltN, eqN, le0N, eq0N, lt0N, ge0N, gt0N, if_pos, if_neg, if_true, if_false, Option.bind_some, shrN, shlN, andN1, nI_or, andm1, modS, true_or, or_true, e1, U_A]
    · refine ⟨upd g1 4 (nI (if v = 0 then h 3 &&& (127 ^^^ 2 ^ p) else h 3 ||| 2 ^ p)), c1.upd (i := 3) _ (by omega) rfl, fun K91 K224 => ?_⟩
      obtain rfl | rfl : v = 0 ∨ v = 1 := by omega
      · simp (disch := omega) only [ixN, clN, nI_add, pk_mul, subN, divN, remN, leN, ltN, eqN, le0N, eq0N, lt0N, ge0N, gt0N, if_pos, if_neg, if_true, if_false, Option.bind_some, shrN, shlN, andN1, nI_or, andm1, modS, true_or, or_true, e1, U_A, U_a, c1.a3, andnot]
      · simp (disch := omega) only [ixN, clN, nI_add, pk_mul, subN, divN, remN, leN, ltN, eqN, le0N, eq0N, lt0N, ge0N, gt0N, if_pos, if_neg, if_true, if_false, Option.bind_some, shrN, shlN, andN1, nI_or, andm1, modS, true_or, or_true, e1, U_A, U_a, c1.a3]
  obtain ⟨g2, c2, up⟩ := up
  obtain ⟨g3, e3, l3⟩ := fin g2 c2
  exact ⟨g3, e3, fun K91 K224 => by rw [up, l3]⟩
end WHO
