/-! who -/
def hW (h : Hs) (p q v : Nat) : Hs := if q = 0 then uH h (5 + p) v else if q = 1 then uH h (33 + p) v else uH h 3 (if v = 0 then h 3 &&& (127 ^^^ 2 ^ p) else h 3 ||| 2 ^ p)
def fw (h : Hs) (p q j : Nat) (V : Nat → Int32) (t : Nat) : Nat → Nat → Nat → Nat
  | 0, acc, _ => acc
  | n + 1, acc, v => fw h p q j V t n (if ht j V t (hW h p q v) 0 then acc ||| 2 ^ v else acc) (v + 1)
theorem fw_congr {h : Hs} {p q j : Nat} {V U : Nat → Int32} {t : Nat} (e : ∀ i, i < t → V i = U i) : ∀ n acc v, fw h p q j V t n acc v = fw h p q j U t n acc v := by
  intro n
  induction n with
  | zero => intro acc v; rfl
  | succ n ih => intro acc v; rw [fw, fw, ih, ht_congr t (hW h p q v) 0 (fun i _ hi => e i (by omega))]
set_option maxRecDepth 100000 in
theorem orput : ∀ a, a < 128 → ∀ p, p < 7 → ((a &&& (127 ^^^ 2 ^ p)) ||| 2 ^ p) = a ||| 2 ^ p := by decide +kernel
theorem lim : ∀ q v top lo : Nat, q ≤ 2 → (top = if q = 0 then 5 else if q = 1 then 9 else 1) → (lo = if q = 0 then 1 else 0) → True := fun _ _ _ _ _ _ _ => trivial
def okv (q v : Nat) : Prop := (q = 0 ∧ 1 ≤ v ∧ v ≤ 5) ∨ (q = 1 ∧ v ≤ 9) ∨ (q = 2 ∧ v ≤ 1)
theorem p2lt {p : Nat} (hp : p < 7) : 2 ^ p < 128 := Nat.lt_of_lt_of_le (Nat.pow_lt_pow_right (a := 2) (by decide) hp) (by decide)
theorem hW_wf {h : Hs} (w : WF h) {p q v : Nat} (hp : p < h 2) (o : okv q v) : WF (hW h p q v) := by
  have h7 := w.2.2.1
  have ht := w.2.2.2.1
  have hp2 : 2 ^ p < 2 ^ h 2 := Nat.pow_lt_pow_right (by decide) hp
  unfold hW
  rcases o with ⟨rfl, a, b⟩ | ⟨rfl, a⟩ | ⟨rfl, a⟩
  · exact w.kind' hp ⟨a, b⟩
  · exact w.dent' hp a
  · refine w.taps' ?_
    split
    · exact Nat.lt_of_le_of_lt Nat.and_le_left ht
    · exact Nat.or_lt_two_pow ht hp2
theorem hW_0 {h : Hs} {p q v : Nat} : hW h p q v 0 = h 0 := by
  unfold hW
  split
  · exact uH_ne (by omega)
  · split
    · exact uH_ne (by omega)
    · exact uH_ne (by omega)
section WHO
variable {σ : St}
theorem x_suppose {h : Hs} {f o : Nat → Int32} {p q v : Nat} (c : CR f h) (w : WF h) (hp : p < 7) (ok : okv q v) : ∃ f', F_X2_suppose (nI p) (nI q) (nI v) (st2 12 σ f o) = some (st2 12 σ f' o) ∧ CR f' (hW h p q v) := by
  have h7 := w.taps
  have p2 := p2lt hp
  unfold F_X2_suppose hW
  rcases ok with ⟨rfl, a, b⟩ | ⟨rfl, a⟩ | ⟨rfl, a⟩
  · refine ⟨upd f (5 + p) (nI v), ?_, c.upd _ _⟩
    simp (disch := omega) only [ixN, clN, nI_add, pk_mul, subN, divN, remN, leN, ltN, eqN, le0N, eq0N, lt0N, ge0N, gt0N, if_pos, if_neg, if_true, if_false, Option.bind_some, shrN, shlN, andN1, nI_or, andm1, modS, true_or, or_true, T_A]
  · refine ⟨upd f (33 + p) (nI v), ?_, c.upd _ _⟩
    simp (disch := omega) only [ixN, clN, nI_add, pk_mul, subN, divN, remN, leN, ltN, eqN, le0N, eq0N, lt0N, ge0N, gt0N, if_pos, if_neg, if_true, if_false, Option.bind_some, shrN, shlN, andN1, nI_or, andm1, modS, true_or, or_true, T_A]
  · refine ⟨upd f 3 (nI (if v = 0 then h 3 &&& (127 ^^^ 2 ^ p) else h 3 ||| 2 ^ p)), ?_, c.upd _ _⟩
    obtain rfl | rfl : v = 0 ∨ v = 1 := by omega
    · have z : nI 0 <<< (nI p &&& 31) = nI 0 := by
        obtain rfl | rfl | rfl | rfl | rfl | rfl | rfl : p = 0 ∨ p = 1 ∨ p = 2 ∨ p = 3 ∨ p = 4 ∨ p = 5 ∨ p = 6 := by omega
        all_goals rfl
      simp (disch := omega) only [ixN, clN, nI_add, pk_mul, subN, divN, remN, leN, ltN, eqN, le0N, eq0N, lt0N, ge0N, gt0N, if_pos, if_neg, if_true, if_false, Option.bind_some, shrN, shlN, andN1, nI_or, andm1, modS, true_or, or_true, T_A, T_a, c 3 (by omega), andnot, z, Nat.or_zero]
    · simp (disch := omega) only [ixN, clN, nI_add, pk_mul, subN, divN, remN, leN, ltN, eqN, le0N, eq0N, lt0N, ge0N, gt0N, if_pos, if_neg, if_true, if_false, Option.bind_some, shrN, shlN, andN1, nI_or, andm1, modS, true_or, or_true, T_A, T_a, c 3 (by omega), andnot, orput]
theorem x_who {k p q j s t top : Nat} {h : Hs} (hk : k ≠ 13 ∧ k ≠ 14) (hj : j < 6) (hp : p < h 2) (hst : s + t ≤ 40) (c0 : CR (σ.1 10) h) (w : WF h) (ht9 : top ≤ 9) : ∀ (mm N v acc : Nat) (f o : Nat → Int32), v + mm = top + 1 → mm < N → (∀ v', v ≤ v' → v' ≤ top → okv q v') → ∃ f' o', ∀ K, L_X2_whatFits_39 k K N (nI p) (nI q) (nI j) (nI s) (nI t) (nI top) (nI acc) (nI v) (st2 12 σ f o) = K (nI (fw h p q j (fun i => σ.1 k (s + i)) t mm acc v)) (st2 12 σ f' o') := by
  intro mm
  have h7 := w.2.2.1
  induction mm with
  | zero =>
    intro N v acc f o hv hN ok
    obtain ⟨N, rfl⟩ : ∃ n', N = n' + 1 := ⟨N - 1, by omega⟩
    refine ⟨f, o, fun K => ?_⟩
    rw [L_X2_whatFits_39.eq_2, if_pos (nI_lt (by omega) (by omega))]
    rfl
  | succ mm ih =>
    intro N v acc f o hv hN ok
    obtain ⟨N, rfl⟩ : ∃ n', N = n' + 1 := ⟨N - 1, by omega⟩
    have okn := ok v (by omega) (by omega)
    obtain ⟨f1, e1, c1⟩ := x_begin (σ := σ) (f := f) (o := o) c0
    obtain ⟨f2, e2, c2⟩ := x_suppose (σ := σ) (o := o) c1 w (show p < 7 by omega) okn
    obtain ⟨f3, o3, e3⟩ := x_told0 (σ := σ) (o := o) hk hj hst c2 (hW_wf w hp okn)
    obtain ⟨f4, o4, l⟩ := ih N (v + 1) (if ht j (fun i => σ.1 k (s + i)) t (hW h p q v) 0 then acc ||| 2 ^ v else acc) f3 o3 (by omega) (by omega) (fun v' h1 h2 => ok v' (by omega) h2)
    refine ⟨f4, o4, fun K => ?_⟩
    rw [L_X2_whatFits_39.eq_2]
    by_cases z : ht j (fun i => σ.1 k (s + i)) t (hW h p q v) 0 = true
    · have l := l K
      rw [if_pos z] at e3 l
      rw [fw, if_pos z, ← l]
      simp (disch := omega) only [ixN, clN, nI_add, pk_mul, subN, divN, remN, leN, ltN, eqN, le0N, eq0N, lt0N, ge0N, gt0N, if_pos, if_neg, if_true, if_false, Option.bind_some, shrN, shlN, andN1, nI_or, andm1, modS, true_or, or_true, e1, e2, e3]
    · have l := l K
      rw [if_neg z] at e3 l
      rw [fw, if_neg z, ← l]
      simp (disch := omega) only [ixN, clN, nI_add, pk_mul, subN, divN, remN, leN, ltN, eqN, le0N, eq0N, lt0N, ge0N, gt0N, if_pos, if_neg, if_true, if_false, Option.bind_some, shrN, shlN, andN1, nI_or, andm1, modS, true_or, or_true, e1, e2, e3]
theorem m_who1 {k p q j s t top v acc : Nat} {h : Hs} {g e : Nat → Int32} (hk : k ≤ 7) (hj : j < h 0) (hp : p < h 2) (hst : s + t ≤ 40) (c0 : MR (σ.1 29) h) (w : WF h) (hv : v ≤ top) (ht9 : top ≤ 9) (ok : okv q v) : ∃ g' e', ∀ K91 K224, J_X8_who_112 K91 K224 (nI p) (nI q) (nI j) (nI k) (nI s) (nI t) (nI acc) (nI v) (nI top) (nI v) (st3 31 σ g e) = K91 (nI p) (nI q) (nI j) (nI k) (nI s) (nI t) (nI (if ht j (fun i => σ.1 28 (40 * k + s + i)) t (hW h p q v) 0 then acc ||| 2 ^ v else acc)) (nI (v + 1)) (st3 31 σ g' e') := by
  have h7 := w.2.2.1
  have h6 := w.1
  have hw := hW_wf w hp ok
  have ht3 := w.taps
  have p2 := p2lt (show p < 7 by omega)
  obtain ⟨g1, e1, c1⟩ := m_lay (σ := σ) (g := g) (e := e) c0
  have fin : ∀ g2, MR g2 (hW h p q v) → ∃ g' e', ∀ K91, J_X8_who_187 K91 (nI p) (nI q) (nI j) (nI k) (nI s) (nI t) (nI acc) (nI v) (st3 31 σ g2 e) = K91 (nI p) (nI q) (nI j) (nI k) (nI s) (nI t) (nI (if ht j (fun i => σ.1 28 (40 * k + s + i)) t (hW h p q v) 0 then acc ||| 2 ^ v else acc)) (nI (v + 1)) (st3 31 σ g' e') := fun g2 c2 => by
    obtain ⟨g3, o3, e3⟩ := m_told0 (σ := σ) (e := e) (b := 40 * k + s) (j := j) (t := t) (by omega) (by omega) (by omega) (by rw [hW_0]; exact hj) c2 hw
    refine ⟨g3, o3, fun K91 => ?_⟩
    unfold J_X8_who_187
    by_cases z : ht j (fun i => σ.1 28 (40 * k + s + i)) t (hW h p q v) 0 = true
    · rw [if_pos z] at e3 ⊢
      simp (disch := omega) only [ixN, clN, nI_add, pk_mul, subN, divN, remN, leN, ltN, eqN, le0N, eq0N, lt0N, ge0N, gt0N, if_pos, if_neg, if_true, if_false, Option.bind_some, shrN, shlN, andN1, nI_or, andm1, modS, true_or, or_true, e3]
    · rw [if_neg z] at e3 ⊢
      simp (disch := omega) only [ixN, clN, nI_add, pk_mul, subN, divN, remN, leN, ltN, eqN, le0N, eq0N, lt0N, ge0N, gt0N, if_pos, if_neg, if_true, if_false, Option.bind_some, shrN, shlN, andN1, nI_or, andm1, modS, true_or, or_true, e3, Nat.or_zero]
  have up : ∃ g2, MR g2 (hW h p q v) ∧ ∀ K91 K224, J_X8_who_112 K91 K224 (nI p) (nI q) (nI j) (nI k) (nI s) (nI t) (nI acc) (nI v) (nI top) (nI v) (st3 31 σ g e) = J_X8_who_187 (fun a1 a2 a3 a4 a5 a6 a8 a9 σ => K91 a1 a2 a3 a4 a5 a6 a8 a9 σ) (nI p) (nI q) (nI j) (nI k) (nI s) (nI t) (nI acc) (nI v) (st3 31 σ g2 e) := by
    unfold J_X8_who_112 J_X8_who_183 J_X8_who_159 hW
    rcases ok with ⟨rfl, a, b⟩ | ⟨rfl, a⟩ | ⟨rfl, a⟩
    · refine ⟨upd g1 (17 + 9 * p + 0) (nI v), c1.upd v (by omega) (pmK p (by omega)), fun K91 K224 => ?_⟩
      simp (disch := omega) only [ixN, clN, nI_add, pk_mul, subN, divN, remN, leN, ltN, eqN, le0N, eq0N, lt0N, ge0N, gt0N, if_pos, if_neg, if_true, if_false, Option.bind_some, shrN, shlN, andN1, nI_or, andm1, modS, true_or, or_true, e1, U_A, Nat.add_zero]
    · refine ⟨upd g1 (17 + 9 * p + 4) (nI v), c1.upd v (by omega) (pmD p (by omega)), fun K91 K224 => ?_⟩
      simp (disch := omega) only [ixN, clN, nI_add, pk_mul, subN, divN, remN, leN, ltN, eqN, le0N, eq0N, lt0N, ge0N, gt0N, if_pos, if_neg, if_true, if_false, Option.bind_some, shrN, shlN, andN1, nI_or, andm1, modS, true_or, or_true, e1, U_A]
    · refine ⟨upd g1 4 (nI (if v = 0 then h 3 &&& (127 ^^^ 2 ^ p) else h 3 ||| 2 ^ p)), c1.upd (i := 3) _ (by omega) rfl, fun K91 K224 => ?_⟩
      obtain rfl | rfl : v = 0 ∨ v = 1 := by omega
      · simp (disch := omega) only [ixN, clN, nI_add, pk_mul, subN, divN, remN, leN, ltN, eqN, le0N, eq0N, lt0N, ge0N, gt0N, if_pos, if_neg, if_true, if_false, Option.bind_some, shrN, shlN, andN1, nI_or, andm1, modS, true_or, or_true, e1, U_A, U_a, c1.a3, andnot]
      · simp (disch := omega) only [ixN, clN, nI_add, pk_mul, subN, divN, remN, leN, ltN, eqN, le0N, eq0N, lt0N, ge0N, gt0N, if_pos, if_neg, if_true, if_false, Option.bind_some, shrN, shlN, andN1, nI_or, andm1, modS, true_or, or_true, e1, U_A, U_a, c1.a3]
  obtain ⟨g2, c2, up⟩ := up
  obtain ⟨g3, e3, l3⟩ := fin g2 c2
  exact ⟨g3, e3, fun K91 K224 => by rw [up, l3]⟩
theorem m_who {k p q j s t top : Nat} {h : Hs} (hk : k ≤ 7) (hj : j < h 0) (hp : p < h 2) (hst : s + t ≤ 40) (c0 : MR (σ.1 29) h) (w : WF h) (htop : (q = 0 ∧ top = 5) ∨ (q = 1 ∧ top = 9) ∨ (q = 2 ∧ top = 1)) : ∀ (mm N v acc : Nat) (g e : Nat → Int32), v + mm = top + 1 → mm < N → (∀ v', v ≤ v' → v' ≤ top → okv q v') → ∃ g' e', ∀ K, L_X8_who_91 K N (nI p) (nI q) (nI j) (nI k) (nI s) (nI t) (nI acc) (nI v) (st3 31 σ g e) = K (nI (fw h p q j (fun i => σ.1 28 (40 * k + s + i)) t mm acc v)) (st3 31 σ g' e') := by
  intro mm
  have h7 := w.2.2.1
  have ent : ∀ (N : Nat) (acc v : Nat) (τ : St) K, L_X8_who_91 K (N + 1) (nI p) (nI q) (nI j) (nI k) (nI s) (nI t) (nI acc) (nI v) τ = J_X8_who_112 (fun a1 a2 a3 a4 a5 a6 a8 a9 σ => L_X8_who_91 K N a1 a2 a3 a4 a5 a6 a8 a9 σ) (fun a8 σ => K a8 σ) (nI p) (nI q) (nI j) (nI k) (nI s) (nI t) (nI acc) (nI v) (nI top) (nI v) τ := fun N acc v τ K => by
    rw [L_X8_who_91.eq_2]
    rcases htop with ⟨rfl, rfl⟩ | ⟨rfl, rfl⟩ | ⟨rfl, rfl⟩
    · rw [if_pos (show nI 0 = 0 by decide)]
    · rw [if_neg (show ¬ nI 1 = 0 by decide), if_pos rfl]
    · rw [if_neg (show ¬ nI 2 = 0 by decide), if_neg (show ¬ nI 2 = nI 1 by decide)]
  induction mm with
  | zero =>
    intro N v acc g e hv hN ok
    obtain ⟨N, rfl⟩ : ∃ n', N = n' + 1 := ⟨N - 1, by omega⟩
    refine ⟨g, e, fun K => ?_⟩
    rw [ent]
    unfold J_X8_who_112
    rw [if_pos (nI_lt (by omega) (by omega))]
    rfl
  | succ mm ih =>
    intro N v acc g e hv hN ok
    obtain ⟨N, rfl⟩ : ∃ n', N = n' + 1 := ⟨N - 1, by omega⟩
    obtain ⟨g1, e1, l1⟩ := m_who1 (σ := σ) (g := g) (e := e) (acc := acc) (top := top) hk hj hp hst c0 w (show v ≤ top by omega) (by omega) (ok v (by omega) (by omega))
    obtain ⟨g2, e2, l2⟩ := ih N (v + 1) (if ht j (fun i => σ.1 28 (40 * k + s + i)) t (hW h p q v) 0 then acc ||| 2 ^ v else acc) g1 e1 (by omega) (by omega) (fun v' h1 h2 => ok v' (by omega) h2)
    refine ⟨g2, e2, fun K => ?_⟩
    rw [ent, l1, l2]
    rfl
theorem e_who (i : Inv σ) (pp qq x z u v : Int32) : Ag (F_X7_who pp qq x z u v σ) (F_X8_who pp qq x z u v) := by
  obtain ⟨⟨h, c, m, w, b⟩, -⟩ := id i
  have hH := w.1
  have hP := w.2.2.1
  have hf := fuel_ge
  by_cases q0 : pp < 0 ∨ nI (h 2) ≤ pp
  · refine Ag.q i (-1000001) σ ?_ (Scr.rf σ) (fun τ s => ⟨setF τ 8 (nI 0), ?_, scr8 s⟩)
    · unfold F_X7_who
      rw [c_isPipe0 c w q0, bt0]
    · unfold F_X8_who
      rw [m_isPipe0 (mr8 m s) w q0, bt0]
  by_cases q2 : qq < nI 0 ∨ nI 2 < qq
  · refine Ag.q i (-1000001) σ ?_ (Scr.rf σ) (fun τ s => ⟨setF τ 8 (nI 0), ?_, scr8 s⟩)
    · unfold F_X7_who
      rw [c_isPipe1 c w q0, bt1, c_within0 q2, bt0]
    · unfold F_X8_who
      rw [m_isPipe1 (mr8 m s) w q0, bt1, m_in0 q2 (by omega) (by omega), bt0]
  by_cases q1 : x < 0 ∨ nI (h 0) ≤ x
  · refine Ag.q i (-1000001) σ ?_ (Scr.rf σ) (fun τ s => ⟨setF τ 8 (nI 0), ?_, scr8 s⟩)
    · unfold F_X7_who
      rw [c_isPipe1 c w q0, bt1, c_within1 q2, bt1, c_isHorn0 c w q1, bt0]
    · unfold F_X8_who
      rw [m_isPipe1 (mr8 m s) w q0, bt1, m_in1 q2 (by omega) (by omega), bt1, m_isHorn0 (mr8 m s) w q1, bt0]
  by_cases q3 : z < nI 0 ∨ nI 7 < z
  · refine Ag.q i (-1000001) σ ?_ (Scr.rf σ) (fun τ s => ⟨setF τ 8 (nI 0), ?_, scr8 s⟩)
    · unfold F_X7_who
      rw [c_isPipe1 c w q0, bt1, c_within1 q2, bt1, c_isHorn1 c w q1, bt1, c_isRow0 q3, bt0]
    · unfold F_X8_who
      rw [m_isPipe1 (mr8 m s) w q0, bt1, m_in1 q2 (by omega) (by omega), bt1, m_isHorn1 (mr8 m s) w q1, bt1, m_isRow0 q3, bt0]
  obtain ⟨k, -, hk, rfl⟩ := in_N (by omega) (by omega) q3
  by_cases q4 : v < nI 1 ∨ nI 12 < v
  · refine Ag.q i (-1000001) σ ?_ (Scr.rf σ) (fun τ s => ⟨setF τ 8 (nI 0), ?_, scr8 s⟩)
    · unfold F_X7_who
      rw [c_isPipe1 c w q0, bt1, c_within1 q2, bt1, c_isHorn1 c w q1, bt1, c_isRow1 hk, bt1, c_within0 q4, bt0]
    · unfold F_X8_who
      rw [m_isPipe1 (mr8 m s) w q0, bt1, m_in1 q2 (by omega) (by omega), bt1, m_isHorn1 (mr8 m s) w q1, bt1, m_isRow1 hk, bt1, m_in0 q4 (by omega) (by omega), bt0]
  obtain ⟨t, ht1, ht2, rfl⟩ := in_N (by omega) (by omega) q4
  have m8 : ∀ τ : St, τ.1 29 = σ.1 29 → MR ((setF τ 8 (nI 0)).1 29) h := fun τ e => by rw [setF_1, e]; exact m
  have n1 : ¬ ((-1000010 : Int32) - nI 1) = 0 := by decide
  have n2 : ¬ ((-1000010 : Int32) - nI 2) = 0 := by decide
  rcases i.2.1 k (by omega) with ⟨a, b26⟩ | ⟨n, l, hn, hl, a, b27, c20, d26, e28⟩
  · refine FB' (w := 1) i ?_ ?_
    · unfold F_X7_who
      rw [c_isPipe1 c w q0, bt1, c_within1 q2, bt1, c_isHorn1 c w q1, bt1, c_isRow1 hk, bt1, c_within1 q4, bt1, c_miss1 hk a, bt1]
      rfl
    · unfold F_X8_who
      rw [m_isPipe1 (m8 (setF σ 0 (nI 1)) rfl) w q0, bt1, m_in1 q2 (by omega) (by omega), bt1, m_isHorn1 (m8 (setF σ 0 (nI 1)) rfl) w q1, bt1, m_isRow1 hk, bt1, m_in1 q4 (by omega) (by omega), bt1, m_rowF1 hk (by exact b26), Option.bind_some]
      exact if_neg n1
  by_cases ok : ∃ s t', u = nI s ∧ nI t = nI t' ∧ s + t' ≤ n
  · obtain ⟨j, hj, rfl⟩ := in_H (by omega) q1
    obtain ⟨p, hp, rfl⟩ := in_H (by omega) q0
    obtain ⟨q, -, hq, rfl⟩ := in_N (by omega) (by omega) q2
    obtain ⟨s, t', rfl, et, hst⟩ := ok
    obtain rfl : t = t' := (eqN (by omega) (by omega)).mp et
    have k38 : (38 + k) ≠ 13 ∧ (38 + k) ≠ 14 := by omega
    obtain ⟨top, lo, htl⟩ : ∃ top lo, (q = 0 ∧ top = 5 ∧ lo = 1) ∨ (q = 1 ∧ top = 9 ∧ lo = 0) ∨ (q = 2 ∧ top = 1 ∧ lo = 0) := by
      obtain rfl | rfl | rfl : q = 0 ∨ q = 1 ∨ q = 2 := by omega
      · exact ⟨5, 1, by omega⟩
      · exact ⟨9, 0, by omega⟩
      · exact ⟨1, 0, by omega⟩
    have okr : ∀ v', lo ≤ v' → v' ≤ top → okv q v' := fun v' h1 h2 => by unfold okv; omega
    obtain ⟨f3, o3, l3⟩ := x_who (σ := sn σ) (k := 38 + k) (p := p) (q := q) (j := j) (s := s) (t := t) (top := top) k38 (by omega) hp (by omega) (sn_10 c) w (by omega) (top + 1 - lo) fuel lo 0 ((sn σ).1 13) ((sn σ).1 14) (by omega) (by omega) okr
    rw [etaT] at l3
    have V7 : ∀ i, i < t → (sn σ).1 (38 + k) (s + i) = σ.1 28 (40 * k + s + i) := fun i hi => by
      rw [(sn_scr σ).1 (38 + k) (nsc (by omega)), e28 _ (by omega), show 40 * k + (s + i) = 40 * k + s + i by omega]
    have cls : F_X7_who (nI p) (nI q) (nI j) (nI k) (nI s) (nI t) σ = some (nI (fw h p q j (fun i => σ.1 28 (40 * k + s + i)) t (top + 1 - lo) 0 lo), setF (st2 12 (sn σ) f3 o3) 0 (nI 0)) := by
      unfold F_X7_who
      rw [c_isPipe1 c w q0, bt1, c_within1 q2, bt1, c_isHorn1 c w q1, bt1, c_isRow1 hk, bt1, c_within1 q4, bt1, c_miss0 hk a hn, bt0, c_str1 hk a hn hst, bt1]
      have hsp : F_X2_whatFits (nI p) (nI q) (nI j) (38 + k) (nI s) (nI t) (sn σ) = some (nI (fw h p q j (fun i => (sn σ).1 (38 + k) (s + i)) t (top + 1 - lo) 0 lo), st2 12 (sn σ) f3 o3) := by
        unfold F_X2_whatFits J_X2_whatFits_9
        rw [← l3 (fun a9 σ => some (a9, σ))]
        rcases htl with ⟨rfl, rfl, rfl⟩ | ⟨rfl, rfl, rfl⟩ | ⟨rfl, rfl, rfl⟩
        · rw [if_pos (show nI 0 = 0 by decide), if_pos (show nI 0 = 0 by decide)]
        · rw [if_neg (show ¬ nI 1 = 0 by decide), if_neg (show ¬ nI 1 = 0 by decide), if_pos rfl]
        · rw [if_neg (show ¬ nI 2 = 0 by decide), if_neg (show ¬ nI 2 = 0 by decide), if_neg (show ¬ nI 2 = nI 1 by decide)]
      show (F_X7_seen σ).bind _ = _
      rw [c_seen, Option.bind_some, if_pos ((ixN (by omega)).mpr (by omega)), clN (by omega), hsp, fw_congr V7]
      rfl
    refine Ag.f i _ (st2 12 (sn σ) f3 o3) cls ((sn_scr σ).T f3 o3) ?_
    let υ0 : St := setF (setF (setF (st2 12 (sn σ) f3 o3) 0 (nI 0)) 8 (nI 0)) 9 (nI 0)
    have sc : ∀ k, k ∉ scA → υ0.1 k = σ.1 k := fun k hk => ((sn_scr σ).T f3 o3).1 k hk
    have mu : MR (υ0.1 29) h := by rw [sc 29 (nsc (by omega))]; exact m
    obtain ⟨g6, o6, l6⟩ := m_who (σ := υ0) (k := k) (p := p) (q := q) (j := j) (s := s) (t := t) (top := top) hk hj hp (by omega) mu w (by omega) (top + 1 - lo) fuel lo 0 (υ0.1 31) (υ0.1 34) (by omega) (by omega) okr
    rw [etaU] at l6
    refine ⟨st3 31 υ0 g6 o6, ?_, (Scr.rf υ0).U g6 o6⟩
    have s28 : υ0.1 28 = σ.1 28 := sc 28 (nsc (by omega))
    have s26 : (setF (setF (st2 12 (sn σ) f3 o3) 0 (nI 0)) 8 (nI 0)).1 26 k = nI l := by
      have := sc 26 (nsc (by omega))
      rw [← d26, ← this]; rfl
    have s27 : (setF (setF (st2 12 (sn σ) f3 o3) 0 (nI 0)) 8 (nI 0)).1 27 k = nI n := by
      have := sc 27 (nsc (by omega))
      rw [← b27, ← this]; rfl
    have mv : MR ((setF (setF (st2 12 (sn σ) f3 o3) 0 (nI 0)) 8 (nI 0)).1 29) h := mu
    unfold F_X8_who
    rw [m_isPipe1 mv w q0, bt1, m_in1 q2 (by omega) (by omega), bt1, m_isHorn1 mv w q1, bt1, m_isRow1 hk, bt1, m_in1 q4 (by omega) (by omega), bt1, m_rowF0 hk hl hn s26 s27 hst, bt0]
    rw [← s28, ← l6 (fun a8 σ => some (a8, σ))]
    rcases htl with ⟨rfl, rfl, rfl⟩ | ⟨rfl, rfl, rfl⟩ | ⟨rfl, rfl, rfl⟩
    · rw [if_pos (show nI 0 = 0 by decide)]
    · rw [if_neg (show ¬ nI 1 = 0 by decide)]
    · rw [if_neg (show ¬ nI 2 = 0 by decide)]
  · refine FB' (w := 2) i ?_ ?_
    · unfold F_X7_who
      rw [c_isPipe1 c w q0, bt1, c_within1 q2, bt1, c_isHorn1 c w q1, bt1, c_isRow1 hk, bt1, c_within1 q4, bt1, c_miss0 hk a hn, bt0, c_str0 hk a hn ok, bt0]
      rfl
    · unfold F_X8_who
      rw [m_isPipe1 (m8 (setF σ 0 (nI 2)) rfl) w q0, bt1, m_in1 q2 (by omega) (by omega), bt1, m_isHorn1 (m8 (setF σ 0 (nI 2)) rfl) w q1, bt1, m_isRow1 hk, bt1, m_in1 q4 (by omega) (by omega), bt1, m_rowF2 hk hl hn (by exact d26) (by exact b27) ht2 ok, Option.bind_some]
      exact if_neg n2
end WHO
