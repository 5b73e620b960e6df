/-! way -/
def nx (h : Hs) (s : Nat) : Nat → Nat
  | 0 => 0
  | P + 1 => if h 3 / 2 ^ P % 2 = 1 ∧ s / 2 ^ h (12 + P) % 2 = 1 then nx h s P ||| 2 ^ h (19 + P) else nx h s P
def ex (h : Hs) (s : Nat) : Nat := s ||| nx h s (h 2)
def itx (h : Hs) : Nat → Nat → Nat
  | 0, s => s
  | m + 1, s => ex h (itx h m s)
def wy (h : Hs) (t : Nat) : Nat → Nat → Nat → Int32
  | 0, _, _ => -1000000
  | m + 1, s, i => if s / 2 ^ t % 2 = 1 then nI i else wy h t m (ex h s) (i + 1)
theorem itx_sh (h : Hs) : ∀ m s, itx h m (ex h s) = itx h (m + 1) s := by
  intro m
  induction m with
  | zero => intro s; rfl
  | succ m ih => intro s; show ex h (itx h m (ex h s)) = _; rw [ih]; rfl
theorem wy_s (h : Hs) (t : Nat) : ∀ m s i, (itx h m s / 2 ^ t % 2 = 1 → ∃ k, k < m ∧ itx h k s / 2 ^ t % 2 = 1) → wy h t (m + 1) s i = wy h t m s i := by
  intro m
  induction m with
  | zero =>
    intro s i e
    exact if_neg (fun z => by obtain ⟨k, hk, -⟩ := e z; omega)
  | succ m ih =>
    intro s i e
    show (if s / 2 ^ t % 2 = 1 then nI i else wy h t (m + 1) (ex h s) (i + 1)) = (if s / 2 ^ t % 2 = 1 then nI i else wy h t m (ex h s) (i + 1))
    by_cases z : s / 2 ^ t % 2 = 1
    · rw [if_pos z, if_pos z]
    · rw [if_neg z, if_neg z]
      refine ih (ex h s) (i + 1) (fun y => ?_)
      rw [itx_sh] at y
      obtain ⟨k, hk, hb⟩ := e y
      cases k with
      | zero => exact absurd hb z
      | succ k => exact ⟨k, by omega, by rw [itx_sh]; exact hb⟩
theorem nx_lt {h : Hs} (w : WF h) (s : Nat) : ∀ P, P ≤ h 2 → nx h s P < 64 := by
  intro P
  induction P with
  | zero => intro _; exact (show 0 < 64 by decide)
  | succ P ih =>
    intro hP
    have h6 := w.1
    have ht := (w.2.2.2.2.1 P (by omega)).2.2.1
    have : 2 ^ h (19 + P) < 2 ^ 6 := Nat.pow_lt_pow_right (by decide) (by omega)
    rw [nx]
    split
    · exact Nat.or_lt_two_pow (n := 6) (ih (by omega)) this
    · exact ih (by omega)
theorem ex_lt {h : Hs} (w : WF h) {s : Nat} (hs : s < 64) : ex h s < 64 := Nat.or_lt_two_pow (n := 6) hs (nx_lt w s _ (Nat.le_refl _))
def pc6 (a : Nat) : Nat := a % 2 + a / 2 % 2 + a / 4 % 2 + a / 8 % 2 + a / 16 % 2 + a / 32 % 2
set_option maxRecDepth 100000 in
theorem pc_up : ∀ a, a < 64 → ∀ b, b < 64 → (a ||| b = a ∨ pc6 a + 1 ≤ pc6 (a ||| b)) := by decide +kernel
theorem pc_le (a : Nat) : pc6 a ≤ 6 := by unfold pc6; omega
theorem itx_lt {h : Hs} (w : WF h) {s : Nat} (hs : s < 64) : ∀ m, itx h m s < 64 := by
  intro m
  induction m with
  | zero => exact hs
  | succ m ih => exact ex_lt w ih
theorem itx_up {h : Hs} (w : WF h) {s : Nat} (hs : s < 64) (hp : 1 ≤ pc6 s) : ∀ m, itx h (m + 1) s = itx h m s ∨ m + 2 ≤ pc6 (itx h (m + 1) s) := by
  intro m
  induction m with
  | zero =>
    rcases pc_up s hs (nx h s (h 2)) (nx_lt w s _ (Nat.le_refl _)) with e | e
    · exact Or.inl e
    · right; show 2 ≤ pc6 (s ||| nx h s (h 2)); omega
  | succ m ih =>
    rcases ih with e | e
    · left; show ex h (itx h (m + 1) s) = ex h (itx h m s); rw [e]
    · have hl := itx_lt w hs (m + 1)
      rcases pc_up _ hl (nx h (itx h (m + 1) s) (h 2)) (nx_lt w _ _ (Nat.le_refl _)) with e2 | e2
      · exact Or.inl e2
      · right; show m + 3 ≤ pc6 (itx h (m + 1) s ||| nx h (itx h (m + 1) s) (h 2)); omega
theorem itx_6 {h : Hs} (w : WF h) {s : Nat} (hs : s < 64) (hp : 1 ≤ pc6 s) : itx h 6 s = itx h 5 s := by
  rcases itx_up w hs hp 5 with e | e
  · exact e
  · have := pc_le (itx h (5 + 1) s)
    omega
theorem wy_67 {h : Hs} (w : WF h) {s : Nat} (hs : s < 64) (hp : 1 ≤ pc6 s) (t i : Nat) : wy h t 7 s i = wy h t 6 s i := wy_s h t 6 s i (fun z => ⟨5, by omega, by rw [← itx_6 w hs hp]; exact z⟩)
section WAY
variable {σ : St} {h : Hs}
theorem x_next (c : CR (σ.1 10) h) (w : WF h) {s : Nat} (hs : s < 64) : F_X2_nextTo (nI s) σ = some (nI (nx h s (h 2)), σ) := by
  unfold F_X2_nextTo
  have h7 := w.2.2.1
  have h6 := w.1
  have hf := fuel_ge
  have op : ∀ p, p < 7 → F_X4_isOpen 9 (nI p) σ = some (if h 3 / 2 ^ p % 2 = 1 then nI 1 else nI 0, σ) := fun p hp => by
    have := n_isOpen (r := 9) (σ := σ) (f := σ.1 10) (o := σ.1 11) c w hp
    rwa [st2_eta 9 σ] at this
  have L : ∀ (mm N p : Nat), p + mm = h 2 → mm < N → ∀ K, L_X2_nextTo_4 K N (nI s) (nI (nx h s p)) (nI p) σ = K (nI (nx h s (h 2))) σ := by
    intro mm
    induction mm with
    | zero =>
      intro N p hp hN K
      obtain ⟨N, rfl⟩ : ∃ n', N = n' + 1 := ⟨N - 1, by omega⟩
      rw [L_X2_nextTo_4.eq_2]
      simp (disch := omega) only [ixN, clN, nI_add, pk_mul, subN, divN, remN, leN, ltN, eqN, le0N, eq0N, lt0N, ge0N, gt0N, if_pos, if_neg, if_true, if_false, Option.bind_some, shrN, shlN, andN1, nI_or, andm1, modS, true_or, or_true, c 2 (by omega)]
      rw [show p = h 2 by omega]
    | succ mm ih =>
      intro N p hp hN K
      obtain ⟨N, rfl⟩ : ∃ n', N = n' + 1 := ⟨N - 1, by omega⟩
      have hi := ih N (p + 1) (by omega) (by omega) K
      rw [nx] at hi
      rw [L_X2_nextTo_4.eq_2, ← hi]
      have hF := (w.2.2.2.2.1 p (by omega)).2.1
      have hT := (w.2.2.2.2.1 p (by omega)).2.2.1
      have dv : s / 2 ^ h (12 + p) ≤ s := Nat.div_le_self _ _
      by_cases z1 : h 3 / 2 ^ p % 2 = 1
      · by_cases z2 : s / 2 ^ h (12 + p) % 2 = 1
        · rw [if_pos (show h 3 / 2 ^ p % 2 = 1 ∧ s / 2 ^ h (12 + p) % 2 = 1 from ⟨z1, z2⟩)]
          simp (disch := omega) only [ixN, clN, nI_add, pk_mul, subN, divN, remN, leN, ltN, eqN, le0N, eq0N, lt0N, ge0N, gt0N, if_pos, if_neg, if_true, if_false, Option.bind_some, shrN, shlN, andN1, nI_or, andm1, modS, true_or, or_true, c 2 (by omega), op p (by omega), z1, c (12 + p) (by omega), c (19 + p) (by omega), z2]
        · rw [if_neg (show ¬ (h 3 / 2 ^ p % 2 = 1 ∧ s / 2 ^ h (12 + p) % 2 = 1) from fun z => z2 z.2)]
          simp (disch := omega) only [ixN, clN, nI_add, pk_mul, subN, divN, remN, leN, ltN, eqN, le0N, eq0N, lt0N, ge0N, gt0N, if_pos, if_neg, if_true, if_false, Option.bind_some, shrN, shlN, andN1, nI_or, andm1, modS, true_or, or_true, c 2 (by omega), op p (by omega), z1, c (12 + p) (by omega)]
      · rw [if_neg (show ¬ (h 3 / 2 ^ p % 2 = 1 ∧ s / 2 ^ h (12 + p) % 2 = 1) from fun z => z1 z.1)]
        simp (disch := omega) only [ixN, clN, nI_add, pk_mul, subN, divN, remN, leN, ltN, eqN, le0N, eq0N, lt0N, ge0N, gt0N, if_pos, if_neg, if_true, if_false, Option.bind_some, shrN, shlN, andN1, nI_or, andm1, modS, true_or, or_true, c 2 (by omega), op p (by omega)]
  have l := L (h 2) fuel 0 (by omega) (by omega)
  rw [show nx h s 0 = 0 from rfl] at l
  rw [l]
theorem x_way (c : CR (σ.1 10) h) (w : WF h) {t : Nat} (ht : t < 6) : ∀ (mm N i s : Nat), i + mm = 6 → mm < N → s < 64 → L_X2_fewestPipes_7 (fun σ => some ((-1000000 : Int32), σ)) N (nI t) (nI s) (nI i) σ = some (wy h t mm s i, σ) := by
  intro mm
  induction mm with
  | zero =>
    intro N i s hi hN hs
    obtain ⟨N, rfl⟩ : ∃ n', N = n' + 1 := ⟨N - 1, by omega⟩
    rw [L_X2_fewestPipes_7.eq_2, if_pos (nI_le (by omega) (by omega))]
    rfl
  | succ mm ih =>
    intro N i s hi hN hs
    obtain ⟨N, rfl⟩ : ∃ n', N = n' + 1 := ⟨N - 1, by omega⟩
    have dv : s / 2 ^ t ≤ s := Nat.div_le_self _ _
    rw [L_X2_fewestPipes_7.eq_2, wy]
    by_cases z : s / 2 ^ t % 2 = 1
    · rw [if_pos z]
      simp (disch := omega) only [ixN, clN, nI_add, pk_mul, subN, divN, remN, leN, ltN, eqN, le0N, eq0N, lt0N, ge0N, gt0N, if_pos, if_neg, if_true, if_false, Option.bind_some, shrN, shlN, andN1, nI_or, andm1, modS, true_or, or_true, z]
    · rw [if_neg z, ← ih N (i + 1) (ex h s) (by omega) (by omega) (ex_lt w hs)]
      simp (disch := omega) only [ixN, clN, nI_add, pk_mul, subN, divN, remN, leN, ltN, eqN, le0N, eq0N, lt0N, ge0N, gt0N, if_pos, if_neg, if_true, if_false, Option.bind_some, shrN, shlN, andN1, nI_or, andm1, modS, true_or, or_true, x_next c w hs]
      rfl
theorem m_next (c : MR (σ.1 29) h) (w : WF h) {s : Nat} (hs : s < 64) (a2 a4 : Int32) : ∀ (mm N p : Nat), p + mm = h 2 → mm < N → ∀ K, L_X8_way_55 K N a2 (nI s) a4 (nI (s ||| nx h s p)) (nI p) σ = K a2 a4 (nI (ex h s)) σ := by
  have h7 := w.2.2.1
  have h6 := w.1
  have h3 := w.taps
  intro mm
  induction mm with
  | zero =>
    intro N p hp hN K
    obtain ⟨N, rfl⟩ : ∃ n', N = n' + 1 := ⟨N - 1, by omega⟩
    rw [L_X8_way_55.eq_2]
    simp (disch := omega) only [ixN, clN, nI_add, pk_mul, subN, divN, remN, leN, ltN, eqN, le0N, eq0N, lt0N, ge0N, gt0N, if_pos, if_neg, if_true, if_false, Option.bind_some, shrN, shlN, andN1, nI_or, andm1, modS, true_or, or_true, c.a2]
    rw [show p = h 2 by omega]
    rfl
  | succ mm ih =>
    intro N p hp hN K
    obtain ⟨N, rfl⟩ : ∃ n', N = n' + 1 := ⟨N - 1, by omega⟩
    have hi := ih N (p + 1) (by omega) (by omega) K
    rw [nx] at hi
    rw [L_X8_way_55.eq_2, ← hi]
    have hF := (w.2.2.2.2.1 p (by omega)).2.1
    have hT := (w.2.2.2.2.1 p (by omega)).2.2.1
    by_cases z1 : h 3 / 2 ^ p % 2 = 1
    · by_cases z2 : s / 2 ^ h (12 + p) % 2 = 1
      · rw [if_pos (show h 3 / 2 ^ p % 2 = 1 ∧ s / 2 ^ h (12 + p) % 2 = 1 from ⟨z1, z2⟩), ← Nat.or_assoc]
        simp (disch := omega) only [ixN, clN, nI_add, pk_mul, subN, divN, remN, leN, ltN, eqN, le0N, eq0N, lt0N, ge0N, gt0N, if_pos, if_neg, if_true, if_false, Option.bind_some, shrN, shlN, andN1, nI_or, andm1, modS, true_or, or_true, c.a2, c.a3, m_has, z1, m_of, c.fr (show p < 7 by omega), z2, c.to (show p < 7 by omega)]
      · rw [if_neg (show ¬ (h 3 / 2 ^ p % 2 = 1 ∧ s / 2 ^ h (12 + p) % 2 = 1) from fun z => z2 z.2)]
        simp (disch := omega) only [ixN, clN, nI_add, pk_mul, subN, divN, remN, leN, ltN, eqN, le0N, eq0N, lt0N, ge0N, gt0N, if_pos, if_neg, if_true, if_false, Option.bind_some, shrN, shlN, andN1, nI_or, andm1, modS, true_or, or_true, c.a2, c.a3, m_has, z1, m_of, c.fr (show p < 7 by omega), Nat.or_zero]
    · rw [if_neg (show ¬ (h 3 / 2 ^ p % 2 = 1 ∧ s / 2 ^ h (12 + p) % 2 = 1) from fun z => z1 z.1)]
      simp (disch := omega) only [ixN, clN, nI_add, pk_mul, subN, divN, remN, leN, ltN, eqN, le0N, eq0N, lt0N, ge0N, gt0N, if_pos, if_neg, if_true, if_false, Option.bind_some, shrN, shlN, andN1, nI_or, andm1, modS, true_or, or_true, c.a2, c.a3, m_has, Nat.or_zero]
theorem m_way (c : MR (σ.1 29) h) (w : WF h) {t : Nat} (ht : t < 6) : ∀ (mm N i s : Nat), i + mm = 7 → mm < N → s < 64 → L_X8_way_31 (fun σ => some ((-1000000 : Int32), σ)) N (nI t) (nI s) (nI i) σ = some (wy h t mm s i, σ) := by
  have hf := fuel_ge
  have h7 := w.2.2.1
  intro mm
  induction mm with
  | zero =>
    intro N i s hi hN hs
    obtain ⟨N, rfl⟩ : ∃ n', N = n' + 1 := ⟨N - 1, by omega⟩
    rw [L_X8_way_31.eq_2, if_pos (nI_le (by omega) (by omega))]
    rfl
  | succ mm ih =>
    intro N i s hi hN hs
    obtain ⟨N, rfl⟩ : ∃ n', N = n' + 1 := ⟨N - 1, by omega⟩
    rw [L_X8_way_31.eq_2, wy]
    by_cases z : s / 2 ^ t % 2 = 1
    · rw [if_pos z]
      simp (disch := omega) only [ixN, clN, nI_add, pk_mul, subN, divN, remN, leN, ltN, eqN, le0N, eq0N, lt0N, ge0N, gt0N, if_pos, if_neg, if_true, if_false, Option.bind_some, shrN, shlN, andN1, nI_or, andm1, modS, true_or, or_true, m_has, z]
    · rw [if_neg z, ← ih N (i + 1) (ex h s) (by omega) (by omega) (ex_lt w hs)]
      have l := m_next (σ := σ) c w hs (nI t) (nI i) (h 2) fuel 0 (by omega) (by omega)
      rw [show s ||| nx h s 0 = s from Nat.or_zero s] at l
      simp (disch := omega) only [ixN, clN, nI_add, pk_mul, subN, divN, remN, leN, ltN, eqN, le0N, eq0N, lt0N, ge0N, gt0N, if_pos, if_neg, if_true, if_false, Option.bind_some, shrN, shlN, andN1, nI_or, andm1, modS, true_or, or_true, m_has, l]
theorem e_way (i : Inv σ) (x y : Int32) : Ag (F_X7_way x y σ) (F_X8_way x y) := by
  obtain ⟨⟨h, c, m, w, b⟩, -⟩ := id i
  have hH := w.1
  have hf := fuel_ge
  by_cases q1 : x < 0 ∨ nI (h 0) ≤ x
  · refine Ag.q i (-1000001) σ ?_ (Scr.rf σ) (fun τ s => ⟨setF τ 8 (nI 0), ?_, scr8 s⟩)
    · unfold F_X7_way
      rw [c_isHorn0 c w q1, bt0]
    · unfold F_X8_way
      rw [m_isHorn0 (mr8 m s) w q1, bt0]
  by_cases q2 : y < 0 ∨ nI (h 0) ≤ y
  · refine Ag.q i (-1000001) σ ?_ (Scr.rf σ) (fun τ s => ⟨setF τ 8 (nI 0), ?_, scr8 s⟩)
    · unfold F_X7_way
      rw [c_isHorn1 c w q1, bt1, c_isHorn0 c w q2, bt0]
    · unfold F_X8_way
      rw [m_isHorn1 (mr8 m s) w q1, bt1, m_isHorn0 (mr8 m s) w q2, bt0]
  obtain ⟨j, hj, rfl⟩ := in_H (by omega) q1
  obtain ⟨t, ht, rfl⟩ := in_H (by omega) q2
  have s64 : 2 ^ j < 64 := Nat.lt_of_lt_of_le (Nat.pow_lt_pow_right (a := 2) (by decide) (show j < 6 by omega)) (by decide)
  have s1 : 1 ≤ pc6 (2 ^ j) := by
    have hj6 : j < 6 := by omega
    obtain rfl | rfl | rfl | rfl | rfl | rfl : j = 0 ∨ j = 1 ∨ j = 2 ∨ j = 3 ∨ j = 4 ∨ j = 5 := by omega
    all_goals decide
  refine Ag.q i (wy h t 6 (2 ^ j) 0) (sn σ) ?_ (sn_scr σ) (fun τ s => ⟨setF τ 8 (nI 0), ?_, scr8 s⟩)
  · unfold F_X7_way F_X2_fewestPipes
    rw [c_isHorn1 c w q1, bt1, c_isHorn1 c w q2, bt1]
    show (F_X7_seen σ).bind _ = _
    rw [c_seen, Option.bind_some, shlN (by omega), x_way (σ := sn σ) (sn_10 c) w (by omega) 6 fuel 0 (2 ^ j) (by omega) (by omega) s64]
    rfl
  · unfold F_X8_way
    rw [m_isHorn1 (mr8 m s) w q1, bt1, m_isHorn1 (mr8 m s) w q2, bt1, shlN (by omega)]
    show L_X8_way_31 _ _ _ _ _ (setF τ 8 (nI 0)) = _
    rw [m_way (σ := setF τ 8 (nI 0)) (mr8 m s) w (by omega) 7 fuel 0 (2 ^ j) (by omega) (by omega) s64, wy_67 w s64 s1]
end WAY
