/-! as, ask -/
section KINDS
variable {σ : St}
theorem c_isOne {a b : Nat} (ha : 1 ≤ a ∧ a ≤ 5) (hb : b ≤ 5) (τ : St) : F_X3_isOne (nI a) (nI b) τ = F_X8_isOf (nI a) (nI b) τ := by
  unfold F_X3_isOne
  obtain ⟨N, hN⟩ : ∃ N, fuel = N + 8 := ⟨fuel - 8, by have := fuel_ge; omega⟩
  rw [hN]
  obtain rfl | rfl | rfl | rfl | rfl : a = 1 ∨ a = 2 ∨ a = 3 ∨ a = 4 ∨ a = 5 := by omega
  all_goals obtain rfl | rfl | rfl | rfl | rfl | rfl : b = 0 ∨ b = 1 ∨ b = 2 ∨ b = 3 ∨ b = 4 ∨ b = 5 := by omega
  all_goals rfl
theorem e_as (i : Inv σ) (x y : Int32) : Ag (F_X7_as x y σ) (F_X8_as x y) := by
  obtain ⟨⟨h, c, m, w, b⟩, -⟩ := id i
  have hH := w.2.2.1
  by_cases q1 : x < 0 ∨ nI (h 2) ≤ x
  · refine Ag.q i (-1000001) σ ?_ (Scr.rf σ) (fun τ s => ⟨setF τ 8 (nI 0), ?_, scr8 s⟩)
    · unfold F_X7_as
      simp (disch := omega) only [ixN, clN, nI_add, pk_mul, subN, divN, remN, leN, ltN, eqN, le0N, eq0N, lt0N, ge0N, gt0N, if_pos, if_neg, if_true, if_false, Option.bind_some, shrN, shlN, andN1, nI_or, andm1, modS, true_or, or_true, c_isPipe0 c w q1]
    · unfold F_X8_as
      simp (disch := omega) only [ixN, clN, nI_add, pk_mul, subN, divN, remN, leN, ltN, eqN, le0N, eq0N, lt0N, ge0N, gt0N, if_pos, if_neg, if_true, if_false, Option.bind_some, shrN, shlN, andN1, nI_or, andm1, modS, true_or, or_true, m_isPipe0 (mr8 m s) w q1]
  by_cases q2 : y < nI 0 ∨ nI 5 < y
  · refine Ag.q i (-1000001) σ ?_ (Scr.rf σ) (fun τ s => ⟨setF τ 8 (nI 0), ?_, scr8 s⟩)
    · unfold F_X7_as
      simp (disch := omega) only [ixN, clN, nI_add, pk_mul, subN, divN, remN, leN, ltN, eqN, le0N, eq0N, lt0N, ge0N, gt0N, if_pos, if_neg, if_true, if_false, Option.bind_some, shrN, shlN, andN1, nI_or, andm1, modS, true_or, or_true, c_isPipe1 c w q1, c_within0 q2]
    · unfold F_X8_as
      simp (disch := omega) only [ixN, clN, nI_add, pk_mul, subN, divN, remN, leN, ltN, eqN, le0N, eq0N, lt0N, ge0N, gt0N, if_pos, if_neg, if_true, if_false, Option.bind_some, shrN, shlN, andN1, nI_or, andm1, modS, true_or, or_true, m_isPipe1 (mr8 m s) w q1, m_in0 q2]
  obtain ⟨p, hp, rfl⟩ := in_H (by omega) q1
  obtain ⟨y, -, hy, rfl⟩ := in_N (by omega) (by omega) q2
  have kd := (w.2.2.2.2.1 p hp).1
  have io : ∃ v, v < 2 ∧ ∀ τ, F_X8_isOf (nI (h (5 + p))) (nI y) τ = some (nI v, τ) := by
    unfold F_X8_isOf J_X8_isOf_19
    by_cases y0 : y = 0
    · exact ⟨1, by omega, fun τ => by simp (disch := omega) only [ixN, clN, nI_add, pk_mul, subN, divN, remN, leN, ltN, eqN, le0N, eq0N, lt0N, ge0N, gt0N, if_pos, if_neg, if_true, if_false, Option.bind_some, shrN, shlN, andN1, nI_or, andm1, modS, true_or, or_true, y0]⟩
    by_cases y1 : h (5 + p) = y
    · exact ⟨1, by omega, fun τ => by simp (disch := omega) only [ixN, clN, nI_add, pk_mul, subN, divN, remN, leN, ltN, eqN, le0N, eq0N, lt0N, ge0N, gt0N, if_pos, if_neg, if_true, if_false, Option.bind_some, shrN, shlN, andN1, nI_or, andm1, modS, true_or, or_true]⟩
    by_cases y2 : y = 1
    · by_cases y3 : h (5 + p) < 4
      · exact ⟨1, by omega, fun τ => by simp (disch := omega) only [ixN, clN, nI_add, pk_mul, subN, divN, remN, leN, ltN, eqN, le0N, eq0N, lt0N, ge0N, gt0N, if_pos, if_neg, if_true, if_false, Option.bind_some, shrN, shlN, andN1, nI_or, andm1, modS, true_or, or_true]⟩
      · exact ⟨0, by omega, fun τ => by simp (disch := omega) only [ixN, clN, nI_add, pk_mul, subN, divN, remN, leN, ltN, eqN, le0N, eq0N, lt0N, ge0N, gt0N, if_pos, if_neg, if_true, if_false, Option.bind_some, shrN, shlN, andN1, nI_or, andm1, modS, true_or, or_true]⟩
    by_cases y4 : y = 4
    · by_cases y3 : h (5 + p) = 5
      · exact ⟨1, by omega, fun τ => by simp (disch := omega) only [ixN, clN, nI_add, pk_mul, subN, divN, remN, leN, ltN, eqN, le0N, eq0N, lt0N, ge0N, gt0N, if_pos, if_neg, if_true, if_false, Option.bind_some, shrN, shlN, andN1, nI_or, andm1, modS, true_or, or_true]⟩
      · exact ⟨0, by omega, fun τ => by simp (disch := omega) only [ixN, clN, nI_add, pk_mul, subN, divN, remN, leN, ltN, eqN, le0N, eq0N, lt0N, ge0N, gt0N, if_pos, if_neg, if_true, if_false, Option.bind_some, shrN, shlN, andN1, nI_or, andm1, modS, true_or, or_true]⟩
    · exact ⟨0, by omega, fun τ => by simp (disch := omega) only [ixN, clN, nI_add, pk_mul, subN, divN, remN, leN, ltN, eqN, le0N, eq0N, lt0N, ge0N, gt0N, if_pos, if_neg, if_true, if_false, Option.bind_some, shrN, shlN, andN1, nI_or, andm1, modS, true_or, or_true]⟩
  obtain ⟨v, hv, io⟩ := io
  have m9 : ∀ u, MR ((setF (setF (setF σ 0 u) 8 (nI 0)) 9 (nI 0)).1 29) h := fun _ => m
  have m9' : ∀ u, MR ((setF (setF σ 0 u) 8 (nI 0)).1 29) h := fun _ => m
  by_cases v0 : v = 0
  · subst v0
    refine FB (w := 3) i ?_ ?_
    · unfold F_X7_as F_X7_found
      simp (disch := omega) only [ixN, clN, nI_add, pk_mul, subN, divN, remN, leN, ltN, eqN, le0N, eq0N, lt0N, ge0N, gt0N, if_pos, if_neg, if_true, if_false, Option.bind_some, shrN, shlN, andN1, nI_or, andm1, modS, true_or, or_true, c_isPipe1 c w q1, c_within1 q2, c (5 + p) (by omega), c_isOne kd hy, io]
    · unfold F_X8_as F_X8_finding
      have := (m9 (nI 3)).kd (show p < 7 by omega)
      simp (disch := omega) only [ixN, clN, nI_add, pk_mul, subN, divN, remN, leN, ltN, eqN, le0N, eq0N, lt0N, ge0N, gt0N, if_pos, if_neg, if_true, if_false, Option.bind_some, shrN, shlN, andN1, nI_or, andm1, modS, true_or, or_true, m_isPipe1 (m9' _) w q1, m_in1 q2, m_of, this, io]
  · obtain rfl : v = 1 := by omega
    refine FB0 (r := nI p) (τ := σ) (υ := setF (setF (setF σ 0 (nI 0)) 8 (nI 0)) 9 (nI 0)) i ?_ ?_ rfl rfl (fun j _ _ _ _ _ _ => rfl) (i.2.1.fr (fun _ _ => rfl))
    · unfold F_X7_as F_X7_unfound
      simp (disch := omega) only [ixN, clN, nI_add, pk_mul, subN, divN, remN, leN, ltN, eqN, le0N, eq0N, lt0N, ge0N, gt0N, if_pos, if_neg, if_true, if_false, Option.bind_some, shrN, shlN, andN1, nI_or, andm1, modS, true_or, or_true, c_isPipe1 c w q1, c_within1 q2, c (5 + p) (by omega), c_isOne kd hy, io]
    · unfold F_X8_as
      have := (m9 (nI 0)).kd (show p < 7 by omega)
      simp (disch := omega) only [ixN, clN, nI_add, pk_mul, subN, divN, remN, leN, ltN, eqN, le0N, eq0N, lt0N, ge0N, gt0N, if_pos, if_neg, if_true, if_false, Option.bind_some, shrN, shlN, andN1, nI_or, andm1, modS, true_or, or_true, m_isPipe1 (m9' _) w q1, m_in1 q2, m_of, this, io]
/-! bodies -/
def lvC (v t : Nat) (σ : St) : St := setF (setA σ 24 t (nI v)) 7 (nI (t + 1))
def lvM (v t : Nat) (σ : St) : St := setF (setA σ 37 t (nI v)) 19 (nI (t + 1))
def lvsC : List Nat → Nat → St → St
  | [], _, σ => σ
  | v :: vs, t, σ => lvsC vs (t + 1) (lvC v t σ)
def lvsM : List Nat → Nat → St → St
  | [], _, σ => σ
  | v :: vs, t, σ => lvsM vs (t + 1) (lvM v t σ)
def CS (σ : St) (t : Nat) (h : Hs) : Prop := σ.2 7 = nI t ∧ CR (σ.1 4) h
def MS (σ : St) (t : Nat) (h : Hs) : Prop := σ.2 19 = nI t ∧ MR (σ.1 29) h
theorem CS.lv {t : Nat} {h : Hs} (c : CS σ t h) (v : Nat) : CS (lvC v t σ) (t + 1) h := ⟨setF_get _ _ _, c.2⟩
theorem MS.lv {t : Nat} {h : Hs} (c : MS σ t h) (v : Nat) : MS (lvM v t σ) (t + 1) h := ⟨setF_get _ _ _, c.2⟩
theorem c_leave {t v : Nat} {h : Hs} (c : CS σ t h) (ht : t < 16) : F_X1_leave (nI v) σ = some (lvC v t σ) := by
  unfold F_X1_leave
  have e : (setA σ 24 t (nI v)).2 7 = nI t := c.1
  simp (disch := omega) only [ixN, clN, nI_add, pk_mul, subN, divN, remN, leN, ltN, eqN, le0N, eq0N, lt0N, ge0N, gt0N, if_pos, if_neg, if_true, if_false, Option.bind_some, shrN, shlN, andN1, nI_or, andm1, modS, true_or, or_true, c.1, e]
  rfl
theorem m_began {t v : Nat} {h : Hs} (c : MS σ t h) (ht : t < 16) : F_X8_began (nI v) σ = some (lvM v t σ) := by
  unfold F_X8_began
  have e : (setA σ 37 t (nI v)).2 19 = nI t := c.1
  simp (disch := omega) only [ixN, clN, nI_add, pk_mul, subN, divN, remN, leN, ltN, eqN, le0N, eq0N, lt0N, ge0N, gt0N, if_pos, if_neg, if_true, if_false, Option.bind_some, shrN, shlN, andN1, nI_or, andm1, modS, true_or, or_true, c.1, e]
  rfl
theorem lvsC_ar : ∀ vs t (σ : St) k, k ≠ 24 → (lvsC vs t σ).1 k = σ.1 k := by
  intro vs
  induction vs with
  | nil => intro t σ k hk; rfl
  | cons v vs ih =>
    intro t σ k hk
    show (lvsC vs (t + 1) (lvC v t σ)).1 k = _
    rw [ih _ _ k hk]
    unfold lvC
    rw [setF_1, setA_32 hk]
theorem lvsC_fl : ∀ vs t (σ : St) j, j ≠ 7 → (lvsC vs t σ).2 j = σ.2 j := by
  intro vs
  induction vs with
  | nil => intro t σ k hk; rfl
  | cons v vs ih =>
    intro t σ k hk
    show (lvsC vs (t + 1) (lvC v t σ)).2 k = _
    rw [ih _ _ k hk]
    unfold lvC
    rw [setF_ne hk]; rfl
theorem lvsM_ar : ∀ vs t (σ : St) k, k ≠ 37 → (lvsM vs t σ).1 k = σ.1 k := by
  intro vs
  induction vs with
  | nil => intro t σ k hk; rfl
  | cons v vs ih =>
    intro t σ k hk
    show (lvsM vs (t + 1) (lvM v t σ)).1 k = _
    rw [ih _ _ k hk]
    unfold lvM
    rw [setF_1, setA_32 hk]
theorem lvsM_fl : ∀ vs t (σ : St) j, j ≠ 19 → (lvsM vs t σ).2 j = σ.2 j := by
  intro vs
  induction vs with
  | nil => intro t σ k hk; rfl
  | cons v vs ih =>
    intro t σ k hk
    show (lvsM vs (t + 1) (lvM v t σ)).2 k = _
    rw [ih _ _ k hk]
    unfold lvM
    rw [setF_ne hk]; rfl
theorem lvs_eq : ∀ vs t (σ τ : St), σ.2 7 = nI t → τ.2 19 = nI t → (∀ i, i < t → σ.1 24 i = τ.1 37 i) → (lvsC vs t σ).2 7 = nI (t + vs.length) ∧ (lvsM vs t τ).2 19 = nI (t + vs.length) ∧ ∀ i, i < t + vs.length → (lvsC vs t σ).1 24 i = (lvsM vs t τ).1 37 i := by
  intro vs
  induction vs with
  | nil => intro t σ τ h1 h2 h3; exact ⟨h1, h2, h3⟩
  | cons v vs ih =>
    intro t σ τ h1 h2 h3
    have := ih (t + 1) (lvC v t σ) (lvM v t τ) (setF_get _ _ _) (setF_get _ _ _) (fun i hi => by
      show (setF (setA σ 24 t (nI v)) 7 (nI (t + 1))).1 24 i = (setF (setA τ 37 t (nI v)) 19 (nI (t + 1))).1 37 i
      rw [setF_1, setF_1, setA_get, setA_get]
      by_cases z : i = t
      · rw [z, pk_us, pk_us]
      · rw [pk_un z, pk_un z, h3 i (by omega)])
    rw [show t + 1 + vs.length = t + (v :: vs).length by rw [List.length_cons]; omega] at this
    exact this
theorem askFin (i : Inv σ) {r : Int32} (vs : List Nat) (hl : vs.length ≤ 16) {P7 : Option (Int32 × St)} {P8 : St → Option (Int32 × St)} (e7 : P7 = some (r, lvsC vs 0 (setF σ 7 (nI 0)))) (e8 : P8 (lvsC vs 0 (setF σ 7 (nI 0))) = some (r, lvsM vs 0 (setF (setF (lvsC vs 0 (setF σ 7 (nI 0))) 8 (nI 0)) 19 (nI 0)))) : Ag P7 P8 := by
  obtain ⟨⟨h, iN⟩, iR, iT, iA, iI, iB, iS⟩ := i
  have ar : ∀ k, k ≠ 24 → k ≠ 37 → (lvsM vs 0 (setF (setF (lvsC vs 0 (setF σ 7 (nI 0))) 8 (nI 0)) 19 (nI 0))).1 k = σ.1 k := fun k h1 h2 => by
    rw [lvsM_ar _ _ _ _ h2, setF_1, setF_1, lvsC_ar _ _ _ _ h1, setF_1]
  have fl : ∀ j, j ≠ 7 → j ≠ 8 → j ≠ 19 → (lvsM vs 0 (setF (setF (lvsC vs 0 (setF σ 7 (nI 0))) 8 (nI 0)) 19 (nI 0))).2 j = σ.2 j := fun j h1 h2 h3 => by
    rw [lvsM_fl _ _ _ _ h3, setF_ne h3, setF_ne h2, lvsC_fl _ _ _ _ h1, setF_ne h1]
  obtain ⟨a, b, c⟩ := lvs_eq vs 0 (setF σ 7 (nI 0)) (setF (setF (lvsC vs 0 (setF σ 7 (nI 0))) 8 (nI 0)) 19 (nI 0)) (setF_get _ _ _) (setF_get _ _ _) (fun i hi => by omega)
  rw [Nat.zero_add] at a b c
  refine ⟨_, _, _, e7, e8, ⟨h, iN.fr (ar 4 (by omega) (by omega)) (ar 29 (by omega) (by omega))⟩, iR.fr (fun k hk => ar k (by omega) (by omega)), iT.fr (ar 22 (by omega) (by omega)) (ar 33 (by omega) (by omega)) (fun j hj => fl j (by omega) (by omega) (by omega)), iA.fr (ar 32 (by omega) (by omega)) (fun k h1 h2 => ar k (by omega) (by omega)) (fun j hj => fl j (by omega) (by omega) (by omega)), iI.fr (fun k hk => ar k (by omega) (by omega)), ⟨vs.length, hl, ?_, b, fun i hi => ?_⟩, iS.fr (fun j hj => fl j (by omega) (by omega) (by omega))⟩
  · rw [lvsM_fl _ _ _ _ (by decide), setF_ne (by decide), setF_ne (by decide), a]
  · rw [← c i hi, lvsM_ar _ _ _ _ (by decide), setF_1, setF_1]
end KINDS
