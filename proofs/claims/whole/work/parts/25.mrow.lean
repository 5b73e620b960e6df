/-! the reference's row: the same house in another order -/
def pm (i : Nat) : Nat := if i < 3 then i else if i = 3 then 4 else if i = 4 then 3 else if i < 12 then 17 + 9 * (i - 5) else if i < 19 then 18 + 9 * (i - 12) else if i < 26 then 19 + 9 * (i - 19) else if i < 33 then 20 + 9 * (i - 26) else if i < 40 then 21 + 9 * (i - 33) else if i < 68 then 22 + 9 * ((i - 40) / 4) + (i - 40) % 4 else if i < 74 then 5 + 2 * (i - 68) else 6 + 2 * (i - 74)
theorem pm_inj : ∀ i, i < 80 → ∀ j, j < 80 → pm i = pm j → i = j := by decide +kernel
theorem pm_lt : ∀ i, i < 80 → pm i < 80 := by decide +kernel
def MR (g : Nat → Int32) (h : Hs) : Prop := ∀ i, i < 80 → g (pm i) = nI (h i)
theorem MR.congr {g : Nat → Int32} {h h' : Hs} (c : MR g h) (e : ∀ i, i < 80 → h i = h' i) : MR g h' := fun i hi => by rw [c i hi, e i hi]
theorem MR.upd {g : Nat → Int32} {h : Hs} (c : MR g h) {i j : Nat} (v : Nat) (hi : i < 80) (e : pm i = j) : MR (upd g j (nI v)) (uH h i v) := fun x hx => by
  show (if pm x = j then nI v else g (pm x)) = nI (if x = i then v else h x)
  by_cases q : x = i
  · rw [if_pos q, q, if_pos e]
  · rw [if_neg q, if_neg (fun z => q (pm_inj x hx i hi (z.trans e.symm))), c x hx]
theorem pmK : ∀ p, p < 7 → pm (5 + p) = 17 + 9 * p + 0 := by decide +kernel
theorem pmF : ∀ p, p < 7 → pm (12 + p) = 17 + 9 * p + 1 := by decide +kernel
theorem pmT : ∀ p, p < 7 → pm (19 + p) = 17 + 9 * p + 2 := by decide +kernel
theorem pmL : ∀ p, p < 7 → pm (26 + p) = 17 + 9 * p + 3 := by decide +kernel
theorem pmD : ∀ p, p < 7 → pm (33 + p) = 17 + 9 * p + 4 := by decide +kernel
theorem pmI : ∀ p, p < 7 → ∀ k, k < 4 → pm (40 + 4 * p + k) = 17 + 9 * p + (5 + k) := by decide +kernel
theorem pmH : ∀ j, j < 6 → pm (68 + j) = 5 + 2 * j := by decide +kernel
theorem pmW : ∀ j, j < 6 → pm (74 + j) = 5 + 2 * j + 1 := by decide +kernel
section MACC
variable {g : Nat → Int32} {h : Hs}
theorem MR.a0 (c : MR g h) : g 0 = nI (h 0) := c 0 (by omega)
theorem MR.a1 (c : MR g h) : g 1 = nI (h 1) := c 1 (by omega)
theorem MR.a2 (c : MR g h) : g 2 = nI (h 2) := c 2 (by omega)
theorem MR.a3 (c : MR g h) : g 4 = nI (h 3) := c 3 (by omega)
theorem MR.a4 (c : MR g h) : g 3 = nI (h 4) := c 4 (by omega)
theorem MR.kd (c : MR g h) {p : Nat} (hp : p < 7) : g (17 + 9 * p + 0) = nI (h (5 + p)) := by rw [← pmK p hp, c _ (by omega)]
theorem MR.fr (c : MR g h) {p : Nat} (hp : p < 7) : g (17 + 9 * p + 1) = nI (h (12 + p)) := by rw [← pmF p hp, c _ (by omega)]
theorem MR.to (c : MR g h) {p : Nat} (hp : p < 7) : g (17 + 9 * p + 2) = nI (h (19 + p)) := by rw [← pmT p hp, c _ (by omega)]
theorem MR.ln (c : MR g h) {p : Nat} (hp : p < 7) : g (17 + 9 * p + 3) = nI (h (26 + p)) := by rw [← pmL p hp, c _ (by omega)]
theorem MR.dn (c : MR g h) {p : Nat} (hp : p < 7) : g (17 + 9 * p + 4) = nI (h (33 + p)) := by rw [← pmD p hp, c _ (by omega)]
theorem MR.sn (c : MR g h) {p k j : Nat} (hp : p < 7) (hk : k < 4) (e : j = 17 + 9 * p + (5 + k)) : g j = nI (h (40 + 4 * p + k)) := by rw [e, ← pmI p hp k hk, c _ (by omega)]
end MACC
def st3 (k : Nat) (σ : St) (g e : Nat → Int32) : St := setR (setR σ k g) 34 e
theorem st3_a {k : Nat} (hk : k ≠ 34) (σ : St) (g e : Nat → Int32) : (st3 k σ g e).1 k = g := by
  unfold st3
  rw [setR_ne hk, setR_get]
theorem st3_b (k : Nat) (σ : St) (g e : Nat → Int32) : (st3 k σ g e).1 34 = e := setR_get _ _ _
theorem st3_k {k : Nat} {σ : St} {g e : Nat → Int32} {j : Nat} (h1 : j ≠ k) (h2 : j ≠ 34) : (st3 k σ g e).1 j = σ.1 j := by
  unfold st3
  rw [setR_ne h2, setR_ne h1]
theorem st3_f (k : Nat) (σ : St) (g e : Nat → Int32) : (st3 k σ g e).2 = σ.2 := rfl
theorem st3_A {k : Nat} (hk : k ≠ 34) (σ : St) (g e : Nat → Int32) (i : Nat) (v : Int32) : setA (st3 k σ g e) k i v = st3 k σ (upd g i v) e := by
  apply St.ext
  · intro j
    show (if j = k then upd ((st3 k σ g e).1 k) i v else (st3 k σ g e).1 j) = _
    rw [st3_a hk]
    by_cases h : j = k
    · subst h
      rw [if_pos rfl, st3_a hk]
    · rw [if_neg h]
      by_cases h2 : j = 34
      · subst h2
        rw [st3_b, st3_b]
      · rw [st3_k h h2, st3_k h h2]
  · intro j
    rfl
theorem st3_B {k : Nat} (hk : k ≠ 34) (σ : St) (g e : Nat → Int32) (i : Nat) (v : Int32) : setA (st3 k σ g e) 34 i v = st3 k σ g (upd e i v) := by
  apply St.ext
  · intro j
    show (if j = 34 then upd ((st3 k σ g e).1 34) i v else (st3 k σ g e).1 j) = _
    rw [st3_b]
    by_cases h2 : j = 34
    · subst h2
      rw [if_pos rfl, st3_b]
    · rw [if_neg h2]
      by_cases h : j = k
      · subst h
        rw [st3_a hk, st3_a hk]
      · rw [st3_k h h2, st3_k h h2]
  · intro j
    rfl
theorem st3_eta {k : Nat} (hk : k ≠ 34) (σ : St) : st3 k σ (σ.1 k) (σ.1 34) = σ := by
  apply St.ext
  · intro j
    by_cases h : j = k
    · subst h
      rw [st3_a hk]
    · by_cases h2 : j = 34
      · subst h2
        rw [st3_b]
      · rw [st3_k h h2]
  · intro j
    rfl
theorem upd_self (e : Nat → Int32) (j : Nat) : upd e j (e j) = e := funext (fun i => by
  show (if i = j then e j else e i) = e i
  by_cases q : i = j
  · rw [if_pos q, q]
  · rw [if_neg q])
section MROW
variable {k : Nat} {σ : St} {g e : Nat → Int32} {h : Hs}
theorem m_of {p x : Nat} (hp : p < 7) (hx : x < 9) (τ : St) : F_X8_of k (nI p) (nI x) τ = some (τ.1 k (17 + 9 * p + x), τ) := by
  unfold F_X8_of
  simp (disch := omega) only [ixN, clN, nI_add, pk_mul, subN, divN, remN, leN, ltN, eqN, le0N, eq0N, lt0N, ge0N, gt0N, if_pos, if_neg, if_true, if_false, Option.bind_some, shrN, shlN, andN1, nI_or, andm1, modS, true_or, or_true]
theorem m_has {t p : Nat} (ht : t < 2147483648) (hp : p < 32) (τ : St) : F_X8_has (nI t) (nI p) τ = some (if t / 2 ^ p % 2 = 1 then nI 1 else nI 0, τ) := by
  unfold F_X8_has
  have bt : t / 2 ^ p ≤ t := Nat.div_le_self _ _
  simp (disch := omega) only [ixN, clN, nI_add, pk_mul, subN, divN, remN, leN, ltN, eqN, le0N, eq0N, lt0N, ge0N, gt0N, if_pos, if_neg, if_true, if_false, Option.bind_some, shrN, shlN, andN1, nI_or, andm1, modS, true_or, or_true]
  by_cases q : t / 2 ^ p % 2 = 1
  · rw [if_pos q, if_pos q]
  · rw [if_neg q, if_neg q]
theorem m_J107 {wd a b : Nat} {τ : St} (hw : wd ≤ 9) (ha : a < 1000) (hb : b < 1000) : J_X8_out_107 k (nI wd) (nI a - nI b) τ = some (nI (if a - b = 0 then 0 else 100 * wd + (a - b)), τ) := by
  unfold J_X8_out_107
  by_cases q : b < a
  · rw [if_pos ((subGt (by omega) (by omega)).mpr q), if_neg (by omega)]
    simp (disch := omega) only [ixN, clN, nI_add, pk_mul, subN, divN, remN, leN, ltN, eqN, le0N, eq0N, lt0N, ge0N, gt0N, if_pos, if_neg, if_true, if_false, Option.bind_some, shrN, shlN, andN1, nI_or, andm1, modS, true_or, or_true]
  · rw [if_neg (fun z => q ((subGt (by omega) (by omega)).mp z)), if_pos (by omega)]
theorem m_out (hk : k ≠ 34) (c : MR g h) {p : Nat} (hp : p < 7) (hkd : 1 ≤ h (5 + p) ∧ h (5 + p) ≤ 5) (hd : h (33 + p) ≤ 9) (hl : h 1 ≤ 9) (hln : 1 ≤ h (26 + p) ∧ h (26 + p) ≤ 4) (hs : vs (h (40 + 4 * p + (h (26 + p) - 1)))) : F_X8_out k (nI p) (st3 k σ g e) = some (nI (cO h p), st3 k σ g e) := by
  unfold F_X8_out cO cOs
  have cl := c.ln hp
  have cs := c.sn (k := h (26 + p) - 1) (j := 17 + 9 * p + (5 + h (26 + p) - 1)) hp (by omega) (by omega)
  have ck := c.kd hp
  have cd := c.dn hp
  have c1 := c.a1
  obtain ⟨hs1, hs2⟩ := hs
  generalize h (40 + 4 * p + (h (26 + p) - 1)) = s at *
  generalize h (26 + p) = len at *
  generalize h (5 + p) = kd at *
  generalize h (33 + p) = dn at *
  generalize h 1 = ls at *
  have hz : ∀ a, nI a = nI a - nI 0 := fun a => by rw [subN (Nat.zero_le a)]; rfl
  by_cases q : s = 0
  · subst q
    simp (disch := omega) only [ixN, clN, nI_add, pk_mul, subN, divN, remN, leN, ltN, eqN, le0N, eq0N, lt0N, ge0N, gt0N, if_pos, if_neg, if_true, if_false, Option.bind_some, shrN, shlN, andN1, nI_or, andm1, modS, true_or, or_true, m_of, st3_a hk, cl, cs]
  · rw [if_neg q]
    rcases (show kd = 1 ∨ kd = 2 ∨ kd = 3 ∨ kd = 4 ∨ kd = 5 by omega) with rfl | rfl | rfl | rfl | rfl
    · simp (disch := omega) only [ixN, clN, nI_add, pk_mul, subN, divN, remN, leN, ltN, eqN, le0N, eq0N, lt0N, ge0N, gt0N, if_pos, if_neg, if_true, if_false, Option.bind_some, shrN, shlN, andN1, nI_or, andm1, modS, true_or, or_true, m_of, st3_a hk, cl, cs, ck, cd, c1, J_X8_out_64, J_X8_out_47, m_J107, show ¬ ((1 : Nat) = 4 ∨ (1 : Nat) = 5) by decide, show ¬ ((1 : Nat) = 2 ∨ (1 : Nat) = 5) by decide]
    · simp (disch := omega) only [ixN, clN, nI_add, pk_mul, subN, divN, remN, leN, ltN, eqN, le0N, eq0N, lt0N, ge0N, gt0N, if_pos, if_neg, if_true, if_false, Option.bind_some, shrN, shlN, andN1, nI_or, andm1, modS, true_or, or_true, m_of, st3_a hk, cl, cs, ck, cd, c1, J_X8_out_64, J_X8_out_47, m_J107, show ¬ ((2 : Nat) = 4 ∨ (2 : Nat) = 5) by decide]
    · simp (disch := omega) only [ixN, clN, nI_add, pk_mul, subN, divN, remN, leN, ltN, eqN, le0N, eq0N, lt0N, ge0N, gt0N, if_pos, if_neg, if_true, if_false, Option.bind_some, shrN, shlN, andN1, nI_or, andm1, modS, true_or, or_true, m_of, st3_a hk, cl, cs, ck, cd, c1, J_X8_out_64, J_X8_out_47, sub_sub32, m_J107, show ¬ ((3 : Nat) = 4 ∨ (3 : Nat) = 5) by decide, show ¬ ((3 : Nat) = 2 ∨ (3 : Nat) = 5) by decide]
      rw [show s - (s / 100 * 100 + ls + dn) = s % 100 - (ls + dn) by omega]
    · simp (disch := omega) only [ixN, clN, nI_add, pk_mul, subN, divN, remN, leN, ltN, eqN, le0N, eq0N, lt0N, ge0N, gt0N, if_pos, if_neg, if_true, if_false, Option.bind_some, shrN, shlN, andN1, nI_or, andm1, modS, true_or, or_true, m_of, st3_a hk, cl, cs, ck, cd, c1, J_X8_out_64, J_X8_out_47, show ¬ ((4 : Nat) = 2 ∨ (4 : Nat) = 5) by decide]
      rw [hz (s % 100 / 2), m_J107 (by omega) (by omega) (by omega)]
      rfl
    · simp (disch := omega) only [ixN, clN, nI_add, pk_mul, subN, divN, remN, leN, ltN, eqN, le0N, eq0N, lt0N, ge0N, gt0N, if_pos, if_neg, if_true, if_false, Option.bind_some, shrN, shlN, andN1, nI_or, andm1, modS, true_or, or_true, m_of, st3_a hk, cl, cs, ck, cd, c1, J_X8_out_64, J_X8_out_47]
      rw [hz (s % 100 / 2), m_J107 (by omega) (by omega) (by omega)]
      rfl
theorem m_speech (hk : k ≠ 34) (c : MR g h) (w : WF h) {x wd l : Nat} (hx : x < 1000) (hw : wd ≤ 9) (hl : l ≤ 99) : ∃ g', F_X8_speech k (nI x) (nI wd) (nI l) (st3 k σ g e) = some (nI (nS h x l (h 2)), st3 k σ g' e) ∧ MR g' (hS h x wd l (h 2)) := by
  unfold F_X8_speech
  have h0 := w.2.2.1
  have hH := w.1
  have hT := w.taps
  have L : ∀ (m n p : Nat) (g : Nat → Int32), p + m = h 2 → m < n → MR g (hS h x wd l p) → ∃ g', (∀ K : Int32 → St → Option (Int32 × St), L_X8_speech_6 k K n (nI x) (nI wd) (nI l) (nI (nS h x l p)) (nI p) (st3 k σ g e) = K (nI (nS h x l (h 2))) (st3 k σ g' e)) ∧ MR g' (hS h x wd l (h 2)) := by
    intro m
    induction m with
    | zero =>
      intro n p g hp hn c
      obtain ⟨n, rfl⟩ : ∃ n', n = n' + 1 := ⟨n - 1, by omega⟩
      have ep : p = h 2 := by omega
      subst ep
      refine ⟨g, fun K => ?_, c⟩
      rw [L_X8_speech_6.eq_2]
      have c2 : g 2 = nI (h 2) := by rw [c.a2, hS_lo (by omega)]
      simp (disch := omega) only [ixN, clN, nI_add, pk_mul, subN, divN, remN, leN, ltN, eqN, le0N, eq0N, lt0N, ge0N, gt0N, if_pos, if_neg, if_true, if_false, Option.bind_some, shrN, shlN, andN1, nI_or, andm1, modS, true_or, or_true, st3_a hk, c2]
    | succ m ih =>
      intro n p g hp hn c
      obtain ⟨n, rfl⟩ : ∃ n', n = n' + 1 := ⟨n - 1, by omega⟩
      have c2 : g 2 = nI (h 2) := by rw [c.a2, hS_lo (by omega)]
      have c3 : g 4 = nI (h 3) := by rw [c.a3, hS_lo (by omega)]
      have c12 : g (17 + 9 * p + 1) = nI (h (12 + p)) := by rw [c.fr (by omega), hS_lo (by omega)]
      have c40 : g (17 + 9 * p + 5) = nI (h (40 + 4 * p)) := by rw [c.sn (k := 0) (p := p) (by omega) (by omega) (by omega), Nat.add_zero, hS_fst (Nat.le_refl p)]
      have b12 := (w.2.2.2.2.1 p (by omega)).2.1
      have b40 := (w.2.2.2.2.2.1 (40 + 4 * p) (by omega) (by omega)).1
      have bt : h 3 / 2 ^ p ≤ h 3 := Nat.div_le_self _ _
      by_cases q : lok h x l p
      · obtain ⟨g', h1, h2⟩ := ih n (p + 1) (upd g (17 + 9 * p + 5) (nI (100 * wd + l))) (by omega) (by omega) ((c.upd (i := 40 + 4 * p) (100 * wd + l) (by omega) (by rw [← Nat.add_zero (40 + 4 * p), pmI p (by omega) 0 (by omega)])).congr (fun i _ => (hS_s1 q i).symm))
        refine ⟨g', fun K => ?_, h2⟩
        rw [L_X8_speech_6.eq_2, ← h1 K]
        rw [show nS h x l (p + 1) = nS h x l p + 1 by show nS h x l p + (if lok h x l p then 1 else 0) = _; rw [if_pos q]]
        obtain ⟨k1, k2, k3⟩ := q
        simp (disch := omega) only [ixN, clN, nI_add, pk_mul, subN, divN, remN, leN, ltN, eqN, le0N, eq0N, lt0N, ge0N, gt0N, if_pos, if_neg, if_true, if_false, Option.bind_some, shrN, shlN, andN1, nI_or, andm1, modS, true_or, or_true, m_of, st3_a hk, st3_A hk, c2, c3, c12, c40, k1, F_X8_has]
      · obtain ⟨g', h1, h2⟩ := ih n (p + 1) g (by omega) (by omega) (c.congr (fun i _ => (hS_s0 q i).symm))
        refine ⟨g', fun K => ?_, h2⟩
        rw [L_X8_speech_6.eq_2, ← h1 K]
        rw [show nS h x l (p + 1) = nS h x l p by show nS h x l p + (if lok h x l p then 1 else 0) = _; rw [if_neg q]; rfl]
        by_cases k1 : h (12 + p) = x
        · by_cases k2 : h 3 / 2 ^ p % 2 = 1
          · have k3 : ¬ h (40 + 4 * p) % 100 < l := fun z => q ⟨k1, k2, z⟩
            simp (disch := omega) only [ixN, clN, nI_add, pk_mul, subN, divN, remN, leN, ltN, eqN, le0N, eq0N, lt0N, ge0N, gt0N, if_pos, if_neg, if_true, if_false, Option.bind_some, shrN, shlN, andN1, nI_or, andm1, modS, true_or, or_true, m_of, st3_a hk, c2, c3, c12, c40, k1, F_X8_has]
          · simp (disch := omega) only [ixN, clN, nI_add, pk_mul, subN, divN, remN, leN, ltN, eqN, le0N, eq0N, lt0N, ge0N, gt0N, if_pos, if_neg, if_true, if_false, Option.bind_some, shrN, shlN, andN1, nI_or, andm1, modS, true_or, or_true, m_of, st3_a hk, c2, c3, c12, c40, k1, F_X8_has]
        · simp (disch := omega) only [ixN, clN, nI_add, pk_mul, subN, divN, remN, leN, ltN, eqN, le0N, eq0N, lt0N, ge0N, gt0N, if_pos, if_neg, if_true, if_false, Option.bind_some, shrN, shlN, andN1, nI_or, andm1, modS, true_or, or_true, m_of, st3_a hk, c2, c12]
  obtain ⟨g', h1, h2⟩ := L (h 2) fuel 0 g (by omega) (by have := fuel_ge; omega) (c.congr (fun i _ => (hS_0 h x wd l i).symm))
  exact ⟨g', h1 _, h2⟩
end MROW
