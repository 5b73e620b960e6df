/-! the class's Net: a speech, a breath -/
theorem CR.congr {f : Nat → Int32} {h h' : Hs} (c : CR f h) (e : ∀ i, i < 80 → h i = h' i) : CR f h' := fun i hi => by rw [c i hi, e i hi]
theorem sub_sub32 (x y z : Int32) : x - y - z = x - (y + z) := by
  apply Int32.toBitVec_inj.mp
  simp only [Int32.toBitVec_sub, Int32.toBitVec_add]
  exact BitVec.sub_sub _ _ _
theorem subLe {a b : Nat} (ha : a < 1000000) (hb : b < 1000000) : (nI a - nI b ≤ 0) ↔ a ≤ b := by
  rw [Int32.le_iff_toInt_le, pk_sub_toInt (by omega) (by omega)]
  show (a : Int) - b ≤ 0 ↔ a ≤ b
  omega
theorem subGt {a b : Nat} (ha : a < 1000000) (hb : b < 1000000) : (0 < nI a - nI b) ↔ b < a := by
  rw [Int32.lt_iff_toInt_lt, pk_sub_toInt (by omega) (by omega)]
  show 0 < (a : Int) - b ↔ b < a
  omega
/-- a speech goes into pipe p -/
abbrev lok (h : Hs) (x l p : Nat) : Prop := h (12 + p) = x ∧ h 3 / 2 ^ p % 2 = 1 ∧ h (40 + 4 * p) % 100 < l
/-- the house behind a speech, the first P pipes looked at -/
def hS (h : Hs) (x w l P : Nat) : Hs := fun i => if 40 ≤ i ∧ i < 40 + 4 * P ∧ (i - 40) % 4 = 0 ∧ lok h x l ((i - 40) / 4) then 100 * w + l else h i
def nS (h : Hs) (x l : Nat) : Nat → Nat
  | 0 => 0
  | p + 1 => nS h x l p + (if lok h x l p then 1 else 0)
theorem hS_0 (h : Hs) (x w l i : Nat) : hS h x w l 0 i = h i := if_neg (fun q => by omega)
theorem hS_lo {h : Hs} {x w l P i : Nat} (hi : i < 40) : hS h x w l P i = h i := if_neg (fun q => by omega)
theorem hS_fst {h : Hs} {x w l P q : Nat} (hq : P ≤ q) : hS h x w l P (40 + 4 * q) = h (40 + 4 * q) := if_neg (fun z => by omega)
theorem hS_s1 {h : Hs} {x w l P : Nat} (k : lok h x l P) (i : Nat) : hS h x w l (P + 1) i = uH (hS h x w l P) (40 + 4 * P) (100 * w + l) i := by
  unfold hS uH
  by_cases e : i = 40 + 4 * P
  · rw [if_pos e, if_pos ⟨by omega, by omega, by omega, by rw [show (i - 40) / 4 = P by omega]; exact k⟩]
  · rw [if_neg e]
    dsimp only
    by_cases z : 40 ≤ i ∧ i < 40 + 4 * P ∧ (i - 40) % 4 = 0 ∧ lok h x l ((i - 40) / 4)
    · rw [if_pos z, if_pos ⟨z.1, by omega, z.2.2⟩]
    · rw [if_neg z, if_neg (fun y => z ⟨y.1, by omega, y.2.2⟩)]
theorem hS_s0 {h : Hs} {x w l P : Nat} (k : ¬ lok h x l P) (i : Nat) : hS h x w l (P + 1) i = hS h x w l P i := by
  unfold hS
  by_cases z : 40 ≤ i ∧ i < 40 + 4 * P ∧ (i - 40) % 4 = 0 ∧ lok h x l ((i - 40) / 4)
  · rw [if_pos z, if_pos ⟨z.1, by omega, z.2.2⟩]
  · rw [if_neg z, if_neg (fun y => by
      by_cases e : i = 40 + 4 * P
      · exact k (by rw [← show (i - 40) / 4 = P by omega]; exact y.2.2.2)
      · exact z ⟨y.1, by omega, y.2.2⟩)]
section NET3
variable {r : Nat} {σ : St} {f o : Nat → Int32} {h : Hs}
theorem n_letIn (c : CR f h) (w : WF h) {x wd l : Nat} (hx : x < 1000) (hw : wd ≤ 9) (hl : l ≤ 99) : ∃ f', F_X4_letIn r (nI x) (nI wd) (nI l) (st2 r σ f o) = some (nI (nS h x l (h 2)), st2 r σ f' o) ∧ CR f' (hS h x wd l (h 2)) := by
  unfold F_X4_letIn
  have h0 := w.2.2.1
  have hH := w.1
  have hT := w.taps
  have L : ∀ (m n p : Nat) (f : Nat → Int32), p + m = h 2 → m < n → CR f (hS h x wd l p) → ∃ f', (∀ K : Int32 → St → Option (Int32 × St), L_X4_letIn_6 r K n (nI x) (nI wd) (nI l) (nI (nS h x l p)) (nI p) (st2 r σ f o) = K (nI (nS h x l (h 2))) (st2 r σ f' o)) ∧ CR f' (hS h x wd l (h 2)) := by
    intro m
    induction m with
    | zero =>
      intro n p f hp hn c
      obtain ⟨n, rfl⟩ : ∃ n', n = n' + 1 := ⟨n - 1, by omega⟩
      have ep : p = h 2 := by omega
      subst ep
      refine ⟨f, fun K => ?_, c⟩
      rw [L_X4_letIn_6.eq_2]
      have c2 : f 2 = nI (h 2) := by rw [c 2 (by omega), hS_lo (by omega)]
      simp (disch := omega) only [ixN, clN, nI_add, pk_mul, subN, divN, remN, leN, ltN, eqN, le0N, eq0N, lt0N, ge0N, gt0N, if_pos, if_neg, if_true, if_false, Option.bind_some, shrN, shlN, andN1, nI_or, andm1, modS, true_or, or_true, st2_a, st2_b, st2_f, st2_A, st2_B, c2]
    | succ m ih =>
      intro n p f hp hn c
      obtain ⟨n, rfl⟩ : ∃ n', n = n' + 1 := ⟨n - 1, by omega⟩
      have c2 : f 2 = nI (h 2) := by rw [c 2 (by omega), hS_lo (by omega)]
      have c3 : f 3 = nI (h 3) := by rw [c 3 (by omega), hS_lo (by omega)]
      have c12 : f (12 + p) = nI (h (12 + p)) := by rw [c (12 + p) (by omega), hS_lo (by omega)]
      have c40 : f (40 + 4 * p) = nI (h (40 + 4 * p)) := by rw [c (40 + 4 * p) (by omega), hS_fst (Nat.le_refl p)]
      have b12 := (w.2.2.2.2.1 p (by omega)).2.1
      have b40 := (w.2.2.2.2.2.1 (40 + 4 * p) (by omega) (by omega)).1
      have bt : h 3 / 2 ^ p ≤ h 3 := Nat.div_le_self _ _
      by_cases k : lok h x l p
      · obtain ⟨f', h1, h2⟩ := ih n (p + 1) (upd f (40 + 4 * p) (nI (100 * wd + l))) (by omega) (by omega) ((c.upd (40 + 4 * p) (100 * wd + l)).congr (fun i _ => (hS_s1 k i).symm))
        refine ⟨f', fun K => ?_, h2⟩
        rw [L_X4_letIn_6.eq_2, ← h1 K]
        rw [show nS h x l (p + 1) = nS h x l p + 1 by show nS h x l p + (if lok h x l p then 1 else 0) = _; rw [if_pos k]]
        obtain ⟨k1, k2, k3⟩ := k
        simp (disch := omega) only [ixN, clN, nI_add, pk_mul, subN, divN, remN, leN, ltN, eqN, le0N, eq0N, lt0N, ge0N, gt0N, if_pos, if_neg, if_true, if_false, Option.bind_some, shrN, shlN, andN1, nI_or, andm1, modS, true_or, or_true, st2_a, st2_b, st2_f, st2_A, st2_B, Nat.mul_comm p 4, c2, c3, c12, c40, k1, F_X4_isOpen, F_X4_loudnessOf, F_X4_soundOf]
      · obtain ⟨f', h1, h2⟩ := ih n (p + 1) f (by omega) (by omega) (c.congr (fun i _ => (hS_s0 k i).symm))
        refine ⟨f', fun K => ?_, h2⟩
        rw [L_X4_letIn_6.eq_2, ← h1 K]
        rw [show nS h x l (p + 1) = nS h x l p by show nS h x l p + (if lok h x l p then 1 else 0) = _; rw [if_neg k]; rfl]
        by_cases k1 : h (12 + p) = x
        · by_cases k2 : h 3 / 2 ^ p % 2 = 1
          · have k3 : ¬ h (40 + 4 * p) % 100 < l := fun z => k ⟨k1, k2, z⟩
            simp (disch := omega) only [ixN, clN, nI_add, pk_mul, subN, divN, remN, leN, ltN, eqN, le0N, eq0N, lt0N, ge0N, gt0N, if_pos, if_neg, if_true, if_false, Option.bind_some, shrN, shlN, andN1, nI_or, andm1, modS, true_or, or_true, st2_a, st2_b, st2_f, st2_A, st2_B, Nat.mul_comm p 4, c2, c3, c12, c40, k1, F_X4_isOpen, F_X4_loudnessOf, F_X4_soundOf]
          · simp (disch := omega) only [ixN, clN, nI_add, pk_mul, subN, divN, remN, leN, ltN, eqN, le0N, eq0N, lt0N, ge0N, gt0N, if_pos, if_neg, if_true, if_false, Option.bind_some, shrN, shlN, andN1, nI_or, andm1, modS, true_or, or_true, st2_a, st2_b, st2_f, st2_A, st2_B, Nat.mul_comm p 4, c2, c3, c12, c40, k1, F_X4_isOpen]
        · simp (disch := omega) only [ixN, clN, nI_add, pk_mul, subN, divN, remN, leN, ltN, eqN, le0N, eq0N, lt0N, ge0N, gt0N, if_pos, if_neg, if_true, if_false, Option.bind_some, shrN, shlN, andN1, nI_or, andm1, modS, true_or, or_true, st2_a, st2_b, st2_f, st2_A, st2_B, c2, c12]
  obtain ⟨f', h1, h2⟩ := L (h 2) fuel 0 f (by omega) (by have := fuel_ge; omega) (c.congr (fun i _ => (hS_0 h x wd l i).symm))
  exact ⟨f', h1 _, h2⟩
/-- what comes out of a pipe of a kind -/
def cOs (kd dn ls s : Nat) : Nat := if s = 0 then 0 else if (if kd = 4 ∨ kd = 5 then s % 100 / 2 else if kd = 3 then s % 100 - (ls + dn) else s % 100 - ls) = 0 then 0 else 100 * (if kd = 2 ∨ kd = 5 then (s / 100 + dn) % 10 else s / 100) + (if kd = 4 ∨ kd = 5 then s % 100 / 2 else if kd = 3 then s % 100 - (ls + dn) else s % 100 - ls)
def cO (h : Hs) (p : Nat) : Nat := cOs (h (5 + p)) (h (33 + p)) (h 1) (h (40 + 4 * p + (h (26 + p) - 1)))
theorem n_J100 {wd a b : Nat} {τ : St} (hw : wd ≤ 9) (ha : a < 1000) (hb : b < 1000) : J_X4_comesOut_100 r (nI wd) (nI a - nI b) τ = some (nI (if a - b = 0 then 0 else 100 * wd + (a - b)), τ) := by
  unfold J_X4_comesOut_100
  by_cases q : a ≤ b
  · rw [if_pos ((subLe (by omega) (by omega)).mpr q), if_pos (by omega)]
  · rw [if_neg (fun z => q ((subLe (by omega) (by omega)).mp z)), if_neg (by omega)]
    simp (disch := omega) only [ixN, clN, nI_add, pk_mul, subN, divN, remN, leN, ltN, eqN, le0N, eq0N, lt0N, ge0N, gt0N, if_pos, if_neg, if_true, if_false, Option.bind_some, shrN, shlN, andN1, nI_or, andm1, modS, true_or, or_true, F_X4_soundOf]
theorem n_comesOut (c : CR f h) {p s : Nat} (hp : p < 7) (hk : 1 ≤ h (5 + p) ∧ h (5 + p) ≤ 5) (hd : h (33 + p) ≤ 9) (hl : h 1 ≤ 9) (hs : vs s) : F_X4_comesOut r (nI p) (nI s) (st2 r σ f o) = some (nI (cOs (h (5 + p)) (h (33 + p)) (h 1) s), st2 r σ f o) := by
  unfold F_X4_comesOut cOs
  obtain ⟨hs1, hs2⟩ := hs
  by_cases q : s = 0
  · rw [if_pos q, q]
    simp (disch := omega) only [ixN, clN, nI_add, pk_mul, subN, divN, remN, leN, ltN, eqN, le0N, eq0N, lt0N, ge0N, gt0N, if_pos, if_neg, if_true, if_false, Option.bind_some, shrN, shlN, andN1, nI_or, andm1, modS, true_or, or_true]
  · rw [if_neg q]
    simp (disch := omega) only [ixN, clN, nI_add, pk_mul, subN, divN, remN, leN, ltN, eqN, le0N, eq0N, lt0N, ge0N, gt0N, if_pos, if_neg, if_true, if_false, Option.bind_some, shrN, shlN, andN1, nI_or, andm1, modS, true_or, or_true, st2_a, st2_b, st2_f, st2_A, st2_B, c (5 + p) (by omega), c (33 + p) (by omega), c 1 (by omega), F_X4_wordOf, F_X4_loudnessOf]
    generalize h (5 + p) = kd at hk
    generalize h (33 + p) = dn at hd
    generalize h 1 = ls at hl
    have e1 : s / 100 ≤ 9 := by omega
    have hz : ∀ a, nI a = nI a - nI 0 := fun a => by rw [subN (Nat.zero_le a)]; rfl
    rcases (show kd = 1 ∨ kd = 2 ∨ kd = 3 ∨ kd = 4 ∨ kd = 5 by omega) with rfl | rfl | rfl | rfl | rfl
    · simp (disch := omega) only [ixN, clN, nI_add, pk_mul, subN, divN, remN, leN, ltN, eqN, le0N, eq0N, lt0N, ge0N, gt0N, if_pos, if_neg, if_true, if_false, Option.bind_some, shrN, shlN, andN1, nI_or, andm1, modS, true_or, or_true, J_X4_comesOut_68, J_X4_comesOut_80, n_J100, show ¬ ((1 : Nat) = 4 ∨ (1 : Nat) = 5) by decide, show ¬ ((1 : Nat) = 2 ∨ (1 : Nat) = 5) by decide]
    · simp (disch := omega) only [ixN, clN, nI_add, pk_mul, subN, divN, remN, leN, ltN, eqN, le0N, eq0N, lt0N, ge0N, gt0N, if_pos, if_neg, if_true, if_false, Option.bind_some, shrN, shlN, andN1, nI_or, andm1, modS, true_or, or_true, J_X4_comesOut_68, J_X4_comesOut_80, J_X4_comesOut_90, n_J100, show ¬ ((2 : Nat) = 4 ∨ (2 : Nat) = 5) by decide, show ((2 : Nat) = 2 ∨ (2 : Nat) = 5) by decide]
    · simp (disch := omega) only [ixN, clN, nI_add, pk_mul, subN, divN, remN, leN, ltN, eqN, le0N, eq0N, lt0N, ge0N, gt0N, if_pos, if_neg, if_true, if_false, Option.bind_some, shrN, shlN, andN1, nI_or, andm1, modS, true_or, or_true, J_X4_comesOut_68, J_X4_comesOut_80, J_X4_comesOut_90, sub_sub32, n_J100, show ¬ ((3 : Nat) = 4 ∨ (3 : Nat) = 5) by decide, show ¬ ((3 : Nat) = 2 ∨ (3 : Nat) = 5) by decide]
    · simp (disch := omega) only [ixN, clN, nI_add, pk_mul, subN, divN, remN, leN, ltN, eqN, le0N, eq0N, lt0N, ge0N, gt0N, if_pos, if_neg, if_true, if_false, Option.bind_some, shrN, shlN, andN1, nI_or, andm1, modS, true_or, or_true, J_X4_comesOut_48, J_X4_comesOut_68, J_X4_comesOut_80, J_X4_comesOut_90, show ((4 : Nat) = 4 ∨ (4 : Nat) = 5) by decide, show ¬ ((4 : Nat) = 2 ∨ (4 : Nat) = 5) by decide]
      rw [hz (s % 100 / 2), n_J100 (by omega) (by omega) (by omega)]
      rfl
    · simp (disch := omega) only [ixN, clN, nI_add, pk_mul, subN, divN, remN, leN, ltN, eqN, le0N, eq0N, lt0N, ge0N, gt0N, if_pos, if_neg, if_true, if_false, Option.bind_some, shrN, shlN, andN1, nI_or, andm1, modS, true_or, or_true, J_X4_comesOut_48, J_X4_comesOut_68, J_X4_comesOut_80, J_X4_comesOut_90, show ((5 : Nat) = 4 ∨ (5 : Nat) = 5) by decide, show ((5 : Nat) = 2 ∨ (5 : Nat) = 5) by decide]
      rw [hz (s % 100 / 2), n_J100 (by omega) (by omega) (by omega)]
      rfl
/-- all in pipe p goes a place on -/
def hMo (h : Hs) (p : Nat) : Hs := fun i => if 40 + 4 * p ≤ i ∧ i < 40 + 4 * p + h (26 + p) then (if i = 40 + 4 * p then 0 else h (i - 1)) else h i
theorem n_moveOn (c : CR f h) {p : Nat} (hp : p < 7) (hl : 1 ≤ h (26 + p) ∧ h (26 + p) ≤ 4) : ∃ f', F_X4_moveOn r (nI p) (st2 r σ f o) = some (nI (h (40 + 4 * p + (h (26 + p) - 1))), st2 r σ f' o) ∧ CR f' (hMo h p) := by
  unfold F_X4_moveOn
  have L : ∀ (m n a : Nat) (f : Nat → Int32) (s : Int32), a = 40 + 4 * p + m → m < h (26 + p) → m < n → CR f (fun i => if a < i ∧ i < 40 + 4 * p + h (26 + p) then h (i - 1) else h i) → ∃ f', (∀ K : Int32 → Int32 → St → Option (Int32 × St), L_X4_moveOn_32 r K n (nI (40 + 4 * p)) s (nI a) (st2 r σ f o) = K (nI (40 + 4 * p)) s (st2 r σ f' o)) ∧ CR f' (fun i => if 40 + 4 * p < i ∧ i < 40 + 4 * p + h (26 + p) then h (i - 1) else h i) := by
    intro m
    induction m with
    | zero =>
      intro n a f s ha hm hn hc
      obtain ⟨n, rfl⟩ : ∃ n', n = n' + 1 := ⟨n - 1, by omega⟩
      refine ⟨f, fun K => ?_, by rw [show 40 + 4 * p = a by omega] at *; exact hc⟩
      rw [L_X4_moveOn_32.eq_2]
      simp (disch := omega) only [ixN, clN, nI_add, pk_mul, subN, divN, remN, leN, ltN, eqN, le0N, eq0N, lt0N, ge0N, gt0N, if_pos, if_neg, if_true, if_false, Option.bind_some, shrN, shlN, andN1, nI_or, andm1, modS, true_or, or_true, st2_a, st2_b, st2_f, st2_A, st2_B]
    | succ m ih =>
      intro n a f s ha hm hn hc
      obtain ⟨n, rfl⟩ : ∃ n', n = n' + 1 := ⟨n - 1, by omega⟩
      have ca : f (a - 1) = nI (h (a - 1)) := by
        rw [hc (a - 1) (by omega)]
        show nI (if a < a - 1 ∧ a - 1 < 40 + 4 * p + h (26 + p) then h (a - 1 - 1) else h (a - 1)) = _
        rw [if_neg (by omega)]
      obtain ⟨f', h1, h2⟩ := ih n (a - 1) (upd f a (nI (h (a - 1)))) s (by omega) (by omega) (by omega) (by
        refine (hc.upd a (h (a - 1))).congr (fun i hi => ?_)
        show (if i = a then h (a - 1) else if a < i ∧ i < 40 + 4 * p + h (26 + p) then h (i - 1) else h i) = (if a - 1 < i ∧ i < 40 + 4 * p + h (26 + p) then h (i - 1) else h i)
        by_cases e : i = a
        · rw [if_pos e, if_pos (by omega), e]
        · rw [if_neg e]
          split <;> split <;> first | rfl | omega)
      refine ⟨f', fun K => ?_, h2⟩
      rw [L_X4_moveOn_32.eq_2, ← h1 K]
      simp (disch := omega) only [ixN, clN, nI_add, pk_mul, subN, divN, remN, leN, ltN, eqN, le0N, eq0N, lt0N, ge0N, gt0N, if_pos, if_neg, if_true, if_false, Option.bind_some, shrN, shlN, andN1, nI_or, andm1, modS, true_or, or_true, st2_a, st2_b, st2_f, st2_A, st2_B, ca, sb_m1]
  obtain ⟨f', h1, h2⟩ := L (h (26 + p) - 1) fuel (40 + 4 * p + (h (26 + p) - 1)) f (nI (h (40 + 4 * p + (h (26 + p) - 1)))) rfl (by omega) (by have := fuel_ge; omega) (c.congr (fun i _ => by
    show h i = if 40 + 4 * p + (h (26 + p) - 1) < i ∧ i < 40 + 4 * p + h (26 + p) then h (i - 1) else h i
    rw [if_neg (by omega)]))
  refine ⟨upd f' (40 + 4 * p) (nI 0), ?_, (h2.upd (40 + 4 * p) 0).congr (fun i hi => ?_)⟩
  · have e1 : 40 + 4 * p + h (26 + p) - 1 = 40 + 4 * p + (h (26 + p) - 1) := by omega
    simp (disch := omega) only [ixN, clN, nI_add, pk_mul, subN, divN, remN, leN, ltN, eqN, le0N, eq0N, lt0N, ge0N, gt0N, if_pos, if_neg, if_true, if_false, Option.bind_some, shrN, shlN, andN1, nI_or, andm1, modS, true_or, or_true, st2_a, st2_b, st2_f, st2_A, st2_B, Nat.mul_comm p 4, c (26 + p) (by omega), e1, c (40 + 4 * p + (h (26 + p) - 1)) (by omega), h1]
  · show (if i = 40 + 4 * p then 0 else if 40 + 4 * p < i ∧ i < 40 + 4 * p + h (26 + p) then h (i - 1) else h i) = (if 40 + 4 * p ≤ i ∧ i < 40 + 4 * p + h (26 + p) then (if i = 40 + 4 * p then 0 else h (i - 1)) else h i)
    by_cases e : i = 40 + 4 * p
    · rw [if_pos e, if_pos (by omega), if_pos e]
    · rw [if_neg e]
      split <;> split <;> first | rfl | omega | (rw [if_neg e])
end NET3
