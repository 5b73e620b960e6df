/-! a breath, in the class -/
def win (h : Hs) (j : Nat) : Nat → Nat
  | 0 => 0
  | p + 1 => if h (19 + p) = j ∧ win h j p % 100 < cO h p % 100 then cO h p else win h j p
def wn (h : Hs) (j : Nat) : Nat := win h j (h 2)
/-- the first P pipes went on -/
def hP (h : Hs) (P : Nat) : Hs := fun i => if 40 ≤ i ∧ i < 40 + 4 * P then (if (i - 40) % 4 = 0 then 0 else if (i - 40) % 4 < h (26 + (i - 40) / 4) then h (i - 1) else h i) else h i
def hQ (h : Hs) (P : Nat) : Hs := fun i => if 40 ≤ i ∧ i < 40 + 4 * P ∧ (i - 40) % 4 = 0 ∧ h 3 / 2 ^ ((i - 40) / 4) % 2 = 1 then wn h (h (12 + (i - 40) / 4)) else hP h (h 2) i
def hR (h : Hs) (J : Nat) : Hs := fun i => if 68 ≤ i ∧ i < 68 + J ∧ wn h (i - 68) ≠ 0 then wn h (i - 68) else if 74 ≤ i ∧ i < 74 + J ∧ wn h (i - 74) ≠ 0 then h 4 else hQ h (h 2) i
/-- the house behind a breath -/
def hB (h : Hs) : Hs := fun i => if i = 4 then h 4 + 1 else hR h (h 0) i
/-- who hears something: bits -/
def hrd (h : Hs) : Nat → Nat
  | 0 => 0
  | j + 1 => if wn h j = 0 then hrd h j else hrd h j ||| 2 ^ j
theorem cOs_vs {kd dn ls s : Nat} (hs : vs s) : vs (cOs kd dn ls s) := by
  obtain ⟨h1, h2⟩ := hs
  unfold vs cOs
  by_cases q : s = 0
  · rw [if_pos q]
    exact ⟨by omega, Or.inl rfl⟩
  · rw [if_neg q]
    generalize e : (if kd = 4 ∨ kd = 5 then s % 100 / 2 else if kd = 3 then s % 100 - (ls + dn) else s % 100 - ls) = l
    have hl : l ≤ 99 := by
      rw [← e]
      split
      · omega
      · split <;> omega
    generalize e2 : (if kd = 2 ∨ kd = 5 then (s / 100 + dn) % 10 else s / 100) = w
    have hw : w ≤ 9 := by
      rw [← e2]
      split <;> omega
    by_cases q2 : l = 0
    · rw [if_pos q2]
      exact ⟨by omega, Or.inl rfl⟩
    · rw [if_neg q2]
      exact ⟨by omega, Or.inr (by omega)⟩
theorem last_in {h : Hs} (w : WF h) {p : Nat} (hp : p < h 2) : vs (h (40 + 4 * p + (h (26 + p) - 1))) := by
  have h1 := (w.2.2.2.2.1 p hp).2.2.2.1
  have h2 := w.2.2.1
  exact w.2.2.2.2.2.1 _ (by omega) (by omega)
theorem cO_vs {h : Hs} (w : WF h) {p : Nat} (hp : p < h 2) : vs (cO h p) := cOs_vs (last_in w hp)
theorem win_vs {h : Hs} (w : WF h) (j : Nat) : ∀ p, p ≤ h 2 → vs (win h j p) := by
  intro p
  induction p with
  | zero =>
    intro _
    exact ⟨show 0 < 1000 by decide, Or.inl rfl⟩
  | succ p ih =>
    intro hp
    unfold win
    split
    · exact cO_vs w (by omega)
    · exact ih (by omega)
theorem wn_vs {h : Hs} (w : WF h) (j : Nat) : vs (wn h j) := win_vs w j _ (Nat.le_refl _)
theorem hP_lo {h : Hs} {P i : Nat} (hi : i < 40) : hP h P i = h i := if_neg (fun q => by omega)
theorem hP_hi {h : Hs} {P i : Nat} (hi : 40 + 4 * P ≤ i) : hP h P i = h i := if_neg (fun q => by omega)
theorem hP_0 (h : Hs) (i : Nat) : hP h 0 i = h i := if_neg (fun q => by omega)
theorem hP_s {h : Hs} {p : Nat} (hl0 : 1 ≤ h (26 + p)) (hl : h (26 + p) ≤ 4) (i : Nat) (hp : p < 7) : hMo (hP h p) p i = hP h (p + 1) i := by
  show (if 40 + 4 * p ≤ i ∧ i < 40 + 4 * p + hP h p (26 + p) then (if i = 40 + 4 * p then 0 else hP h p (i - 1)) else hP h p i) = _
  rw [hP_lo (i := 26 + p) (by omega)]
  by_cases q : 40 + 4 * p ≤ i
  · by_cases q2 : i < 40 + 4 * (p + 1)
    · show _ = (if 40 ≤ i ∧ i < 40 + 4 * (p + 1) then (if (i - 40) % 4 = 0 then 0 else if (i - 40) % 4 < h (26 + (i - 40) / 4) then h (i - 1) else h i) else h i)
      rw [if_pos (c := 40 ≤ i ∧ i < 40 + 4 * (p + 1)) (by omega), show (i - 40) / 4 = p by omega]
      by_cases e : i = 40 + 4 * p
      · rw [if_pos (c := (i - 40) % 4 = 0) (by omega)]
        by_cases e2 : 40 + 4 * p ≤ i ∧ i < 40 + 4 * p + h (26 + p)
        · rw [if_pos e2, if_pos e]
        · rw [if_neg e2, hP_hi q]
          exact absurd e2 (by omega)
      · rw [if_neg (c := (i - 40) % 4 = 0) (by omega)]
        by_cases e2 : 40 + 4 * p ≤ i ∧ i < 40 + 4 * p + h (26 + p)
        · rw [if_pos e2, if_neg e, if_pos (by omega), hP_hi (by omega)]
        · rw [if_neg e2, if_neg (by omega), hP_hi q]
    · rw [if_neg (by omega), hP_hi q, hP_hi (by omega)]
  · rw [if_neg (by omega)]
    by_cases q2 : 40 ≤ i
    · show (if 40 ≤ i ∧ i < 40 + 4 * p then _ else _) = (if 40 ≤ i ∧ i < 40 + 4 * (p + 1) then _ else _)
      rw [if_pos (c := 40 ≤ i ∧ i < 40 + 4 * p) (by omega), if_pos (c := 40 ≤ i ∧ i < 40 + 4 * (p + 1)) (by omega)]
    · rw [hP_lo (by omega), hP_lo (by omega)]
theorem hQ_lo {h : Hs} {P i : Nat} (hi : i < 40) : hQ h P i = h i := by
  show (if 40 ≤ i ∧ _ then _ else hP h (h 2) i) = h i
  rw [if_neg (fun q => by omega), hP_lo hi]
theorem hQ_0 (h : Hs) (i : Nat) : hQ h 0 i = hP h (h 2) i := if_neg (fun q => by omega)
theorem hQ_s1 {h : Hs} {P : Nat} (k : h 3 / 2 ^ P % 2 = 1) (i : Nat) : hQ h (P + 1) i = uH (hQ h P) (40 + 4 * P) (wn h (h (12 + P))) i := by
  show (if 40 ≤ i ∧ i < 40 + 4 * (P + 1) ∧ (i - 40) % 4 = 0 ∧ h 3 / 2 ^ ((i - 40) / 4) % 2 = 1 then wn h (h (12 + (i - 40) / 4)) else hP h (h 2) i) = (if i = 40 + 4 * P then wn h (h (12 + P)) else if 40 ≤ i ∧ i < 40 + 4 * P ∧ (i - 40) % 4 = 0 ∧ h 3 / 2 ^ ((i - 40) / 4) % 2 = 1 then wn h (h (12 + (i - 40) / 4)) else hP h (h 2) i)
  by_cases e : i = 40 + 4 * P
  · rw [if_pos e, show (i - 40) / 4 = P by omega, if_pos ⟨by omega, by omega, by omega, k⟩]
  · rw [if_neg e]
    by_cases z : 40 ≤ i ∧ i < 40 + 4 * P ∧ (i - 40) % 4 = 0 ∧ h 3 / 2 ^ ((i - 40) / 4) % 2 = 1
    · rw [if_pos z, if_pos ⟨z.1, by omega, z.2.2⟩]
    · rw [if_neg z, if_neg (fun y => z ⟨y.1, by omega, y.2.2⟩)]
theorem hQ_s0 {h : Hs} {P : Nat} (k : ¬ h 3 / 2 ^ P % 2 = 1) (i : Nat) : hQ h (P + 1) i = hQ h P i := by
  show (if 40 ≤ i ∧ i < 40 + 4 * (P + 1) ∧ (i - 40) % 4 = 0 ∧ h 3 / 2 ^ ((i - 40) / 4) % 2 = 1 then wn h (h (12 + (i - 40) / 4)) else hP h (h 2) i) = (if 40 ≤ i ∧ i < 40 + 4 * P ∧ (i - 40) % 4 = 0 ∧ h 3 / 2 ^ ((i - 40) / 4) % 2 = 1 then wn h (h (12 + (i - 40) / 4)) else hP h (h 2) i)
  by_cases z : 40 ≤ i ∧ i < 40 + 4 * P ∧ (i - 40) % 4 = 0 ∧ h 3 / 2 ^ ((i - 40) / 4) % 2 = 1
  · rw [if_pos z, if_pos ⟨z.1, by omega, z.2.2⟩]
  · rw [if_neg z, if_neg (fun y => by
      by_cases e : i = 40 + 4 * P
      · exact k (by rw [← show (i - 40) / 4 = P by omega]; exact y.2.2.2)
      · exact z ⟨y.1, by omega, y.2.2⟩)]
theorem hR_lo {h : Hs} {J i : Nat} (hi : i < 40) : hR h J i = h i := by
  show (if 68 ≤ i ∧ _ then _ else if 74 ≤ i ∧ _ then _ else hQ h (h 2) i) = h i
  rw [if_neg (fun q => by omega), if_neg (fun q => by omega), hQ_lo hi]
theorem hR_0 (h : Hs) (i : Nat) : hR h 0 i = hQ h (h 2) i := by
  show (if 68 ≤ i ∧ _ then _ else if 74 ≤ i ∧ _ then _ else hQ h (h 2) i) = _
  rw [if_neg (fun q => by omega), if_neg (fun q => by omega)]
theorem hR_s1 {h : Hs} {J : Nat} (hJ : J < 6) (k : wn h J ≠ 0) (i : Nat) : hR h (J + 1) i = uH (uH (hR h J) (68 + J) (wn h J)) (74 + J) (h 4) i := by
  show (if 68 ≤ i ∧ i < 68 + (J + 1) ∧ wn h (i - 68) ≠ 0 then wn h (i - 68) else if 74 ≤ i ∧ i < 74 + (J + 1) ∧ wn h (i - 74) ≠ 0 then h 4 else hQ h (h 2) i) = (if i = 74 + J then h 4 else if i = 68 + J then wn h J else if 68 ≤ i ∧ i < 68 + J ∧ wn h (i - 68) ≠ 0 then wn h (i - 68) else if 74 ≤ i ∧ i < 74 + J ∧ wn h (i - 74) ≠ 0 then h 4 else hQ h (h 2) i)
  by_cases e : i = 74 + J
  · rw [if_pos e, if_neg (fun q => by omega), show i - 74 = J by omega, if_pos ⟨by omega, by omega, k⟩]
  · rw [if_neg e]
    by_cases e2 : i = 68 + J
    · rw [if_pos e2, show i - 68 = J by omega, if_pos ⟨by omega, by omega, k⟩]
    · rw [if_neg e2]
      by_cases z : 68 ≤ i ∧ i < 68 + J ∧ wn h (i - 68) ≠ 0
      · rw [if_pos z, if_pos ⟨z.1, by omega, z.2.2⟩]
      · rw [if_neg z, if_neg (fun y => z ⟨y.1, by omega, y.2.2⟩)]
        by_cases z : 74 ≤ i ∧ i < 74 + J ∧ wn h (i - 74) ≠ 0
        · rw [if_pos z, if_pos ⟨z.1, by omega, z.2.2⟩]
        · rw [if_neg z, if_neg (fun y => z ⟨y.1, by omega, y.2.2⟩)]
theorem hR_s0 {h : Hs} {J : Nat} (k : wn h J = 0) (i : Nat) : hR h (J + 1) i = hR h J i := by
  show (if 68 ≤ i ∧ i < 68 + (J + 1) ∧ wn h (i - 68) ≠ 0 then wn h (i - 68) else if 74 ≤ i ∧ i < 74 + (J + 1) ∧ wn h (i - 74) ≠ 0 then h 4 else hQ h (h 2) i) = (if 68 ≤ i ∧ i < 68 + J ∧ wn h (i - 68) ≠ 0 then wn h (i - 68) else if 74 ≤ i ∧ i < 74 + J ∧ wn h (i - 74) ≠ 0 then h 4 else hQ h (h 2) i)
  by_cases z : 68 ≤ i ∧ i < 68 + J ∧ wn h (i - 68) ≠ 0
  · rw [if_pos z, if_pos ⟨z.1, by omega, z.2.2⟩]
  · rw [if_neg z, if_neg (fun y => by
      by_cases e : i = 68 + J
      · exact y.2.2 (by rw [show i - 68 = J by omega]; exact k)
      · exact z ⟨y.1, by omega, y.2.2⟩)]
    by_cases z : 74 ≤ i ∧ i < 74 + J ∧ wn h (i - 74) ≠ 0
    · rw [if_pos z, if_pos ⟨z.1, by omega, z.2.2⟩]
    · rw [if_neg z, if_neg (fun y => by
        by_cases e : i = 74 + J
        · exact y.2.2 (by rw [show i - 74 = J by omega]; exact k)
        · exact z ⟨y.1, by omega, y.2.2⟩)]
section BREATH
variable {r : Nat} {σ : St} {f o : Nat → Int32} {h : Hs}
theorem n_hearOut (w : WF h) (c : CR f (hQ h (h 2))) (ho : ∀ j, j < 6 → o j = nI (wn h j)) : ∃ f', F_X4_hearOut r (st2 r σ f o) = some (nI (hrd h (h 0)), st2 r σ f' o) ∧ CR f' (hB h) := by
  unfold F_X4_hearOut
  have h0 := w.1
  have L : ∀ (m n j : Nat) (f : Nat → Int32), j + m = h 0 → m < n → CR f (hR h j) → ∃ f', (∀ K : Int32 → St → Option (Int32 × St), L_X4_hearOut_4 r K n (nI (hrd h j)) (nI j) (st2 r σ f o) = K (nI (hrd h (h 0))) (st2 r σ f' o)) ∧ CR f' (hR h (h 0)) := by
    intro m
    induction m with
    | zero =>
      intro n j f hj hn c
      obtain ⟨n, rfl⟩ : ∃ n', n = n' + 1 := ⟨n - 1, by omega⟩
      have ej : j = h 0 := by omega
      subst ej
      refine ⟨f, fun K => ?_, c⟩
      have c0 : f 0 = nI (h 0) := by rw [c 0 (by omega), hR_lo (by omega)]
      rw [L_X4_hearOut_4.eq_2]
      simp (disch := omega) only [ixN, clN, nI_add, pk_mul, subN, divN, remN, leN, ltN, eqN, le0N, eq0N, lt0N, ge0N, gt0N, if_pos, if_neg, if_true, if_false, Option.bind_some, shrN, shlN, andN1, nI_or, andm1, modS, true_or, or_true, st2_a, st2_b, st2_f, st2_A, st2_B, c0]
    | succ m ih =>
      intro n j f hj hn c
      obtain ⟨n, rfl⟩ : ∃ n', n = n' + 1 := ⟨n - 1, by omega⟩
      have c0 : f 0 = nI (h 0) := by rw [c 0 (by omega), hR_lo (by omega)]
      have oj := ho j (by omega)
      have bj := (wn_vs w j).1
      by_cases k : wn h j = 0
      · obtain ⟨f', h1, h2⟩ := ih n (j + 1) f (by omega) (by omega) (c.congr (fun i _ => (hR_s0 k i).symm))
        refine ⟨f', fun K => ?_, h2⟩
        rw [L_X4_hearOut_4.eq_2, ← h1 K, show hrd h (j + 1) = hrd h j by show (if wn h j = 0 then hrd h j else _) = _; rw [if_pos k]]
        simp (disch := omega) only [ixN, clN, nI_add, pk_mul, subN, divN, remN, leN, ltN, eqN, le0N, eq0N, lt0N, ge0N, gt0N, if_pos, if_neg, if_true, if_false, Option.bind_some, shrN, shlN, andN1, nI_or, andm1, modS, true_or, or_true, st2_a, st2_b, st2_f, st2_A, st2_B, c0, oj, k]
      · obtain ⟨f', h1, h2⟩ := ih n (j + 1) (upd (upd f (68 + j) (nI (wn h j))) (74 + j) (nI (h 4))) (by omega) (by omega) (((c.upd (68 + j) (wn h j)).upd (74 + j) (h 4)).congr (fun i _ => (hR_s1 (by omega) k i).symm))
        refine ⟨f', fun K => ?_, h2⟩
        have c4 : upd f (68 + j) (nI (wn h j)) 4 = nI (h 4) := by rw [pk_un (by omega), c 4 (by omega), hR_lo (by omega)]
        rw [L_X4_hearOut_4.eq_2, ← h1 K, show hrd h (j + 1) = hrd h j ||| 2 ^ j by show (if wn h j = 0 then hrd h j else _) = _; rw [if_neg k]]
        simp (disch := omega) only [ixN, clN, nI_add, pk_mul, subN, divN, remN, leN, ltN, eqN, le0N, eq0N, lt0N, ge0N, gt0N, if_pos, if_neg, if_true, if_false, Option.bind_some, shrN, shlN, andN1, nI_or, andm1, modS, true_or, or_true, st2_a, st2_b, st2_f, st2_A, st2_B, c0, oj, c4]
  obtain ⟨f', h1, h2⟩ := L (h 0) fuel 0 f (by omega) (by have := fuel_ge; omega) (c.congr (fun i _ => (hR_0 h i).symm))
  have c4 : f' 4 = nI (h 4) := by rw [h2 4 (by omega), hR_lo (by omega)]
  refine ⟨upd f' 4 (nI (h 4 + 1)), ?_, (h2.upd 4 (h 4 + 1)).congr (fun i _ => rfl)⟩
  refine (h1 _).trans ?_
  simp (disch := omega) only [ixN, clN, nI_add, pk_mul, subN, divN, remN, leN, ltN, eqN, le0N, eq0N, lt0N, ge0N, gt0N, if_pos, if_neg, if_true, if_false, Option.bind_some, shrN, shlN, andN1, nI_or, andm1, modS, true_or, or_true, st2_a, st2_b, st2_f, st2_A, st2_B, c4]
theorem n_passBreath (c : CR f h) (w : WF h) : ∃ f' o', F_X4_passBreath r (st2 r σ f o) = some (nI (hrd h (h 0)), st2 r σ f' o') ∧ CR f' (hB h) ∧ ∀ j, j < 6 → o' j = nI (wn h j) := by
  unfold F_X4_passBreath
  have h0 := w.2.2.1
  have hH := w.1
  have hT := w.taps
  have hLs := w.2.1
  -- the rows out at 0
  have L1 : ∀ (m n a : Nat) (o : Nat → Int32), a + m = 6 → m < n → (∀ i, i < a → o i = nI 0) → ∃ o', (∀ K : St → Option (Int32 × St), L_X4_passBreath_2 r K n (nI a) (st2 r σ f o) = K (st2 r σ f o')) ∧ ∀ i, i < 6 → o' i = nI 0 := by
    intro m
    induction m with
    | zero =>
      intro n a o ha hn hc
      obtain ⟨n, rfl⟩ : ∃ n', n = n' + 1 := ⟨n - 1, by omega⟩
      refine ⟨o, fun K => ?_, fun i hi => hc i (by omega)⟩
      rw [L_X4_passBreath_2.eq_2]
      simp (disch := omega) only [ixN, clN, nI_add, pk_mul, subN, divN, remN, leN, ltN, eqN, le0N, eq0N, lt0N, ge0N, gt0N, if_pos, if_neg, if_true, if_false, Option.bind_some, shrN, shlN, andN1, nI_or, andm1, modS, true_or, or_true, st2_a, st2_b, st2_f, st2_A, st2_B]
    | succ m ih =>
      intro n a o ha hn hc
      obtain ⟨n, rfl⟩ : ∃ n', n = n' + 1 := ⟨n - 1, by omega⟩
      obtain ⟨o', h1, h2⟩ := ih n (a + 1) (upd o a (nI 0)) (by omega) (by omega) (by
        intro i hi
        show (if i = a then nI 0 else o i) = _
        by_cases e : i = a
        · rw [if_pos e]
        · rw [if_neg e, hc i (by omega)])
      refine ⟨o', fun K => ?_, h2⟩
      rw [L_X4_passBreath_2.eq_2, ← h1 K]
      simp (disch := omega) only [ixN, clN, nI_add, pk_mul, subN, divN, remN, leN, ltN, eqN, le0N, eq0N, lt0N, ge0N, gt0N, if_pos, if_neg, if_true, if_false, Option.bind_some, shrN, shlN, andN1, nI_or, andm1, modS, true_or, or_true, st2_a, st2_b, st2_f, st2_A, st2_B]
  -- all goes on
  have L2 : ∀ (m n p : Nat) (f o : Nat → Int32), p + m = h 2 → m < n → CR f (hP h p) → (∀ j, j < 6 → o j = nI (win h j p)) → ∃ f' o', (∀ K : St → Option (Int32 × St), L_X4_passBreath_23 r K n (nI p) (st2 r σ f o) = K (st2 r σ f' o')) ∧ CR f' (hP h (h 2)) ∧ ∀ j, j < 6 → o' j = nI (wn h j) := by
    intro m
    induction m with
    | zero =>
      intro n p f o hp hn c ho
      obtain ⟨n, rfl⟩ : ∃ n', n = n' + 1 := ⟨n - 1, by omega⟩
      have ep : p = h 2 := by omega
      subst ep
      refine ⟨f, o, fun K => ?_, c, ho⟩
      have c2 : f 2 = nI (h 2) := by rw [c 2 (by omega), hP_lo (by omega)]
      rw [L_X4_passBreath_23.eq_2]
      simp (disch := omega) only [ixN, clN, nI_add, pk_mul, subN, divN, remN, leN, ltN, eqN, le0N, eq0N, lt0N, ge0N, gt0N, if_pos, if_neg, if_true, if_false, Option.bind_some, shrN, shlN, andN1, nI_or, andm1, modS, true_or, or_true, st2_a, st2_b, st2_f, st2_A, st2_B, c2]
    | succ m ih =>
      intro n p f o hp hn c ho
      obtain ⟨n, rfl⟩ : ∃ n', n = n' + 1 := ⟨n - 1, by omega⟩
      obtain ⟨⟨k1, k2⟩, fr, to, ln, dn⟩ := w.2.2.2.2.1 p (by omega)
      have c2 : f 2 = nI (h 2) := by rw [c 2 (by omega), hP_lo (by omega)]
      obtain ⟨f1, e1, c1⟩ := n_moveOn (r := r) (σ := σ) (o := o) c (p := p) (by omega) (by rw [hP_lo (by omega)]; exact ln)
      have c1 : CR f1 (hP h (p + 1)) := c1.congr (fun i _ => hP_s ln.1 ln.2 i (by omega))
      rw [hP_lo (i := 26 + p) (by omega), hP_hi (by omega)] at e1
      have e2 := n_comesOut (r := r) (σ := σ) (o := o) c1 (p := p) (s := h (40 + 4 * p + (h (26 + p) - 1))) (by omega) (by rw [hP_lo (by omega)]; exact ⟨k1, k2⟩) (by rw [hP_lo (by omega)]; exact dn) (by rw [hP_lo (by omega)]; exact hLs) (last_in w (by omega))
      rw [hP_lo (i := 5 + p) (by omega), hP_lo (i := 33 + p) (by omega), hP_lo (i := 1) (by omega), show cOs (h (5 + p)) (h (33 + p)) (h 1) (h (40 + 4 * p + (h (26 + p) - 1))) = cO h p from rfl] at e2
      have c19 : f1 (19 + p) = nI (h (19 + p)) := by rw [c1 (19 + p) (by omega), hP_lo (by omega)]
      have oj := ho (h (19 + p)) (by omega)
      have b1 := (cO_vs w (show p < h 2 by omega)).1
      have b2 := (win_vs w (h (19 + p)) p (by omega)).1
      have hw2 : ∀ j, win h j (p + 1) = if h (19 + p) = j ∧ win h j p % 100 < cO h p % 100 then cO h p else win h j p := fun _ => rfl
      by_cases k : win h (h (19 + p)) p % 100 < cO h p % 100
      · obtain ⟨f', o', h1, h2⟩ := ih n (p + 1) f1 (upd o (h (19 + p)) (nI (cO h p))) (by omega) (by omega) c1 (by
          intro j hj
          show (if j = h (19 + p) then nI (cO h p) else o j) = _
          rw [hw2]
          by_cases e : j = h (19 + p)
          · rw [if_pos e, if_pos ⟨e.symm, by rw [e]; exact k⟩]
          · rw [if_neg e, if_neg (fun z => e z.1.symm), ho j hj])
        refine ⟨f', o', fun K => ?_, h2⟩
        rw [L_X4_passBreath_23.eq_2, ← h1 K]
        simp (disch := omega) only [ixN, clN, nI_add, pk_mul, subN, divN, remN, leN, ltN, eqN, le0N, eq0N, lt0N, ge0N, gt0N, if_pos, if_neg, if_true, if_false, Option.bind_some, shrN, shlN, andN1, nI_or, andm1, modS, true_or, or_true, st2_a, st2_b, st2_f, st2_A, st2_B, c2, e1, e2, c19, oj, F_X4_loudnessOf]
      · obtain ⟨f', o', h1, h2⟩ := ih n (p + 1) f1 o (by omega) (by omega) c1 (by
          intro j hj
          rw [hw2, ho j hj]
          by_cases e : h (19 + p) = j ∧ win h j p % 100 < cO h p % 100
          · exact absurd (by rw [e.1]; exact e.2) k
          · rw [if_neg e])
        refine ⟨f', o', fun K => ?_, h2⟩
        rw [L_X4_passBreath_23.eq_2, ← h1 K]
        simp (disch := omega) only [ixN, clN, nI_add, pk_mul, subN, divN, remN, leN, ltN, eqN, le0N, eq0N, lt0N, ge0N, gt0N, if_pos, if_neg, if_true, if_false, Option.bind_some, shrN, shlN, andN1, nI_or, andm1, modS, true_or, or_true, st2_a, st2_b, st2_f, st2_A, st2_B, c2, e1, e2, c19, oj, F_X4_loudnessOf]
  -- the first places
  have L3 : ∀ (m n p : Nat) (f o : Nat → Int32), p + m = h 2 → m < n → CR f (hQ h p) → (∀ j, j < 6 → o j = nI (wn h j)) → ∃ f', (∀ K : St → Option (Int32 × St), L_X4_passBreath_85 r K n (nI p) (st2 r σ f o) = K (st2 r σ f' o)) ∧ CR f' (hQ h (h 2)) := by
    intro m
    induction m with
    | zero =>
      intro n p f o hp hn c ho
      obtain ⟨n, rfl⟩ : ∃ n', n = n' + 1 := ⟨n - 1, by omega⟩
      have ep : p = h 2 := by omega
      subst ep
      refine ⟨f, fun K => ?_, c⟩
      have c2 : f 2 = nI (h 2) := by rw [c 2 (by omega), hQ_lo (by omega)]
      rw [L_X4_passBreath_85.eq_2]
      simp (disch := omega) only [ixN, clN, nI_add, pk_mul, subN, divN, remN, leN, ltN, eqN, le0N, eq0N, lt0N, ge0N, gt0N, if_pos, if_neg, if_true, if_false, Option.bind_some, shrN, shlN, andN1, nI_or, andm1, modS, true_or, or_true, st2_a, st2_b, st2_f, st2_A, st2_B, c2]
    | succ m ih =>
      intro n p f o hp hn c ho
      obtain ⟨n, rfl⟩ : ∃ n', n = n' + 1 := ⟨n - 1, by omega⟩
      obtain ⟨⟨k1, k2⟩, fr, to, ln, dn⟩ := w.2.2.2.2.1 p (by omega)
      have c2 : f 2 = nI (h 2) := by rw [c 2 (by omega), hQ_lo (by omega)]
      have c3 : f 3 = nI (h 3) := by rw [c 3 (by omega), hQ_lo (by omega)]
      have c12 : f (12 + p) = nI (h (12 + p)) := by rw [c (12 + p) (by omega), hQ_lo (by omega)]
      have oj := ho (h (12 + p)) (by omega)
      have bt : h 3 / 2 ^ p ≤ h 3 := Nat.div_le_self _ _
      by_cases k : h 3 / 2 ^ p % 2 = 1
      · obtain ⟨f', h1, h2⟩ := ih n (p + 1) (upd f (40 + 4 * p) (nI (wn h (h (12 + p))))) o (by omega) (by omega) ((c.upd (40 + 4 * p) (wn h (h (12 + p)))).congr (fun i _ => (hQ_s1 k i).symm)) ho
        refine ⟨f', fun K => ?_, h2⟩
        rw [L_X4_passBreath_85.eq_2, ← h1 K]
        simp (disch := omega) only [ixN, clN, nI_add, pk_mul, subN, divN, remN, leN, ltN, eqN, le0N, eq0N, lt0N, ge0N, gt0N, if_pos, if_neg, if_true, if_false, Option.bind_some, shrN, shlN, andN1, nI_or, andm1, modS, true_or, or_true, st2_a, st2_b, st2_f, st2_A, st2_B, Nat.mul_comm p 4, c2, c3, c12, oj, F_X4_isOpen]
      · obtain ⟨f', h1, h2⟩ := ih n (p + 1) f o (by omega) (by omega) (c.congr (fun i _ => (hQ_s0 k i).symm)) ho
        refine ⟨f', fun K => ?_, h2⟩
        rw [L_X4_passBreath_85.eq_2, ← h1 K]
        simp (disch := omega) only [ixN, clN, nI_add, pk_mul, subN, divN, remN, leN, ltN, eqN, le0N, eq0N, lt0N, ge0N, gt0N, if_pos, if_neg, if_true, if_false, Option.bind_some, shrN, shlN, andN1, nI_or, andm1, modS, true_or, or_true, st2_a, st2_b, st2_f, st2_A, st2_B, c2, c3, F_X4_isOpen]
  obtain ⟨o1, e1, z1⟩ := L1 6 fuel 0 o (by omega) (by have := fuel_ge; omega) (fun i hi => by omega)
  obtain ⟨f2, o2, e2, c2, z2⟩ := L2 (h 2) fuel 0 f o1 (by omega) (by have := fuel_ge; omega) (c.congr (fun i _ => (hP_0 h i).symm)) z1
  obtain ⟨f3, e3, c3⟩ := L3 (h 2) fuel 0 f2 o2 (by omega) (by have := fuel_ge; omega) (c2.congr (fun i _ => (hQ_0 h i).symm)) z2
  obtain ⟨f4, e4, c4⟩ := n_hearOut (r := r) (σ := σ) w c3 z2
  refine ⟨f4, o2, ?_, c4, z2⟩
  refine (e1 _).trans ((e2 _).trans ((e3 _).trans ?_))
  rw [e4]
  rfl
end BREATH
