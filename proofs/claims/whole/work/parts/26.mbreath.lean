/-! the reference's row: a breath -/
/-- the horns below J have heard -/
def hG (h : Hs) (J : Nat) : Hs := fun i => if 68 ≤ i ∧ i < 68 + J ∧ wn h (i - 68) ≠ 0 then wn h (i - 68) else if 74 ≤ i ∧ i < 74 + J ∧ wn h (i - 74) ≠ 0 then h 4 else h i
theorem hG_lo {h : Hs} {J i : Nat} (hi : i < 68) : hG h J i = h i := by
  show (if 68 ≤ i ∧ _ then _ else if 74 ≤ i ∧ _ then _ else h i) = h i
  rw [if_neg (fun q => by omega), if_neg (fun q => by omega)]
theorem hG_0 (h : Hs) (i : Nat) : hG h 0 i = h i := by
  show (if 68 ≤ i ∧ _ then _ else if 74 ≤ i ∧ _ then _ else h i) = _
  rw [if_neg (fun q => by omega), if_neg (fun q => by omega)]
theorem hG_s1 {h : Hs} {J : Nat} (hJ : J < 6) (k : wn h J ≠ 0) (i : Nat) : hG h (J + 1) i = uH (uH (hG h J) (68 + J) (wn h J)) (74 + J) (h 4) i := by
  show (if 68 ≤ i ∧ i < 68 + (J + 1) ∧ wn h (i - 68) ≠ 0 then wn h (i - 68) else if 74 ≤ i ∧ i < 74 + (J + 1) ∧ wn h (i - 74) ≠ 0 then h 4 else h i) = (if i = 74 + J then h 4 else if i = 68 + J then wn h J else if 68 ≤ i ∧ i < 68 + J ∧ wn h (i - 68) ≠ 0 then wn h (i - 68) else if 74 ≤ i ∧ i < 74 + J ∧ wn h (i - 74) ≠ 0 then h 4 else h i)
  by_cases e : i = 74 + J
  · rw [if_pos e, if_neg (fun q => by omega), show i - 74 = J by omega, if_pos ⟨by omega, by omega, k⟩]
  · rw [if_neg e]
    by_cases e2 : i = 68 + J
    · rw [if_pos e2, show i - 68 = J by omega, if_pos ⟨by omega, by omega, k⟩]
    · rw [if_neg e2]
      by_cases z : 68 ≤ i ∧ i < 68 + J ∧ wn h (i - 68) ≠ 0
      · rw [if_pos z, if_pos ⟨z.1, by omega, z.2.2⟩]
      · rw [if_neg z, if_neg (fun y => z ⟨y.1, by omega, y.2.2⟩)]
        by_cases z : 74 ≤ i ∧ i < 74 + J ∧ wn h (i - 74) ≠ 0
        · rw [if_pos z, if_pos ⟨z.1, by omega, z.2.2⟩]
        · rw [if_neg z, if_neg (fun y => z ⟨y.1, by omega, y.2.2⟩)]
theorem hG_s0 {h : Hs} {J : Nat} (k : wn h J = 0) (i : Nat) : hG h (J + 1) i = hG h J i := by
  show (if 68 ≤ i ∧ i < 68 + (J + 1) ∧ wn h (i - 68) ≠ 0 then wn h (i - 68) else if 74 ≤ i ∧ i < 74 + (J + 1) ∧ wn h (i - 74) ≠ 0 then h 4 else h i) = (if 68 ≤ i ∧ i < 68 + J ∧ wn h (i - 68) ≠ 0 then wn h (i - 68) else if 74 ≤ i ∧ i < 74 + J ∧ wn h (i - 74) ≠ 0 then h 4 else h i)
  by_cases z : 68 ≤ i ∧ i < 68 + J ∧ wn h (i - 68) ≠ 0
  · rw [if_pos z, if_pos ⟨z.1, by omega, z.2.2⟩]
  · rw [if_neg z, if_neg (fun y => by
      by_cases e : i = 68 + J
      · exact y.2.2 (by rw [show i - 68 = J by omega]; exact k)
      · exact z ⟨y.1, by omega, y.2.2⟩)]
    by_cases z : 74 ≤ i ∧ i < 74 + J ∧ wn h (i - 74) ≠ 0
    · rw [if_pos z, if_pos ⟨z.1, by omega, z.2.2⟩]
    · rw [if_neg z, if_neg (fun y => by
        by_cases e : i = 74 + J
        · exact y.2.2 (by rw [show i - 74 = J by omega]; exact k)
        · exact z ⟨y.1, by omega, y.2.2⟩)]
/-- and the pipes below P went on -/
def hT (h : Hs) (P : Nat) : Hs := fun i => if 40 ≤ i ∧ i < 40 + 4 * P then (if (i - 40) % 4 = 0 then (if h 3 / 2 ^ ((i - 40) / 4) % 2 = 1 then wn h (h (12 + (i - 40) / 4)) else 0) else if (i - 40) % 4 < h (26 + (i - 40) / 4) then h (i - 1) else h i) else hG h (h 0) i
theorem hT_lo {h : Hs} {P i : Nat} (hi : i < 40) : hT h P i = h i := by
  show (if 40 ≤ i ∧ _ then _ else hG h (h 0) i) = h i
  rw [if_neg (fun q => by omega), hG_lo (by omega)]
theorem hT_hi {h : Hs} {P i : Nat} (hi : 40 + 4 * P ≤ i) : hT h P i = hG h (h 0) i := if_neg (fun q => by omega)
theorem hT_0 (h : Hs) (i : Nat) : hT h 0 i = hG h (h 0) i := if_neg (fun q => by omega)
theorem hT_B {h : Hs} (h7 : h 2 ≤ 7) (i : Nat) : (if i = 4 then h 4 + 1 else hT h (h 2) i) = hB h i := by
  show _ = (if i = 4 then h 4 + 1 else hR h (h 0) i)
  by_cases e : i = 4
  · rw [if_pos e, if_pos e]
  · rw [if_neg e, if_neg e]
    show (if 40 ≤ i ∧ i < 40 + 4 * h 2 then (if (i - 40) % 4 = 0 then (if h 3 / 2 ^ ((i - 40) / 4) % 2 = 1 then wn h (h (12 + (i - 40) / 4)) else 0) else if (i - 40) % 4 < h (26 + (i - 40) / 4) then h (i - 1) else h i) else hG h (h 0) i) = (if 68 ≤ i ∧ i < 68 + h 0 ∧ wn h (i - 68) ≠ 0 then wn h (i - 68) else if 74 ≤ i ∧ i < 74 + h 0 ∧ wn h (i - 74) ≠ 0 then h 4 else (if 40 ≤ i ∧ i < 40 + 4 * h 2 ∧ (i - 40) % 4 = 0 ∧ h 3 / 2 ^ ((i - 40) / 4) % 2 = 1 then wn h (h (12 + (i - 40) / 4)) else (if 40 ≤ i ∧ i < 40 + 4 * h 2 then (if (i - 40) % 4 = 0 then 0 else if (i - 40) % 4 < h (26 + (i - 40) / 4) then h (i - 1) else h i) else h i)))
    by_cases q : 40 ≤ i ∧ i < 40 + 4 * h 2
    · rw [if_pos q, if_neg (c := 68 ≤ i ∧ i < 68 + h 0 ∧ wn h (i - 68) ≠ 0) (fun z => by omega), if_neg (c := 74 ≤ i ∧ i < 74 + h 0 ∧ wn h (i - 74) ≠ 0) (fun z => by omega)]
      by_cases q2 : (i - 40) % 4 = 0
      · rw [if_pos q2]
        by_cases q3 : h 3 / 2 ^ ((i - 40) / 4) % 2 = 1
        · rw [if_pos q3, if_pos ⟨q.1, q.2, q2, q3⟩]
        · rw [if_neg q3, if_neg (fun z => q3 z.2.2.2), if_pos q, if_pos q2]
      · rw [if_neg q2, if_neg (c := 40 ≤ i ∧ i < 40 + 4 * h 2 ∧ (i - 40) % 4 = 0 ∧ h 3 / 2 ^ ((i - 40) / 4) % 2 = 1) (fun z => q2 z.2.2.1), if_pos q, if_neg q2]
    · rw [if_neg q, if_neg (c := 40 ≤ i ∧ i < 40 + 4 * h 2 ∧ (i - 40) % 4 = 0 ∧ h 3 / 2 ^ ((i - 40) / 4) % 2 = 1) (fun z => q ⟨z.1, z.2.1⟩), if_neg q]
      rfl
section MBR
variable {k : Nat} {σ : St} {g e : Nat → Int32} {h : Hs}
theorem cO_lo {h h' : Hs} (e : ∀ i, i < 68 → h' i = h i) {p : Nat} (hp : p < 7) (hl : 1 ≤ h (26 + p) ∧ h (26 + p) ≤ 4) : cO h' p = cO h p := by
  unfold cO
  rw [e (5 + p) (by omega), e (33 + p) (by omega), e 1 (by omega), e (26 + p) (by omega), e (40 + 4 * p + (h (26 + p) - 1)) (by omega)]
/-- one horn: what comes out there -/
theorem m_horn (hk : k ≠ 34) (w : WF h) {j : Nat} (hj : j < 6) (c : MR g (hG h j)) (he : e j = nI 0) : ∃ e', (∀ (a2 : Int32) (K : Int32 → Int32 → St → Option (Int32 × St)), L_X8_breath_21 k K fuel a2 (nI j) (nI 0) (st3 k σ g e) = K a2 (nI j) (st3 k σ g e')) ∧ e' j = nI (wn h j) ∧ ∀ i, i ≠ j → e' i = e i := by
  have h0 := w.2.2.1
  have hH := w.1
  have hLs := w.2.1
  have c2 : g 2 = nI (h 2) := by rw [c.a2, hG_lo (by omega)]
  have L : ∀ (m n p : Nat) (e : Nat → Int32), p + m = h 2 → m < n → e j = nI (win h j p) → ∃ e', (∀ (a2 : Int32) (K : Int32 → Int32 → St → Option (Int32 × St)), L_X8_breath_21 k K n a2 (nI j) (nI p) (st3 k σ g e) = K a2 (nI j) (st3 k σ g e')) ∧ e' j = nI (wn h j) ∧ ∀ i, i ≠ j → e' i = e i := by
    intro m
    induction m with
    | zero =>
      intro n p e hp hn he
      obtain ⟨n, rfl⟩ : ∃ n', n = n' + 1 := ⟨n - 1, by omega⟩
      have ep : p = h 2 := by omega
      subst ep
      refine ⟨e, fun a2 K => ?_, he, fun _ _ => rfl⟩
      rw [L_X8_breath_21.eq_2]
      simp (disch := omega) only [ixN, clN, nI_add, pk_mul, subN, divN, remN, leN, ltN, eqN, le0N, eq0N, lt0N, ge0N, gt0N, if_pos, if_neg, if_true, if_false, Option.bind_some, shrN, shlN, andN1, nI_or, andm1, modS, true_or, or_true, st3_a hk, c2]
    | succ m ih =>
      intro n p e hp hn he
      obtain ⟨n, rfl⟩ : ∃ n', n = n' + 1 := ⟨n - 1, by omega⟩
      obtain ⟨kd, fr, to, ln, dn⟩ := w.2.2.2.2.1 p (by omega)
      have ct : g (17 + 9 * p + 2) = nI (h (19 + p)) := by rw [c.to (by omega), hG_lo (by omega)]
      have b2 := (win_vs w j p (by omega)).1
      have hw2 : win h j (p + 1) = if h (19 + p) = j ∧ win h j p % 100 < cO h p % 100 then cO h p else win h j p := rfl
      have e1 := m_out (σ := σ) (e := e) hk c (p := p) (by omega) (by rw [hG_lo (by omega)]; exact kd) (by rw [hG_lo (by omega)]; exact dn) (by rw [hG_lo (by omega)]; exact hLs) (by rw [hG_lo (by omega)]; exact ln) (by rw [hG_lo (i := 26 + p) (by omega), hG_lo (by omega)]; exact last_in w (by omega))
      rw [cO_lo (h := h) (fun i hi => hG_lo hi) (by omega) ln] at e1
      by_cases t : h (19 + p) = j
      · have b1 := (cO_vs w (show p < h 2 by omega)).1
        by_cases q : win h j p % 100 < cO h p % 100
        · obtain ⟨e', h1, h2, h3⟩ := ih n (p + 1) (upd e j (nI (cO h p))) (by omega) (by omega) (by rw [hw2, if_pos ⟨t, q⟩, pk_us])
          refine ⟨e', fun a2 K => ?_, h2, fun i hi => by rw [h3 i hi, pk_un hi]⟩
          rw [L_X8_breath_21.eq_2, ← h1 a2 K]
          simp (disch := omega) only [ixN, clN, nI_add, pk_mul, subN, divN, remN, leN, ltN, eqN, le0N, eq0N, lt0N, ge0N, gt0N, if_pos, if_neg, if_true, if_false, Option.bind_some, shrN, shlN, andN1, nI_or, andm1, modS, true_or, or_true, m_of, st3_a hk, st3_b, st3_B hk, c2, ct, t, e1, J_X8_breath_50, he]
        · obtain ⟨e', h1, h2, h3⟩ := ih n (p + 1) e (by omega) (by omega) (by rw [hw2, if_neg (fun z => q z.2), he])
          refine ⟨e', fun a2 K => ?_, h2, h3⟩
          rw [L_X8_breath_21.eq_2, ← h1 a2 K]
          have eu : upd e j (nI (win h j p)) = e := by rw [← he, upd_self]
          simp (disch := omega) only [ixN, clN, nI_add, pk_mul, subN, divN, remN, leN, ltN, eqN, le0N, eq0N, lt0N, ge0N, gt0N, if_pos, if_neg, if_true, if_false, Option.bind_some, shrN, shlN, andN1, nI_or, andm1, modS, true_or, or_true, m_of, st3_a hk, st3_b, st3_B hk, c2, ct, t, e1, J_X8_breath_50, he, eu]
      · obtain ⟨e', h1, h2, h3⟩ := ih n (p + 1) e (by omega) (by omega) (by rw [hw2, if_neg (fun z => t z.1), he])
        refine ⟨e', fun a2 K => ?_, h2, h3⟩
        rw [L_X8_breath_21.eq_2, ← h1 a2 K]
        have eu : upd e j (nI (win h j p)) = e := by rw [← he, upd_self]
        simp (disch := omega) only [ixN, clN, nI_add, pk_mul, subN, divN, remN, leN, ltN, eqN, le0N, eq0N, lt0N, ge0N, gt0N, if_pos, if_neg, if_true, if_false, Option.bind_some, shrN, shlN, andN1, nI_or, andm1, modS, true_or, or_true, m_of, st3_a hk, st3_b, st3_B hk, c2, ct, J_X8_breath_50, he, eu, Nat.zero_mod]
  exact L (h 2) fuel 0 e (by omega) (by have := fuel_ge; omega) he
theorem m_horns (hk : k ≠ 34) (w : WF h) (c : MR g h) : ∃ g' e', (∀ K : Int32 → St → Option (Int32 × St), L_X8_breath_4 k K fuel (nI 0) (nI 0) (st3 k σ g e) = K (nI (hrd h (h 0))) (st3 k σ g' e')) ∧ MR g' (hG h (h 0)) ∧ ∀ j, j < h 0 → e' j = nI (wn h j) := by
  have hH := w.1
  have L : ∀ (m n j : Nat) (g e : Nat → Int32), j + m = h 0 → m < n → MR g (hG h j) → (∀ i, i < j → e i = nI (wn h i)) → ∃ g' e', (∀ K : Int32 → St → Option (Int32 × St), L_X8_breath_4 k K n (nI (hrd h j)) (nI j) (st3 k σ g e) = K (nI (hrd h (h 0))) (st3 k σ g' e')) ∧ MR g' (hG h (h 0)) ∧ ∀ j, j < h 0 → e' j = nI (wn h j) := by
    intro m
    induction m with
    | zero =>
      intro n j g e hj hn c he
      obtain ⟨n, rfl⟩ : ∃ n', n = n' + 1 := ⟨n - 1, by omega⟩
      have ej : j = h 0 := by omega
      subst ej
      refine ⟨g, e, fun K => ?_, c, he⟩
      have c0 : g 0 = nI (h 0) := by rw [c.a0, hG_lo (by omega)]
      rw [L_X8_breath_4.eq_2]
      simp (disch := omega) only [ixN, clN, nI_add, pk_mul, subN, divN, remN, leN, ltN, eqN, le0N, eq0N, lt0N, ge0N, gt0N, if_pos, if_neg, if_true, if_false, Option.bind_some, shrN, shlN, andN1, nI_or, andm1, modS, true_or, or_true, st3_a hk, c0]
    | succ m ih =>
      intro n j g e hj hn c he
      obtain ⟨n, rfl⟩ : ∃ n', n = n' + 1 := ⟨n - 1, by omega⟩
      have c0 : g 0 = nI (h 0) := by rw [c.a0, hG_lo (by omega)]
      obtain ⟨e1, l1, l2, l3⟩ := m_horn (σ := σ) hk w (show j < 6 by omega) c (e := upd e j (nI 0)) pk_us
      have bj := (wn_vs w j).1
      have he1 : ∀ i, i < j + 1 → e1 i = nI (wn h i) := fun i hi => by
        by_cases q : i = j
        · rw [q, l2]
        · rw [l3 i q, pk_un q, he i (by omega)]
      by_cases q : wn h j = 0
      · obtain ⟨g', e', h1, h2⟩ := ih n (j + 1) g e1 (by omega) (by omega) (c.congr (fun i _ => (hG_s0 q i).symm)) he1
        refine ⟨g', e', fun K => ?_, h2⟩
        rw [L_X8_breath_4.eq_2, ← h1 K, show hrd h (j + 1) = hrd h j by show (if wn h j = 0 then hrd h j else _) = _; rw [if_pos q]]
        simp (disch := omega) only [ixN, clN, nI_add, pk_mul, subN, divN, remN, leN, ltN, eqN, le0N, eq0N, lt0N, ge0N, gt0N, if_pos, if_neg, if_true, if_false, Option.bind_some, shrN, shlN, andN1, nI_or, andm1, modS, true_or, or_true, st3_a hk, st3_b, st3_B hk, c0, l1, l2, q]
      · obtain ⟨g', e', h1, h2⟩ := ih n (j + 1) (upd (upd g (5 + 2 * j) (nI (wn h j))) (5 + 2 * j + 1) (nI (h 4))) e1 (by omega) (by omega) (((c.upd (i := 68 + j) (wn h j) (by omega) (pmH j (by omega))).upd (i := 74 + j) (h 4) (by omega) (pmW j (by omega))).congr (fun i _ => (hG_s1 (by omega) q i).symm)) he1
        refine ⟨g', e', fun K => ?_, h2⟩
        have c4 : upd g (5 + 2 * j) (nI (wn h j)) 3 = nI (h 4) := by rw [pk_un (by omega), c.a4, hG_lo (by omega)]
        rw [L_X8_breath_4.eq_2, ← h1 K, show hrd h (j + 1) = hrd h j ||| 2 ^ j by show (if wn h j = 0 then hrd h j else _) = _; rw [if_neg q]]
        simp (disch := omega) only [ixN, clN, nI_add, pk_mul, subN, divN, remN, leN, ltN, eqN, le0N, eq0N, lt0N, ge0N, gt0N, if_pos, if_neg, if_true, if_false, Option.bind_some, shrN, shlN, andN1, nI_or, andm1, modS, true_or, or_true, st3_a hk, st3_b, st3_B hk, st3_A hk, c0, l1, l2, c4]
  exact L (h 0) fuel 0 g e (by omega) (by have := fuel_ge; omega) (c.congr (fun i _ => (hG_0 h i).symm)) (fun i hi => by omega)
end MBR
