/-! the reference's row: a breath whole, sounds, a hush -/
section MR2
variable {k : Nat} {σ : St} {g e : Nat → Int32} {h : Hs}
/-- pipe p, its places above c moved -/
def hU (h : Hs) (p c : Nat) : Hs := fun i => if 40 + 4 * p + c < i ∧ i < 40 + 4 * p + h (26 + p) then h (i - 1) else hT h p i
theorem hU_lo {h : Hs} {p c i : Nat} (hi : i < 40) : hU h p c i = h i := by
  show (if 40 + 4 * p + c < i ∧ _ then _ else hT h p i) = h i
  rw [if_neg (fun q => by omega), hT_lo hi]
theorem hU_T {h : Hs} {p : Nat} (ln0 : 1 ≤ h (26 + p)) (ln : h (26 + p) ≤ 4) (hp : p < 7) (i : Nat) : uH (hU h p 0) (40 + 4 * p) (if h 3 / 2 ^ p % 2 = 1 then wn h (h (12 + p)) else 0) i = hT h (p + 1) i := by
  show (if i = 40 + 4 * p then _ else if 40 + 4 * p + 0 < i ∧ i < 40 + 4 * p + h (26 + p) then h (i - 1) else hT h p i) = (if 40 ≤ i ∧ i < 40 + 4 * (p + 1) then (if (i - 40) % 4 = 0 then (if h 3 / 2 ^ ((i - 40) / 4) % 2 = 1 then wn h (h (12 + (i - 40) / 4)) else 0) else if (i - 40) % 4 < h (26 + (i - 40) / 4) then h (i - 1) else h i) else hG h (h 0) i)
  by_cases e : i = 40 + 4 * p
  · rw [if_pos e, if_pos (c := 40 ≤ i ∧ i < 40 + 4 * (p + 1)) (by omega), if_pos (c := (i - 40) % 4 = 0) (by omega), show (i - 40) / 4 = p by omega]
  · rw [if_neg e]
    by_cases q : 40 + 4 * p ≤ i ∧ i < 40 + 4 * (p + 1)
    · rw [if_pos (c := 40 ≤ i ∧ i < 40 + 4 * (p + 1)) (by omega), if_neg (c := (i - 40) % 4 = 0) (by omega), show (i - 40) / 4 = p by omega]
      by_cases q2 : (i - 40) % 4 < h (26 + p)
      · rw [if_pos q2, if_pos (by omega)]
      · rw [if_neg q2, if_neg (by omega), hT_hi (by omega), hG_lo (by omega)]
    · rw [if_neg (by omega)]
      by_cases q2 : 40 + 4 * p ≤ i
      · rw [if_neg (by omega), hT_hi q2]
      · show (if 40 ≤ i ∧ i < 40 + 4 * p then (if (i - 40) % 4 = 0 then (if h 3 / 2 ^ ((i - 40) / 4) % 2 = 1 then wn h (h (12 + (i - 40) / 4)) else 0) else if (i - 40) % 4 < h (26 + (i - 40) / 4) then h (i - 1) else h i) else hG h (h 0) i) = _
        by_cases q3 : 40 ≤ i
        · rw [if_pos (c := 40 ≤ i ∧ i < 40 + 4 * p) (by omega), if_pos (c := 40 ≤ i ∧ i < 40 + 4 * (p + 1)) (by omega)]
        · rw [if_neg (c := 40 ≤ i ∧ i < 40 + 4 * p) (by omega), if_neg (c := 40 ≤ i ∧ i < 40 + 4 * (p + 1)) (by omega)]
theorem m_shift (hk : k ≠ 34) {p : Nat} (hp : p < 7) (ln : 1 ≤ h (26 + p) ∧ h (26 + p) ≤ 4) (c : MR g (hT h p)) : ∃ g', (∀ (a2 a3 : Int32) (K : Int32 → Int32 → Int32 → St → Option (Int32 × St)), L_X8_breath_168 k K fuel a2 a3 (nI (17 + 9 * p + 5)) (nI (h (26 + p) - 1)) (st3 k σ g e) = K a2 a3 (nI (17 + 9 * p + 5)) (st3 k σ g' e)) ∧ MR g' (hU h p 0) := by
  have L : ∀ (c n : Nat) (g : Nat → Int32), c < h (26 + p) → c < n → MR g (hU h p c) → ∃ g', (∀ (a2 a3 : Int32) (K : Int32 → Int32 → Int32 → St → Option (Int32 × St)), L_X8_breath_168 k K n a2 a3 (nI (17 + 9 * p + 5)) (nI c) (st3 k σ g e) = K a2 a3 (nI (17 + 9 * p + 5)) (st3 k σ g' e)) ∧ MR g' (hU h p 0) := by
    intro c
    induction c with
    | zero =>
      intro n g hc hn m
      obtain ⟨n, rfl⟩ : ∃ n', n = n' + 1 := ⟨n - 1, by omega⟩
      refine ⟨g, fun a2 a3 K => ?_, m⟩
      rw [L_X8_breath_168.eq_2]
      simp (disch := omega) only [ixN, clN, nI_add, pk_mul, subN, divN, remN, leN, ltN, eqN, le0N, eq0N, lt0N, ge0N, gt0N, if_pos, if_neg, if_true, if_false, Option.bind_some, shrN, shlN, andN1, nI_or, andm1, modS, true_or, or_true]
    | succ c ih =>
      intro n g hc hn m
      obtain ⟨n, rfl⟩ : ∃ n', n = n' + 1 := ⟨n - 1, by omega⟩
      have ca : g (17 + 9 * p + 5 + (c + 1) - 1) = nI (h (40 + 4 * p + c)) := by
        rw [m.sn (p := p) (k := c) hp (by omega) (by omega)]
        show nI (if 40 + 4 * p + (c + 1) < 40 + 4 * p + c ∧ _ then _ else hT h p (40 + 4 * p + c)) = _
        rw [if_neg (fun q => by omega), hT_hi (by omega), hG_lo (by omega)]
      obtain ⟨g', h1, h2⟩ := ih n (upd g (17 + 9 * p + 5 + (c + 1)) (nI (h (40 + 4 * p + c)))) (by omega) (by omega) ((m.upd (i := 40 + 4 * p + (c + 1)) (h (40 + 4 * p + c)) (by omega) (by rw [pmI p hp (c + 1) (by omega)]; omega)).congr (fun i _ => by
        show (if i = 40 + 4 * p + (c + 1) then h (40 + 4 * p + c) else if 40 + 4 * p + (c + 1) < i ∧ i < 40 + 4 * p + h (26 + p) then h (i - 1) else hT h p i) = (if 40 + 4 * p + c < i ∧ i < 40 + 4 * p + h (26 + p) then h (i - 1) else hT h p i)
        by_cases q : i = 40 + 4 * p + (c + 1)
        · rw [if_pos q, if_pos (by omega), show i - 1 = 40 + 4 * p + c by omega]
        · rw [if_neg q]
          split <;> split <;> first | rfl | omega))
      refine ⟨g', fun a2 a3 K => ?_, h2⟩
      rw [L_X8_breath_168.eq_2, ← h1 a2 a3 K]
      simp (disch := omega) only [ixN, clN, nI_add, pk_mul, subN, divN, remN, leN, ltN, eqN, le0N, eq0N, lt0N, ge0N, gt0N, if_pos, if_neg, if_true, if_false, Option.bind_some, shrN, shlN, andN1, nI_or, andm1, modS, true_or, or_true, st3_a hk, st3_A hk, ca, sb_m1, Nat.add_sub_cancel]
  exact L (h (26 + p) - 1) fuel g (by omega) (by have := fuel_ge; omega) (c.congr (fun i _ => by
    show _ = (if 40 + 4 * p + (h (26 + p) - 1) < i ∧ i < 40 + 4 * p + h (26 + p) then h (i - 1) else hT h p i)
    rw [if_neg (fun q => by omega)]))
theorem m_pipes (hk : k ≠ 34) (w : WF h) {e1 : Nat → Int32} (z1 : ∀ j, j < h 0 → e1 j = nI (wn h j)) : ∀ (m n p : Nat) (g : Nat → Int32), p + m = h 2 → m < n → MR g (hT h p) → ∃ g', (∀ (a2 : Int32) (K : Int32 → St → Option (Int32 × St)), L_X8_breath_140 k K n a2 (nI p) (st3 k σ g e1) = K a2 (st3 k σ g' e1)) ∧ MR g' (hT h (h 2)) := by
  have h0 := w.2.2.1
  have hH := w.1
  have hTp := w.taps
  intro m
  induction m with
  | zero =>
    intro n p g hp hn c
    obtain ⟨n, rfl⟩ : ∃ n', n = n' + 1 := ⟨n - 1, by omega⟩
    have ep : p = h 2 := by omega
    subst ep
    refine ⟨g, fun a2 K => ?_, c⟩
    have c2 : g 2 = nI (h 2) := by rw [c.a2, hT_lo (by omega)]
    rw [L_X8_breath_140.eq_2]
    simp (disch := omega) only [ixN, clN, nI_add, pk_mul, subN, divN, remN, leN, ltN, eqN, le0N, eq0N, lt0N, ge0N, gt0N, if_pos, if_neg, if_true, if_false, Option.bind_some, shrN, shlN, andN1, nI_or, andm1, modS, true_or, or_true, st3_a hk, c2]
  | succ m ih =>
    intro n p g hp hn c
    obtain ⟨n, rfl⟩ : ∃ n', n = n' + 1 := ⟨n - 1, by omega⟩
    obtain ⟨kd, fr, to, ln, dn⟩ := w.2.2.2.2.1 p (by omega)
    have c2 : g 2 = nI (h 2) := by rw [c.a2, hT_lo (by omega)]
    have cl : g (17 + 9 * p + 3) = nI (h (26 + p)) := by rw [c.ln (by omega), hT_lo (by omega)]
    obtain ⟨g2, s1, s2⟩ := m_shift (σ := σ) (e := e1) hk (show p < 7 by omega) ln c
    have c3 : g2 4 = nI (h 3) := by rw [s2.a3, hU_lo (by omega)]
    have c12 : g2 (17 + 9 * p + 1) = nI (h (12 + p)) := by rw [s2.fr (by omega), hU_lo (by omega)]
    have ze := z1 (h (12 + p)) fr
    have bt : h 3 / 2 ^ p ≤ h 3 := Nat.div_le_self _ _
    have hup := fun v => s2.upd (i := 40 + 4 * p) (j := 17 + 9 * p + 5) v (by omega) (by rw [← Nat.add_zero (40 + 4 * p), pmI p (by omega) 0 (by omega)])
    by_cases q : h 3 / 2 ^ p % 2 = 1
    · obtain ⟨g', h1, h2⟩ := ih n (p + 1) (upd g2 (17 + 9 * p + 5) (nI (wn h (h (12 + p))))) (by omega) (by omega) ((hup (wn h (h (12 + p)))).congr (fun i _ => by rw [← hU_T ln.1 ln.2 (by omega), if_pos q]))
      refine ⟨g', fun a2 K => ?_, h2⟩
      rw [L_X8_breath_140.eq_2, ← h1 a2 K]
      simp (disch := omega) only [ixN, clN, nI_add, pk_mul, subN, divN, remN, leN, ltN, eqN, le0N, eq0N, lt0N, ge0N, gt0N, if_pos, if_neg, if_true, if_false, Option.bind_some, shrN, shlN, andN1, nI_or, andm1, modS, true_or, or_true, m_of, st3_a hk, st3_b, st3_A hk, c2, cl, s1, c3, c12, ze, F_X8_has]
    · obtain ⟨g', h1, h2⟩ := ih n (p + 1) (upd g2 (17 + 9 * p + 5) (nI 0)) (by omega) (by omega) ((hup 0).congr (fun i _ => by rw [← hU_T ln.1 ln.2 (by omega), if_neg q]))
      refine ⟨g', fun a2 K => ?_, h2⟩
      rw [L_X8_breath_140.eq_2, ← h1 a2 K]
      simp (disch := omega) only [ixN, clN, nI_add, pk_mul, subN, divN, remN, leN, ltN, eqN, le0N, eq0N, lt0N, ge0N, gt0N, if_pos, if_neg, if_true, if_false, Option.bind_some, shrN, shlN, andN1, nI_or, andm1, modS, true_or, or_true, m_of, st3_a hk, st3_b, st3_A hk, c2, cl, s1, c3, F_X8_has]
theorem m_breath (hk : k ≠ 34) (c : MR g h) (w : WF h) : ∃ g' e', F_X8_breath k (st3 k σ g e) = some (nI (hrd h (h 0)), st3 k σ g' e') ∧ MR g' (hB h) ∧ ∀ j, j < h 0 → e' j = nI (wn h j) := by
  unfold F_X8_breath
  have h0 := w.2.2.1
  have hH := w.1
  have hTp := w.taps
  obtain ⟨g1, e1, l1, c1, z1⟩ := m_horns (σ := σ) (e := e) hk w c
  obtain ⟨g3, l3, c3⟩ := m_pipes (σ := σ) hk w z1 (h 2) fuel 0 g1 (by omega) (by have := fuel_ge; omega) (c1.congr (fun i _ => (hT_0 h i).symm))
  have c4 : g3 3 = nI (h 4) := by rw [c3.a4, hT_lo (by omega)]
  refine ⟨upd g3 3 (nI (h 4 + 1)), e1, ?_, (c3.upd (i := 4) (j := 3) (h 4 + 1) (by omega) rfl).congr (fun i _ => hT_B h0 i), z1⟩
  rw [l1, l3]
  simp (disch := omega) only [ixN, clN, nI_add, pk_mul, subN, divN, remN, leN, ltN, eqN, le0N, eq0N, lt0N, ge0N, gt0N, if_pos, if_neg, if_true, if_false, Option.bind_some, shrN, shlN, andN1, nI_or, andm1, modS, true_or, or_true, st3_a hk, st3_A hk, c4]
theorem cz_len (w : WF h) {p : Nat} (hp : p < h 2) : cz h (40 + 4 * p) (h (26 + p)) = cz h (40 + 4 * p) 4 := by
  obtain ⟨kd, fr, to, ln, dn⟩ := w.2.2.2.2.1 p hp
  have h0 := w.2.2.1
  have z := w.2.2.2.2.2.2 p
  have z1 := z 1 (by omega) (by omega)
  have z2 := z 2 (by omega) (by omega)
  have z3 := z 3 (by omega) (by omega)
  generalize h (26 + p) = len at *
  rcases (show len = 1 ∨ len = 2 ∨ len = 3 ∨ len = 4 by omega) with rfl | rfl | rfl | rfl
  · simp [cz, z1 (Or.inr (by omega)), z2 (Or.inr (by omega)), z3 (Or.inr (by omega))]
  · simp [cz, z2 (Or.inr (by omega)), z3 (Or.inr (by omega))]
  · simp [cz, z3 (Or.inr (by omega))]
  · rfl
theorem m_soundsIn (hk : k ≠ 34) (c : MR g h) (w : WF h) {p : Nat} (hp : p < h 2) : F_X8_soundsIn k (nI p) (st3 k σ g e) = some (nI (cz h (40 + 4 * p) 4), st3 k σ g e) := by
  unfold F_X8_soundsIn
  obtain ⟨kd, fr, to, ln, dn⟩ := w.2.2.2.2.1 p hp
  have h0 := w.2.2.1
  have cl := c.ln (p := p) (by omega)
  have L : ∀ (m n a acc : Nat), a + m = h (26 + p) → m < n → ∀ K : Int32 → St → Option (Int32 × St), L_X8_soundsIn_4 k K n (nI p) (nI acc) (nI a) (st3 k σ g e) = K (nI (acc + cz h (40 + 4 * p + a) m)) (st3 k σ g e) := by
    intro m
    induction m with
    | zero =>
      intro n a acc ha hn K
      obtain ⟨n, rfl⟩ : ∃ n', n = n' + 1 := ⟨n - 1, by omega⟩
      rw [L_X8_soundsIn_4.eq_2]
      simp (disch := omega) only [ixN, clN, nI_add, pk_mul, subN, divN, remN, leN, ltN, eqN, le0N, eq0N, lt0N, ge0N, gt0N, if_pos, if_neg, if_true, if_false, Option.bind_some, shrN, shlN, andN1, nI_or, andm1, modS, true_or, or_true, m_of, st3_a hk, cl]
      rfl
    | succ m ih =>
      intro n a acc ha hn K
      obtain ⟨n, rfl⟩ : ∃ n', n = n' + 1 := ⟨n - 1, by omega⟩
      have cs := c.sn (p := p) (k := a) (by omega) (by omega) rfl
      have hv := (w.2.2.2.2.2.1 (40 + 4 * p + a) (by omega) (by omega)).1
      rw [L_X8_soundsIn_4.eq_2]
      simp (disch := omega) only [ixN, clN, nI_add, pk_mul, subN, divN, remN, leN, ltN, eqN, le0N, eq0N, lt0N, ge0N, gt0N, if_pos, if_neg, if_true, if_false, Option.bind_some, shrN, shlN, andN1, nI_or, andm1, modS, true_or, or_true, m_of, st3_a hk, cl, cs]
      rw [show cz h (40 + 4 * p + a) (m + 1) = (if h (40 + 4 * p + a) = 0 then 0 else 1) + cz h (40 + 4 * p + a + 1) m from rfl]
      by_cases q : h (40 + 4 * p + a) = 0
      · rw [if_pos q, if_pos q, ih n (a + 1) (acc + 0) (by omega) (by omega) K]
        rw [show acc + 0 + cz h (40 + 4 * p + (a + 1)) m = acc + (0 + cz h (40 + 4 * p + a + 1) m) by rw [Nat.add_assoc (40 + 4 * p) a 1]; omega]
      · rw [if_neg q, if_neg q, ih n (a + 1) (acc + 1) (by omega) (by omega) K]
        rw [show acc + 1 + cz h (40 + 4 * p + (a + 1)) m = acc + (1 + cz h (40 + 4 * p + a + 1) m) by rw [Nat.add_assoc (40 + 4 * p) a 1]; omega]
  have := L (h (26 + p)) fuel 0 0 (by omega) (by have := fuel_ge; omega) (fun a2 σ => some (a2, σ))
  rw [Nat.zero_add, Nat.add_zero, cz_len w hp] at this
  exact this
theorem m_sounds (hk : k ≠ 34) (c : MR g h) (w : WF h) : F_X8_sounds k (st3 k σ g e) = some (nI (sA h (h 2)), st3 k σ g e) := by
  unfold F_X8_sounds
  have h0 := w.2.2.1
  have L : ∀ (m n p : Nat), p + m = h 2 → m < n → ∀ K : Int32 → St → Option (Int32 × St), L_X8_sounds_4 k K n (nI (sA h p)) (nI p) (st3 k σ g e) = K (nI (sA h (h 2))) (st3 k σ g e) := by
    intro m
    induction m with
    | zero =>
      intro n p hp hn K
      obtain ⟨n, rfl⟩ : ∃ n', n = n' + 1 := ⟨n - 1, by omega⟩
      rw [L_X8_sounds_4.eq_2]
      simp (disch := omega) only [ixN, clN, nI_add, pk_mul, subN, divN, remN, leN, ltN, eqN, le0N, eq0N, lt0N, ge0N, gt0N, if_pos, if_neg, if_true, if_false, Option.bind_some, shrN, shlN, andN1, nI_or, andm1, modS, true_or, or_true, st3_a hk, c.a2]
      rw [show p = h 2 by omega]
    | succ m ih =>
      intro n p hp hn K
      obtain ⟨n, rfl⟩ : ∃ n', n = n' + 1 := ⟨n - 1, by omega⟩
      rw [L_X8_sounds_4.eq_2]
      simp (disch := omega) only [ixN, clN, nI_add, pk_mul, subN, divN, remN, leN, ltN, eqN, le0N, eq0N, lt0N, ge0N, gt0N, if_pos, if_neg, if_true, if_false, Option.bind_some, shrN, shlN, andN1, nI_or, andm1, modS, true_or, or_true, st3_a hk, c.a2, m_soundsIn hk c w (show p < h 2 by omega)]
      exact ih n (p + 1) (by omega) (by omega) K
  exact L (h 2) fuel 0 (by omega) (by have := fuel_ge; omega) _
/-- the first P pipes are hushed -/
def hY (h : Hs) (P : Nat) : Hs := fun i => if 40 ≤ i ∧ i < 40 + P then 0 else h i
theorem hY_Z (w : WF h) (i : Nat) : hY h (4 * h 2) i = hZ h i := by
  have h0 := w.2.2.1
  show (if 40 ≤ i ∧ i < 40 + 4 * h 2 then 0 else h i) = (if 40 ≤ i ∧ i < 68 then 0 else h i)
  by_cases q : 40 ≤ i ∧ i < 40 + 4 * h 2
  · rw [if_pos q, if_pos (by omega)]
  · rw [if_neg q]
    by_cases q2 : 40 ≤ i ∧ i < 68
    · rw [if_pos q2]
      have := w.2.2.2.2.2.2 ((i - 40) / 4) ((i - 40) % 4) (by omega) (by omega) (Or.inl (by omega))
      rw [show 40 + 4 * ((i - 40) / 4) + (i - 40) % 4 = i by omega] at this
      exact this
    · rw [if_neg q2]
theorem m_silence (hk : k ≠ 34) (c : MR g h) (w : WF h) : ∃ g', F_X8_silence k (st3 k σ g e) = some (nI (sA h (h 2)), st3 k σ g' e) ∧ MR g' (hZ h) := by
  unfold F_X8_silence
  have h0 := w.2.2.1
  have L1 : ∀ (m n p a : Nat) (g : Nat → Int32), a + m = 4 → m < n → p < 7 → MR g (hY h (4 * p + a)) → ∃ g', (∀ (a1 : Int32) (K : Int32 → Int32 → St → Option (Int32 × St)), L_X8_silence_16 k K n a1 (nI p) (nI a) (st3 k σ g e) = K a1 (nI p) (st3 k σ g' e)) ∧ MR g' (hY h (4 * (p + 1))) := by
    intro m
    induction m with
    | zero =>
      intro n p a g ha hn hp c
      obtain ⟨n, rfl⟩ : ∃ n', n = n' + 1 := ⟨n - 1, by omega⟩
      refine ⟨g, fun a1 K => ?_, by rw [show 4 * (p + 1) = 4 * p + a by omega]; exact c⟩
      rw [L_X8_silence_16.eq_2]
      simp (disch := omega) only [ixN, clN, nI_add, pk_mul, subN, divN, remN, leN, ltN, eqN, le0N, eq0N, lt0N, ge0N, gt0N, if_pos, if_neg, if_true, if_false, Option.bind_some, shrN, shlN, andN1, nI_or, andm1, modS, true_or, or_true]
    | succ m ih =>
      intro n p a g ha hn hp c
      obtain ⟨n, rfl⟩ : ∃ n', n = n' + 1 := ⟨n - 1, by omega⟩
      obtain ⟨g', h1, h2⟩ := ih n p (a + 1) (upd g (17 + 9 * p + 5 + a) (nI 0)) (by omega) (by omega) hp ((c.upd (i := 40 + 4 * p + a) 0 (by omega) (by rw [pmI p hp a (by omega)]; omega)).congr (fun i _ => by
        show (if i = 40 + 4 * p + a then 0 else if 40 ≤ i ∧ i < 40 + (4 * p + a) then 0 else h i) = (if 40 ≤ i ∧ i < 40 + (4 * p + (a + 1)) then 0 else h i)
        by_cases q : i = 40 + 4 * p + a
        · rw [if_pos q, if_pos (by omega)]
        · rw [if_neg q]
          split <;> split <;> first | rfl | omega))
      refine ⟨g', fun a1 K => ?_, h2⟩
      rw [L_X8_silence_16.eq_2, ← h1 a1 K]
      simp (disch := omega) only [ixN, clN, nI_add, pk_mul, subN, divN, remN, leN, ltN, eqN, le0N, eq0N, lt0N, ge0N, gt0N, if_pos, if_neg, if_true, if_false, Option.bind_some, shrN, shlN, andN1, nI_or, andm1, modS, true_or, or_true, st3_A hk]
  have L2 : ∀ (m n p : Nat) (g : Nat → Int32), p + m = h 2 → m < n → MR g (hY h (4 * p)) → ∃ g', (∀ (a1 : Int32) (K : Int32 → St → Option (Int32 × St)), L_X8_silence_7 k K n a1 (nI p) (st3 k σ g e) = K a1 (st3 k σ g' e)) ∧ MR g' (hY h (4 * h 2)) := by
    intro m
    induction m with
    | zero =>
      intro n p g hp hn c
      obtain ⟨n, rfl⟩ : ∃ n', n = n' + 1 := ⟨n - 1, by omega⟩
      have ep : p = h 2 := by omega
      subst ep
      refine ⟨g, fun a1 K => ?_, c⟩
      have c2 : g 2 = nI (h 2) := by
        rw [c.a2]
        show nI (if 40 ≤ 2 ∧ _ then 0 else h 2) = _
        rw [if_neg (by omega)]
      rw [L_X8_silence_7.eq_2]
      simp (disch := omega) only [ixN, clN, nI_add, pk_mul, subN, divN, remN, leN, ltN, eqN, le0N, eq0N, lt0N, ge0N, gt0N, if_pos, if_neg, if_true, if_false, Option.bind_some, shrN, shlN, andN1, nI_or, andm1, modS, true_or, or_true, st3_a hk, c2]
    | succ m ih =>
      intro n p g hp hn c
      obtain ⟨n, rfl⟩ : ∃ n', n = n' + 1 := ⟨n - 1, by omega⟩
      have c2 : g 2 = nI (h 2) := by
        rw [c.a2]
        show nI (if 40 ≤ 2 ∧ _ then 0 else h 2) = _
        rw [if_neg (by omega)]
      obtain ⟨g1, l1, c1⟩ := L1 4 fuel p 0 g (by omega) (by have := fuel_ge; omega) (by omega) c
      obtain ⟨g', h1, h2⟩ := ih n (p + 1) g1 (by omega) (by omega) c1
      refine ⟨g', fun a1 K => ?_, h2⟩
      rw [L_X8_silence_7.eq_2, ← h1 a1 K]
      simp (disch := omega) only [ixN, clN, nI_add, pk_mul, subN, divN, remN, leN, ltN, eqN, le0N, eq0N, lt0N, ge0N, gt0N, if_pos, if_neg, if_true, if_false, Option.bind_some, shrN, shlN, andN1, nI_or, andm1, modS, true_or, or_true, st3_a hk, c2, l1]
  obtain ⟨g', l2, c2⟩ := L2 (h 2) fuel 0 g (by omega) (by have := fuel_ge; omega) (c.congr (fun i _ => by
    show h i = (if 40 ≤ i ∧ i < 40 + 4 * 0 then 0 else h i)
    rw [if_neg (by omega)]))
  refine ⟨g', ?_, c2.congr (fun i _ => hY_Z w i)⟩
  rw [m_sounds hk c w]
  exact l2 _ _
end MR2
