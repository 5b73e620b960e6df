/-! houses stay houses; breaths ahead -/
theorem hB_T {h : Hs} (h7 : h 2 ≤ 7) (i : Nat) : hB h i = if i = 4 then h 4 + 1 else hT h (h 2) i := (hT_B h7 i).symm
theorem hB_lo {h : Hs} {i : Nat} (hi : i < 40) (h4 : i ≠ 4) : hB h i = h i := by
  show (if i = 4 then h 4 + 1 else hR h (h 0) i) = h i
  rw [if_neg h4, hR_lo hi]
theorem hB_wf {h : Hs} (w : WF h) : WF (hB h) := by
  obtain ⟨w0, w1, w2, w3, w4, w5, w6⟩ := id w
  have e := fun i => hB_T w2 i
  refine ⟨?_, ?_, ?_, ?_, ?_, ?_, ?_⟩
  · rw [hB_lo (by omega) (by omega)]; exact w0
  · rw [hB_lo (by omega) (by omega)]; exact w1
  · rw [hB_lo (by omega) (by omega)]; exact w2
  · rw [hB_lo (i := 3) (by omega) (by omega), hB_lo (i := 2) (by omega) (by omega)]; exact w3
  · intro p hp
    rw [hB_lo (i := 2) (by omega) (by omega)] at hp
    rw [hB_lo (i := 5 + p) (by omega) (by omega), hB_lo (i := 12 + p) (by omega) (by omega), hB_lo (i := 19 + p) (by omega) (by omega), hB_lo (i := 26 + p) (by omega) (by omega), hB_lo (i := 33 + p) (by omega) (by omega), hB_lo (i := 0) (by omega) (by omega)]
    exact w4 p hp
  · intro i h1 h2
    rw [e i, if_neg (by omega)]
    show vs (if 40 ≤ i ∧ i < 40 + 4 * h 2 then (if (i - 40) % 4 = 0 then (if h 3 / 2 ^ ((i - 40) / 4) % 2 = 1 then wn h (h (12 + (i - 40) / 4)) else 0) else if (i - 40) % 4 < h (26 + (i - 40) / 4) then h (i - 1) else h i) else (if 68 ≤ i ∧ i < 68 + h 0 ∧ wn h (i - 68) ≠ 0 then wn h (i - 68) else if 74 ≤ i ∧ i < 74 + h 0 ∧ wn h (i - 74) ≠ 0 then h 4 else h i))
    by_cases q : 40 ≤ i ∧ i < 40 + 4 * h 2
    · rw [if_pos q]
      by_cases q2 : (i - 40) % 4 = 0
      · rw [if_pos q2]
        by_cases q3 : h 3 / 2 ^ ((i - 40) / 4) % 2 = 1
        · rw [if_pos q3]; exact wn_vs w _
        · rw [if_neg q3]; exact ⟨by decide, Or.inl rfl⟩
      · rw [if_neg q2]
        by_cases q3 : (i - 40) % 4 < h (26 + (i - 40) / 4)
        · rw [if_pos q3]; exact w5 _ (by omega) (by omega)
        · rw [if_neg q3]; exact w5 _ h1 h2
    · rw [if_neg q]
      by_cases q2 : 68 ≤ i ∧ i < 68 + h 0 ∧ wn h (i - 68) ≠ 0
      · rw [if_pos q2]; exact wn_vs w _
      · rw [if_neg q2, if_neg (fun z => by omega)]; exact w5 _ h1 h2
  · intro p k hp hk hz
    rw [hB_lo (i := 2) (by omega) (by omega), hB_lo (i := 26 + p) (by omega) (by omega)] at hz
    have z := w6 p k hp hk hz
    rw [e, if_neg (by omega)]
    by_cases q : p < h 2
    · have ln := (w4 p q).2.2.2.1
      show (if 40 ≤ 40 + 4 * p + k ∧ 40 + 4 * p + k < 40 + 4 * h 2 then (if (40 + 4 * p + k - 40) % 4 = 0 then _ else if (40 + 4 * p + k - 40) % 4 < h (26 + (40 + 4 * p + k - 40) / 4) then h (40 + 4 * p + k - 1) else h (40 + 4 * p + k)) else _) = 0
      rw [if_pos (by omega), if_neg (by omega), show (40 + 4 * p + k - 40) / 4 = p by omega, if_neg (by omega)]
      exact z
    · rw [hT_hi (by omega), hG_lo (by omega)]
      exact z
theorem uH_ne {h : Hs} {i v j : Nat} (e : j ≠ i) : uH h i v j = h j := if_neg e
theorem uH_eq (h : Hs) (i v : Nat) : uH h i v i = v := if_pos rfl
theorem WF.taps' {h : Hs} (w : WF h) {t : Nat} (ht : t < 2 ^ h 2) : WF (uH h 3 t) := by
  obtain ⟨w0, w1, w2, w3, w4, w5, w6⟩ := id w
  refine ⟨?_, ?_, ?_, ?_, ?_, ?_, ?_⟩
  · rw [uH_ne (by omega)]; exact w0
  · rw [uH_ne (by omega)]; exact w1
  · rw [uH_ne (by omega)]; exact w2
  · rw [uH_eq, uH_ne (by omega)]; exact ht
  · intro p hp
    rw [uH_ne (by omega)] at hp
    rw [uH_ne (j := 5 + p) (by omega), uH_ne (j := 12 + p) (by omega), uH_ne (j := 19 + p) (by omega), uH_ne (j := 26 + p) (by omega), uH_ne (j := 33 + p) (by omega), uH_ne (j := 0) (by omega)]
    exact w4 p hp
  · intro i h1 h2
    rw [uH_ne (by omega)]; exact w5 i h1 h2
  · intro p k hp hk hz
    rw [uH_ne (j := 2) (by omega), uH_ne (j := 26 + p) (by omega)] at hz
    rw [uH_ne (by omega)]; exact w6 p k hp hk hz
theorem WF.kind' {h : Hs} (w : WF h) {q v : Nat} (hq : q < h 2) (hv : 1 ≤ v ∧ v ≤ 5) : WF (uH h (5 + q) v) := by
  obtain ⟨w0, w1, w2, w3, w4, w5, w6⟩ := id w
  refine ⟨?_, ?_, ?_, ?_, ?_, ?_, ?_⟩
  · rw [uH_ne (by omega)]; exact w0
  · rw [uH_ne (by omega)]; exact w1
  · rw [uH_ne (by omega)]; exact w2
  · rw [uH_ne (j := 3) (by omega), uH_ne (j := 2) (by omega)]; exact w3
  · intro p hp
    rw [uH_ne (by omega)] at hp
    rw [uH_ne (j := 12 + p) (by omega), uH_ne (j := 19 + p) (by omega), uH_ne (j := 26 + p) (by omega), uH_ne (j := 33 + p) (by omega), uH_ne (j := 0) (by omega)]
    refine ⟨?_, (w4 p hp).2⟩
    by_cases e : p = q
    · rw [e, uH_eq]; exact hv
    · rw [uH_ne (by omega)]; exact (w4 p hp).1
  · intro i h1 h2
    rw [uH_ne (by omega)]; exact w5 i h1 h2
  · intro p k hp hk hz
    rw [uH_ne (j := 2) (by omega), uH_ne (j := 26 + p) (by omega)] at hz
    rw [uH_ne (by omega)]; exact w6 p k hp hk hz
theorem WF.dent' {h : Hs} (w : WF h) {q v : Nat} (hq : q < h 2) (hv : v ≤ 9) : WF (uH h (33 + q) v) := by
  obtain ⟨w0, w1, w2, w3, w4, w5, w6⟩ := id w
  refine ⟨?_, ?_, ?_, ?_, ?_, ?_, ?_⟩
  · rw [uH_ne (by omega)]; exact w0
  · rw [uH_ne (by omega)]; exact w1
  · rw [uH_ne (by omega)]; exact w2
  · rw [uH_ne (j := 3) (by omega), uH_ne (j := 2) (by omega)]; exact w3
  · intro p hp
    rw [uH_ne (by omega)] at hp
    rw [uH_ne (j := 5 + p) (by omega), uH_ne (j := 12 + p) (by omega), uH_ne (j := 19 + p) (by omega), uH_ne (j := 26 + p) (by omega), uH_ne (j := 0) (by omega)]
    obtain ⟨a, b, c, d, e⟩ := w4 p hp
    refine ⟨a, b, c, d, ?_⟩
    by_cases e2 : p = q
    · rw [e2, uH_eq]; exact hv
    · rw [uH_ne (by omega)]; exact e
  · intro i h1 h2
    rw [uH_ne (by omega)]; exact w5 i h1 h2
  · intro p k hp hk hz
    rw [uH_ne (j := 2) (by omega), uH_ne (j := 26 + p) (by omega)] at hz
    rw [uH_ne (by omega)]; exact w6 p k hp hk hz
theorem hS_wf {h : Hs} (w : WF h) {x wd l : Nat} (hw : wd ≤ 9) (hl : 1 ≤ l ∧ l ≤ 99) : WF (hS h x wd l (h 2)) := by
  obtain ⟨w0, w1, w2, w3, w4, w5, w6⟩ := id w
  refine ⟨?_, ?_, ?_, ?_, ?_, ?_, ?_⟩
  · rw [hS_lo (by omega)]; exact w0
  · rw [hS_lo (by omega)]; exact w1
  · rw [hS_lo (by omega)]; exact w2
  · rw [hS_lo (i := 3) (by omega), hS_lo (i := 2) (by omega)]; exact w3
  · intro p hp
    rw [hS_lo (i := 2) (by omega)] at hp
    rw [hS_lo (i := 5 + p) (by omega), hS_lo (i := 12 + p) (by omega), hS_lo (i := 19 + p) (by omega), hS_lo (i := 26 + p) (by omega), hS_lo (i := 33 + p) (by omega), hS_lo (i := 0) (by omega)]
    exact w4 p hp
  · intro i h1 h2
    show vs (if 40 ≤ i ∧ i < 40 + 4 * h 2 ∧ (i - 40) % 4 = 0 ∧ lok h x l ((i - 40) / 4) then 100 * wd + l else h i)
    split
    · exact ⟨by omega, Or.inr (by omega)⟩
    · exact w5 i h1 h2
  · intro p k hp hk hz
    rw [hS_lo (i := 2) (by omega), hS_lo (i := 26 + p) (by omega)] at hz
    have z := w6 p k hp hk hz
    show (if 40 ≤ 40 + 4 * p + k ∧ 40 + 4 * p + k < 40 + 4 * h 2 ∧ (40 + 4 * p + k - 40) % 4 = 0 ∧ _ then 100 * wd + l else h (40 + 4 * p + k)) = 0
    rw [if_neg (fun q => by
      have q1 := q.2.1
      have q2 := q.2.2.1
      have ln := (w4 p (by omega)).2.2.2.1
      omega)]
    exact z
theorem hZ_wf {h : Hs} (w : WF h) : WF (hZ h) := by
  obtain ⟨w0, w1, w2, w3, w4, w5, w6⟩ := id w
  have lo : ∀ i, i < 40 → hZ h i = h i := fun i hi => if_neg (fun q => by omega)
  refine ⟨?_, ?_, ?_, ?_, ?_, ?_, ?_⟩
  · rw [lo _ (by omega)]; exact w0
  · rw [lo _ (by omega)]; exact w1
  · rw [lo _ (by omega)]; exact w2
  · rw [lo 3 (by omega), lo 2 (by omega)]; exact w3
  · intro p hp
    rw [lo 2 (by omega)] at hp
    rw [lo (5 + p) (by omega), lo (12 + p) (by omega), lo (19 + p) (by omega), lo (26 + p) (by omega), lo (33 + p) (by omega), lo 0 (by omega)]
    exact w4 p hp
  · intro i h1 h2
    show vs (if 40 ≤ i ∧ i < 68 then 0 else h i)
    split
    · exact ⟨by decide, Or.inl rfl⟩
    · exact w5 i h1 h2
  · intro p k hp hk hz
    show (if 40 ≤ 40 + 4 * p + k ∧ 40 + 4 * p + k < 68 then 0 else h (40 + 4 * p + k)) = 0
    rw [if_pos (by omega)]
/-! nothing is in pipes: nothing comes -/
theorem sil_cO {h : Hs} (w : WF h) (s : sil h) {p : Nat} (hp : p < h 2) : cO h p = 0 := by
  have ln := (w.2.2.2.2.1 p hp).2.2.2.1
  have h0 := w.2.2.1
  unfold cO
  rw [s (40 + 4 * p + (h (26 + p) - 1)) (by omega) (by omega)]
  rfl
theorem sil_win {h : Hs} (w : WF h) (s : sil h) (j : Nat) : ∀ p, p ≤ h 2 → win h j p = 0 := by
  intro p
  induction p with
  | zero => intro _; rfl
  | succ p ih =>
    intro hp
    show (if _ ∧ _ then cO h p else win h j p) = 0
    rw [sil_cO w s (by omega), ih (by omega)]
    exact ite_self 0
theorem sil_wn {h : Hs} (w : WF h) (s : sil h) (j : Nat) : wn h j = 0 := sil_win w s j _ (Nat.le_refl _)
theorem sil_hrd {h : Hs} (w : WF h) (s : sil h) (J : Nat) : hrd h J = 0 := by
  induction J with
  | zero => rfl
  | succ J ih =>
    show (if wn h J = 0 then hrd h J else _) = 0
    rw [if_pos (sil_wn w s J), ih]
theorem sil_hB {h : Hs} (w : WF h) (s : sil h) : sil (hB h) := fun i h1 h2 => by
  rw [hB_T w.2.2.1, if_neg (by omega)]
  show (if 40 ≤ i ∧ i < 40 + 4 * h 2 then (if (i - 40) % 4 = 0 then (if h 3 / 2 ^ ((i - 40) / 4) % 2 = 1 then wn h (h (12 + (i - 40) / 4)) else 0) else if (i - 40) % 4 < h (26 + (i - 40) / 4) then h (i - 1) else h i) else hG h (h 0) i) = 0
  rw [sil_wn w s, ite_self, hG_lo (by omega), s i h1 h2]
  by_cases q : (i - 40) % 4 = 0
  · rw [if_pos q, ite_self]
  · rw [if_neg q, s (i - 1) (by omega) (by omega), ite_self, ite_self]
theorem sA_sil {h : Hs} (w : WF h) : sA h (h 2) = 0 ↔ sil h := by
  have h0 := w.2.2.1
  have h1 : ∀ p, sA h p = 0 ↔ ∀ i, 40 ≤ i → i < 40 + 4 * p → h i = 0 := by
    intro p
    induction p with
    | zero => exact ⟨fun _ i a b => by omega, fun _ => rfl⟩
    | succ p ih =>
      have c4 : cz h (40 + 4 * p) 4 = 0 ↔ (h (40 + 4 * p) = 0 ∧ h (40 + 4 * p + 1) = 0 ∧ h (40 + 4 * p + 2) = 0 ∧ h (40 + 4 * p + 3) = 0) := by
        show (if h (40 + 4 * p) = 0 then 0 else 1) + ((if h (40 + 4 * p + 1) = 0 then 0 else 1) + ((if h (40 + 4 * p + 2) = 0 then 0 else 1) + ((if h (40 + 4 * p + 3) = 0 then 0 else 1) + 0))) = 0 ↔ _
        split <;> split <;> split <;> split <;> omega
      show sA h p + cz h (40 + 4 * p) 4 = 0 ↔ _
      constructor
      · intro z i a b
        have z1 := ih.mp (by omega)
        have z2 := c4.mp (by omega)
        rcases (show i < 40 + 4 * p ∨ i = 40 + 4 * p ∨ i = 40 + 4 * p + 1 ∨ i = 40 + 4 * p + 2 ∨ i = 40 + 4 * p + 3 by omega) with q | rfl | rfl | rfl | rfl
        · exact z1 i a q
        · exact z2.1
        · exact z2.2.1
        · exact z2.2.2.1
        · exact z2.2.2.2
      · intro z
        have z1 := ih.mpr (fun i a b => z i a (by omega))
        have z2 := c4.mpr ⟨z _ (by omega) (by omega), z _ (by omega) (by omega), z _ (by omega) (by omega), z _ (by omega) (by omega)⟩
        omega
  rw [h1]
  constructor
  · intro z i a b
    by_cases q : i < 40 + 4 * h 2
    · exact z i a q
    · have := w.2.2.2.2.2.2 ((i - 40) / 4) ((i - 40) % 4) (by omega) (by omega) (Or.inl (by omega))
      rw [show 40 + 4 * ((i - 40) / 4) + (i - 40) % 4 = i by omega] at this
      exact this
  · intro z i a b
    exact z i a (by omega)
/-! breaths -/
def bn : Nat → Hs → Hs
  | 0, h => h
  | n + 1, h => bn n (hB h)
def orn : Nat → Hs → Nat
  | 0, _ => 0
  | n + 1, h => hrd h (h 0) ||| orn n (hB h)
/-- in which of n breaths one of H hears first (0: in none) -/
def fo (H : Nat) : Nat → Hs → Nat
  | 0, _ => 0
  | n + 1, h => if hrd h (h 0) &&& H = 0 then (if fo H n (hB h) = 0 then 0 else fo H n (hB h) + 1) else 1
theorem fo_orn (H : Nat) : ∀ n h, fo H n h = 0 ↔ orn n h &&& H = 0 := by
  intro n
  induction n with
  | zero =>
    intro h
    show 0 = 0 ↔ 0 &&& H = 0
    rw [Nat.zero_and]
  | succ n ih =>
    intro h
    show (if hrd h (h 0) &&& H = 0 then (if fo H n (hB h) = 0 then 0 else fo H n (hB h) + 1) else 1) = 0 ↔ (hrd h (h 0) ||| orn n (hB h)) &&& H = 0
    rw [Nat.and_or_distrib_right, Nat.or_eq_zero_iff]
    by_cases q : hrd h (h 0) &&& H = 0
    · rw [if_pos q]
      by_cases q2 : fo H n (hB h) = 0
      · rw [if_pos q2]
        exact ⟨fun _ => ⟨q, (ih _).mp q2⟩, fun _ => rfl⟩
      · rw [if_neg q2]
        exact ⟨fun z => by omega, fun z => absurd ((ih _).mpr z.2) q2⟩
    · rw [if_neg q]
      exact ⟨fun z => by omega, fun z => absurd z.1 q⟩
theorem fo_le (H : Nat) : ∀ n h, fo H n h ≤ n := by
  intro n
  induction n with
  | zero => intro h; exact Nat.le_refl _
  | succ n ih =>
    intro h
    show (if hrd h (h 0) &&& H = 0 then (if fo H n (hB h) = 0 then 0 else fo H n (hB h) + 1) else 1) ≤ n + 1
    have := ih (hB h)
    split
    · split <;> omega
    · omega
theorem fo_sil (H : Nat) : ∀ n h, WF h → sil h → fo H n h = 0 := by
  intro n
  induction n with
  | zero => intro h w s; rfl
  | succ n ih =>
    intro h w s
    show (if hrd h (h 0) &&& H = 0 then (if fo H n (hB h) = 0 then 0 else fo H n (hB h) + 1) else 1) = 0
    rw [sil_hrd w s, Nat.zero_and, if_pos rfl, if_pos (ih _ (hB_wf w) (sil_hB w s))]
theorem hrd_bit (h : Hs) : ∀ J j, (hrd h J) / 2 ^ j % 2 = 1 ↔ (j < J ∧ wn h j ≠ 0) := by
  intro J
  induction J with
  | zero =>
    intro j
    show 0 / 2 ^ j % 2 = 1 ↔ _
    rw [Nat.zero_div]
    omega
  | succ J ih =>
    intro j
    have tb : ∀ x : Nat, x / 2 ^ j % 2 = 1 ↔ x.testBit j = true := fun x => by
      rw [Nat.testBit_eq_decide_div_mod_eq]
      exact (decide_eq_true_iff).symm
    show (if wn h J = 0 then hrd h J else hrd h J ||| 2 ^ J) / 2 ^ j % 2 = 1 ↔ _
    by_cases q : wn h J = 0
    · rw [if_pos q, ih j]
      constructor
      · rintro ⟨a, b⟩
        exact ⟨by omega, b⟩
      · rintro ⟨a, b⟩
        refine ⟨?_, b⟩
        rcases Nat.lt_or_ge j J with z | z
        · exact z
        · exact absurd (by rw [show j = J by omega]; exact q) b
    · rw [if_neg q, tb, Nat.testBit_or, Nat.testBit_two_pow, Bool.or_eq_true, ← tb, ih j, decide_eq_true_iff]
      constructor
      · rintro (⟨a, b⟩ | a)
        · exact ⟨by omega, b⟩
        · subst a
          exact ⟨by omega, q⟩
      · rintro ⟨a, b⟩
        rcases Nat.lt_or_ge j J with z | z
        · exact Or.inl ⟨z, b⟩
        · exact Or.inr (by omega)
theorem and_bit (x j : Nat) : x &&& 2 ^ j = 0 ↔ ¬ x / 2 ^ j % 2 = 1 := by
  have tb : x / 2 ^ j % 2 = 1 ↔ x.testBit j = true := by
    rw [Nat.testBit_eq_decide_div_mod_eq]
    exact (decide_eq_true_iff).symm
  rw [tb]
  constructor
  · intro z q
    have : (x &&& 2 ^ j).testBit j = true := by rw [Nat.testBit_and, q, Nat.testBit_two_pow]; simp
    rw [z, Nat.zero_testBit] at this
    cases this
  · intro z
    apply Nat.eq_of_testBit_eq
    intro i
    rw [Nat.testBit_and, Nat.testBit_two_pow, Nat.zero_testBit]
    by_cases e : j = i
    · subst e
      cases hq : x.testBit j with
      | true => exact absurd hq z
      | false => rfl
    · rw [decide_eq_false e, Bool.and_false]
theorem bit_le : ∀ (n : Nat) (h : Hs), WF h → orn n h < 64 := by
  intro n
  induction n with
  | zero => intro h w; exact (by decide : 0 < 64)
  | succ n ih =>
    intro h w
    have hh : ∀ J, J ≤ 6 → hrd h J < 2 ^ 6 := by
      intro J
      induction J with
      | zero => intro _; exact (by decide : 0 < 2 ^ 6)
      | succ J ihJ =>
        intro hJ
        show (if wn h J = 0 then hrd h J else hrd h J ||| 2 ^ J) < 2 ^ 6
        split
        · exact ihJ (by omega)
        · exact Nat.or_lt_two_pow (ihJ (by omega)) (Nat.pow_lt_pow_right (by decide) (by omega))
    exact Nat.or_lt_two_pow (n := 6) (hh _ w.1) (ih _ (hB_wf w))
theorem hrd_lt {h : Hs} (w : WF h) : hrd h (h 0) < 64 := by
  have := bit_le 1 h w
  show hrd h (h 0) < 64
  have e : orn 1 h = hrd h (h 0) := Nat.or_zero _
  rw [← e]
  exact this
