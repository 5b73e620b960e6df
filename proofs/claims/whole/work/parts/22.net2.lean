/-! the class's Net: what its methods do to a house -/
section NET2
variable {r : Nat} {σ : St} {f o : Nat → Int32} {h : Hs}
theorem n_isHorn (c : CR f h) (w : WF h) (x : Int32) : F_X4_isHorn r x (st2 r σ f o) = some (if x < 0 ∨ nI (h 0) ≤ x then nI 0 else nI 1, st2 r σ f o) := by
  unfold F_X4_isHorn
  have h0 := w.1
  simp (disch := omega) only [ixN, clN, nI_add, pk_mul, subN, divN, remN, leN, ltN, eqN, le0N, eq0N, lt0N, ge0N, gt0N, if_pos, if_neg, if_true, if_false, Option.bind_some, shrN, shlN, andN1, nI_or, andm1, modS, true_or, or_true, st2_a, st2_b, st2_f, st2_A, st2_B, c 0 (by omega)]
  by_cases q : x < 0
  · rw [if_pos q, if_pos (Or.inl q)]
  · rw [if_neg q]
    by_cases q2 : nI (h 0) ≤ x
    · rw [if_pos q2, if_pos (Or.inr q2)]
    · rw [if_neg q2, if_neg (fun z => z.elim q q2)]
theorem n_isPipe (c : CR f h) (w : WF h) (x : Int32) : F_X4_isPipe r x (st2 r σ f o) = some (if x < 0 ∨ nI (h 2) ≤ x then nI 0 else nI 1, st2 r σ f o) := by
  unfold F_X4_isPipe
  have h0 := w.2.2.1
  simp (disch := omega) only [ixN, clN, nI_add, pk_mul, subN, divN, remN, leN, ltN, eqN, le0N, eq0N, lt0N, ge0N, gt0N, if_pos, if_neg, if_true, if_false, Option.bind_some, shrN, shlN, andN1, nI_or, andm1, modS, true_or, or_true, st2_a, st2_b, st2_f, st2_A, st2_B, c 2 (by omega)]
  by_cases q : x < 0
  · rw [if_pos q, if_pos (Or.inl q)]
  · rw [if_neg q]
    by_cases q2 : nI (h 2) ≤ x
    · rw [if_pos q2, if_pos (Or.inr q2)]
    · rw [if_neg q2, if_neg (fun z => z.elim q q2)]
theorem n_allHorns (c : CR f h) (w : WF h) : F_X4_allHorns r (st2 r σ f o) = some (nI (2 ^ h 0 - 1), st2 r σ f o) := by
  unfold F_X4_allHorns
  have h0 := w.1
  have h1 : 0 < 2 ^ h 0 := Nat.two_pow_pos _
  simp (disch := omega) only [ixN, clN, nI_add, pk_mul, subN, divN, remN, leN, ltN, eqN, le0N, eq0N, lt0N, ge0N, gt0N, if_pos, if_neg, if_true, if_false, Option.bind_some, shrN, shlN, andN1, nI_or, andm1, modS, true_or, or_true, st2_a, st2_b, st2_f, st2_A, st2_B, c 0 (by omega)]
theorem n_allPipes (c : CR f h) (hp : h 2 ≤ 7) : F_X4_allPipes r (st2 r σ f o) = some (nI (2 ^ h 2 - 1), st2 r σ f o) := by
  unfold F_X4_allPipes
  have h1 : 0 < 2 ^ h 2 := Nat.two_pow_pos _
  simp (disch := omega) only [ixN, clN, nI_add, pk_mul, subN, divN, remN, leN, ltN, eqN, le0N, eq0N, lt0N, ge0N, gt0N, if_pos, if_neg, if_true, if_false, Option.bind_some, shrN, shlN, andN1, nI_or, andm1, modS, true_or, or_true, st2_a, st2_b, st2_f, st2_A, st2_B, c 2 (by omega)]
/-- pipes below n with x at e -/
def pw (h : Hs) (e x : Nat) : Nat → Nat
  | 0 => 0
  | p + 1 => if h (e + p) = x then pw h e x p ||| 2 ^ p else pw h e x p
theorem n_pipesWith (c : CR f h) (w : WF h) {e x : Nat} (he : e ≤ 60) (hx : x < 1000) (hb : ∀ p, p < 7 → h (e + p) < 2147483648) : F_X4_pipesWith r (nI e) (nI x) (st2 r σ f o) = some (nI (pw h e x (h 2)), st2 r σ f o) := by
  unfold F_X4_pipesWith
  have h0 := w.2.2.1
  have L : ∀ (m n p : Nat), p + m = h 2 → m < n → ∀ K : Int32 → St → Option (Int32 × St), L_X4_pipesWith_5 r K n (nI e) (nI x) (nI (pw h e x p)) (nI p) (st2 r σ f o) = K (nI (pw h e x (h 2))) (st2 r σ f o) := by
    intro m
    induction m with
    | zero =>
      intro n p hp hn K
      obtain ⟨n, rfl⟩ : ∃ n', n = n' + 1 := ⟨n - 1, by omega⟩
      rw [L_X4_pipesWith_5.eq_2]
      simp (disch := omega) only [ixN, clN, nI_add, pk_mul, subN, divN, remN, leN, ltN, eqN, le0N, eq0N, lt0N, ge0N, gt0N, if_pos, if_neg, if_true, if_false, Option.bind_some, shrN, shlN, andN1, nI_or, andm1, modS, true_or, or_true, st2_a, st2_b, st2_f, st2_A, st2_B, c 2 (by omega)]
      rw [show p = h 2 by omega]
    | succ m ih =>
      intro n p hp hn K
      obtain ⟨n, rfl⟩ : ∃ n', n = n' + 1 := ⟨n - 1, by omega⟩
      have hb1 := hb p (by omega)
      rw [L_X4_pipesWith_5.eq_2]
      simp (disch := omega) only [ixN, clN, nI_add, pk_mul, subN, divN, remN, leN, ltN, eqN, le0N, eq0N, lt0N, ge0N, gt0N, if_pos, if_neg, if_true, if_false, Option.bind_some, shrN, shlN, andN1, nI_or, andm1, modS, true_or, or_true, st2_a, st2_b, st2_f, st2_A, st2_B, c 2 (by omega), c (e + p) (by omega)]
      have hi := ih n (p + 1) (by omega) (by omega) K
      rw [show pw h e x (p + 1) = if h (e + p) = x then pw h e x p ||| 2 ^ p else pw h e x p from rfl] at hi
      by_cases q : h (e + p) = x
      · rw [if_pos q]
        rw [if_pos q] at hi
        exact hi
      · rw [if_neg q]
        rw [if_neg q] at hi
        exact hi
  exact L (h 2) fuel 0 (by omega) (by have := fuel_ge; omega) _
/-- how many of m cells from a on hold something -/
def cz (h : Hs) (a : Nat) : Nat → Nat
  | 0 => 0
  | m + 1 => (if h a = 0 then 0 else 1) + cz h (a + 1) m
theorem n_soundsIn (c : CR f h) (w : WF h) {p : Nat} (hp : p < 7) : F_X4_soundsIn r (nI p) (st2 r σ f o) = some (nI (cz h (40 + 4 * p) 4), st2 r σ f o) := by
  unfold F_X4_soundsIn
  have L : ∀ (m n a acc : Nat), a + m = 40 + 4 * (p + 1) → 40 ≤ a → m < n → ∀ K : Int32 → St → Option (Int32 × St), L_X4_soundsIn_9 r K n (nI p) (nI acc) (nI a) (st2 r σ f o) = K (nI (acc + cz h a m)) (st2 r σ f o) := by
    intro m
    induction m with
    | zero =>
      intro n a acc ha ha2 hn K
      obtain ⟨n, rfl⟩ : ∃ n', n = n' + 1 := ⟨n - 1, by omega⟩
      rw [L_X4_soundsIn_9.eq_2]
      simp (disch := omega) only [ixN, clN, nI_add, pk_mul, subN, divN, remN, leN, ltN, eqN, le0N, eq0N, lt0N, ge0N, gt0N, if_pos, if_neg, if_true, if_false, Option.bind_some, shrN, shlN, andN1, nI_or, andm1, modS, true_or, or_true, st2_a, st2_b, st2_f, st2_A, st2_B]
      rfl
    | succ m ih =>
      intro n a acc ha ha2 hn K
      obtain ⟨n, rfl⟩ : ∃ n', n = n' + 1 := ⟨n - 1, by omega⟩
      have hv := (w.2.2.2.2.2.1 a ha2 (by omega)).1
      rw [L_X4_soundsIn_9.eq_2]
      simp (disch := omega) only [ixN, clN, nI_add, pk_mul, subN, divN, remN, leN, ltN, eqN, le0N, eq0N, lt0N, ge0N, gt0N, if_pos, if_neg, if_true, if_false, Option.bind_some, shrN, shlN, andN1, nI_or, andm1, modS, true_or, or_true, st2_a, st2_b, st2_f, st2_A, st2_B, c a (by omega)]
      unfold cz
      by_cases q : h a = 0
      · rw [if_pos q, if_pos q, ih n (a + 1) (acc + 0) (by omega) (by omega) (by omega) K]
        rw [show acc + 0 + cz h (a + 1) m = acc + (0 + cz h (a + 1) m) by omega]
      · rw [if_neg q, if_neg q, ih n (a + 1) (acc + 1) (by omega) (by omega) (by omega) K]
        rw [show acc + 1 + cz h (a + 1) m = acc + (1 + cz h (a + 1) m) by omega]
  have := L 4 fuel (40 + 4 * p) 0 (by omega) (by omega) (by have := fuel_ge; omega) (fun a2 σ => some (a2, σ))
  rw [Nat.zero_add] at this
  rw [← this]
  simp (disch := omega) only [ixN, clN, nI_add, pk_mul, subN, divN, remN, leN, ltN, eqN, le0N, eq0N, lt0N, ge0N, gt0N, if_pos, if_neg, if_true, if_false, Option.bind_some, shrN, shlN, andN1, nI_or, andm1, modS, true_or, or_true]
  rw [Nat.mul_comm p 4]
/-- how many sounds are in the first n pipes -/
def sA (h : Hs) : Nat → Nat
  | 0 => 0
  | p + 1 => sA h p + cz h (40 + 4 * p) 4
theorem n_soundsInAll (c : CR f h) (w : WF h) : F_X4_soundsInAll r (st2 r σ f o) = some (nI (sA h (h 2)), st2 r σ f o) := by
  unfold F_X4_soundsInAll
  have h0 := w.2.2.1
  have L : ∀ (m n p : Nat), p + m = h 2 → m < n → ∀ K : Int32 → St → Option (Int32 × St), L_X4_soundsInAll_4 r K n (nI (sA h p)) (nI p) (st2 r σ f o) = K (nI (sA h (h 2))) (st2 r σ f o) := by
    intro m
    induction m with
    | zero =>
      intro n p hp hn K
      obtain ⟨n, rfl⟩ : ∃ n', n = n' + 1 := ⟨n - 1, by omega⟩
      rw [L_X4_soundsInAll_4.eq_2]
      simp (disch := omega) only [ixN, clN, nI_add, pk_mul, subN, divN, remN, leN, ltN, eqN, le0N, eq0N, lt0N, ge0N, gt0N, if_pos, if_neg, if_true, if_false, Option.bind_some, shrN, shlN, andN1, nI_or, andm1, modS, true_or, or_true, st2_a, st2_b, st2_f, st2_A, st2_B, c 2 (by omega)]
      rw [show p = h 2 by omega]
    | succ m ih =>
      intro n p hp hn K
      obtain ⟨n, rfl⟩ : ∃ n', n = n' + 1 := ⟨n - 1, by omega⟩
      rw [L_X4_soundsInAll_4.eq_2]
      simp (disch := omega) only [ixN, clN, nI_add, pk_mul, subN, divN, remN, leN, ltN, eqN, le0N, eq0N, lt0N, ge0N, gt0N, if_pos, if_neg, if_true, if_false, Option.bind_some, shrN, shlN, andN1, nI_or, andm1, modS, true_or, or_true, st2_a, st2_b, st2_f, st2_A, st2_B, c 2 (by omega), n_soundsIn c w (show p < 7 by omega)]
      exact ih n (p + 1) (by omega) (by omega) K
  exact L (h 2) fuel 0 (by omega) (by have := fuel_ge; omega) _
/-- nothing is in pipes -/
def sil (h : Hs) : Prop := ∀ i, 40 ≤ i → i < 68 → h i = 0
theorem n_isSilent1 (c : CR f h) (w : WF h) (q : sil h) : F_X4_isSilent r (st2 r σ f o) = some (nI 1, st2 r σ f o) := by
  unfold F_X4_isSilent
  have L : ∀ (m n a : Nat), a + m = 68 → 40 ≤ a → m < n → ∀ K : St → Option (Int32 × St), L_X4_isSilent_3 r K n (nI a) (st2 r σ f o) = K (st2 r σ f o) := by
    intro m
    induction m with
    | zero =>
      intro n a ha ha2 hn K
      obtain ⟨n, rfl⟩ : ∃ n', n = n' + 1 := ⟨n - 1, by omega⟩
      rw [L_X4_isSilent_3.eq_2]
      simp (disch := omega) only [ixN, clN, nI_add, pk_mul, subN, divN, remN, leN, ltN, eqN, le0N, eq0N, lt0N, ge0N, gt0N, if_pos, if_neg, if_true, if_false, Option.bind_some, shrN, shlN, andN1, nI_or, andm1, modS, true_or, or_true, st2_a, st2_b, st2_f, st2_A, st2_B]
    | succ m ih =>
      intro n a ha ha2 hn K
      obtain ⟨n, rfl⟩ : ∃ n', n = n' + 1 := ⟨n - 1, by omega⟩
      rw [L_X4_isSilent_3.eq_2]
      have hz := q a ha2 (by omega)
      simp (disch := omega) only [ixN, clN, nI_add, pk_mul, subN, divN, remN, leN, ltN, eqN, le0N, eq0N, lt0N, ge0N, gt0N, if_pos, if_neg, if_true, if_false, Option.bind_some, shrN, shlN, andN1, nI_or, andm1, modS, true_or, or_true, st2_a, st2_b, st2_f, st2_A, st2_B, c a (by omega), hz]
      exact ih n (a + 1) (by omega) (by omega) (by omega) K
  exact L 28 fuel 40 (by omega) (by omega) (by have := fuel_ge; omega) _
theorem n_isSilent0 (c : CR f h) (w : WF h) (q : ¬ sil h) : F_X4_isSilent r (st2 r σ f o) = some (nI 0, st2 r σ f o) := by
  unfold F_X4_isSilent
  have L : ∀ (m n a : Nat), a + m = 68 → 40 ≤ a → m < n → (∃ i, a ≤ i ∧ i < 68 ∧ h i ≠ 0) → ∀ K : St → Option (Int32 × St), L_X4_isSilent_3 r K n (nI a) (st2 r σ f o) = some (nI 0, st2 r σ f o) := by
    intro m
    induction m with
    | zero =>
      intro n a ha ha2 hn hx K
      obtain ⟨i, h1, h2, h3⟩ := hx
      omega
    | succ m ih =>
      intro n a ha ha2 hn hx K
      obtain ⟨n, rfl⟩ : ∃ n', n = n' + 1 := ⟨n - 1, by omega⟩
      rw [L_X4_isSilent_3.eq_2]
      have hv := (w.2.2.2.2.2.1 a ha2 (by omega)).1
      simp (disch := omega) only [ixN, clN, nI_add, pk_mul, subN, divN, remN, leN, ltN, eqN, le0N, eq0N, lt0N, ge0N, gt0N, if_pos, if_neg, if_true, if_false, Option.bind_some, shrN, shlN, andN1, nI_or, andm1, modS, true_or, or_true, st2_a, st2_b, st2_f, st2_A, st2_B, c a (by omega)]
      by_cases z : h a = 0
      · rw [if_pos z]
        refine ih n (a + 1) (by omega) (by omega) (by omega) ?_ K
        obtain ⟨i, h1, h2, h3⟩ := hx
        refine ⟨i, ?_, h2, h3⟩
        rcases Nat.lt_or_ge a i with e | e
        · omega
        · exact absurd (by rw [show i = a by omega]; exact z) h3
      · rw [if_neg z]
  refine L 28 fuel 40 (by omega) (by omega) (by have := fuel_ge; omega) ?_ _
  apply Classical.byContradiction
  intro hn
  apply q
  intro i h1 h2
  apply Classical.byContradiction
  intro h3
  exact hn ⟨i, h1, h2, h3⟩
/-- a hush -/
def hZ (h : Hs) : Hs := fun i => if 40 ≤ i ∧ i < 68 then 0 else h i
theorem n_silence (c : CR f h) : ∃ f', F_X4_silence r (st2 r σ f o) = some (st2 r σ f' o) ∧ CR f' (hZ h) := by
  unfold F_X4_silence
  have L : ∀ (m n a : Nat) (f : Nat → Int32), a + m = 68 → 40 ≤ a → m < n → CR f (fun i => if 40 ≤ i ∧ i < a then 0 else h i) → ∃ f', (∀ K : St → Option St, L_X4_silence_3 r K n (nI a) (st2 r σ f o) = K (st2 r σ f' o)) ∧ CR f' (hZ h) := by
    intro m
    induction m with
    | zero =>
      intro n a f ha ha2 hn hc
      obtain ⟨n, rfl⟩ : ∃ n', n = n' + 1 := ⟨n - 1, by omega⟩
      refine ⟨f, fun K => ?_, ?_⟩
      · rw [L_X4_silence_3.eq_2]
        simp (disch := omega) only [ixN, clN, nI_add, pk_mul, subN, divN, remN, leN, ltN, eqN, le0N, eq0N, lt0N, ge0N, gt0N, if_pos, if_neg, if_true, if_false, Option.bind_some, shrN, shlN, andN1, nI_or, andm1, modS, true_or, or_true, st2_a, st2_b, st2_f, st2_A, st2_B]
      · intro i hi
        rw [hc i hi]
        show nI (if 40 ≤ i ∧ i < a then 0 else h i) = nI (if 40 ≤ i ∧ i < 68 then 0 else h i)
        rw [show a = 68 by omega]
    | succ m ih =>
      intro n a f ha ha2 hn hc
      obtain ⟨n, rfl⟩ : ∃ n', n = n' + 1 := ⟨n - 1, by omega⟩
      obtain ⟨f', h1, h2⟩ := ih n (a + 1) (upd f a (nI 0)) (by omega) (by omega) (by omega) (by
        intro i hi
        show (if i = a then nI 0 else f i) = nI (if 40 ≤ i ∧ i < a + 1 then 0 else h i)
        by_cases e : i = a
        · rw [if_pos e, if_pos (by omega)]
        · rw [if_neg e, hc i hi]
          congr 1
          dsimp only
          split <;> split <;> first | rfl | omega)
      refine ⟨f', fun K => ?_, h2⟩
      rw [L_X4_silence_3.eq_2]
      simp (disch := omega) only [ixN, clN, nI_add, pk_mul, subN, divN, remN, leN, ltN, eqN, le0N, eq0N, lt0N, ge0N, gt0N, if_pos, if_neg, if_true, if_false, Option.bind_some, shrN, shlN, andN1, nI_or, andm1, modS, true_or, or_true, st2_a, st2_b, st2_f, st2_A, st2_B]
      exact h1 K
  obtain ⟨f', h1, h2⟩ := L 28 fuel 40 f (by omega) (by omega) (by have := fuel_ge; omega) (by
    intro i hi
    show f i = nI (if 40 ≤ i ∧ i < 40 then 0 else h i)
    rw [if_neg (by omega)]
    exact c i hi)
  exact ⟨f', h1 _, h2⟩
theorem n_clear (f : Nat → Int32) : ∃ f', F_X4_clear r (st2 r σ f o) = some (st2 r σ f' o) ∧ CR f' (fun _ => 0) := by
  unfold F_X4_clear
  have L : ∀ (m n a : Nat) (f : Nat → Int32), a + m = 80 → m < n → (∀ i, i < a → f i = nI 0) → ∃ f', (∀ K : St → Option St, L_X4_clear_2 r K n (nI a) (st2 r σ f o) = K (st2 r σ f' o)) ∧ CR f' (fun _ => 0) := by
    intro m
    induction m with
    | zero =>
      intro n a f ha hn hc
      obtain ⟨n, rfl⟩ : ∃ n', n = n' + 1 := ⟨n - 1, by omega⟩
      refine ⟨f, fun K => ?_, fun i hi => hc i (by omega)⟩
      rw [L_X4_clear_2.eq_2]
      simp (disch := omega) only [ixN, clN, nI_add, pk_mul, subN, divN, remN, leN, ltN, eqN, le0N, eq0N, lt0N, ge0N, gt0N, if_pos, if_neg, if_true, if_false, Option.bind_some, shrN, shlN, andN1, nI_or, andm1, modS, true_or, or_true, st2_a, st2_b, st2_f, st2_A, st2_B]
    | succ m ih =>
      intro n a f ha hn hc
      obtain ⟨n, rfl⟩ : ∃ n', n = n' + 1 := ⟨n - 1, by omega⟩
      obtain ⟨f', h1, h2⟩ := ih n (a + 1) (upd f a (nI 0)) (by omega) (by omega) (by
        intro i hi
        show (if i = a then nI 0 else f i) = _
        by_cases e : i = a
        · rw [if_pos e]
        · rw [if_neg e, hc i (by omega)])
      refine ⟨f', fun K => ?_, h2⟩
      rw [L_X4_clear_2.eq_2]
      simp (disch := omega) only [ixN, clN, nI_add, pk_mul, subN, divN, remN, leN, ltN, eqN, le0N, eq0N, lt0N, ge0N, gt0N, if_pos, if_neg, if_true, if_false, Option.bind_some, shrN, shlN, andN1, nI_or, andm1, modS, true_or, or_true, st2_a, st2_b, st2_f, st2_A, st2_B]
      exact h1 K
  obtain ⟨f', h1, h2⟩ := L 80 fuel 0 f (by omega) (by have := fuel_ge; omega) (fun i hi => by omega)
  exact ⟨f', h1 _, h2⟩
end NET2
