/-! loud, say, cold -/
section ASK2
variable {σ : St} {f o g e : Nat → Int32} {h : Hs}
/-- the least loudness from l on, m of them -/
def ll (h : Hs) (x j n : Nat) : Nat → Nat → Int32
  | 0, _ => (-1000000)
  | m + 1, l => if orn n (hS h x 0 l (h 2)) &&& 2 ^ j = 0 then ll h x j n m (l + 1) else nI l
theorem x_loud (c0 : CR (σ.1 10) h) (w : WF h) {x j n : Nat} (hx : x < 6) (hj : j < 6) (hn : n ≤ 60) : ∃ f' o', F_X2_leastLoudness (nI x) (nI j) (nI n) (st2 12 σ f o) = some (ll h x j n 99 1, st2 12 σ f' o') := by
  unfold F_X2_leastLoudness
  have hp : 2 ^ j < 2147483648 := shl_lt (by omega)
  have L : ∀ (m N l : Nat) (f o : Nat → Int32), l + m = 100 → 1 ≤ l → m < N → ∃ f' o', L_X2_leastLoudness_3 (fun σ => some ((-1000000 : Int32), σ)) N (nI x) (nI j) (nI n) (nI l) (st2 12 σ f o) = some (ll h x j n m l, st2 12 σ f' o') := by
    intro m
    induction m with
    | zero =>
      intro N l f o hl h1 hN
      obtain ⟨N, rfl⟩ : ∃ n', N = n' + 1 := ⟨N - 1, by omega⟩
      refine ⟨f, o, ?_⟩
      rw [L_X2_leastLoudness_3.eq_2]
      simp (disch := omega) only [ixN, clN, nI_add, pk_mul, subN, divN, remN, leN, ltN, eqN, le0N, eq0N, lt0N, ge0N, gt0N, if_pos, if_neg, if_true, if_false, Option.bind_some, shrN, shlN, andN1, nI_or, andm1, modS, true_or, or_true, false_or, or_false, nI_and]
      rfl
    | succ m ih =>
      intro N l f o hl h1 hN
      obtain ⟨N, rfl⟩ : ∃ n', N = n' + 1 := ⟨N - 1, by omega⟩
      rw [L_X2_leastLoudness_3.eq_2]
      obtain ⟨f1, e1, c1⟩ := x_begin (σ := σ) (f := f) (o := o) c0
      obtain ⟨f2, e2, c2⟩ := n_letIn (r := 12) (σ := σ) (o := o) c1 w (x := x) (wd := 0) (l := l) (by omega) (by omega) (by omega)
      have w2 := hS_wf w (x := x) (wd := 0) (l := l) (by omega) (by omega)
      obtain ⟨f3, o3, e3⟩ := x_first (σ := σ) (o := o) c2 w2 (H := 2 ^ j) (n := n) hp hn
      have hfb := fo_le (2 ^ j) n (hS h x 0 l (h 2))
      have hfo := fo_orn (2 ^ j) n (hS h x 0 l (h 2))
      by_cases q : fo (2 ^ j) n (hS h x 0 l (h 2)) = 0
      · obtain ⟨f4, o4, e4⟩ := ih N (l + 1) f3 o3 (by omega) (by omega) (by omega)
        refine ⟨f4, o4, ?_⟩
        simp (disch := omega) only [ixN, clN, nI_add, pk_mul, subN, divN, remN, leN, ltN, eqN, le0N, eq0N, lt0N, ge0N, gt0N, if_pos, if_neg, if_true, if_false, Option.bind_some, shrN, shlN, andN1, nI_or, andm1, modS, true_or, or_true, false_or, or_false, nI_and, e1, e2, e3, e4]
        rw [show ll h x j n (m + 1) l = if orn n (hS h x 0 l (h 2)) &&& 2 ^ j = 0 then ll h x j n m (l + 1) else nI l from rfl, if_pos (hfo.mp q)]
      · refine ⟨f3, o3, ?_⟩
        simp (disch := omega) only [ixN, clN, nI_add, pk_mul, subN, divN, remN, leN, ltN, eqN, le0N, eq0N, lt0N, ge0N, gt0N, if_pos, if_neg, if_true, if_false, Option.bind_some, shrN, shlN, andN1, nI_or, andm1, modS, true_or, or_true, false_or, or_false, nI_and, e1, e2, e3]
        rw [show ll h x j n (m + 1) l = if orn n (hS h x 0 l (h 2)) &&& 2 ^ j = 0 then ll h x j n m (l + 1) else nI l from rfl, if_neg (fun z => q (hfo.mpr z))]
  exact L 99 fuel 1 f o (by omega) (by omega) (by have := fuel_ge; omega)
theorem m_loud (m0 : MR (σ.1 29) h) (w : WF h) {x j n : Nat} (hx : x < 6) (hj : j < 6) (hn : n ≤ 60) : ∃ g' e', L_X8_loud_39 (fun σ => some ((-1000000 : Int32), σ)) fuel (nI x) (nI j) (nI n) (nI 1) (st3 31 σ g e) = some (ll h x j n 99 1, st3 31 σ g' e') := by
  have L : ∀ (m N l : Nat) (g e : Nat → Int32), l + m = 100 → 1 ≤ l → m < N → ∃ g' e', L_X8_loud_39 (fun σ => some ((-1000000 : Int32), σ)) N (nI x) (nI j) (nI n) (nI l) (st3 31 σ g e) = some (ll h x j n m l, st3 31 σ g' e') := by
    intro m
    induction m with
    | zero =>
      intro N l g e hl h1 hN
      obtain ⟨N, rfl⟩ : ∃ n', N = n' + 1 := ⟨N - 1, by omega⟩
      refine ⟨g, e, ?_⟩
      rw [L_X8_loud_39.eq_2]
      simp (disch := omega) only [ixN, clN, nI_add, pk_mul, subN, divN, remN, leN, ltN, eqN, le0N, eq0N, lt0N, ge0N, gt0N, if_pos, if_neg, if_true, if_false, Option.bind_some, shrN, shlN, andN1, nI_or, andm1, modS, true_or, or_true, false_or, or_false, nI_and]
      rfl
    | succ m ih =>
      intro N l g e hl h1 hN
      obtain ⟨N, rfl⟩ : ∃ n', N = n' + 1 := ⟨N - 1, by omega⟩
      rw [L_X8_loud_39.eq_2]
      obtain ⟨g1, e1, c1⟩ := m_lay (σ := σ) (g := g) (e := e) m0
      obtain ⟨g2, e2, c2⟩ := m_speech (k := 31) (σ := σ) (e := e) (by decide) c1 w (x := x) (wd := 0) (l := l) (by omega) (by omega) (by omega)
      have w2 := hS_wf w (x := x) (wd := 0) (l := l) (by omega) (by omega)
      obtain ⟨g3, e3, l3, -, -⟩ := m_hear (σ := σ) (e := e) c2 w2 hn
      have ob := bit_le n _ w2
      have hs := m_has (t := orn n (hS h x 0 l (h 2))) (p := j) (by omega) (by omega) (st3 31 σ g3 e3)
      by_cases q : orn n (hS h x 0 l (h 2)) &&& 2 ^ j = 0
      · obtain ⟨g4, e4, l4⟩ := ih N (l + 1) g3 e3 (by omega) (by omega) (by omega)
        refine ⟨g4, e4, ?_⟩
        rw [if_neg ((and_bit _ _).mp q)] at hs
        simp (disch := omega) only [ixN, clN, nI_add, pk_mul, subN, divN, remN, leN, ltN, eqN, le0N, eq0N, lt0N, ge0N, gt0N, if_pos, if_neg, if_true, if_false, Option.bind_some, shrN, shlN, andN1, nI_or, andm1, modS, true_or, or_true, false_or, or_false, nI_and, e1, e2, l3, hs, l4]
        rw [show ll h x j n (m + 1) l = if orn n (hS h x 0 l (h 2)) &&& 2 ^ j = 0 then ll h x j n m (l + 1) else nI l from rfl, if_pos q]
      · refine ⟨g3, e3, ?_⟩
        rw [if_pos (Classical.not_not.mp (fun z => q ((and_bit _ _).mpr z)))] at hs
        simp (disch := omega) only [ixN, clN, nI_add, pk_mul, subN, divN, remN, leN, ltN, eqN, le0N, eq0N, lt0N, ge0N, gt0N, if_pos, if_neg, if_true, if_false, Option.bind_some, shrN, shlN, andN1, nI_or, andm1, modS, true_or, or_true, false_or, or_false, nI_and, e1, e2, l3, hs]
        rw [show ll h x j n (m + 1) l = if orn n (hS h x 0 l (h 2)) &&& 2 ^ j = 0 then ll h x j n m (l + 1) else nI l from rfl, if_neg q]
  exact L 99 fuel 1 g e (by omega) (by omega) (by have := fuel_ge; omega)
theorem e_loud (i : Inv σ) (x y u : Int32) : Ag (F_X7_loud x y u σ) (F_X8_loud x y u) := by
  obtain ⟨⟨h, c, m, w, b⟩, -⟩ := id i
  have hH := w.1
  by_cases q : (x < 0 ∨ nI (h 0) ≤ x) ∨ (y < 0 ∨ nI (h 0) ≤ y) ∨ (u < nI 1 ∨ nI 30 < u)
  · refine Ag.q i (-1000001) σ ?_ (Scr.rf σ) (fun τ s => ⟨setF τ 8 (nI 0), ?_, scr8 s⟩)
    · unfold F_X7_loud
      by_cases q1 : x < 0 ∨ nI (h 0) ≤ x
      · simp (disch := omega) only [ixN, clN, nI_add, pk_mul, subN, divN, remN, leN, ltN, eqN, le0N, eq0N, lt0N, ge0N, gt0N, if_pos, if_neg, if_true, if_false, Option.bind_some, shrN, shlN, andN1, nI_or, andm1, modS, true_or, or_true, false_or, or_false, nI_and, c_isHorn0 c w q1]
      · by_cases q2 : y < 0 ∨ nI (h 0) ≤ y
        · simp (disch := omega) only [ixN, clN, nI_add, pk_mul, subN, divN, remN, leN, ltN, eqN, le0N, eq0N, lt0N, ge0N, gt0N, if_pos, if_neg, if_true, if_false, Option.bind_some, shrN, shlN, andN1, nI_or, andm1, modS, true_or, or_true, false_or, or_false, nI_and, c_isHorn1 c w q1, c_isHorn0 c w q2]
        · simp (disch := omega) only [ixN, clN, nI_add, pk_mul, subN, divN, remN, leN, ltN, eqN, le0N, eq0N, lt0N, ge0N, gt0N, if_pos, if_neg, if_true, if_false, Option.bind_some, shrN, shlN, andN1, nI_or, andm1, modS, true_or, or_true, false_or, or_false, nI_and, c_isHorn1 c w q1, c_isHorn1 c w q2, c_within0 ((q.resolve_left q1).resolve_left q2)]
    · unfold F_X8_loud
      by_cases q1 : x < 0 ∨ nI (h 0) ≤ x
      · simp (disch := omega) only [ixN, clN, nI_add, pk_mul, subN, divN, remN, leN, ltN, eqN, le0N, eq0N, lt0N, ge0N, gt0N, if_pos, if_neg, if_true, if_false, Option.bind_some, shrN, shlN, andN1, nI_or, andm1, modS, true_or, or_true, false_or, or_false, nI_and, m_isHorn0 (mr8 m s) w q1]
      · by_cases q2 : y < 0 ∨ nI (h 0) ≤ y
        · simp (disch := omega) only [ixN, clN, nI_add, pk_mul, subN, divN, remN, leN, ltN, eqN, le0N, eq0N, lt0N, ge0N, gt0N, if_pos, if_neg, if_true, if_false, Option.bind_some, shrN, shlN, andN1, nI_or, andm1, modS, true_or, or_true, false_or, or_false, nI_and, m_isHorn1 (mr8 m s) w q1, m_isHorn0 (mr8 m s) w q2]
        · simp (disch := omega) only [ixN, clN, nI_add, pk_mul, subN, divN, remN, leN, ltN, eqN, le0N, eq0N, lt0N, ge0N, gt0N, if_pos, if_neg, if_true, if_false, Option.bind_some, shrN, shlN, andN1, nI_or, andm1, modS, true_or, or_true, false_or, or_false, nI_and, m_isHorn1 (mr8 m s) w q1, m_isHorn1 (mr8 m s) w q2, m_in0 ((q.resolve_left q1).resolve_left q2)]
  · have q1 : ¬ (x < 0 ∨ nI (h 0) ≤ x) := fun z => q (Or.inl z)
    have q2 : ¬ (y < 0 ∨ nI (h 0) ≤ y) := fun z => q (Or.inr (Or.inl z))
    have q3 : ¬ (u < nI 1 ∨ nI 30 < u) := fun z => q (Or.inr (Or.inr z))
    clear q
    obtain ⟨j1, hj1, rfl⟩ := in_H (by omega) q1
    obtain ⟨j2, hj2, rfl⟩ := in_H (by omega) q2
    obtain ⟨n, hn1, hn, rfl⟩ := in_N (by omega) (by omega) q3
    obtain ⟨f2, o2, e2⟩ := x_loud (σ := sn σ) (f := (sn σ).1 13) (o := (sn σ).1 14) (sn_10 c) w (x := j1) (j := j2) (n := n) (by omega) (by omega) (by omega)
    rw [etaT] at e2
    refine Ag.q i (ll h j1 j2 n 99 1) (st2 12 (sn σ) f2 o2) ?_ ((sn_scr σ).T f2 o2) (fun τ s => ?_)
    · unfold F_X7_loud
      simp (disch := omega) only [ixN, clN, nI_add, pk_mul, subN, divN, remN, leN, ltN, eqN, le0N, eq0N, lt0N, ge0N, gt0N, if_pos, if_neg, if_true, if_false, Option.bind_some, shrN, shlN, andN1, nI_or, andm1, modS, true_or, or_true, false_or, or_false, nI_and, c_isHorn1 c w q1, c_isHorn1 c w q2, c_within1 q3, c_seen, e2]
    · obtain ⟨g4, e4, l4⟩ := m_loud (σ := setF τ 8 (nI 0)) (g := (setF τ 8 (nI 0)).1 31) (e := (setF τ 8 (nI 0)).1 34) (mr8 m s) w (x := j1) (j := j2) (n := n) (by omega) (by omega) (by omega)
      rw [etaU] at l4
      refine ⟨_, ?_, (scr8 s).U g4 e4⟩
      unfold F_X8_loud
      simp (disch := omega) only [ixN, clN, nI_add, pk_mul, subN, divN, remN, leN, ltN, eqN, le0N, eq0N, lt0N, ge0N, gt0N, if_pos, if_neg, if_true, if_false, Option.bind_some, shrN, shlN, andN1, nI_or, andm1, modS, true_or, or_true, false_or, or_false, nI_and, m_isHorn1 (mr8 m s) w q1, m_isHorn1 (mr8 m s) w q2, m_in1 q3, l4]
/-- in one of m breaths the word v is heard at j -/
def hwd (j v : Nat) : Nat → Hs → Bool
  | 0, _ => false
  | m + 1, h => decide (wn h j ≠ 0 ∧ wn h j / 100 = v) || hwd j v m (hB h)
theorem x_word {j : Nat} (hj : j < 6) {v : Nat} (ho : o j = nI v) (hv : v < 1000) : F_X2_wordHeard (nI j) (st2 12 σ f o) = some (if v = 0 then (-1) else nI (v / 100), st2 12 σ f o) := by
  unfold F_X2_wordHeard
  simp (disch := omega) only [ixN, clN, nI_add, pk_mul, subN, divN, remN, leN, ltN, eqN, le0N, eq0N, lt0N, ge0N, gt0N, if_pos, if_neg, if_true, if_false, Option.bind_some, shrN, shlN, andN1, nI_or, andm1, modS, true_or, or_true, false_or, or_false, nI_and, T_b, ho, F_X4_wordOf]
  by_cases q : v = 0
  · rw [if_pos q, if_pos q]
  · rw [if_neg q, if_neg q]
theorem m1_ne {a : Nat} (ha : a < 1000) : ¬ ((-1 : Int32) = nI a) := fun z => by
  have := congrArg Int32.toInt z
  rw [nI_toInt (by omega)] at this
  have e : (-1 : Int32).toInt = -1 := by decide
  omega
theorem x_hearsWord (c : CR f h) (w : WF h) {j v n : Nat} (hj : j < 6) (hv : v ≤ 9) (hn : n ≤ 60) : ∃ f' o', F_X2_hearsWord (nI j) (nI v) (nI n) (st2 12 σ f o) = some (if hwd j v n h then nI 1 else nI 0, st2 12 σ f' o') := by
  unfold F_X2_hearsWord
  have L : ∀ (m N i : Nat) (f o : Nat → Int32) (h : Hs), i + m = n → m < N → CR f h → WF h → ∃ f' o', L_X2_hearsWord_3 (fun σ => some ((nI 0), σ)) N (nI j) (nI v) (nI n) (nI i) (st2 12 σ f o) = some (if hwd j v m h then nI 1 else nI 0, st2 12 σ f' o') := by
    intro m
    induction m with
    | zero =>
      intro N i f o h hi hN c w
      obtain ⟨N, rfl⟩ : ∃ n', N = n' + 1 := ⟨N - 1, by omega⟩
      refine ⟨f, o, ?_⟩
      rw [L_X2_hearsWord_3.eq_2]
      simp (disch := omega) only [ixN, clN, nI_add, pk_mul, subN, divN, remN, leN, ltN, eqN, le0N, eq0N, lt0N, ge0N, gt0N, if_pos, if_neg, if_true, if_false, Option.bind_some, shrN, shlN, andN1, nI_or, andm1, modS, true_or, or_true, false_or, or_false, nI_and]
      rfl
    | succ m ih =>
      intro N i f o h hi hN c w
      obtain ⟨N, rfl⟩ : ∃ n', N = n' + 1 := ⟨N - 1, by omega⟩
      obtain ⟨f1, o1, e1, c1, z1⟩ := n_passBreath (r := 12) (σ := σ) (o := o) c w
      have bv := (wn_vs w j).1
      have e2 := x_word (σ := σ) (f := f1) hj (z1 j hj) bv
      rw [L_X2_hearsWord_3.eq_2]
      rw [show hwd j v (m + 1) h = (decide (wn h j ≠ 0 ∧ wn h j / 100 = v) || hwd j v m (hB h)) from rfl]
      by_cases q : wn h j ≠ 0 ∧ wn h j / 100 = v
      · refine ⟨f1, o1, ?_⟩
        rw [if_neg q.1] at e2
        rw [decide_eq_true q, Bool.true_or, if_pos rfl]
        simp (disch := omega) only [ixN, clN, nI_add, pk_mul, subN, divN, remN, leN, ltN, eqN, le0N, eq0N, lt0N, ge0N, gt0N, if_pos, if_neg, if_true, if_false, Option.bind_some, shrN, shlN, andN1, nI_or, andm1, modS, true_or, or_true, false_or, or_false, nI_and, e1, e2, q.2]
      · obtain ⟨f3, o3, e3⟩ := ih N (i + 1) f1 o1 (hB h) (by omega) (by omega) c1 (hB_wf w)
        refine ⟨f3, o3, ?_⟩
        rw [decide_eq_false q, Bool.false_or]
        by_cases q2 : wn h j = 0
        · rw [if_pos q2] at e2
          simp (disch := omega) only [ixN, clN, nI_add, pk_mul, subN, divN, remN, leN, ltN, eqN, le0N, eq0N, lt0N, ge0N, gt0N, if_pos, if_neg, if_true, if_false, Option.bind_some, shrN, shlN, andN1, nI_or, andm1, modS, true_or, or_true, false_or, or_false, nI_and, e1, e2, m1_ne (show v < 1000 by omega), e3]
        · rw [if_neg q2] at e2
          have q3 : ¬ wn h j / 100 = v := fun z => q ⟨q2, z⟩
          simp (disch := omega) only [ixN, clN, nI_add, pk_mul, subN, divN, remN, leN, ltN, eqN, le0N, eq0N, lt0N, ge0N, gt0N, if_pos, if_neg, if_true, if_false, Option.bind_some, shrN, shlN, andN1, nI_or, andm1, modS, true_or, or_true, false_or, or_false, nI_and, e1, e2, e3]
  exact L n fuel 0 f o h (by omega) (by have := fuel_ge; omega) c w
/-- the words below m by which v is heard -/
def sw (h : Hs) (x j v n : Nat) : Nat → Nat
  | 0 => 0
  | m + 1 => if hwd j v n (hS h x m 60 (h 2)) then sw h x j v n m ||| 2 ^ m else sw h x j v n m
theorem x_say (c0 : CR (σ.1 10) h) (w : WF h) {x j v n : Nat} (hx : x < 6) (hj : j < 6) (hv : v ≤ 9) (hn : n ≤ 60) : ∃ f' o', F_X2_wordsToSay (nI x) (nI j) (nI v) (nI n) (st2 12 σ f o) = some (nI (sw h x j v n 10), st2 12 σ f' o') := by
  unfold F_X2_wordsToSay
  have L : ∀ (m N a : Nat) (f o : Nat → Int32), a + m = 10 → m < N → ∃ f' o', ∀ K, L_X2_wordsToSay_6 K N (nI x) (nI j) (nI v) (nI n) (nI (sw h x j v n a)) (nI a) (st2 12 σ f o) = K (nI (sw h x j v n 10)) (st2 12 σ f' o') := by
    intro m
    induction m with
    | zero =>
      intro N a f o ha hN
      obtain ⟨N, rfl⟩ : ∃ n', N = n' + 1 := ⟨N - 1, by omega⟩
      refine ⟨f, o, fun K => ?_⟩
      rw [L_X2_wordsToSay_6.eq_2, show a = 10 by omega]
      simp (disch := omega) only [ixN, clN, nI_add, pk_mul, subN, divN, remN, leN, ltN, eqN, le0N, eq0N, lt0N, ge0N, gt0N, if_pos, if_neg, if_true, if_false, Option.bind_some, shrN, shlN, andN1, nI_or, andm1, modS, true_or, or_true, false_or, or_false, nI_and]
    | succ m ih =>
      intro N a f o ha hN
      obtain ⟨N, rfl⟩ : ∃ n', N = n' + 1 := ⟨N - 1, by omega⟩
      obtain ⟨f1, e1, c1⟩ := x_begin (σ := σ) (f := f) (o := o) c0
      obtain ⟨f2, e2, c2⟩ := n_letIn (r := 12) (σ := σ) (o := o) c1 w (x := x) (wd := a) (l := 60) (by omega) (by omega) (by omega)
      have w2 := hS_wf w (x := x) (wd := a) (l := 60) (by omega) (by omega)
      obtain ⟨f3, o3, e3⟩ := x_hearsWord (σ := σ) (o := o) c2 w2 hj hv hn
      obtain ⟨f4, o4, e4⟩ := ih N (a + 1) f3 o3 (by omega) (by omega)
      refine ⟨f4, o4, fun K => ?_⟩
      rw [L_X2_wordsToSay_6.eq_2, ← e4 K]
      rw [show sw h x j v n (a + 1) = if hwd j v n (hS h x a 60 (h 2)) then sw h x j v n a ||| 2 ^ a else sw h x j v n a from rfl]
      by_cases q : hwd j v n (hS h x a 60 (h 2)) = true
      · rw [if_pos q] at e3
        rw [if_pos q]
        simp (disch := omega) only [ixN, clN, nI_add, pk_mul, subN, divN, remN, leN, ltN, eqN, le0N, eq0N, lt0N, ge0N, gt0N, if_pos, if_neg, if_true, if_false, Option.bind_some, shrN, shlN, andN1, nI_or, andm1, modS, true_or, or_true, false_or, or_false, nI_and, e1, e2, e3]
      · rw [if_neg q] at e3
        rw [if_neg q]
        simp (disch := omega) only [ixN, clN, nI_add, pk_mul, subN, divN, remN, leN, ltN, eqN, le0N, eq0N, lt0N, ge0N, gt0N, if_pos, if_neg, if_true, if_false, Option.bind_some, shrN, shlN, andN1, nI_or, andm1, modS, true_or, or_true, false_or, or_false, nI_and, e1, e2, e3]
  obtain ⟨f', o', e1⟩ := L 10 fuel 0 f o (by omega) (by have := fuel_ge; omega)
  exact ⟨f', o', e1 _⟩
theorem m_say (m0 : MR (σ.1 29) h) (w : WF h) {x j v n : Nat} (hx : x < 6) (hj : j < h 0) (hv : v ≤ 9) (hn : n ≤ 60) : ∃ g' e', L_X8_say_55 (fun a5 σ => some (a5, σ)) fuel (nI x) (nI j) (nI v) (nI n) (nI 0) (nI 0) (st3 31 σ g e) = some (nI (sw h x j v n 10), st3 31 σ g' e') := by
  have hH := w.1
  have L1 : ∀ (m N i a acc : Nat) (g e : Nat → Int32) (h : Hs), i + m = n → m < N → a < 10 → j < h 0 → MR g h → WF h → ∃ g' e', ∀ K, L_X8_say_83 K N (nI x) (nI j) (nI v) (nI n) (nI acc) (nI a) (nI i) (st3 31 σ g e) = K (nI x) (nI j) (nI v) (nI n) (nI (if hwd j v m h then acc ||| 2 ^ a else acc)) (nI a) (st3 31 σ g' e') := by
    intro m
    induction m with
    | zero =>
      intro N i a acc g e h hi hN ha hj c w
      obtain ⟨N, rfl⟩ : ∃ n', N = n' + 1 := ⟨N - 1, by omega⟩
      refine ⟨g, e, fun K => ?_⟩
      rw [L_X8_say_83.eq_2]
      simp (disch := omega) only [ixN, clN, nI_add, pk_mul, subN, divN, remN, leN, ltN, eqN, le0N, eq0N, lt0N, ge0N, gt0N, if_pos, if_neg, if_true, if_false, Option.bind_some, shrN, shlN, andN1, nI_or, andm1, modS, true_or, or_true, false_or, or_false, nI_and]
      rfl
    | succ m ih =>
      intro N i a acc g e h hi hN ha hj c w
      obtain ⟨N, rfl⟩ : ∃ n', N = n' + 1 := ⟨N - 1, by omega⟩
      obtain ⟨g1, e1, l1, c1, z1⟩ := m_breath (k := 31) (σ := σ) (e := e) (by decide) c w
      have hH := w.1
      have hb := hrd_lt w
      have bv := (wn_vs w j).1
      have zj := z1 j hj
      have e0 : hB h 0 = h 0 := hB_lo (by omega) (by omega)
      have hs := m_has (t := hrd h (h 0)) (p := j) (by omega) (by omega) (st3 31 σ g1 e1)
      have hbit := hrd_bit h (h 0) j
      rw [show hwd j v (m + 1) h = (decide (wn h j ≠ 0 ∧ wn h j / 100 = v) || hwd j v m (hB h)) from rfl]
      by_cases q : wn h j ≠ 0 ∧ wn h j / 100 = v
      · obtain ⟨g2, e2, l2⟩ := ih N (i + 1) a (acc ||| 2 ^ a) g1 e1 (hB h) (by omega) (by omega) ha (by rw [e0]; exact hj) c1 (hB_wf w)
        refine ⟨g2, e2, fun K => ?_⟩
        rw [if_pos (hbit.mpr ⟨hj, q.1⟩)] at hs
        have l3 := l2 K
        rw [show (if hwd j v m (hB h) = true then acc ||| 2 ^ a ||| 2 ^ a else acc ||| 2 ^ a) = acc ||| 2 ^ a by split <;> first | rfl | rw [Nat.or_assoc, Nat.or_self]] at l3
        rw [L_X8_say_83.eq_2, decide_eq_true q, Bool.true_or, if_pos rfl, ← l3]
        simp (disch := omega) only [ixN, clN, nI_add, pk_mul, subN, divN, remN, leN, ltN, eqN, le0N, eq0N, lt0N, ge0N, gt0N, if_pos, if_neg, if_true, if_false, Option.bind_some, shrN, shlN, andN1, nI_or, andm1, modS, true_or, or_true, false_or, or_false, nI_and, l1, hs, U_b, zj, q.2, J_X8_say_123]
      · obtain ⟨g2, e2, l2⟩ := ih N (i + 1) a acc g1 e1 (hB h) (by omega) (by omega) ha (by rw [e0]; exact hj) c1 (hB_wf w)
        refine ⟨g2, e2, fun K => ?_⟩
        rw [L_X8_say_83.eq_2, decide_eq_false q, Bool.false_or, ← l2 K]
        by_cases q2 : wn h j = 0
        · rw [if_neg (fun z => (hbit.mp z).2 q2)] at hs
          simp (disch := omega) only [ixN, clN, nI_add, pk_mul, subN, divN, remN, leN, ltN, eqN, le0N, eq0N, lt0N, ge0N, gt0N, if_pos, if_neg, if_true, if_false, Option.bind_some, shrN, shlN, andN1, nI_or, andm1, modS, true_or, or_true, false_or, or_false, nI_and, l1, hs, J_X8_say_122, J_X8_say_123, Nat.or_zero]
        · rw [if_pos (hbit.mpr ⟨hj, q2⟩)] at hs
          have q3 : ¬ wn h j / 100 = v := fun z => q ⟨q2, z⟩
          simp (disch := omega) only [ixN, clN, nI_add, pk_mul, subN, divN, remN, leN, ltN, eqN, le0N, eq0N, lt0N, ge0N, gt0N, if_pos, if_neg, if_true, if_false, Option.bind_some, shrN, shlN, andN1, nI_or, andm1, modS, true_or, or_true, false_or, or_false, nI_and, l1, hs, U_b, zj, J_X8_say_122, J_X8_say_123, Nat.or_zero]
  have L : ∀ (m N a : Nat) (g e : Nat → Int32), a + m = 10 → m < N → ∃ g' e', ∀ K, L_X8_say_55 K N (nI x) (nI j) (nI v) (nI n) (nI (sw h x j v n a)) (nI a) (st3 31 σ g e) = K (nI (sw h x j v n 10)) (st3 31 σ g' e') := by
    intro m
    induction m with
    | zero =>
      intro N a g e ha hN
      obtain ⟨N, rfl⟩ : ∃ n', N = n' + 1 := ⟨N - 1, by omega⟩
      refine ⟨g, e, fun K => ?_⟩
      rw [L_X8_say_55.eq_2, show a = 10 by omega]
      simp (disch := omega) only [ixN, clN, nI_add, pk_mul, subN, divN, remN, leN, ltN, eqN, le0N, eq0N, lt0N, ge0N, gt0N, if_pos, if_neg, if_true, if_false, Option.bind_some, shrN, shlN, andN1, nI_or, andm1, modS, true_or, or_true, false_or, or_false, nI_and]
    | succ m ih =>
      intro N a g e ha hN
      obtain ⟨N, rfl⟩ : ∃ n', N = n' + 1 := ⟨N - 1, by omega⟩
      obtain ⟨g1, e1, c1⟩ := m_lay (σ := σ) (g := g) (e := e) m0
      obtain ⟨g2, e2, c2⟩ := m_speech (k := 31) (σ := σ) (e := e) (by decide) c1 w (x := x) (wd := a) (l := 60) (by omega) (by omega) (by omega)
      have w2 := hS_wf w (x := x) (wd := a) (l := 60) (by omega) (by omega)
      obtain ⟨g3, e3, l3⟩ := L1 n fuel 0 a (sw h x j v n a) g2 e (hS h x a 60 (h 2)) (by omega) (by have := fuel_ge; omega) (by omega) (by rw [hS_lo (by omega)]; exact hj) c2 w2
      obtain ⟨g4, e4, l4⟩ := ih N (a + 1) g3 e3 (by omega) (by omega)
      refine ⟨g4, e4, fun K => ?_⟩
      rw [L_X8_say_55.eq_2, ← l4 K]
      simp (disch := omega) only [ixN, clN, nI_add, pk_mul, subN, divN, remN, leN, ltN, eqN, le0N, eq0N, lt0N, ge0N, gt0N, if_pos, if_neg, if_true, if_false, Option.bind_some, shrN, shlN, andN1, nI_or, andm1, modS, true_or, or_true, false_or, or_false, nI_and, e1, e2, l3]
      rfl
  obtain ⟨g', e', l1⟩ := L 10 fuel 0 g e (by omega) (by have := fuel_ge; omega)
  exact ⟨g', e', l1 _⟩
theorem e_say (i : Inv σ) (x y u v : Int32) : Ag (F_X7_say x y u v σ) (F_X8_say x y u v) := by
  obtain ⟨⟨h, c, m, w, b⟩, -⟩ := id i
  have hH := w.1
  by_cases q : (x < 0 ∨ nI (h 0) ≤ x) ∨ (y < 0 ∨ nI (h 0) ≤ y) ∨ (u < nI 0 ∨ nI 9 < u) ∨ (v < nI 1 ∨ nI 30 < v)
  · refine Ag.q i (-1000001) σ ?_ (Scr.rf σ) (fun τ s => ⟨setF τ 8 (nI 0), ?_, scr8 s⟩)
    · unfold F_X7_say
      by_cases q1 : x < 0 ∨ nI (h 0) ≤ x
      · simp (disch := omega) only [ixN, clN, nI_add, pk_mul, subN, divN, remN, leN, ltN, eqN, le0N, eq0N, lt0N, ge0N, gt0N, if_pos, if_neg, if_true, if_false, Option.bind_some, shrN, shlN, andN1, nI_or, andm1, modS, true_or, or_true, false_or, or_false, nI_and, c_isHorn0 c w q1]
      · by_cases q2 : y < 0 ∨ nI (h 0) ≤ y
        · simp (disch := omega) only [ixN, clN, nI_add, pk_mul, subN, divN, remN, leN, ltN, eqN, le0N, eq0N, lt0N, ge0N, gt0N, if_pos, if_neg, if_true, if_false, Option.bind_some, shrN, shlN, andN1, nI_or, andm1, modS, true_or, or_true, false_or, or_false, nI_and, c_isHorn1 c w q1, c_isHorn0 c w q2]
        · by_cases q3 : u < nI 0 ∨ nI 9 < u
          · simp (disch := omega) only [ixN, clN, nI_add, pk_mul, subN, divN, remN, leN, ltN, eqN, le0N, eq0N, lt0N, ge0N, gt0N, if_pos, if_neg, if_true, if_false, Option.bind_some, shrN, shlN, andN1, nI_or, andm1, modS, true_or, or_true, false_or, or_false, nI_and, c_isHorn1 c w q1, c_isHorn1 c w q2, c_within0 q3]
          · simp (disch := omega) only [ixN, clN, nI_add, pk_mul, subN, divN, remN, leN, ltN, eqN, le0N, eq0N, lt0N, ge0N, gt0N, if_pos, if_neg, if_true, if_false, Option.bind_some, shrN, shlN, andN1, nI_or, andm1, modS, true_or, or_true, false_or, or_false, nI_and, c_isHorn1 c w q1, c_isHorn1 c w q2, c_within1 q3, c_within0 (((q.resolve_left q1).resolve_left q2).resolve_left q3)]
    · unfold F_X8_say
      by_cases q1 : x < 0 ∨ nI (h 0) ≤ x
      · simp (disch := omega) only [ixN, clN, nI_add, pk_mul, subN, divN, remN, leN, ltN, eqN, le0N, eq0N, lt0N, ge0N, gt0N, if_pos, if_neg, if_true, if_false, Option.bind_some, shrN, shlN, andN1, nI_or, andm1, modS, true_or, or_true, false_or, or_false, nI_and, m_isHorn0 (mr8 m s) w q1]
      · by_cases q2 : y < 0 ∨ nI (h 0) ≤ y
        · simp (disch := omega) only [ixN, clN, nI_add, pk_mul, subN, divN, remN, leN, ltN, eqN, le0N, eq0N, lt0N, ge0N, gt0N, if_pos, if_neg, if_true, if_false, Option.bind_some, shrN, shlN, andN1, nI_or, andm1, modS, true_or, or_true, false_or, or_false, nI_and, m_isHorn1 (mr8 m s) w q1, m_isHorn0 (mr8 m s) w q2]
        · by_cases q3 : u < nI 0 ∨ nI 9 < u
          · simp (disch := omega) only [ixN, clN, nI_add, pk_mul, subN, divN, remN, leN, ltN, eqN, le0N, eq0N, lt0N, ge0N, gt0N, if_pos, if_neg, if_true, if_false, Option.bind_some, shrN, shlN, andN1, nI_or, andm1, modS, true_or, or_true, false_or, or_false, nI_and, m_isHorn1 (mr8 m s) w q1, m_isHorn1 (mr8 m s) w q2, m_in0 q3]
          · simp (disch := omega) only [ixN, clN, nI_add, pk_mul, subN, divN, remN, leN, ltN, eqN, le0N, eq0N, lt0N, ge0N, gt0N, if_pos, if_neg, if_true, if_false, Option.bind_some, shrN, shlN, andN1, nI_or, andm1, modS, true_or, or_true, false_or, or_false, nI_and, m_isHorn1 (mr8 m s) w q1, m_isHorn1 (mr8 m s) w q2, m_in1 q3, m_in0 (((q.resolve_left q1).resolve_left q2).resolve_left q3)]
  · have q1 : ¬ (x < 0 ∨ nI (h 0) ≤ x) := fun z => q (Or.inl z)
    have q2 : ¬ (y < 0 ∨ nI (h 0) ≤ y) := fun z => q (Or.inr (Or.inl z))
    have q3 : ¬ (u < nI 0 ∨ nI 9 < u) := fun z => q (Or.inr (Or.inr (Or.inl z)))
    have q4 : ¬ (v < nI 1 ∨ nI 30 < v) := fun z => q (Or.inr (Or.inr (Or.inr z)))
    clear q
    obtain ⟨j1, hj1, rfl⟩ := in_H (by omega) q1
    obtain ⟨j2, hj2, rfl⟩ := in_H (by omega) q2
    obtain ⟨wd, -, hwd, rfl⟩ := in_N (by omega) (by omega) q3
    obtain ⟨n, hn1, hn, rfl⟩ := in_N (by omega) (by omega) q4
    obtain ⟨f2, o2, e2⟩ := x_say (σ := sn σ) (f := (sn σ).1 13) (o := (sn σ).1 14) (sn_10 c) w (x := j1) (j := j2) (v := wd) (n := n) (by omega) (by omega) hwd (by omega)
    rw [etaT] at e2
    refine Ag.q i (nI (sw h j1 j2 wd n 10)) (st2 12 (sn σ) f2 o2) ?_ ((sn_scr σ).T f2 o2) (fun τ s => ?_)
    · unfold F_X7_say
      simp (disch := omega) only [ixN, clN, nI_add, pk_mul, subN, divN, remN, leN, ltN, eqN, le0N, eq0N, lt0N, ge0N, gt0N, if_pos, if_neg, if_true, if_false, Option.bind_some, shrN, shlN, andN1, nI_or, andm1, modS, true_or, or_true, false_or, or_false, nI_and, c_isHorn1 c w q1, c_isHorn1 c w q2, c_within1 q3, c_within1 q4, c_seen, e2]
    · obtain ⟨g4, e4, l4⟩ := m_say (σ := setF τ 8 (nI 0)) (g := (setF τ 8 (nI 0)).1 31) (e := (setF τ 8 (nI 0)).1 34) (mr8 m s) w (x := j1) (j := j2) (v := wd) (n := n) (by omega) hj2 hwd (by omega)
      rw [etaU] at l4
      refine ⟨_, ?_, (scr8 s).U g4 e4⟩
      unfold F_X8_say
      simp (disch := omega) only [ixN, clN, nI_add, pk_mul, subN, divN, remN, leN, ltN, eqN, le0N, eq0N, lt0N, ge0N, gt0N, if_pos, if_neg, if_true, if_false, Option.bind_some, shrN, shlN, andN1, nI_or, andm1, modS, true_or, or_true, false_or, or_false, nI_and, m_isHorn1 (mr8 m s) w q1, m_isHorn1 (mr8 m s) w q2, m_in1 q3, m_in1 q4, l4]
end ASK2
