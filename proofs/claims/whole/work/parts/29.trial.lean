/-! what is foretold: the trial, and the reference's row 'then' -/
theorem nI_and (a b : Nat) : nI a &&& nI b = nI (a &&& b) := by
  apply Int32.toBitVec_inj.mp
  rw [Int32.toBitVec_and]
  show (Int32.ofNat a).toBitVec &&& (Int32.ofNat b).toBitVec = (Int32.ofNat (a &&& b)).toBitVec
  simp only [Int32.toBitVec_ofNat']
  apply BitVec.eq_of_getLsbD_eq
  intro i hi
  simp [hi]
theorem T_a (σ : St) (f o : Nat → Int32) : (st2 12 σ f o).1 13 = f := st2_a 12 σ f o
theorem T_b (σ : St) (f o : Nat → Int32) : (st2 12 σ f o).1 14 = o := st2_b 12 σ f o
theorem T_A (σ : St) (f o : Nat → Int32) (i : Nat) (v : Int32) : setA (st2 12 σ f o) 13 i v = st2 12 σ (upd f i v) o := st2_A 12 σ f o i v
theorem T_k {σ : St} {f o : Nat → Int32} {k : Nat} (h1 : k ≠ 13) (h2 : k ≠ 14) : (st2 12 σ f o).1 k = σ.1 k := st2_k h1 h2
theorem T_10 (σ : St) (f o : Nat → Int32) : (st2 12 σ f o).1 10 = σ.1 10 := st2_k (by decide) (by decide)
theorem U_a (σ : St) (g e : Nat → Int32) : (st3 31 σ g e).1 31 = g := st3_a (by decide) σ g e
theorem U_b (σ : St) (g e : Nat → Int32) : (st3 31 σ g e).1 34 = e := st3_b 31 σ g e
theorem U_A (σ : St) (g e : Nat → Int32) (i : Nat) (v : Int32) : setA (st3 31 σ g e) 31 i v = st3 31 σ (upd g i v) e := st3_A (by decide) σ g e i v
theorem U_29 (σ : St) (g e : Nat → Int32) : (st3 31 σ g e).1 29 = σ.1 29 := st3_k (by decide) (by decide)
theorem bn_s (n : Nat) : ∀ h, bn (n + 1) h = bn n (hB h) := fun _ => rfl
section TRIAL
variable {σ : St} {f o g e : Nat → Int32} {h : Hs}
theorem x_begin (c : CR (σ.1 10) h) : ∃ f', F_X2_begin (st2 12 σ f o) = some (st2 12 σ f' o) ∧ CR f' h := by
  refine ⟨va_cpy (σ.1 10) f 0 0 80, ?_, fun i hi => by rw [sb_cpy0 hi]; exact c i hi⟩
  unfold F_X2_begin
  rw [n_take]
  show some (setR (st2 12 σ f o) 13 (va_cpy ((st2 12 σ f o).1 10) ((st2 12 σ f o).1 13) 0 0 80)) = _
  rw [T_10, T_a]
  congr 1
  apply St.ext
  · intro k
    by_cases h1 : k = 13
    · rw [h1, setR_get, T_a]
    · rw [setR_ne h1]
      by_cases h2 : k = 14
      · rw [h2, T_b, T_b]
      · rw [T_k h1 h2, T_k h1 h2]
  · intro j
    rfl
theorem x_first (c : CR f h) (w : WF h) {H n : Nat} (hH : H < 2147483648) (hn : n ≤ 60) : ∃ f' o', F_X2_firstOnTrial (nI H) (nI n) (st2 12 σ f o) = some (nI (fo H n h), st2 12 σ f' o') := by
  unfold F_X2_firstOnTrial
  have L : ∀ (m N i : Nat) (f o : Nat → Int32) (h : Hs), i + m = n + 1 → 1 ≤ i → m < N → CR f h → WF h → ∃ f' o', L_X2_firstOnTrial_2 (fun σ => some ((nI 0), σ)) N (nI H) (nI n) (nI i) (st2 12 σ f o) = some (nI (if fo H m h = 0 then 0 else i - 1 + fo H m h), st2 12 σ f' o') := by
    intro m
    induction m with
    | zero =>
      intro N i f o h hi h1 hN c w
      obtain ⟨N, rfl⟩ : ∃ n', N = n' + 1 := ⟨N - 1, by omega⟩
      refine ⟨f, o, ?_⟩
      rw [L_X2_firstOnTrial_2.eq_2]
      simp (disch := omega) only [ixN, clN, nI_add, pk_mul, subN, divN, remN, leN, ltN, eqN, le0N, eq0N, lt0N, ge0N, gt0N, if_pos, if_neg, if_true, if_false, Option.bind_some, shrN, shlN, andN1, nI_or, andm1, modS, true_or, or_true]
      rfl
    | succ m ih =>
      intro N i f o h hi h1 hN c w
      obtain ⟨N, rfl⟩ : ∃ n', N = n' + 1 := ⟨N - 1, by omega⟩
      rw [L_X2_firstOnTrial_2.eq_2]
      by_cases s : sil h
      · refine ⟨f, o, ?_⟩
        simp (disch := omega) only [ixN, clN, nI_add, pk_mul, subN, divN, remN, leN, ltN, eqN, le0N, eq0N, lt0N, ge0N, gt0N, if_pos, if_neg, if_true, if_false, Option.bind_some, shrN, shlN, andN1, nI_or, andm1, modS, true_or, or_true, n_isSilent1 (r := 12) c w s, fo_sil H (m + 1) h w s]
      · obtain ⟨f1, o1, e1, c1, z1⟩ := n_passBreath (r := 12) (σ := σ) (o := o) c w
        have hb := hrd_lt w
        have ha : hrd h (h 0) &&& H ≤ hrd h (h 0) := Nat.and_le_left
        by_cases q : hrd h (h 0) &&& H = 0
        · obtain ⟨f2, o2, e2⟩ := ih N (i + 1) f1 o1 (hB h) (by omega) (by omega) (by omega) c1 (hB_wf w)
          refine ⟨f2, o2, ?_⟩
          simp (disch := omega) only [ixN, clN, nI_add, pk_mul, subN, divN, remN, leN, ltN, eqN, le0N, eq0N, lt0N, ge0N, gt0N, if_pos, if_neg, if_true, if_false, Option.bind_some, shrN, shlN, andN1, nI_or, andm1, modS, true_or, or_true, n_isSilent0 (r := 12) c w s, e1, nI_and, e2]
          rw [show fo H (m + 1) h = if hrd h (h 0) &&& H = 0 then (if fo H m (hB h) = 0 then 0 else fo H m (hB h) + 1) else 1 from rfl, if_pos q]
          generalize fo H m (hB h) = F
          by_cases q2 : F = 0
          · subst q2
            rfl
          · rw [if_neg q2, if_neg q2, if_neg (show ¬ F + 1 = 0 by omega), show i + 1 - 1 + F = i - 1 + (F + 1) by omega]
        · refine ⟨f1, o1, ?_⟩
          simp (disch := omega) only [ixN, clN, nI_add, pk_mul, subN, divN, remN, leN, ltN, eqN, le0N, eq0N, lt0N, ge0N, gt0N, if_pos, if_neg, if_true, if_false, Option.bind_some, shrN, shlN, andN1, nI_or, andm1, modS, true_or, or_true, n_isSilent0 (r := 12) c w s, e1, nI_and]
          rw [show fo H (m + 1) h = if hrd h (h 0) &&& H = 0 then (if fo H m (hB h) = 0 then 0 else fo H m (hB h) + 1) else 1 from rfl, if_neg q, if_neg (by omega), show i - 1 + 1 = i by omega]
  obtain ⟨f', o', e1⟩ := L n fuel 1 f o h (by omega) (by omega) (by have := fuel_ge; omega) c w
  refine ⟨f', o', ?_⟩
  rw [e1]
  congr 2
  by_cases q : fo H n h = 0
  · rw [if_pos q, q]
  · rw [if_neg q, show 1 - 1 + fo H n h = fo H n h by omega]
theorem x_breaths (c : CR f h) (w : WF h) {j : Nat} (hj : j < 6) : ∀ (m N i n : Nat) (a1 : Int32), i + m = n → n ≤ 60 → m < N → ∃ f' o', (∀ K, L_X2_soundHeard_6 K N a1 (nI n) (nI i) (st2 12 σ f o) = K a1 (st2 12 σ f' o')) ∧ CR f' (bn m h) ∧ (m ≠ 0 → o' j = nI (wn (bn (m - 1) h) j)) := by
  intro m
  induction m generalizing f o h with
  | zero =>
    intro N i n a1 hi hn hN
    obtain ⟨N, rfl⟩ : ∃ n', N = n' + 1 := ⟨N - 1, by omega⟩
    refine ⟨f, o, fun K => ?_, c, fun z => absurd rfl z⟩
    rw [L_X2_soundHeard_6.eq_2]
    simp (disch := omega) only [ixN, clN, nI_add, pk_mul, subN, divN, remN, leN, ltN, eqN, le0N, eq0N, lt0N, ge0N, gt0N, if_pos, if_neg, if_true, if_false, Option.bind_some, shrN, shlN, andN1, nI_or, andm1, modS, true_or, or_true]
  | succ m ih =>
    intro N i n a1 hi hn hN
    obtain ⟨N, rfl⟩ : ∃ n', N = n' + 1 := ⟨N - 1, by omega⟩
    obtain ⟨f1, o1, e1, c1, z1⟩ := n_passBreath (r := 12) (σ := σ) (o := o) c w
    obtain ⟨f2, o2, e2, c2, z2⟩ := ih c1 (hB_wf w) (o := o1) N (i + 1) n a1 (by omega) hn (by omega)
    by_cases q : m = 0
    · subst q
      refine ⟨f1, o1, fun K => ?_, c1, fun _ => z1 j hj⟩
      rw [L_X2_soundHeard_6.eq_2]
      simp (disch := omega) only [ixN, clN, nI_add, pk_mul, subN, divN, remN, leN, ltN, eqN, le0N, eq0N, lt0N, ge0N, gt0N, if_pos, if_neg, if_true, if_false, Option.bind_some, shrN, shlN, andN1, nI_or, andm1, modS, true_or, or_true, e1]
      obtain ⟨N, rfl⟩ : ∃ n', N = n' + 1 := ⟨N - 1, by omega⟩
      rw [L_X2_soundHeard_6.eq_2]
      simp (disch := omega) only [ixN, clN, nI_add, pk_mul, subN, divN, remN, leN, ltN, eqN, le0N, eq0N, lt0N, ge0N, gt0N, if_pos, if_neg, if_true, if_false, Option.bind_some, shrN, shlN, andN1, nI_or, andm1, modS, true_or, or_true]
    · refine ⟨f2, o2, fun K => ?_, c2, fun _ => ?_⟩
      · rw [L_X2_soundHeard_6.eq_2]
        simp (disch := omega) only [ixN, clN, nI_add, pk_mul, subN, divN, remN, leN, ltN, eqN, le0N, eq0N, lt0N, ge0N, gt0N, if_pos, if_neg, if_true, if_false, Option.bind_some, shrN, shlN, andN1, nI_or, andm1, modS, true_or, or_true, e1, e2]
      · rw [z2 q]
        obtain ⟨m', rfl⟩ : ∃ m', m = m' + 1 := ⟨m - 1, by omega⟩
        rfl
theorem x_sound (c0 : CR (σ.1 10) h) (w : WF h) {j n : Nat} (hj : j < 6) (hn : 1 ≤ n ∧ n ≤ 60) : ∃ f' o', F_X2_soundHeard (nI j) (nI n) (st2 12 σ f o) = some (nI (wn (bn (n - 1) h) j), st2 12 σ f' o') := by
  unfold F_X2_soundHeard
  obtain ⟨f1, e1, c1⟩ := x_begin (σ := σ) (f := f) (o := o) c0
  obtain ⟨f2, o2, e2, -, z2⟩ := x_breaths (σ := σ) (o := o) c1 w hj n fuel 0 n (nI j) (by omega) hn.2 (by have := fuel_ge; omega)
  refine ⟨f2, o2, ?_⟩
  rw [e1, Option.bind_some, e2]
  simp (disch := omega) only [ixN, clN, nI_add, pk_mul, subN, divN, remN, leN, ltN, eqN, le0N, eq0N, lt0N, ge0N, gt0N, if_pos, if_neg, if_true, if_false, Option.bind_some, shrN, shlN, andN1, nI_or, andm1, modS, true_or, or_true, T_b, z2 (by omega)]
theorem x_hear (c0 : CR (σ.1 10) h) (w : WF h) {n : Nat} (hn : n ≤ 60) : ∃ f' o', F_X2_hornsThatHear (nI n) (st2 12 σ f o) = some (nI (orn n h), st2 12 σ f' o') := by
  unfold F_X2_hornsThatHear
  obtain ⟨f1, e1, c1⟩ := x_begin (σ := σ) (f := f) (o := o) c0
  have L : ∀ (m N i acc : Nat) (f o : Nat → Int32) (h : Hs), i + m = n → m < N → CR f h → WF h → ∃ f' o', ∀ K, L_X2_hornsThatHear_8 K N (nI n) (nI acc) (nI i) (st2 12 σ f o) = K (nI (acc ||| orn m h)) (st2 12 σ f' o') := by
    intro m
    induction m with
    | zero =>
      intro N i acc f o h hi hN c w
      obtain ⟨N, rfl⟩ : ∃ n', N = n' + 1 := ⟨N - 1, by omega⟩
      refine ⟨f, o, fun K => ?_⟩
      rw [L_X2_hornsThatHear_8.eq_2]
      simp (disch := omega) only [ixN, clN, nI_add, pk_mul, subN, divN, remN, leN, ltN, eqN, le0N, eq0N, lt0N, ge0N, gt0N, if_pos, if_neg, if_true, if_false, Option.bind_some, shrN, shlN, andN1, nI_or, andm1, modS, true_or, or_true]
      rw [show acc ||| orn 0 h = acc from Nat.or_zero _]
    | succ m ih =>
      intro N i acc f o h hi hN c w
      obtain ⟨N, rfl⟩ : ∃ n', N = n' + 1 := ⟨N - 1, by omega⟩
      obtain ⟨f1, o1, e1, c1, z1⟩ := n_passBreath (r := 12) (σ := σ) (o := o) c w
      obtain ⟨f2, o2, e2⟩ := ih N (i + 1) (acc ||| hrd h (h 0)) f1 o1 (hB h) (by omega) (by omega) c1 (hB_wf w)
      refine ⟨f2, o2, fun K => ?_⟩
      rw [L_X2_hornsThatHear_8.eq_2]
      simp (disch := omega) only [ixN, clN, nI_add, pk_mul, subN, divN, remN, leN, ltN, eqN, le0N, eq0N, lt0N, ge0N, gt0N, if_pos, if_neg, if_true, if_false, Option.bind_some, shrN, shlN, andN1, nI_or, andm1, modS, true_or, or_true, e1, e2]
      rw [Nat.or_assoc]
      rfl
  obtain ⟨f2, o2, e2⟩ := L n fuel 0 0 f1 o h (by omega) (by have := fuel_ge; omega) c1 w
  refine ⟨f2, o2, ?_⟩
  rw [e1, Option.bind_some, e2, Nat.zero_or]
/-- behind how many breaths all is quiet -/
def qf : Nat → Nat → Hs → Int32
  | 0, i, h => if sA h (h 2) = 0 then nI i else (-1000000)
  | m + 1, i, h => if sA h (h 2) = 0 then nI i else qf m (i + 1) (hB h)
theorem x_quiet (c0 : CR (σ.1 10) h) (w : WF h) : ∃ f' o', F_X2_breathsToSilence (nI 60) (st2 12 σ f o) = some (qf 60 0 h, st2 12 σ f' o') := by
  unfold F_X2_breathsToSilence
  obtain ⟨f1, e1, c1⟩ := x_begin (σ := σ) (f := f) (o := o) c0
  have L : ∀ (m N i : Nat) (f o : Nat → Int32) (h : Hs), i + m = 60 → m < N → CR f h → WF h → ∃ f' o', L_X2_breathsToSilence_6 (fun a1 σ => (F_X4_isSilent 12 σ).bind fun z6 => if z6.1 = 0 then (some ((-1000000 : Int32), z6.2)) else (some (a1, z6.2))) N (nI 60) (nI i) (st2 12 σ f o) = some (qf m i h, st2 12 σ f' o') := by
    intro m
    induction m with
    | zero =>
      intro N i f o h hi hN c w
      obtain ⟨N, rfl⟩ : ∃ n', N = n' + 1 := ⟨N - 1, by omega⟩
      refine ⟨f, o, ?_⟩
      rw [L_X2_breathsToSilence_6.eq_2, show qf 0 i h = if sA h (h 2) = 0 then nI i else (-1000000) from rfl, show i = 60 by omega]
      by_cases s : sil h
      · simp (disch := omega) only [ixN, clN, nI_add, pk_mul, subN, divN, remN, leN, ltN, eqN, le0N, eq0N, lt0N, ge0N, gt0N, if_pos, if_neg, if_true, if_false, Option.bind_some, shrN, shlN, andN1, nI_or, andm1, modS, true_or, or_true, n_isSilent1 (r := 12) c w s, (sA_sil w).mpr s]
      · simp (disch := omega) only [ixN, clN, nI_add, pk_mul, subN, divN, remN, leN, ltN, eqN, le0N, eq0N, lt0N, ge0N, gt0N, if_pos, if_neg, if_true, if_false, Option.bind_some, shrN, shlN, andN1, nI_or, andm1, modS, true_or, or_true, n_isSilent0 (r := 12) c w s, show ¬ sA h (h 2) = 0 from fun z => s ((sA_sil w).mp z)]
    | succ m ih =>
      intro N i f o h hi hN c w
      obtain ⟨N, rfl⟩ : ∃ n', N = n' + 1 := ⟨N - 1, by omega⟩
      rw [L_X2_breathsToSilence_6.eq_2, show qf (m + 1) i h = if sA h (h 2) = 0 then nI i else qf m (i + 1) (hB h) from rfl]
      by_cases s : sil h
      · refine ⟨f, o, ?_⟩
        simp (disch := omega) only [ixN, clN, nI_add, pk_mul, subN, divN, remN, leN, ltN, eqN, le0N, eq0N, lt0N, ge0N, gt0N, if_pos, if_neg, if_true, if_false, Option.bind_some, shrN, shlN, andN1, nI_or, andm1, modS, true_or, or_true, n_isSilent1 (r := 12) c w s, (sA_sil w).mpr s]
      · obtain ⟨f1, o1, e1, c1, z1⟩ := n_passBreath (r := 12) (σ := σ) (o := o) c w
        obtain ⟨f2, o2, e2⟩ := ih N (i + 1) f1 o1 (hB h) (by omega) (by omega) c1 (hB_wf w)
        refine ⟨f2, o2, ?_⟩
        simp (disch := omega) only [ixN, clN, nI_add, pk_mul, subN, divN, remN, leN, ltN, eqN, le0N, eq0N, lt0N, ge0N, gt0N, if_pos, if_neg, if_true, if_false, Option.bind_some, shrN, shlN, andN1, nI_or, andm1, modS, true_or, or_true, n_isSilent0 (r := 12) c w s, show ¬ sA h (h 2) = 0 from fun z => s ((sA_sil w).mp z), e1, e2]
  obtain ⟨f2, o2, e2⟩ := L 60 fuel 0 f1 o h (by omega) (by have := fuel_ge; omega) c1 w
  refine ⟨f2, o2, ?_⟩
  rw [e1, Option.bind_some, e2]
/-! the same in the reference -/
theorem m_lay (c : MR (σ.1 29) h) : ∃ g', F_X8_layThen (st3 31 σ g e) = some (st3 31 σ g' e) ∧ MR g' h := by
  unfold F_X8_layThen
  have L : ∀ (m N a : Nat) (g : Nat → Int32), a + m = 80 → m < N → (∀ i, i < a → g i = σ.1 29 i) → ∃ g', (∀ K, L_X8_layThen_2 K N (nI a) (st3 31 σ g e) = K (st3 31 σ g' e)) ∧ ∀ i, i < 80 → g' i = σ.1 29 i := by
    intro m
    induction m with
    | zero =>
      intro N a g ha hN hc
      obtain ⟨N, rfl⟩ : ∃ n', N = n' + 1 := ⟨N - 1, by omega⟩
      refine ⟨g, fun K => ?_, fun i hi => hc i (by omega)⟩
      rw [L_X8_layThen_2.eq_2]
      simp (disch := omega) only [ixN, clN, nI_add, pk_mul, subN, divN, remN, leN, ltN, eqN, le0N, eq0N, lt0N, ge0N, gt0N, if_pos, if_neg, if_true, if_false, Option.bind_some, shrN, shlN, andN1, nI_or, andm1, modS, true_or, or_true]
    | succ m ih =>
      intro N a g ha hN hc
      obtain ⟨N, rfl⟩ : ∃ n', N = n' + 1 := ⟨N - 1, by omega⟩
      obtain ⟨g', h1, h2⟩ := ih N (a + 1) (upd g a (σ.1 29 a)) (by omega) (by omega) (by
        intro i hi
        show (if i = a then σ.1 29 a else g i) = _
        by_cases q : i = a
        · rw [if_pos q, q]
        · rw [if_neg q, hc i (by omega)])
      refine ⟨g', fun K => ?_, h2⟩
      rw [L_X8_layThen_2.eq_2, ← h1 K]
      simp (disch := omega) only [ixN, clN, nI_add, pk_mul, subN, divN, remN, leN, ltN, eqN, le0N, eq0N, lt0N, ge0N, gt0N, if_pos, if_neg, if_true, if_false, Option.bind_some, shrN, shlN, andN1, nI_or, andm1, modS, true_or, or_true, U_29, U_A]
  obtain ⟨g', h1, h2⟩ := L 80 fuel 0 g (by omega) (by have := fuel_ge; omega) (fun i hi => by omega)
  exact ⟨g', h1 _, fun i hi => by rw [h2 _ (pm_lt i hi)]; exact c i hi⟩
theorem m_hear (c : MR g h) (w : WF h) {n : Nat} (hn : n ≤ 60) : ∃ g' e', F_X8_hearersIn (nI n) (st3 31 σ g e) = some (nI (orn n h), st3 31 σ g' e') ∧ MR g' (bn n h) ∧ (n ≠ 0 → ∀ j, j < h 0 → e' j = nI (wn (bn (n - 1) h) j)) := by
  unfold F_X8_hearersIn
  have L : ∀ (m N i acc : Nat) (g e : Nat → Int32) (h : Hs), i + m = n → m < N → MR g h → WF h → ∃ g' e', (∀ K, L_X8_hearersIn_4 K N (nI n) (nI acc) (nI i) (st3 31 σ g e) = K (nI (acc ||| orn m h)) (st3 31 σ g' e')) ∧ MR g' (bn m h) ∧ (m ≠ 0 → ∀ j, j < h 0 → e' j = nI (wn (bn (m - 1) h) j)) := by
    intro m
    induction m with
    | zero =>
      intro N i acc g e h hi hN c w
      obtain ⟨N, rfl⟩ : ∃ n', N = n' + 1 := ⟨N - 1, by omega⟩
      refine ⟨g, e, fun K => ?_, c, fun z => absurd rfl z⟩
      rw [L_X8_hearersIn_4.eq_2]
      simp (disch := omega) only [ixN, clN, nI_add, pk_mul, subN, divN, remN, leN, ltN, eqN, le0N, eq0N, lt0N, ge0N, gt0N, if_pos, if_neg, if_true, if_false, Option.bind_some, shrN, shlN, andN1, nI_or, andm1, modS, true_or, or_true]
      rw [show acc ||| orn 0 h = acc from Nat.or_zero _]
    | succ m ih =>
      intro N i acc g e h hi hN c w
      obtain ⟨N, rfl⟩ : ∃ n', N = n' + 1 := ⟨N - 1, by omega⟩
      obtain ⟨g1, e1, l1, c1, z1⟩ := m_breath (k := 31) (σ := σ) (e := e) (by decide) c w
      obtain ⟨g2, e2, l2, c2, z2⟩ := ih N (i + 1) (acc ||| hrd h (h 0)) g1 e1 (hB h) (by omega) (by omega) c1 (hB_wf w)
      have e0 : hB h 0 = h 0 := hB_lo (by omega) (by omega)
      by_cases q : m = 0
      · subst q
        refine ⟨g1, e1, fun K => ?_, c1, fun _ => z1⟩
        rw [L_X8_hearersIn_4.eq_2]
        simp (disch := omega) only [ixN, clN, nI_add, pk_mul, subN, divN, remN, leN, ltN, eqN, le0N, eq0N, lt0N, ge0N, gt0N, if_pos, if_neg, if_true, if_false, Option.bind_some, shrN, shlN, andN1, nI_or, andm1, modS, true_or, or_true, l1]
        obtain ⟨N, rfl⟩ : ∃ n', N = n' + 1 := ⟨N - 1, by omega⟩
        rw [L_X8_hearersIn_4.eq_2]
        simp (disch := omega) only [ixN, clN, nI_add, pk_mul, subN, divN, remN, leN, ltN, eqN, le0N, eq0N, lt0N, ge0N, gt0N, if_pos, if_neg, if_true, if_false, Option.bind_some, shrN, shlN, andN1, nI_or, andm1, modS, true_or, or_true]
        rw [show orn (0 + 1) h = hrd h (h 0) from Nat.or_zero _]
      · refine ⟨g2, e2, fun K => ?_, c2, fun _ j hj => ?_⟩
        · rw [L_X8_hearersIn_4.eq_2]
          simp (disch := omega) only [ixN, clN, nI_add, pk_mul, subN, divN, remN, leN, ltN, eqN, le0N, eq0N, lt0N, ge0N, gt0N, if_pos, if_neg, if_true, if_false, Option.bind_some, shrN, shlN, andN1, nI_or, andm1, modS, true_or, or_true, l1, l2]
          rw [Nat.or_assoc]
          rfl
        · rw [z2 q j (by rw [e0]; exact hj)]
          obtain ⟨m', rfl⟩ : ∃ m', m = m' + 1 := ⟨m - 1, by omega⟩
          rfl
  obtain ⟨g', e', l1, c1, z1⟩ := L n fuel 0 0 g e h (by omega) (by have := fuel_ge; omega) c w
  refine ⟨g', e', ?_, c1, z1⟩
  rw [l1, Nat.zero_or]
theorem m_first (c : MR g h) (w : WF h) {j : Nat} (hj : j < 6) : ∃ g' e', F_X8_firstBy (nI j) (st3 31 σ g e) = some (if fo (2 ^ j) 60 h = 0 then (-1000000) else nI (fo (2 ^ j) 60 h), st3 31 σ g' e') := by
  unfold F_X8_firstBy
  have L : ∀ (m N i : Nat) (g e : Nat → Int32) (h : Hs), i + m = 61 → 1 ≤ i → m < N → MR g h → WF h → ∃ g' e', L_X8_firstBy_2 (fun σ => some ((-1000000 : Int32), σ)) N (nI j) (nI i) (st3 31 σ g e) = some (if fo (2 ^ j) m h = 0 then (-1000000) else nI (i - 1 + fo (2 ^ j) m h), st3 31 σ g' e') := by
    intro m
    induction m with
    | zero =>
      intro N i g e h hi h1 hN c w
      obtain ⟨N, rfl⟩ : ∃ n', N = n' + 1 := ⟨N - 1, by omega⟩
      refine ⟨g, e, ?_⟩
      rw [L_X8_firstBy_2.eq_2]
      simp (disch := omega) only [ixN, clN, nI_add, pk_mul, subN, divN, remN, leN, ltN, eqN, le0N, eq0N, lt0N, ge0N, gt0N, if_pos, if_neg, if_true, if_false, Option.bind_some, shrN, shlN, andN1, nI_or, andm1, modS, true_or, or_true]
      rfl
    | succ m ih =>
      intro N i g e h hi h1 hN c w
      obtain ⟨N, rfl⟩ : ∃ n', N = n' + 1 := ⟨N - 1, by omega⟩
      rw [L_X8_firstBy_2.eq_2]
      obtain ⟨g1, e1, l1, c1, z1⟩ := m_breath (k := 31) (σ := σ) (e := e) (by decide) c w
      have hb := hrd_lt w
      have hs := m_has (t := hrd h (h 0)) (p := j) (by omega) (by omega) (st3 31 σ g1 e1)
      by_cases q : hrd h (h 0) &&& 2 ^ j = 0
      · obtain ⟨g2, e2, l2⟩ := ih N (i + 1) g1 e1 (hB h) (by omega) (by omega) (by omega) c1 (hB_wf w)
        refine ⟨g2, e2, ?_⟩
        rw [if_neg ((and_bit _ _).mp q)] at hs
        simp (disch := omega) only [ixN, clN, nI_add, pk_mul, subN, divN, remN, leN, ltN, eqN, le0N, eq0N, lt0N, ge0N, gt0N, if_pos, if_neg, if_true, if_false, Option.bind_some, shrN, shlN, andN1, nI_or, andm1, modS, true_or, or_true, l1, hs, l2]
        rw [show fo (2 ^ j) (m + 1) h = if hrd h (h 0) &&& 2 ^ j = 0 then (if fo (2 ^ j) m (hB h) = 0 then 0 else fo (2 ^ j) m (hB h) + 1) else 1 from rfl, if_pos q]
        generalize fo (2 ^ j) m (hB h) = F
        by_cases q2 : F = 0
        · subst q2
          rfl
        · rw [if_neg q2, if_neg q2, if_neg (show ¬ F + 1 = 0 by omega), show i + 1 - 1 + F = i - 1 + (F + 1) by omega]
      · refine ⟨g1, e1, ?_⟩
        rw [if_pos (Classical.not_not.mp (fun z => q ((and_bit _ _).mpr z)))] at hs
        simp (disch := omega) only [ixN, clN, nI_add, pk_mul, subN, divN, remN, leN, ltN, eqN, le0N, eq0N, lt0N, ge0N, gt0N, if_pos, if_neg, if_true, if_false, Option.bind_some, shrN, shlN, andN1, nI_or, andm1, modS, true_or, or_true, l1, hs]
        rw [show fo (2 ^ j) (m + 1) h = if hrd h (h 0) &&& 2 ^ j = 0 then (if fo (2 ^ j) m (hB h) = 0 then 0 else fo (2 ^ j) m (hB h) + 1) else 1 from rfl, if_neg q, if_neg (by omega), show i - 1 + 1 = i by omega]
  obtain ⟨g', e', l1⟩ := L 60 fuel 1 g e h (by omega) (by omega) (by have := fuel_ge; omega) c w
  refine ⟨g', e', ?_⟩
  rw [l1]
  congr 2
  rw [show 1 - 1 + fo (2 ^ j) 60 h = fo (2 ^ j) 60 h by omega]
theorem m_quiet (c : MR g h) (w : WF h) : ∃ g' e', L_X8_quiet_21 (fun σ => some ((-1000000 : Int32), σ)) fuel (nI 0) (st3 31 σ g e) = some (qf 60 0 h, st3 31 σ g' e') := by
  have L : ∀ (m N i : Nat) (g e : Nat → Int32) (h : Hs), i + m = 60 → m + 1 < N → MR g h → WF h → ∃ g' e', L_X8_quiet_21 (fun σ => some ((-1000000 : Int32), σ)) N (nI i) (st3 31 σ g e) = some (qf m i h, st3 31 σ g' e') := by
    intro m
    induction m with
    | zero =>
      intro N i g e h hi hN c w
      obtain ⟨N, rfl⟩ : ∃ n', N = n' + 1 := ⟨N - 1, by omega⟩
      obtain ⟨g1, e1, l1, c1, z1⟩ := m_breath (k := 31) (σ := σ) (e := e) (by decide) c w
      have hs := m_sounds (k := 31) (σ := σ) (e := e) (by decide) c w
      have hsb : sA h (h 2) < 100 := by
        have h7 := w.2.2.1
        have : ∀ p, sA h p ≤ 4 * p := by
          intro p
          induction p with
          | zero => exact Nat.le_refl _
          | succ p ihp =>
            have : cz h (40 + 4 * p) 4 ≤ 4 := by
              show (if _ then 0 else 1) + ((if _ then 0 else 1) + ((if _ then 0 else 1) + ((if _ then 0 else 1) + 0))) ≤ 4
              split <;> split <;> split <;> split <;> omega
            show sA h p + cz h (40 + 4 * p) 4 ≤ _
            omega
        have := this (h 2)
        omega
      rw [L_X8_quiet_21.eq_2, show qf 0 i h = if sA h (h 2) = 0 then nI i else (-1000000) from rfl]
      by_cases s : sA h (h 2) = 0
      · refine ⟨g, e, ?_⟩
        simp (disch := omega) only [ixN, clN, nI_add, pk_mul, subN, divN, remN, leN, ltN, eqN, le0N, eq0N, lt0N, ge0N, gt0N, if_pos, if_neg, if_true, if_false, Option.bind_some, shrN, shlN, andN1, nI_or, andm1, modS, true_or, or_true, hs, s]
      · refine ⟨g1, e1, ?_⟩
        simp (disch := omega) only [ixN, clN, nI_add, pk_mul, subN, divN, remN, leN, ltN, eqN, le0N, eq0N, lt0N, ge0N, gt0N, if_pos, if_neg, if_true, if_false, Option.bind_some, shrN, shlN, andN1, nI_or, andm1, modS, true_or, or_true, hs, l1]
        obtain ⟨N, rfl⟩ : ∃ n', N = n' + 1 := ⟨N - 1, by omega⟩
        rw [L_X8_quiet_21.eq_2]
        simp (disch := omega) only [ixN, clN, nI_add, pk_mul, subN, divN, remN, leN, ltN, eqN, le0N, eq0N, lt0N, ge0N, gt0N, if_pos, if_neg, if_true, if_false, Option.bind_some, shrN, shlN, andN1, nI_or, andm1, modS, true_or, or_true]
    | succ m ih =>
      intro N i g e h hi hN c w
      obtain ⟨N, rfl⟩ : ∃ n', N = n' + 1 := ⟨N - 1, by omega⟩
      obtain ⟨g1, e1, l1, c1, z1⟩ := m_breath (k := 31) (σ := σ) (e := e) (by decide) c w
      have hs := m_sounds (k := 31) (σ := σ) (e := e) (by decide) c w
      have hsb : sA h (h 2) < 100 := by
        have h7 := w.2.2.1
        have : ∀ p, sA h p ≤ 4 * p := by
          intro p
          induction p with
          | zero => exact Nat.le_refl _
          | succ p ihp =>
            have : cz h (40 + 4 * p) 4 ≤ 4 := by
              show (if _ then 0 else 1) + ((if _ then 0 else 1) + ((if _ then 0 else 1) + ((if _ then 0 else 1) + 0))) ≤ 4
              split <;> split <;> split <;> split <;> omega
            show sA h p + cz h (40 + 4 * p) 4 ≤ _
            omega
        have := this (h 2)
        omega
      rw [L_X8_quiet_21.eq_2, show qf (m + 1) i h = if sA h (h 2) = 0 then nI i else qf m (i + 1) (hB h) from rfl]
      by_cases s : sA h (h 2) = 0
      · refine ⟨g, e, ?_⟩
        simp (disch := omega) only [ixN, clN, nI_add, pk_mul, subN, divN, remN, leN, ltN, eqN, le0N, eq0N, lt0N, ge0N, gt0N, if_pos, if_neg, if_true, if_false, Option.bind_some, shrN, shlN, andN1, nI_or, andm1, modS, true_or, or_true, hs, s]
      · obtain ⟨g2, e2, l2⟩ := ih N (i + 1) g1 e1 (hB h) (by omega) (by omega) c1 (hB_wf w)
        refine ⟨g2, e2, ?_⟩
        simp (disch := omega) only [ixN, clN, nI_add, pk_mul, subN, divN, remN, leN, ltN, eqN, le0N, eq0N, lt0N, ge0N, gt0N, if_pos, if_neg, if_true, if_false, Option.bind_some, shrN, shlN, andN1, nI_or, andm1, modS, true_or, or_true, hs, l1, l2]
  exact L 60 fuel 0 g e h (by omega) (by have := fuel_ge; omega) c w
end TRIAL
