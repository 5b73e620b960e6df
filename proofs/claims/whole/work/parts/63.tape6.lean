/-! all pipes of a text; house -/
section TAPE6
variable {B : Nat → Nat} {n : Nat}
theorem c_pipe0 {σ : St} {p : Nat} {d : Hs} (c : TC σ B n p) (h : ¬ (p < n ∧ kl (B p) ≠ 0)) : F_X6_readPipe σ = some (nI 0, setF (setF σ 2 (nI 1)) 3 (nI p)) := by
  have ca : σ.2 1 = nI n := c.2.2.1
  have cb : σ.2 4 = nI p := c.2.2.2.1
  have hn := c.1
  have J : ∀ a, J_X6_readPipe_34 a (nI 0) σ = some (nI 0, setF (setF σ 2 (nI 1)) 3 (nI p)) := fun a => by
    unfold J_X6_readPipe_34
    rw [if_pos (show nI 0 = 0 from rfl), c_refuse, Option.bind_some, cb]
    exact if_pos (Or.inl rfl)
  unfold F_X6_readPipe
  by_cases z : p < n
  · have cf : σ.1 22 p = nI (B p) := (c.2.2.2.2 p z).1
    have f2 := (c.2.2.2.2 p z).2
    have h0 : kl (B p) = 0 := Classical.byContradiction (fun y => h ⟨z, y⟩)
    rw [if_pos (by rw [ixN (by omega)]; omega), ca, cb, if_neg (by rw [leN (by omega) (by omega)]; omega), if_pos (by rw [ixN (by omega)]; omega), clN (a := p) (by omega), cf, c_letter f2, Option.bind_some, h0]
    exact J _
  · rw [if_pos (by rw [ixN (by omega)]; omega), ca, cb, if_pos (nI_le (by omega) (by have := c.2.1; omega))]
    exact J _
theorem L17_0 {N : Nat} (hN : 0 < N) (K : Int32 → St → Option (Int32 × St)) (a : Int32) (σ : St) : L_X6_readInto_17 K N (nI 0) a σ = K (nI 0) σ := by
  obtain ⟨N, rfl⟩ : ∃ n', N = n' + 1 := ⟨N - 1, by omega⟩
  rw [L_X6_readInto_17.eq_2]
  by_cases z : nI 120 ≤ a
  · rw [if_pos z]
  · rw [if_neg z, if_pos (show nI 0 = 0 from rfl)]
theorem L17_1 {N i p : Nat} {σ : St} (c : TC σ B n p) (hp : p < n ∨ i = 0) (hi : i < 120) (K : Int32 → St → Option (Int32 × St)) : L_X6_readInto_17 K (N + 1) (nI 1) (nI i) σ = (F_X6_readPipe σ).bind fun z3 => L_X6_readInto_17 K N z3.1 (nI (i + 1)) z3.2 := by
  have hn := c.1
  rw [L_X6_readInto_17.eq_2, if_neg (by rw [leN (by omega) (by omega)]; omega), if_neg (show ¬ nI 1 = 0 by decide)]
  unfold J_X6_readInto_42
  rw [nI_add]
  by_cases z : i = 0
  · rw [if_pos (by rw [eq0N (by omega)]; exact z)]
  · rw [if_neg (by rw [eq0N (by omega)]; exact z), c.2.2.1, c.2.2.2.1, if_neg (by rw [leN (by omega) (by omega)]; omega)]
theorem L90_0 {M : Nat} {τ : St} (hM : 0 < M) (h : F_X8_isSort τ = some (nI 0, τ)) (K : St → Option (Int32 × St)) : L_X8_house_90 K M τ = K τ := by
  obtain ⟨M, rfl⟩ : ∃ n', M = n' + 1 := ⟨M - 1, by omega⟩
  rw [L_X8_house_90.eq_2, h, bt0]
theorem L90_1 {M : Nat} {τ τ' : St} (h : F_X8_isSort τ = some (nI 1, τ)) (h2 : F_X8_readPipe τ = some τ') (K : St → Option (Int32 × St)) : L_X8_house_90 K (M + 1) τ = L_X8_house_90 K M τ' := by
  rw [L_X8_house_90.eq_2, h, bt1]
  show (F_X8_readPipe τ).bind _ = _
  rw [h2, Option.bind_some]
theorem b_loop : ∀ (m N M i p : Nat) (σ τ : St) (d : Hs), n - p ≤ m → m < N → m < M → i ≤ p → (i = 0 → p < n) → TC σ B n p → TM τ B n p → PW d → CRx (σ.1 7) d → MR (τ.1 30) d →
    (∃ k q σ' τ', (∀ K, L_X6_readInto_17 K N (nI 1) (nI i) σ = K (nI 0) σ') ∧ FrD σ σ' ∧ BadC σ' k q ∧ (∀ K, L_X8_house_90 K M τ = K τ') ∧ FrN τ τ' ∧ (BadM τ' k q ∨ (k = 1 ∧ q < n ∧ TM τ' B n q))) ∨ (∃ d' σ' τ', (∀ K, L_X6_readInto_17 K N (nI 1) (nI i) σ = K (nI 1) σ') ∧ FrD σ σ' ∧ σ'.2 2 = σ.2 2 ∧ (∀ K, L_X8_house_90 K M τ = K τ') ∧ FrN τ τ' ∧ TM τ' B n n ∧ PW d' ∧ CRx (σ'.1 7) d' ∧ MR (τ'.1 30) d') := by
  intro m
  induction m with
  | zero =>
    intro N M i p σ τ d hm hN hM hi h0 c t w cx mx
    have hn := c.1
    have hp := c.2.1
    obtain rfl : p = n := by omega
    obtain ⟨N, rfl⟩ : ∃ n', N = n' + 1 := ⟨N - 1, by omega⟩
    refine Or.inr ⟨d, σ, τ, fun K => ?_, FrD.rf σ, rfl, fun K => L90_0 (by omega) (m_sort0 t (fun z => by omega)) K, FrN.rf τ, t, w, cx, mx⟩
    rw [L_X6_readInto_17.eq_2]
    by_cases z : 120 ≤ i
    · rw [if_pos (nI_le z (by omega))]
    · rw [if_neg (by rw [leN (by omega) (by omega)]; omega), if_neg (show ¬ nI 1 = 0 by decide), if_neg (by rw [eq0N (by omega)]; omega), c.2.2.1, c.2.2.2.1, if_pos (nI_le (Nat.le_refl _) (by omega))]
  | succ m ih =>
    intro N M i p σ τ d hm hN hM hi h0 c t w cx mx
    have hn := c.1
    by_cases hp : p = n
    · exact ih N M i p σ τ d (by omega) (by omega) (by omega) hi h0 c t w cx mx
    have hp' : p < n := by have := c.2.1; omega
    obtain ⟨N, rfl⟩ : ∃ n', N = n' + 1 := ⟨N - 1, by omega⟩
    obtain ⟨M, rfl⟩ : ∃ n', M = n' + 1 := ⟨M - 1, by omega⟩
    by_cases hk : kl (B p) = 0
    · refine Or.inl ⟨1, p, setF (setF σ 2 (nI 1)) 3 (nI p), τ, fun K => ?_, (((FrC.rf σ).F _ (by omega)).F _ (by omega)).D, ⟨by rw [setF_ne (by decide), setF_get], setF_get _ _ _⟩, fun K => L90_0 (by omega) (m_sort0 t (fun z => z.2 hk)) K, FrN.rf τ, Or.inr ⟨rfl, hp', t⟩⟩
      rw [L17_1 c (Or.inl hp') (by omega), c_pipe0 (d := d) c (fun z => z.2 hk), Option.bind_some]
      exact L17_0 (by omega) K _ _
    · have so := (m_sort1 t hp' hk).1
      rcases b_pipe c t hp' hk w cx mx with ⟨k, q, σ1, τ1, a1, a2, a3, b1, b2, b3⟩ | ⟨q, d1, σ1, τ1, hq, a1, a2, a4, a3, b1, b2, b3, w1, c1, m1⟩
      · refine Or.inl ⟨k, q, σ1, τ1, fun K => ?_, a2, a3, fun K => ?_, b2, Or.inl b3⟩
        · rw [L17_1 c (Or.inl hp') (by omega), a1, Option.bind_some]
          exact L17_0 (by omega) K _ _
        · rw [L90_1 so b1]
          exact L90_0 (by omega) (b_sort b3.ne) K
      · have hq2 := a3.2.1
        rcases ih N M (i + 1) q σ1 τ1 d1 (by omega) (by omega) (by omega) (by omega) (by omega) a3 b3 w1 c1 m1 with ⟨k, r, σ2, τ2, e1, e2, e3, f1, f2, f3⟩ | ⟨d2, σ2, τ2, e1, e2, e3, f1, f2, f3, w2, c2, m2⟩
        · refine Or.inl ⟨k, r, σ2, τ2, fun K => ?_, a2.tr e2, e3, fun K => ?_, b2.tr f2, f3⟩
          · rw [L17_1 c (Or.inl hp') (by omega), a1, Option.bind_some]
            exact e1 K
          · rw [L90_1 so b1]
            exact f1 K
        · refine Or.inr ⟨d2, σ2, τ2, fun K => ?_, a2.tr e2, e3.trans a4, fun K => ?_, b2.tr f2, f3, w2, c2, m2⟩
          · rw [L17_1 c (Or.inl hp') (by omega), a1, Option.bind_some]
            exact e1 K
          · rw [L90_1 so b1]
            exact f1 K
/-- what the class's reading gives, and the reference's: the same fault, or the same house -/
theorem b_read {σ τ : St} (c : TC σ B n 0) (t : TM τ B n 0) (cc : ∀ i, i < 80 → σ.1 7 i = nI 0) (mm : ∀ i, i < 80 → τ.1 30 i = nI 0) : (∃ k q σ' τ', (∀ K, ((F_X6_readLaw σ).bind fun z2 => L_X6_readInto_17 K fuel z2.1 (nI 0) z2.2) = K (nI 0) σ') ∧ FrD σ σ' ∧ BadC σ' k q ∧ mLaw mRest τ = mEnd τ' ∧ FrN τ τ' ∧ (BadM τ' k q ∨ (k = 1 ∧ q < n ∧ TM τ' B n q))) ∨ (∃ d' σ' τ', (∀ K, ((F_X6_readLaw σ).bind fun z2 => L_X6_readInto_17 K fuel z2.1 (nI 0) z2.2) = K (nI 1) σ') ∧ FrD σ σ' ∧ σ'.2 2 = σ.2 2 ∧ mLaw mRest τ = mEnd τ' ∧ FrN τ τ' ∧ TM τ' B n n ∧ PW d' ∧ CRx (σ'.1 7) d' ∧ MR (τ'.1 30) d') := by
  have hf := fuel_ge
  have hn := c.1
  rcases b_law c t with ⟨k, q, σ1, τ1, a1, a2, a3, b1, b2, b3⟩ | ⟨v, l, q, σ1, τ1, hv1, hv2, hl, a1, a2, a4, a3, a5, b1, b2, b3, b5⟩
  · refine Or.inl ⟨k, q, σ1, τ1, fun K => ?_, a2, a3, ?_, b2, Or.inl b3⟩
    · rw [a1, Option.bind_some]
      exact L17_0 (by omega) K _ _
    · rw [b1]
      unfold mRest
      rw [b_sort b3.ne, bt0]
      show (F_X8_bad (nI 1) τ1).bind _ = _
      rw [b_bad b3.ne, Option.bind_some]
      exact L90_0 (by omega) (b_sort b3.ne) _
  · let d : Hs := uH (uH (fun _ => 0) 0 v) 1 l
    have cx : CRx (σ1.1 7) d := by
      rw [a5]
      exact (CRx.upd (CRx.upd (h := fun _ => 0) (fun i hi _ => cc i hi) 0 v) 1 l)
    have mx : MR (τ1.1 30) d := by
      rw [b5]
      exact (MR.upd (MR.upd (h := fun _ => 0) (fun i hi => mm (pm i) (pm_lt i hi)) (i := 0) v (by omega) rfl) (i := 1) l (by omega) rfl)
    have dz : ∀ i, 2 ≤ i → d i = 0 := fun i hi => by
      show uH (uH (fun _ => 0) 0 v) 1 l i = 0
      rw [uH_ne (by omega), uH_ne (by omega)]
    have d0 : d 0 = v := by
      show uH (uH (fun _ => 0) 0 v) 1 l 0 = v
      rw [uH_ne (by omega), uH_eq]
    have d1 : d 1 = l := uH_eq _ _ _
    have w : PW d := ⟨by rw [d0]; exact hv1, by rw [d0]; exact hv2, by rw [d1]; exact hl, by have := dz 2 (by omega); omega, by rw [dz 2 (by omega), dz 3 (by omega)], dz 4 (by omega), fun p hp => by rw [dz 2 (by omega)] at hp; omega, fun i h1 h2 => dz i (by omega)⟩
    by_cases so : q < n ∧ kl (B q) ≠ 0
    · have s1 := (m_sort1 b3 so.1 so.2).1
      have mr : mLaw mRest τ = L_X8_house_90 mEnd fuel τ1 := by
        rw [b1]
        unfold mRest
        rw [s1, bt1]
      rcases b_loop n fuel fuel 0 q σ1 τ1 d (by omega) (by omega) (by omega) (by omega) (fun _ => so.1) a3 b3 w cx mx with ⟨k, r, σ2, τ2, e1, e2, e3, f1, f2, f3⟩ | ⟨d2, σ2, τ2, e1, e2, e3, f1, f2, f3, w2, c2, m2⟩
      · refine Or.inl ⟨k, r, σ2, τ2, fun K => ?_, a2.tr e2, e3, mr.trans (f1 _), b2.tr f2, f3⟩
        rw [a1, Option.bind_some]
        exact e1 K
      · refine Or.inr ⟨d2, σ2, τ2, fun K => ?_, a2.tr e2, e3.trans a4, mr.trans (f1 _), b2.tr f2, f3, w2, c2, m2⟩
        rw [a1, Option.bind_some]
        exact e1 K
    · have bb : BadM (setF (setF τ1 16 (nI 1)) 17 (nI q)) 1 q := bad_M (by omega)
      refine Or.inl ⟨1, q, setF (setF σ1 2 (nI 1)) 3 (nI q), setF (setF τ1 16 (nI 1)) 17 (nI q), fun K => ?_, a2.tr (((FrC.rf σ1).F _ (by omega)).F _ (by omega)).D, ⟨by rw [setF_ne (by decide), setF_get], setF_get _ _ _⟩, ?_, b2.tr (bad_F 1 q).N, Or.inl bb⟩
      · rw [a1, Option.bind_some]
        obtain ⟨N, hN⟩ : ∃ N, fuel = N + 1 := ⟨fuel - 1, by omega⟩
        rw [hN, L17_1 a3 (Or.inr rfl) (by omega), c_pipe0 (d := d) a3 so, Option.bind_some]
        exact L17_0 (by omega) K _ _
      · rw [b1]
        unfold mRest
        rw [m_sort0 b3 so, bt0]
        show (F_X8_bad (nI 1) τ1).bind _ = _
        rw [m_bad b3.2.2.1 b3.2.2.2.1, Option.bind_some]
        exact L90_0 (by omega) (b_sort bb.ne) _
theorem m_fail {τ : St} {k q : Nat} (b : BadM τ k q) : mEnd τ = some ((-1000100 : Int32) - nI q, setF (setF τ 11 (nI 0)) 18 (nI k)) := by
  have hb := b.ne
  obtain ⟨e16, e17, h1, h2⟩ := b
  have g16 : (setF τ 11 (nI 0)).2 16 = nI k := by rw [setF_ne (by decide)]; exact e16
  have h16 : (setF (setF τ 11 (nI 0)) 18 (nI k)).2 16 = nI k := by rw [setF_ne (by decide)]; exact g16
  have h17 : (setF (setF τ 11 (nI 0)) 18 (nI k)).2 17 = nI q := by rw [setF_ne (by decide), setF_ne (by decide)]; exact e17
  have nl : ¬ nI k ≤ 0 := by rw [le0N (by omega)]; omega
  have fa : F_X8_failed τ = some (nI 1, setF (setF τ 11 (nI 0)) 18 (nI k)) := by
    unfold F_X8_failed J_X8_failed_20 J_X8_failed_44
    rw [if_neg hb, g16, if_neg nl, h16, if_neg nl]
  unfold mEnd
  rw [fa, bt1]
  show some ((-1000100 : Int32) - (setF (setF τ 11 (nI 0)) 18 (nI k)).2 17, _) = _
  rw [h17]
theorem m_fail' {τ : St} {q : Nat} (t : TM τ B n q) (hq : q < n) : mEnd τ = some ((-1000100 : Int32) - nI q, setF (setF (setF (setF τ 16 (nI 1)) 17 (nI q)) 11 (nI 0)) 18 (nI 1)) := by
  have bb : BadM (setF (setF τ 16 (nI 1)) 17 (nI q)) 1 q := bad_M (by omega)
  rw [← m_fail bb]
  have e14 : ¬ τ.2 14 = nI 1 := by
    rcases t.2.2.2.2 with z | z | z | z | z
    · omega
    · rw [z.2.2.2.1]; decide
    · rw [z.2.2.1]; decide
    · rw [z.2.2.2.1]; decide
    · rw [z.2.1]; decide
  have fa : F_X8_failed τ = F_X8_failed (setF (setF τ 16 (nI 1)) 17 (nI q)) := by
    unfold F_X8_failed
    rw [if_pos (show τ.2 16 = 0 from t.2.2.1), if_neg e14, m_bad t.2.2.1 t.2.2.2.1, Option.bind_some, if_neg bb.ne]
  unfold mEnd
  rw [fa]
theorem m_copy29 : ∀ (mm N a : Nat) (σ : St), a + mm = 80 → mm < N → ∃ w, (∀ K, L_X8_house_126 K N (nI a) σ = K (setR σ 29 w)) ∧ (∀ i, i < 80 → a ≤ i → w i = σ.1 30 i) ∧ ∀ i, i < a → w i = σ.1 29 i := by
  intro mm
  induction mm with
  | zero =>
    intro N a σ ha hN
    obtain ⟨N, rfl⟩ : ∃ n', N = n' + 1 := ⟨N - 1, by omega⟩
    refine ⟨σ.1 29, fun K => ?_, fun i h1 h2 => by omega, fun i _ => rfl⟩
    rw [L_X8_house_126.eq_2]
    simp (disch := omega) only [ixN, clN, nI_add, pk_mul, subN, divN, remN, leN, ltN, eqN, le0N, eq0N, lt0N, ge0N, gt0N, if_pos, if_neg, if_true, if_false, Option.bind_some, shrN, shlN, andN1, nI_or, andm1, modS, true_or, or_true]
    congr 1
    apply St.ext
    · intro k
      by_cases q : k = 29
      · rw [q, setR_get]
      · rw [setR_ne q]
    · intro j; rfl
  | succ mm ih =>
    intro N a σ ha hN
    obtain ⟨N, rfl⟩ : ∃ n', N = n' + 1 := ⟨N - 1, by omega⟩
    obtain ⟨w, l1, l2, l3⟩ := ih N (a + 1) (setA σ 29 a (σ.1 30 a)) (by omega) (by omega)
    refine ⟨w, fun K => ?_, fun i h1 h2 => ?_, fun i hi => ?_⟩
    · rw [L_X8_house_126.eq_2]
      simp (disch := omega) only [ixN, clN, nI_add, pk_mul, subN, divN, remN, leN, ltN, eqN, le0N, eq0N, lt0N, ge0N, gt0N, if_pos, if_neg, if_true, if_false, Option.bind_some, shrN, shlN, andN1, nI_or, andm1, modS, true_or, or_true, l1]
      congr 1
      apply St.ext
      · intro k
        by_cases q : k = 29
        · rw [q, setR_get, setR_get]
        · rw [setR_ne q, setR_ne q, setA_32 q]
      · intro j; rfl
    · by_cases q : i = a
      · rw [q, l3 _ (by omega), setA_get, pk_us]
      · rw [l2 i h1 (by omega), setA_32 (by decide)]
    · rw [l3 i (by omega), setA_get, pk_un (by omega)]
theorem m_good {τ : St} {d : Hs} (t : TM τ B n n) (m : MR (τ.1 30) d) : ∃ w, mEnd τ = some (nI (d 2), setR (setF (setF (setF τ 11 (nI 0)) 18 (τ.2 18)) 10 (nI 0)) 29 w) ∧ MR w d := by
  have hf := fuel_ge
  have e14 : τ.2 14 = nI 1 := by
    rcases t.2.2.2.2 with z | z | z | z | z
    · exact z.2
    · omega
    · omega
    · omega
    · omega
  have e16 := t.2.2.1
  have g16 : (setF τ 11 (nI 0)).2 16 = nI 0 := by rw [setF_ne (by decide)]; exact e16
  have g18 : (setF τ 11 (nI 0)).2 18 = τ.2 18 := by rw [setF_ne (by decide)]
  have h16 : ∀ v, (setF (setF τ 11 (nI 0)) 18 v).2 16 = nI 0 := fun v => by rw [setF_ne (by decide)]; exact g16
  have fa : F_X8_failed τ = some (nI 0, setF (setF τ 11 (nI 0)) 18 (τ.2 18)) := by
    unfold F_X8_failed J_X8_failed_20 J_X8_failed_44
    rw [if_pos (show τ.2 16 = 0 from e16), if_pos e14, g16, if_pos (show nI 0 ≤ 0 by decide), g18, h16, if_pos (show nI 0 ≤ 0 by decide)]
  obtain ⟨w, l1, l2, -⟩ := m_copy29 80 fuel 0 (setF (setF (setF τ 11 (nI 0)) 18 (τ.2 18)) 10 (nI 0)) (by omega) (by omega)
  have mw : MR w d := fun j hj => by
    rw [l2 _ (pm_lt j hj) (by omega)]
    exact m j hj
  refine ⟨w, ?_, mw⟩
  unfold mEnd
  rw [fa, bt0]
  show L_X8_house_126 _ fuel (nI 0) (setF (setF (setF τ 11 (nI 0)) 18 (τ.2 18)) 10 (nI 0)) = _
  rw [l1, if_pos (by rw [ixN (by omega)]; omega), clN (by omega), setR_get, mw.a2]
theorem m_clear30 : ∀ (mm N a : Nat) (σ : St), a + mm = 80 → mm < N → ∃ w, (∀ K, L_X8_house_11 K N (nI a) σ = K (setR σ 30 w)) ∧ (∀ i, i < 80 → a ≤ i → w i = nI 0) ∧ ∀ i, i < a → w i = σ.1 30 i := by
  intro mm
  induction mm with
  | zero =>
    intro N a σ ha hN
    obtain ⟨N, rfl⟩ : ∃ n', N = n' + 1 := ⟨N - 1, by omega⟩
    refine ⟨σ.1 30, fun K => ?_, fun i h1 h2 => by omega, fun i _ => rfl⟩
    rw [L_X8_house_11.eq_2]
    simp (disch := omega) only [ixN, clN, nI_add, pk_mul, subN, divN, remN, leN, ltN, eqN, le0N, eq0N, lt0N, ge0N, gt0N, if_pos, if_neg, if_true, if_false, Option.bind_some, shrN, shlN, andN1, nI_or, andm1, modS, true_or, or_true]
    congr 1
    apply St.ext
    · intro k
      by_cases q : k = 30
      · rw [q, setR_get]
      · rw [setR_ne q]
    · intro j; rfl
  | succ mm ih =>
    intro N a σ ha hN
    obtain ⟨N, rfl⟩ : ∃ n', N = n' + 1 := ⟨N - 1, by omega⟩
    obtain ⟨w, l1, l2, l3⟩ := ih N (a + 1) (setA σ 30 a (nI 0)) (by omega) (by omega)
    refine ⟨w, fun K => ?_, fun i h1 h2 => ?_, fun i hi => ?_⟩
    · rw [L_X8_house_11.eq_2]
      simp (disch := omega) only [ixN, clN, nI_add, pk_mul, subN, divN, remN, leN, ltN, eqN, le0N, eq0N, lt0N, ge0N, gt0N, if_pos, if_neg, if_true, if_false, Option.bind_some, shrN, shlN, andN1, nI_or, andm1, modS, true_or, or_true, l1]
      congr 1
      apply St.ext
      · intro k
        by_cases q : k = 30
        · rw [q, setR_get, setR_get]
        · rw [setR_ne q, setR_ne q, setA_32 q]
      · intro j; rfl
    · by_cases q : i = a
      · rw [q, l3 _ (by omega), setA_get, pk_us]
      · rw [l2 i h1 (by omega)]
    · rw [l3 i (by omega), setA_get, pk_un (by omega)]
theorem TM.R {τ : St} {p : Nat} (c : TM τ B n p) (w : Nat → Int32) : TM (setR τ 30 w) B n p := by
  obtain ⟨⟨a, b, d⟩, e⟩ := c
  exact ⟨⟨a, b, by rw [setR_ne (by decide)]; exact d⟩, e⟩
theorem PW.wf {d : Hs} (w : PW d) : WF d := by
  obtain ⟨w0, w0', w1, w2, w3, w4, w5, w6⟩ := w
  refine ⟨w0', w1, w2, ?_, w5, fun i h1 h2 => ?_, fun p k hp hk _ => w6 _ (by omega) (by omega)⟩
  · rw [w3]
    have : 0 < 2 ^ d 2 := Nat.two_pow_pos _
    omega
  · rw [w6 i h1 (by omega)]
    exact ⟨by decide, Or.inl rfl⟩
end TAPE6
