/-! spoke, who -/
theorem setF_setF (σ : St) (k : Nat) (u v : Int32) : setF (setF σ k u) k v = setF σ k v := by
  apply St.ext
  · intro j; rfl
  · intro j
    by_cases q : j = k
    · rw [q, setF_get, setF_get]
    · rw [setF_ne q, setF_ne q, setF_ne q]
section SPOKE
variable {σ : St}
theorem FB' {w : Nat} (i : Inv σ) {P7 : Option (Int32 × St)} {P8 : St → Option (Int32 × St)} (e7 : P7 = some ((-1000010 : Int32) - nI w, setF σ 0 (nI w))) (e8 : P8 (setF σ 0 (nI w)) = some ((-1000010 : Int32) - nI w, setF (setF (setF σ 0 (nI w)) 8 (nI 0)) 9 (nI w))) : Ag P7 P8 := FB i e7 (by rw [setF_setF]; exact e8)
theorem Ag.f (i : Inv σ) {P7 : Option (Int32 × St)} {P8 : St → Option (Int32 × St)} (r : Int32) (τ : St) (e7 : P7 = some (r, setF τ 0 (nI 0))) (s : Scr σ τ) (e8 : ∃ υ, P8 (setF τ 0 (nI 0)) = some (r, υ) ∧ Scr (setF (setF (setF τ 0 (nI 0)) 8 (nI 0)) 9 (nI 0)) υ) : Ag P7 P8 := by
  obtain ⟨υ, e8, s8⟩ := e8
  have i1 := i.scr s
  have i2 : Inv (setF (setF (setF τ 0 (nI 0)) 8 (nI 0)) 9 (nI 0)) := Inv.rows i1 (fun k _ _ _ _ _ _ => rfl) (fun j h0 h8 h9 => by rw [setF_ne h9, setF_ne h8, setF_ne h0]) (i1.2.1.fr (fun _ _ => rfl)) (by
    unfold InvS
    rw [setF_get, setF_ne (by decide), setF_ne (by decide), setF_get])
  exact ⟨r, _, υ, e7, e8, i2.scr s8⟩
theorem m_rowF1 {τ : St} {k : Nat} (hk : k ≤ 7) (e : τ.1 26 k = -1) (x y : Int32) : F_X8_rowFound (nI k) x y τ = some ((-1000010 : Int32) - nI 1, setF τ 9 (nI 1)) := by
  unfold F_X8_rowFound F_X8_finding
  have cl : (nI k).toNatClampNeg = k := clN (by omega)
  have ex : ix (nI k) 8 := (ixN (by omega)).mpr (by omega)
  simp only [if_pos ex, cl, e]
  rw [if_neg (by decide)]
  rfl
theorem m_rowF2 {τ : St} {k n l t : Nat} {x : Int32} (hk : k ≤ 7) (hl : l ≤ 2) (hn : n ≤ 40) (e : τ.1 26 k = nI l) (e2 : τ.1 27 k = nI n) (ht : t ≤ 12) (h : ¬ ∃ s t', x = nI s ∧ nI t = nI t' ∧ s + t' ≤ n) : F_X8_rowFound (nI k) x (nI t) τ = some ((-1000010 : Int32) - nI 2, setF τ 9 (nI 2)) := by
  unfold F_X8_rowFound J_X8_rowFound_35 F_X8_finding
  have cl : (nI k).toNatClampNeg = k := clN (by omega)
  have ex : ix (nI k) 8 := (ixN (by omega)).mpr (by omega)
  simp only [if_pos ex, cl, e, e2]
  rw [if_pos (by rw [ge0N (by omega)]; trivial)]
  by_cases q : x < 0
  · rw [if_pos q]; rfl
  · obtain ⟨s, hs, rfl⟩ := nI_of q
    rw [if_neg q, if_neg]
    · rfl
    · rw [(lg2 (by omega) (by omega) hn).2]
      exact fun z => h ⟨s, t, rfl, rfl, z⟩
theorem m_rowF0 {τ : St} {k n l t s : Nat} (hk : k ≤ 7) (hl : l ≤ 2) (hn : n ≤ 40) (e : τ.1 26 k = nI l) (e2 : τ.1 27 k = nI n) (h : s + t ≤ n) : F_X8_rowFound (nI k) (nI s) (nI t) τ = some (nI 0, setF τ 9 (nI 0)) := by
  unfold F_X8_rowFound
  have cl : (nI k).toNatClampNeg = k := clN (by omega)
  have ex : ix (nI k) 8 := (ixN (by omega)).mpr (by omega)
  simp only [if_pos ex, cl, e, e2]
  rw [if_pos (by rw [ge0N (by omega)]; trivial), if_neg (by rw [lt0N (by omega)]; exact fun z => z), if_pos ((lg2 (by omega) (by omega) hn).2.mpr h)]
def spk (h : Hs) (j : Nat) (V : Nat → Int32) (wd t : Nat) : Nat → Nat
  | 0 => if ht j V t h 0 then 64 else 0
  | P + 1 => if ht j V t (hS h P wd 60 (h 2)) 0 then spk h j V wd t P ||| 2 ^ P else spk h j V wd t P
theorem spk_congr {h : Hs} {j : Nat} {V U : Nat → Int32} {wd t : Nat} (e : ∀ i, i < t → V i = U i) : ∀ P, spk h j V wd t P = spk h j U wd t P := by
  intro P
  induction P with
  | zero => rw [spk, spk, ht_congr t h 0 (fun i _ hi => e i (by omega))]
  | succ P ih => rw [spk, spk, ih, ht_congr t (hS h P wd 60 (h 2)) 0 (fun i _ hi => e i (by omega))]
theorem hS_h0 {h : Hs} {x wd l n : Nat} : hS h x wd l n 0 = h 0 := by
  unfold hS
  rw [if_neg (by omega)]
theorem x_spk {k j wd s t : Nat} {h : Hs} (hk : k ≠ 13 ∧ k ≠ 14) (hj : j < 6) (hwd : wd ≤ 9) (hst : s + t ≤ 40) (c0 : CR (σ.1 10) h) (w : WF h) : ∀ (mm N a : Nat) (f o : Nat → Int32), a + mm = h 0 → mm < N → ∃ f' o', ∀ K, L_X2_hornsSpokenAt_28 k K N (nI j) (nI wd) (nI s) (nI t) (nI (spk h j (fun i => σ.1 k (s + i)) wd t a)) (nI a) (st2 12 σ f o) = K (nI (spk h j (fun i => σ.1 k (s + i)) wd t (h 0))) (st2 12 σ f' o') := by
  intro mm
  have h6 := w.1
  induction mm with
  | zero =>
    intro N a f o ha hN
    obtain ⟨N, rfl⟩ : ∃ n', N = n' + 1 := ⟨N - 1, by omega⟩
    refine ⟨f, o, fun K => ?_⟩
    rw [L_X2_hornsSpokenAt_28.eq_2]
    simp (disch := omega) only [ixN, clN, nI_add, pk_mul, subN, divN, remN, leN, ltN, eqN, le0N, eq0N, lt0N, ge0N, gt0N, if_pos, if_neg, if_true, if_false, Option.bind_some, shrN, shlN, andN1, nI_or, andm1, modS, true_or, or_true, T_10, c0 0 (by omega)]
    rw [show a = h 0 by omega]
  | succ mm ih =>
    intro N a f o ha hN
    obtain ⟨N, rfl⟩ : ∃ n', N = n' + 1 := ⟨N - 1, by omega⟩
    obtain ⟨f1, e1, c1⟩ := x_begin (σ := σ) (f := f) (o := o) c0
    obtain ⟨f2, e2, c2⟩ := n_letIn (r := 12) (σ := σ) (o := o) c1 w (x := a) (wd := wd) (l := 60) (by omega) hwd (by omega)
    obtain ⟨f3, o3, e3⟩ := x_told0 (σ := σ) (o := o) hk hj hst c2 (hS_wf w hwd (by omega))
    obtain ⟨f4, o4, l⟩ := ih N (a + 1) f3 o3 (by omega) (by omega)
    refine ⟨f4, o4, fun K => ?_⟩
    have l := l K
    rw [spk] at l
    rw [L_X2_hornsSpokenAt_28.eq_2, ← l]
    by_cases q : ht j (fun i => σ.1 k (s + i)) t (hS h a wd 60 (h 2)) 0 = true
    · rw [if_pos q] at e3 ⊢
      simp (disch := omega) only [ixN, clN, nI_add, pk_mul, subN, divN, remN, leN, ltN, eqN, le0N, eq0N, lt0N, ge0N, gt0N, if_pos, if_neg, if_true, if_false, Option.bind_some, shrN, shlN, andN1, nI_or, andm1, modS, true_or, or_true, T_10, c0 0 (by omega), e1, e2, e3]
    · rw [if_neg q] at e3 ⊢
      simp (disch := omega) only [ixN, clN, nI_add, pk_mul, subN, divN, remN, leN, ltN, eqN, le0N, eq0N, lt0N, ge0N, gt0N, if_pos, if_neg, if_true, if_false, Option.bind_some, shrN, shlN, andN1, nI_or, andm1, modS, true_or, or_true, T_10, c0 0 (by omega), e1, e2, e3]
theorem m_spk {k j wd s t : Nat} {h : Hs} (hk : k ≤ 7) (hj : j < h 0) (hwd : wd ≤ 9) (hst : s + t ≤ 40) (c0 : MR (σ.1 29) h) (w : WF h) : ∀ (mm N a : Nat) (g e : Nat → Int32), a + mm = h 0 → mm < N → ∃ g' e', ∀ K, L_X8_spoke_99 K N (nI j) (nI wd) (nI k) (nI s) (nI t) (nI (spk h j (fun i => σ.1 28 (40 * k + s + i)) wd t a)) (nI a) (st3 31 σ g e) = K (nI (spk h j (fun i => σ.1 28 (40 * k + s + i)) wd t (h 0))) (st3 31 σ g' e') := by
  intro mm
  have h6 := w.1
  induction mm with
  | zero =>
    intro N a g e ha hN
    obtain ⟨N, rfl⟩ : ∃ n', N = n' + 1 := ⟨N - 1, by omega⟩
    refine ⟨g, e, fun K => ?_⟩
    rw [L_X8_spoke_99.eq_2]
    simp (disch := omega) only [ixN, clN, nI_add, pk_mul, subN, divN, remN, leN, ltN, eqN, le0N, eq0N, lt0N, ge0N, gt0N, if_pos, if_neg, if_true, if_false, Option.bind_some, shrN, shlN, andN1, nI_or, andm1, modS, true_or, or_true, U_29, c0.a0]
    rw [show a = h 0 by omega]
  | succ mm ih =>
    intro N a g e ha hN
    obtain ⟨N, rfl⟩ : ∃ n', N = n' + 1 := ⟨N - 1, by omega⟩
    obtain ⟨g1, e1, c1⟩ := m_lay (σ := σ) (g := g) (e := e) c0
    obtain ⟨g2, e2, c2⟩ := m_speech (k := 31) (by decide) (σ := σ) (e := e) c1 w (x := a) (wd := wd) (l := 60) (by omega) hwd (by omega)
    obtain ⟨g3, o3, e3⟩ := m_told0 (σ := σ) (e := e) (b := 40 * k + s) (j := j) (t := t) (by omega) (by omega) (by omega) (by rw [hS_h0]; exact hj) c2 (hS_wf w hwd (by omega))
    obtain ⟨g4, o4, l⟩ := ih N (a + 1) g3 o3 (by omega) (by omega)
    refine ⟨g4, o4, fun K => ?_⟩
    have l := l K
    rw [spk] at l
    rw [L_X8_spoke_99.eq_2, ← l]
    by_cases q : ht j (fun i => σ.1 28 (40 * k + s + i)) t (hS h a wd 60 (h 2)) 0 = true
    · rw [if_pos q] at e3 ⊢
      simp (disch := omega) only [ixN, clN, nI_add, pk_mul, subN, divN, remN, leN, ltN, eqN, le0N, eq0N, lt0N, ge0N, gt0N, if_pos, if_neg, if_true, if_false, Option.bind_some, shrN, shlN, andN1, nI_or, andm1, modS, true_or, or_true, U_29, c0.a0, e1, e2, e3]
    · rw [if_neg q] at e3 ⊢
      simp (disch := omega) only [ixN, clN, nI_add, pk_mul, subN, divN, remN, leN, ltN, eqN, le0N, eq0N, lt0N, ge0N, gt0N, if_pos, if_neg, if_true, if_false, Option.bind_some, shrN, shlN, andN1, nI_or, andm1, modS, true_or, or_true, U_29, c0.a0, e1, e2, e3, Nat.or_zero]
theorem e_spoke (i : Inv σ) (x y z u v : Int32) : Ag (F_X7_spoke x y z u v σ) (F_X8_spoke x y z u v) := by
  obtain ⟨⟨h, c, m, w, b⟩, -⟩ := id i
  have hH := w.1
  have hf := fuel_ge
  by_cases q1 : x < 0 ∨ nI (h 0) ≤ x
  · refine Ag.q i (-1000001) σ ?_ (Scr.rf σ) (fun τ s => ⟨setF τ 8 (nI 0), ?_, scr8 s⟩)
    · unfold F_X7_spoke
      rw [c_isHorn0 c w q1, bt0]
    · unfold F_X8_spoke
      rw [m_isHorn0 (mr8 m s) w q1, bt0]
  by_cases q2 : y < nI 0 ∨ nI 9 < y
  · refine Ag.q i (-1000001) σ ?_ (Scr.rf σ) (fun τ s => ⟨setF τ 8 (nI 0), ?_, scr8 s⟩)
    · unfold F_X7_spoke
      rw [c_isHorn1 c w q1, bt1, c_within0 q2, bt0]
    · unfold F_X8_spoke
      rw [m_isHorn1 (mr8 m s) w q1, bt1, m_in0 q2 (by omega) (by omega), bt0]
  by_cases q3 : z < nI 0 ∨ nI 7 < z
  · refine Ag.q i (-1000001) σ ?_ (Scr.rf σ) (fun τ s => ⟨setF τ 8 (nI 0), ?_, scr8 s⟩)
    · unfold F_X7_spoke
      rw [c_isHorn1 c w q1, bt1, c_within1 q2, bt1, c_isRow0 q3, bt0]
    · unfold F_X8_spoke
      rw [m_isHorn1 (mr8 m s) w q1, bt1, m_in1 q2 (by omega) (by omega), bt1, m_isRow0 q3, bt0]
  obtain ⟨k, -, hk, rfl⟩ := in_N (by omega) (by omega) q3
  by_cases q4 : v < nI 1 ∨ nI 12 < v
  · refine Ag.q i (-1000001) σ ?_ (Scr.rf σ) (fun τ s => ⟨setF τ 8 (nI 0), ?_, scr8 s⟩)
    · unfold F_X7_spoke
      rw [c_isHorn1 c w q1, bt1, c_within1 q2, bt1, c_isRow1 hk, bt1, c_within0 q4, bt0]
    · unfold F_X8_spoke
      rw [m_isHorn1 (mr8 m s) w q1, bt1, m_in1 q2 (by omega) (by omega), bt1, m_isRow1 hk, bt1, m_in0 q4 (by omega) (by omega), bt0]
  obtain ⟨t, ht1, ht2, rfl⟩ := in_N (by omega) (by omega) q4
  have m8 : ∀ τ : St, τ.1 29 = σ.1 29 → MR ((setF τ 8 (nI 0)).1 29) h := fun τ e => by rw [setF_1, e]; exact m
  have n1 : ∀ r, ¬ ((-1000010 : Int32) - nI (r % 3)) = 0 := by
    intro r
    have : r % 3 < 3 := Nat.mod_lt _ (by decide)
    obtain e | e | e : r % 3 = 0 ∨ r % 3 = 1 ∨ r % 3 = 2 := by omega
    all_goals rw [e]; decide
  rcases i.2.1 k (by omega) with ⟨a, b26⟩ | ⟨n, l, hn, hl, a, b27, c20, d26, e28⟩
  · refine FB' (w := 1) i ?_ ?_
    · unfold F_X7_spoke
      rw [c_isHorn1 c w q1, bt1, c_within1 q2, bt1, c_isRow1 hk, bt1, c_within1 q4, bt1, c_miss1 hk a, bt1]
      rfl
    · unfold F_X8_spoke
      rw [m_isHorn1 (m8 (setF σ 0 (nI 1)) rfl) w q1, bt1, m_in1 q2 (by omega) (by omega), bt1, m_isRow1 hk, bt1, m_in1 q4 (by omega) (by omega), bt1, m_rowF1 hk (by exact b26), Option.bind_some]
      exact if_neg (n1 1)
  obtain ⟨j, hj, rfl⟩ := in_H (by omega) q1
  obtain ⟨wd, -, hwd, rfl⟩ := in_N (by omega) (by omega) q2
  by_cases ok : ∃ s t', u = nI s ∧ nI t = nI t' ∧ s + t' ≤ n
  · obtain ⟨s, t', rfl, et, hst⟩ := ok
    obtain rfl : t = t' := (eqN (by omega) (by omega)).mp et
    obtain ⟨f1, e1, c1⟩ := beginT (sn_10 c)
    have k38 : (38 + k) ≠ 13 ∧ (38 + k) ≠ 14 := by omega
    obtain ⟨f2, o2, l2⟩ := x_told0 (σ := sn σ) (o := (sn σ).1 14) (k := 38 + k) (j := j) (s := s) (t := t) k38 (by omega) (by omega) c1 w
    obtain ⟨f3, o3, l3⟩ := x_spk (σ := sn σ) (k := 38 + k) (j := j) (wd := wd) (s := s) (t := t) k38 (by omega) hwd (by omega) (sn_10 c) w (h 0) fuel 0 f2 o2 (by omega) (by omega)
    have V7 : ∀ i, i < t → (sn σ).1 (38 + k) (s + i) = σ.1 28 (40 * k + s + i) := fun i hi => by
      rw [(sn_scr σ).1 (38 + k) (nsc (by omega)), e28 _ (by omega), show 40 * k + (s + i) = 40 * k + s + i by omega]
    have cls : F_X7_spoke (nI j) (nI wd) (nI k) (nI s) (nI t) σ = some (nI (spk h j (fun i => σ.1 28 (40 * k + s + i)) wd t (h 0)), setF (st2 12 (sn σ) f3 o3) 0 (nI 0)) := by
      unfold F_X7_spoke
      rw [c_isHorn1 c w q1, bt1, c_within1 q2, bt1, c_isRow1 hk, bt1, c_within1 q4, bt1, c_miss0 hk a hn, bt0, c_str1 hk a hn hst, bt1]
      have hsp : F_X2_hornsSpokenAt (nI j) (nI wd) (38 + k) (nI s) (nI t) (sn σ) = some (nI (spk h j (fun i => (sn σ).1 (38 + k) (s + i)) wd t (h 0)), st2 12 (sn σ) f3 o3) := by
        unfold F_X2_hornsSpokenAt
        rw [e1, Option.bind_some, l2, Option.bind_some]
        have l3 := l3 (fun a6 σ => some (a6, σ))
        rw [spk] at l3
        by_cases q : ht j (fun i => (sn σ).1 (38 + k) (s + i)) t h 0 = true
        · rw [if_pos q] at l3 ⊢
          exact (if_neg (show ¬ nI 1 = 0 by decide)).trans l3
        · rw [if_neg q] at l3 ⊢
          exact (if_pos (show nI 0 = 0 by decide)).trans l3
      show (F_X7_seen σ).bind _ = _
      rw [c_seen, Option.bind_some, if_pos ((ixN (by omega)).mpr (by omega)), clN (by omega), hsp, spk_congr V7]
      rfl
    refine Ag.f i _ (st2 12 (sn σ) f3 o3) cls ((sn_scr σ).T f3 o3) ?_
    let υ0 : St := setF (setF (setF (st2 12 (sn σ) f3 o3) 0 (nI 0)) 8 (nI 0)) 9 (nI 0)
    have sc : ∀ k, k ∉ scA → υ0.1 k = σ.1 k := fun k hk => ((sn_scr σ).T f3 o3).1 k hk
    have mu : MR (υ0.1 29) h := by rw [sc 29 (nsc (by omega))]; exact m
    obtain ⟨g4, e4, c4⟩ := layU mu
    have hst' : s + t ≤ 40 := by omega
    obtain ⟨g5, o5, l5⟩ := m_told0 (σ := υ0) (e := υ0.1 34) (b := 40 * k + s) (j := j) (t := t) (by omega) (by omega) (by omega) hj c4 w
    obtain ⟨g6, o6, l6⟩ := m_spk (σ := υ0) (k := k) (j := j) (wd := wd) (s := s) (t := t) hk hj hwd hst' mu w (h 0) fuel 0 g5 o5 (by omega) (by omega)
    refine ⟨st3 31 υ0 g6 o6, ?_, (Scr.rf υ0).U g6 o6⟩
    have s28 : υ0.1 28 = σ.1 28 := sc 28 (nsc (by omega))
    have s26 : (setF (setF (st2 12 (sn σ) f3 o3) 0 (nI 0)) 8 (nI 0)).1 26 k = nI l := by
      have := sc 26 (nsc (by omega))
      rw [← d26, ← this]; rfl
    have s27 : (setF (setF (st2 12 (sn σ) f3 o3) 0 (nI 0)) 8 (nI 0)).1 27 k = nI n := by
      have := sc 27 (nsc (by omega))
      rw [← b27, ← this]; rfl
    unfold F_X8_spoke
    rw [m_isHorn1 (show MR ((setF (setF (st2 12 (sn σ) f3 o3) 0 (nI 0)) 8 (nI 0)).1 29) h from mu) w q1, bt1, m_in1 q2 (by omega) (by omega), bt1, m_isRow1 hk, bt1, m_in1 q4 (by omega) (by omega), bt1, m_rowF0 hk hl hn s26 s27 hst, bt0]
    show (F_X8_layThen υ0).bind _ = _
    rw [e4, Option.bind_some, pk_mul, nI_add, l5, Option.bind_some, ← s28]
    have l6 := l6 (fun a7 σ => some (a7, σ))
    rw [spk] at l6
    by_cases q : ht j (fun i => υ0.1 28 (40 * k + s + i)) t h 0 = true
    · rw [if_pos q] at l6 ⊢
      exact (if_neg (show ¬ nI 1 = 0 by decide)).trans l6
    · rw [if_neg q] at l6 ⊢
      exact (if_pos (show nI 0 = 0 by decide)).trans l6
  · refine FB' (w := 2) i ?_ ?_
    · unfold F_X7_spoke
      rw [c_isHorn1 c w q1, bt1, c_within1 q2, bt1, c_isRow1 hk, bt1, c_within1 q4, bt1, c_miss0 hk a hn, bt0, c_str0 hk a hn ok, bt0]
      rfl
    · unfold F_X8_spoke
      rw [m_isHorn1 (m8 (setF σ 0 (nI 2)) rfl) w q1, bt1, m_in1 q2 (by omega) (by omega), bt1, m_isRow1 hk, bt1, m_in1 q4 (by omega) (by omega), bt1, m_rowF2 hk hl hn (by exact d26) (by exact b27) ht2 ok, Option.bind_some]
      exact if_neg (n1 2)
end SPOKE
