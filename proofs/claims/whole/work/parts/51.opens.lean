/-! opens -/
set_option maxRecDepth 100000 in
theorem sub_and : ∀ T, T < 128 → ∀ A, A < 128 → T &&& (127 ^^^ A) = 0 → T &&& A = T := by decide +kernel
set_option maxRecDepth 100000 in
theorem dis_or : ∀ T, T < 128 → ∀ S, S < 128 → T &&& S = 0 → S ||| T = S ^^^ T := by decide +kernel
set_option maxRecDepth 100000 in
theorem cmp_0 : ∀ S, S < 128 → (127 ^^^ S) &&& S = 0 := by decide +kernel
theorem free_or {T S Q : Nat} (hT : T < 128) (hS : S < 128) (hQ : Q < 128) (sb : T &&& (127 ^^^ (Q &&& (127 ^^^ S))) = 0) : S ||| T = S ^^^ T := by
  have hA : Q &&& (127 ^^^ S) < 128 := Nat.lt_of_le_of_lt Nat.and_le_left hQ
  have e := sub_and T hT _ hA sb
  apply dis_or T hT S hS
  rw [← e, Nat.and_assoc, Nat.and_assoc, cmp_0 S hS]
  simp
section OPENS
variable {σ : St} {h : Hs}
theorem m_turnO {g e : Nat → Int32} (c0 : MR (σ.1 29) h) (w : WF h) {A T j k t : Nat} (a5 : Int32) (fo_ : h 3 ||| T = h 3 ^^^ T) (hT : T < 128) (hT2 : T < 2 ^ h 2) (hj : j < 6) (hk : k < 6) (ht : t ≤ 60) : ∃ g' e', ∀ (a4 u : Int32) K75, J_X8_opens_112 K75 (nI j) (nI k) (nI t) a4 a5 u (nI T) (st3 31 σ g e) = K75 (nI j) (nI k) (nI t) a4 a5 (if okC h j (2 ^ k) t 1 T then nI T else u) (nI (T + 1)) (st3 31 σ g' e') := by
  have h3 := w.taps
  obtain ⟨g1, e1, c1⟩ := m_lay (σ := σ) (g := g) (e := e) c0
  have w2 : WF (uH h 3 (h 3 ^^^ T)) := w.taps' (Nat.xor_lt_two_pow w.2.2.2.1 hT2)
  obtain ⟨g2, e2, c2⟩ := m_speech (k := 31) (by decide) (σ := σ) (e := e) (c1.upd (i := 3) (j := 4) (h 3 ^^^ T) (by omega) rfl) w2 (x := j) (wd := 0) (l := 50) (by omega) (by omega) (by omega)
  rw [show uH h 3 (h 3 ^^^ T) 2 = h 2 from uH_ne (by decide)] at e2 c2
  have w3 := hS_wf w2 (x := j) (wd := 0) (l := 50) (by omega) (by omega)
  rw [show uH h 3 (h 3 ^^^ T) 2 = h 2 from uH_ne (by decide)] at w3
  obtain ⟨g3, e3, l3, -, -⟩ := m_hear (σ := σ) (e := e) c2 w3 ht
  refine ⟨g3, e3, fun a4 u K75 => ?_⟩
  have ol := bit_le t _ w3
  have fz := fo_orn (2 ^ k) t (hS (uH h 3 (h 3 ^^^ T)) j 0 50 (h 2))
  rw [and_bit] at fz
  unfold J_X8_opens_112 okC
  by_cases z : fo (2 ^ k) t (hS (uH h 3 (h 3 ^^^ T)) j 0 50 (h 2)) = 0
  · have z' := fz.mp z
    simp only [if_pos z]
    simp (disch := omega) only [ixN, clN, nI_add, pk_mul, subN, divN, remN, leN, ltN, eqN, le0N, eq0N, lt0N, ge0N, gt0N, if_pos, if_neg, if_true, if_false, Option.bind_some, shrN, shlN, andN1, nI_or, andm1, modS, true_or, or_true, false_or, or_false, nI_and, e1, U_a, U_A, c1.a3, fo_, e2, l3, m_has, decide_false]
    rfl
  · have z' : orn t (hS (uH h 3 (h 3 ^^^ T)) j 0 50 (h 2)) / 2 ^ k % 2 = 1 := Classical.byContradiction (fun y => z (fz.mpr y))
    simp only [if_neg z]
    simp (disch := omega) only [ixN, clN, nI_add, pk_mul, subN, divN, remN, leN, ltN, eqN, le0N, eq0N, lt0N, ge0N, gt0N, if_pos, if_neg, if_true, if_false, Option.bind_some, shrN, shlN, andN1, nI_or, andm1, modS, true_or, or_true, false_or, or_false, nI_and, e1, U_a, U_A, c1.a3, fo_, e2, l3, m_has, z', decide_true]
theorem m_opens (c0 : MR (σ.1 29) h) (w : WF h) {A j k t : Nat} (hA : A < 2 ^ h 2) (hfree : ∀ T, T < 128 → T &&& (127 ^^^ A) = 0 → h 3 ||| T = h 3 ^^^ T) (hj : j < 6) (hk : k < 6) (ht : t ≤ 60) (a4 : Int32) : ∀ (m N T : Nat) (b : Option Nat) (g e : Nat → Int32), T + m = A + 1 → m < N → (∀ B, b = some B → B < 128) → ∃ g' e', ∀ K, L_X8_opens_75 K N (nI j) (nI k) (nI t) a4 (nI A) (bv b) (nI T) (st3 31 σ g e) = K a4 (bv (pk (okC h j (2 ^ k) t 1) A m T b)) (st3 31 σ g' e') := by
  have h7 : 2 ^ h 2 ≤ 2 ^ 7 := Nat.pow_le_pow_right (by decide) w.2.2.1
  intro m
  induction m with
  | zero =>
    intro N T b g e hT hN hb
    obtain ⟨N, rfl⟩ : ∃ n', N = n' + 1 := ⟨N - 1, by omega⟩
    refine ⟨g, e, fun K => ?_⟩
    rw [L_X8_opens_75.eq_2, if_pos (nI_lt (by omega) (by omega))]
    rfl
  | succ m ih =>
    intro N T b g e hT hN hb
    obtain ⟨N, rfl⟩ : ∃ n', N = n' + 1 := ⟨N - 1, by omega⟩
    have tl : T &&& (127 ^^^ A) ≤ T := Nat.and_le_left
    have hd : ∀ K, L_X8_opens_75 K (N + 1) (nI j) (nI k) (nI t) a4 (nI A) (bv b) (nI T) (st3 31 σ g e) = if T &&& (127 ^^^ A) = 0 then (if bv b = (-1000000 : Int32) then (J_X8_opens_112 (fun a1 a2 a3 a4 a5 a6 a7 σ => L_X8_opens_75 K N a1 a2 a3 a4 a5 a6 a7 σ) (nI j) (nI k) (nI t) a4 (nI A) (bv b) (nI T) (st3 31 σ g e)) else ((F_X8_bits (nI T) (st3 31 σ g e)).bind fun z14 => (F_X8_bits (bv b) z14.2).bind fun z15 => if z15.1 ≤ z14.1 then (L_X8_opens_75 K N (nI j) (nI k) (nI t) a4 (nI A) (bv b) (nI T + nI 1) z15.2) else (J_X8_opens_112 (fun a1 a2 a3 a4 a5 a6 a7 σ => L_X8_opens_75 K N a1 a2 a3 a4 a5 a6 a7 σ) (nI j) (nI k) (nI t) a4 (nI A) (bv b) (nI T) z15.2))) else L_X8_opens_75 K N (nI j) (nI k) (nI t) a4 (nI A) (bv b) (nI T + nI 1) (st3 31 σ g e) := fun K => by
      rw [L_X8_opens_75.eq_2, if_neg (by rw [ltN (by omega) (by omega)]; omega), andnot T (by omega) A (by omega)]
      by_cases z : T &&& (127 ^^^ A) = 0
      · rw [if_pos z, if_pos (by rw [z]; rfl)]
      · rw [if_neg z, if_neg (by rw [eq0N (by omega)]; exact z)]
    have rd : ∃ g1 e1, ∀ K, L_X8_opens_75 K (N + 1) (nI j) (nI k) (nI t) a4 (nI A) (bv b) (nI T) (st3 31 σ g e) = L_X8_opens_75 K N (nI j) (nI k) (nI t) a4 (nI A) (bv (pk1 (okC h j (2 ^ k) t 1) A T b)) (nI (T + 1)) (st3 31 σ g1 e1) := by
      by_cases sb : T &&& (127 ^^^ A) = 0
      · obtain ⟨g1, e1, l1⟩ := m_turnO (σ := σ) (A := A) (g := g) (e := e) c0 w (j := j) (k := k) (t := t) (nI A) (hfree T (by omega) sb) (by omega) (by omega) hj hk ht
        cases b with
        | none =>
          refine ⟨g1, e1, fun K => ?_⟩
          rw [hd, if_pos sb, if_pos (show bv none = -1000000 from rfl), l1]
          unfold pk1 gd
          rw [decide_eq_true sb]
          by_cases z : okC h j (2 ^ k) t 1 T = true
          · rw [if_pos z, z]; rfl
          · rw [if_neg z, Bool.not_eq_true _ |>.mp z]; rfl
        | some B =>
          have hB := hb B rfl
          have pB := pc7_le B
          have pT := pc7_le T
          have hd2 : ∀ K, L_X8_opens_75 K (N + 1) (nI j) (nI k) (nI t) a4 (nI A) (bv (some B)) (nI T) (st3 31 σ g e) = if nI (pc7 B) ≤ nI (pc7 T) then (L_X8_opens_75 K N (nI j) (nI k) (nI t) a4 (nI A) (nI B) (nI T + nI 1) (st3 31 σ g e)) else (J_X8_opens_112 (fun a1 a2 a3 a4 a5 a6 a7 σ => L_X8_opens_75 K N a1 a2 a3 a4 a5 a6 a7 σ) (nI j) (nI k) (nI t) a4 (nI A) (nI B) (nI T) (st3 31 σ g e)) := fun K => by
            rw [hd, if_pos sb, if_neg (show ¬ bv (some B) = -1000000 from bvn hB), m_bits (by omega), Option.bind_some]
            show (F_X8_bits (nI B) (st3 31 σ g e)).bind _ = _
            rw [m_bits hB, Option.bind_some]
            rfl
          by_cases lt : pc7 T < pc7 B
          · refine ⟨g1, e1, fun K => ?_⟩
            rw [hd2, if_neg (by rw [leN (by omega) (by omega)]; omega), l1]
            unfold pk1 gd
            rw [decide_eq_true sb]
            simp only [decide_eq_true lt, Bool.true_and]
            by_cases z : okC h j (2 ^ k) t 1 T = true
            · rw [if_pos z, if_pos z]; rfl
            · rw [if_neg z, if_neg z]; rfl
          · refine ⟨g, e, fun K => ?_⟩
            rw [hd2, if_pos (by rw [leN (by omega) (by omega)]; omega), nI_add]
            unfold pk1 gd
            simp only [decide_eq_false lt, Bool.and_false, Bool.false_and]
            rfl
      · refine ⟨g, e, fun K => ?_⟩
        have e1 : pk1 (okC h j (2 ^ k) t 1) A T b = b := by
          unfold pk1 gd
          rw [decide_eq_false sb, Bool.false_and, Bool.false_and]
          rfl
        rw [hd, if_neg sb, e1, nI_add]
    obtain ⟨g1, e1, r1⟩ := rd
    obtain ⟨g2, e2, l2⟩ := ih N (T + 1) (pk1 (okC h j (2 ^ k) t 1) A T b) g1 e1 (by omega) (by omega) (pk1_lt (by omega) hb)
    exact ⟨g2, e2, fun K => by rw [r1, l2]; rfl⟩
theorem e_opens (i : Inv σ) (x y z u : Int32) : Ag (F_X7_opens x y z u σ) (F_X8_opens x y z u) := by
  obtain ⟨⟨h, c, m, w, b⟩, -⟩ := id i
  have hH := w.1
  have h7 := w.2.2.1
  have h3 := w.taps
  have hf := fuel_ge
  have p1 : 0 < 2 ^ h 2 := Nat.two_pow_pos _
  have p7 : 2 ^ h 2 ≤ 2 ^ 7 := Nat.pow_le_pow_right (by decide) h7
  have cap : F_X4_allPipes 3 σ = some (nI (2 ^ h 2 - 1), σ) := by
    have := n_allPipes (r := 3) (σ := σ) (f := σ.1 4) (o := σ.1 5) c h7
    rwa [eta3] at this
  by_cases q1 : x < 0 ∨ nI (h 0) ≤ x
  · refine Ag.q i (-1000001) σ ?_ (Scr.rf σ) (fun τ s => ⟨setF τ 8 (nI 0), ?_, scr8 s⟩)
    · unfold F_X7_opens
      rw [c_isHorn0 c w q1, bt0]
    · unfold F_X8_opens
      rw [m_isHorn0 (mr8 m s) w q1, bt0]
  by_cases q2 : y < 0 ∨ nI (h 0) ≤ y
  · refine Ag.q i (-1000001) σ ?_ (Scr.rf σ) (fun τ s => ⟨setF τ 8 (nI 0), ?_, scr8 s⟩)
    · unfold F_X7_opens
      rw [c_isHorn1 c w q1, bt1, c_isHorn0 c w q2, bt0]
    · unfold F_X8_opens
      rw [m_isHorn1 (mr8 m s) w q1, bt1, m_isHorn0 (mr8 m s) w q2, bt0]
  by_cases q3 : z < nI 1 ∨ nI 30 < z
  · refine Ag.q i (-1000001) σ ?_ (Scr.rf σ) (fun τ s => ⟨setF τ 8 (nI 0), ?_, scr8 s⟩)
    · unfold F_X7_opens
      rw [c_isHorn1 c w q1, bt1, c_isHorn1 c w q2, bt1, c_within0 q3, bt0]
    · unfold F_X8_opens
      rw [m_isHorn1 (mr8 m s) w q1, bt1, m_isHorn1 (mr8 m s) w q2, bt1, m_in0 q3 (by omega) (by omega), bt0]
  by_cases q4 : u < nI 0 ∨ nI 1 < u
  · refine Ag.q i (-1000001) σ ?_ (Scr.rf σ) (fun τ s => ⟨setF τ 8 (nI 0), ?_, scr8 s⟩)
    · unfold F_X7_opens
      rw [c_isHorn1 c w q1, bt1, c_isHorn1 c w q2, bt1, c_within1 q3, bt1, c_within0 q4, bt0]
    · unfold F_X8_opens
      rw [m_isHorn1 (mr8 m s) w q1, bt1, m_isHorn1 (mr8 m s) w q2, bt1, m_in1 q3 (by omega) (by omega), bt1, m_in0 q4 (by omega) (by omega), bt0]
  obtain ⟨j, hj, rfl⟩ := in_H (by omega) q1
  obtain ⟨k, hk, rfl⟩ := in_H (by omega) q2
  obtain ⟨t, ht1, ht2, rfl⟩ := in_N (by omega) (by omega) q3
  obtain ⟨y, -, hy, rfl⟩ := in_N (by omega) (by omega) q4
  obtain ⟨A, hAe⟩ : ∃ A, A = (2 ^ h 2 - 1) &&& (127 ^^^ h 3) := ⟨_, rfl⟩
  have hA : A < 2 ^ h 2 := by rw [hAe]; exact Nat.lt_of_le_of_lt Nat.and_le_left (by omega)
  have aA : nI (2 ^ h 2 - 1) &&& (nI (h 3) ^^^ (-1 : Int32)) = nI A := by rw [hAe]; exact andnot _ (by omega) _ h3
  have hfree : ∀ T, T < 128 → T &&& (127 ^^^ A) = 0 → h 3 ||| T = h 3 ^^^ T := fun T hT sb => free_or hT h3 (show 2 ^ h 2 - 1 < 128 by omega) (by rw [← hAe]; exact sb)
  have k2 : 2 ^ k < 2147483648 := shl_lt (by omega)
  obtain ⟨f1, o1, l1⟩ := x_fewest (σ := sn σ) (A := A) (j := j) (H := 2 ^ k) (t := t) (want := 1) (sn_10 c) w hA (by omega) k2 (by omega) (by omega) 128 fuel 0 none ((sn σ).1 13) ((sn σ).1 14) (by omega) (by omega) (fun B e => by cases e)
  rw [etaT, pk_128 _ (show A < 128 by omega)] at l1
  have bl : ∀ B, pk (okC h j (2 ^ k) t 1) A (A + 1) 0 none = some B → B < 128 := pkk_lt _ _ _ _ _ (by omega) (fun B e => by cases e)
  refine Ag.q i (rz (pk (okC h j (2 ^ k) t 1) A (A + 1) 0 none) y) (st2 12 (sn σ) f1 o1) ?_ ((sn_scr σ).T f1 o1) (fun τ s => ?_)
  · unfold F_X7_opens F_X2_fewestTurned
    rw [c_isHorn1 c w q1, bt1, c_isHorn1 c w q2, bt1, c_within1 q3, bt1, c_within1 q4, bt1]
    show (F_X4_allPipes 3 σ).bind _ = _
    rw [cap, Option.bind_some, if_pos (show ix (nI 3) 80 by decide)]
    show (F_X7_seen σ).bind _ = _
    rw [c_seen, Option.bind_some]
    show (L_X2_fewestTurned_7 (fun a6 σ => some (a6, σ)) fuel (nI (2 ^ h 2 - 1) &&& (σ.1 4 3 ^^^ (-1 : Int32))) (nI j) (nI 1 <<< (nI k &&& 31)) (nI t) (nI 1) (bv none) (nI 0) (sn σ)).bind _ = _
    rw [c 3 (by omega), aA, shlN (by omega), l1, Option.bind_some]
    show (F_X7_sizeOrSet _ _ _).bind _ = _
    rw [c_sos bl hy]
    rfl
  · obtain ⟨g2, e2, l2⟩ := m_opens (σ := setF τ 8 (nI 0)) (mr8 m s) w (A := A) (j := j) (k := k) (t := t) hA hfree (by omega) (by omega) (by omega) (nI y) (A + 1) fuel 0 none ((setF τ 8 (nI 0)).1 31) ((setF τ 8 (nI 0)).1 34) (by omega) (by omega) (fun B e => by cases e)
    rw [etaU] at l2
    refine ⟨st3 31 (setF τ 8 (nI 0)) g2 e2, ?_, (scr8 s).U g2 e2⟩
    unfold F_X8_opens
    rw [m_isHorn1 (mr8 m s) w q1, bt1, m_isHorn1 (mr8 m s) w q2, bt1, m_in1 q3 (by omega) (by omega), bt1, m_in1 q4 (by omega) (by omega), bt1, if_pos (show ix (nI 2) 80 by decide), if_pos (show ix (nI 4) 80 by decide)]
    show L_X8_opens_75 _ fuel _ _ _ _ ((nI 1 <<< ((setF τ 8 (nI 0)).1 29 2 &&& 31) - nI 1) &&& ((setF τ 8 (nI 0)).1 29 4 ^^^ (-1 : Int32))) (bv none) _ (setF τ 8 (nI 0)) = _
    rw [(mr8 m s).a2, (mr8 m s).a3, shlN (by omega), subN (by omega), aA, l2]
    exact m_sos bl hy _
end OPENS
