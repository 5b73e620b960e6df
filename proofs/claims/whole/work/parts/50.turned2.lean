/-! shuts, opens -/
section TURNED2
variable {σ : St} {h : Hs}
theorem m_turnS {g e : Nat → Int32} (c0 : MR (σ.1 29) h) (w : WF h) {T j H t : Nat} (sb : T &&& (127 ^^^ h 3) = 0) (hT : T < 128) (hj : j < 6) (hH : H < 2147483648) (ht : t ≤ 60) : ∃ g' e', ∀ (a4 u : Int32) K64, J_X8_shuts_109 K64 (nI j) (nI H) (nI t) a4 u (nI T) (st3 31 σ g e) = K64 (nI j) (nI H) (nI t) a4 (if okC h j H t 0 T then nI T else u) (nI (T + 1)) (st3 31 σ g' e') := by
  have h3 := w.taps
  have hTA := sub_le T hT (h 3) h3 sb
  have hx := sub_xor T hT (h 3) h3 sb
  obtain ⟨g1, e1, c1⟩ := m_lay (σ := σ) (g := g) (e := e) c0
  have w2 : WF (uH h 3 (h 3 ^^^ T)) := w.taps' (Nat.xor_lt_two_pow w.2.2.2.1 (Nat.lt_of_le_of_lt hTA w.2.2.2.1))
  obtain ⟨g2, e2, c2⟩ := m_speech (k := 31) (by decide) (σ := σ) (e := e) (c1.upd (i := 3) (j := 4) (h 3 ^^^ T) (by omega) rfl) w2 (x := j) (wd := 0) (l := 50) (by omega) (by omega) (by omega)
  rw [show uH h 3 (h 3 ^^^ T) 2 = h 2 from uH_ne (by decide)] at e2 c2
  have w3 := hS_wf w2 (x := j) (wd := 0) (l := 50) (by omega) (by omega)
  rw [show uH h 3 (h 3 ^^^ T) 2 = h 2 from uH_ne (by decide)] at w3
  obtain ⟨g3, e3, l3, -, -⟩ := m_hear (σ := σ) (e := e) c2 w3 ht
  refine ⟨g3, e3, fun a4 u K64 => ?_⟩
  have ol := bit_le t _ w3
  have al : orn t (hS (uH h 3 (h 3 ^^^ T)) j 0 50 (h 2)) &&& H ≤ orn t (hS (uH h 3 (h 3 ^^^ T)) j 0 50 (h 2)) := Nat.and_le_left
  have fz := fo_orn H t (hS (uH h 3 (h 3 ^^^ T)) j 0 50 (h 2))
  unfold J_X8_shuts_109 okC
  by_cases z : fo H t (hS (uH h 3 (h 3 ^^^ T)) j 0 50 (h 2)) = 0
  · have z' := fz.mp z
    simp only [if_pos z]
    simp (disch := omega) only [ixN, clN, nI_add, pk_mul, subN, divN, remN, leN, ltN, eqN, le0N, eq0N, lt0N, ge0N, gt0N, if_pos, if_neg, if_true, if_false, Option.bind_some, shrN, shlN, andN1, nI_or, andm1, modS, true_or, or_true, false_or, or_false, nI_and, e1, U_a, U_A, c1.a3, andnot, hx, e2, l3, z', decide_true]
  · have z' : ¬ orn t (hS (uH h 3 (h 3 ^^^ T)) j 0 50 (h 2)) &&& H = 0 := fun y => z (fz.mpr y)
    simp only [if_neg z]
    simp (disch := omega) only [ixN, clN, nI_add, pk_mul, subN, divN, remN, leN, ltN, eqN, le0N, eq0N, lt0N, ge0N, gt0N, if_pos, if_neg, if_true, if_false, Option.bind_some, shrN, shlN, andN1, nI_or, andm1, modS, true_or, or_true, false_or, or_false, nI_and, e1, U_a, U_A, c1.a3, andnot, hx, e2, l3, decide_false]
    rfl
theorem m_shuts (c0 : MR (σ.1 29) h) (w : WF h) {j H t : Nat} (hj : j < 6) (hH : H < 2147483648) (ht : t ≤ 60) (a4 : Int32) : ∀ (m N T : Nat) (b : Option Nat) (g e : Nat → Int32), T + m = h 3 + 1 → m < N → (∀ B, b = some B → B < 128) → ∃ g' e', ∀ K, L_X8_shuts_64 K N (nI j) (nI H) (nI t) a4 (bv b) (nI T) (st3 31 σ g e) = K a4 (bv (pk (okC h j H t 0) (h 3) m T b)) (st3 31 σ g' e') := by
  have h3 := w.taps
  intro m
  induction m with
  | zero =>
    intro N T b g e hT hN hb
    obtain ⟨N, rfl⟩ : ∃ n', N = n' + 1 := ⟨N - 1, by omega⟩
    refine ⟨g, e, fun K => ?_⟩
    rw [L_X8_shuts_64.eq_2]
    simp (disch := omega) only [ixN, clN, nI_add, pk_mul, subN, divN, remN, leN, ltN, eqN, le0N, eq0N, lt0N, ge0N, gt0N, if_pos, if_neg, if_true, if_false, Option.bind_some, shrN, shlN, andN1, nI_or, andm1, modS, true_or, or_true, U_29, c0.a3]
    rfl
  | succ m ih =>
    intro N T b g e hT hN hb
    obtain ⟨N, rfl⟩ : ∃ n', N = n' + 1 := ⟨N - 1, by omega⟩
    have tl : T &&& (127 ^^^ h 3) ≤ T := Nat.and_le_left
    have hd : ∀ K, L_X8_shuts_64 K (N + 1) (nI j) (nI H) (nI t) a4 (bv b) (nI T) (st3 31 σ g e) = if T &&& (127 ^^^ h 3) = 0 then (if bv b = (-1000000 : Int32) then (J_X8_shuts_109 (fun a1 a2 a3 a4 a5 a6 σ => L_X8_shuts_64 K N a1 a2 a3 a4 a5 a6 σ) (nI j) (nI H) (nI t) a4 (bv b) (nI T) (st3 31 σ g e)) else ((F_X8_bits (nI T) (st3 31 σ g e)).bind fun z14 => (F_X8_bits (bv b) z14.2).bind fun z15 => if z15.1 ≤ z14.1 then (L_X8_shuts_64 K N (nI j) (nI H) (nI t) a4 (bv b) (nI T + nI 1) z15.2) else (J_X8_shuts_109 (fun a1 a2 a3 a4 a5 a6 σ => L_X8_shuts_64 K N a1 a2 a3 a4 a5 a6 σ) (nI j) (nI H) (nI t) a4 (bv b) (nI T) z15.2))) else L_X8_shuts_64 K N (nI j) (nI H) (nI t) a4 (bv b) (nI T + nI 1) (st3 31 σ g e) := fun K => by
      have cl4 : (nI 4).toNatClampNeg = 4 := rfl
      have ix4 : ix (nI 4) 80 := by decide
      rw [L_X8_shuts_64.eq_2, if_pos ix4]
      simp only [cl4, U_29, c0.a3, if_pos ix4, andnot T (show T < 128 by omega) (h 3) h3]
      rw [if_neg (by rw [ltN (by omega) (by omega)]; omega)]
      by_cases z : T &&& (127 ^^^ h 3) = 0
      · rw [if_pos z, if_pos (by rw [z]; rfl)]
      · rw [if_neg z, if_neg (by rw [eq0N (by omega)]; exact z)]
    have rd : ∃ g1 e1, ∀ K, L_X8_shuts_64 K (N + 1) (nI j) (nI H) (nI t) a4 (bv b) (nI T) (st3 31 σ g e) = L_X8_shuts_64 K N (nI j) (nI H) (nI t) a4 (bv (pk1 (okC h j H t 0) (h 3) T b)) (nI (T + 1)) (st3 31 σ g1 e1) := by
      by_cases sb : T &&& (127 ^^^ h 3) = 0
      · obtain ⟨g1, e1, l1⟩ := m_turnS (σ := σ) (g := g) (e := e) c0 w (j := j) (H := H) (t := t) sb (by omega) hj hH ht
        cases b with
        | none =>
          refine ⟨g1, e1, fun K => ?_⟩
          rw [hd, if_pos sb, if_pos (show bv none = -1000000 from rfl), l1]
          unfold pk1 gd
          rw [decide_eq_true sb]
          by_cases z : okC h j H t 0 T = true
          · rw [if_pos z, z]; rfl
          · rw [if_neg z, Bool.not_eq_true _ |>.mp z]; rfl
        | some B =>
          have hB := hb B rfl
          have pB := pc7_le B
          have pT := pc7_le T
          have hd2 : ∀ K, L_X8_shuts_64 K (N + 1) (nI j) (nI H) (nI t) a4 (bv (some B)) (nI T) (st3 31 σ g e) = if nI (pc7 B) ≤ nI (pc7 T) then (L_X8_shuts_64 K N (nI j) (nI H) (nI t) a4 (nI B) (nI T + nI 1) (st3 31 σ g e)) else (J_X8_shuts_109 (fun a1 a2 a3 a4 a5 a6 σ => L_X8_shuts_64 K N a1 a2 a3 a4 a5 a6 σ) (nI j) (nI H) (nI t) a4 (nI B) (nI T) (st3 31 σ g e)) := fun K => by
            rw [hd, if_pos sb, if_neg (show ¬ bv (some B) = -1000000 from bvn hB), m_bits (by omega), Option.bind_some]
            show (F_X8_bits (nI B) (st3 31 σ g e)).bind _ = _
            rw [m_bits hB, Option.bind_some]
            rfl
          by_cases lt : pc7 T < pc7 B
          · refine ⟨g1, e1, fun K => ?_⟩
            rw [hd2, if_neg (by rw [leN (by omega) (by omega)]; omega), l1]
            unfold pk1 gd
            rw [decide_eq_true sb]
            simp only [decide_eq_true lt, Bool.true_and]
            by_cases z : okC h j H t 0 T = true
            · rw [if_pos z, if_pos z]; rfl
            · rw [if_neg z, if_neg z]; rfl
          · refine ⟨g, e, fun K => ?_⟩
            rw [hd2, if_pos (by rw [leN (by omega) (by omega)]; omega), nI_add]
            unfold pk1 gd
            simp only [decide_eq_false lt, Bool.and_false, Bool.false_and]
            rfl
      · refine ⟨g, e, fun K => ?_⟩
        have e1 : pk1 (okC h j H t 0) (h 3) T b = b := by
          unfold pk1 gd
          rw [decide_eq_false sb, Bool.false_and, Bool.false_and]
          rfl
        rw [hd, if_neg sb, e1, nI_add]
    obtain ⟨g1, e1, r1⟩ := rd
    obtain ⟨g2, e2, l2⟩ := ih N (T + 1) (pk1 (okC h j H t 0) (h 3) T b) g1 e1 (by omega) (by omega) (pk1_lt (by omega) hb)
    exact ⟨g2, e2, fun K => by rw [r1, l2]; rfl⟩
theorem pkk_lt (ok : Nat → Bool) (A : Nat) : ∀ m T b, T + m ≤ 128 → (∀ B, b = some B → B < 128) → ∀ B, pk ok A m T b = some B → B < 128 := by
  intro m
  induction m with
  | zero => intro T b _ hb; exact hb
  | succ m ih => intro T b h hb; exact ih (T + 1) _ (by omega) (pk1_lt (by omega) hb)
def rz (b : Option Nat) (y : Nat) : Int32 := match b with
  | none => -1000000
  | some B => if y = 1 then nI B else nI (pc7 B)
theorem c_sos {b : Option Nat} (hb : ∀ B, b = some B → B < 128) {y : Nat} (hy : y ≤ 1) (τ : St) : F_X7_sizeOrSet (bv b) (nI y) τ = some (rz b y, τ) := by
  unfold F_X7_sizeOrSet
  cases b with
  | none => rw [if_pos (show bv none = -1000000 from rfl)]; rfl
  | some B =>
    have hB := hb B rfl
    rw [if_neg (show ¬ bv (some B) = -1000000 from bvn hB)]
    obtain rfl | rfl : y = 0 ∨ y = 1 := by omega
    · rw [if_neg (show ¬ nI 0 = nI 1 by decide)]
      show (F_J6_bitCount_0f7a4 (nI B) τ).bind _ = _
      rw [c_bits hB]
      rfl
    · rw [if_pos rfl]
      rfl
theorem m_sos {b : Option Nat} (hb : ∀ B, b = some B → B < 128) {y : Nat} (hy : y ≤ 1) (τ : St) : (if bv b = (-1000000 : Int32) then (some (bv b, τ)) else (if nI y = (nI 1) then (some (bv b, τ)) else ((F_X8_bits (bv b) τ).bind fun z20 => some (z20.1, z20.2)))) = some (rz b y, τ) := by
  cases b with
  | none => rw [if_pos (show bv none = -1000000 from rfl)]; rfl
  | some B =>
    have hB := hb B rfl
    rw [if_neg (show ¬ bv (some B) = -1000000 from bvn hB)]
    obtain rfl | rfl : y = 0 ∨ y = 1 := by omega
    · rw [if_neg (show ¬ nI 0 = nI 1 by decide)]
      show (F_X8_bits (nI B) τ).bind _ = _
      rw [m_bits hB]
      rfl
    · rw [if_pos rfl]
      rfl
theorem e_shuts (i : Inv σ) (x y z u : Int32) : Ag (F_X7_shuts x y z u σ) (F_X8_shuts x y z u) := by
  obtain ⟨⟨h, c, m, w, b⟩, -⟩ := id i
  have hH := w.1
  have h3 := w.taps
  have hf := fuel_ge
  have p1 : 0 < 2 ^ h 0 := Nat.two_pow_pos _
  have p6 : 2 ^ h 0 ≤ 2 ^ 6 := Nat.pow_le_pow_right (by decide) hH
  have cah : F_X4_allHorns 3 σ = some (nI (2 ^ h 0 - 1), σ) := by
    have := n_allHorns (r := 3) (σ := σ) (f := σ.1 4) (o := σ.1 5) c w
    rwa [eta3] at this
  have mah : ∀ τ, MR (τ.1 29) h → F_X8_areHorns y τ = some (if y < nI 0 ∨ nI (2 ^ h 0 - 1) < y then nI 0 else nI 1, τ) := fun τ mτ => by
    unfold F_X8_areHorns
    rw [if_pos (show ix (nI 0) 80 by decide), show (nI 0).toNatClampNeg = 0 from rfl, mτ.a0, shlN (by omega), subN (by omega), ← i64_N (by omega), m_inN y (by omega) (by omega), Option.bind_some]
    by_cases q : y < nI 0 ∨ nI (2 ^ h 0 - 1) < y
    · rw [if_pos q]; exact if_pos (Or.inl rfl)
    · rw [if_neg q]; exact if_pos (Or.inr rfl)
  by_cases q0 : h 0 = 0
  · refine Ag.q i (-1000002) σ ?_ (Scr.rf σ) (fun τ s => ⟨setF τ 8 (nI 0), ?_, scr8 s⟩)
    · unfold F_X7_shuts
      rw [c_stands0 c w q0, bt0]
    · unfold F_X8_shuts
      rw [m_isThere0 (mr8 m s) w q0, bt0]
  by_cases q1 : x < 0 ∨ nI (h 0) ≤ x
  · refine Ag.q i (-1000001) σ ?_ (Scr.rf σ) (fun τ s => ⟨setF τ 8 (nI 0), ?_, scr8 s⟩)
    · unfold F_X7_shuts
      rw [c_stands1 c w q0, bt1, c_isHorn0 c w q1, bt0]
    · unfold F_X8_shuts
      rw [m_isThere1 (mr8 m s) w q0, bt1, m_isHorn0 (mr8 m s) w q1, bt0]
  by_cases q2 : y < nI 0 ∨ nI (2 ^ h 0 - 1) < y
  · refine Ag.q i (-1000001) σ ?_ (Scr.rf σ) (fun τ s => ⟨setF τ 8 (nI 0), ?_, scr8 s⟩)
    · unfold F_X7_shuts
      rw [c_stands1 c w q0, bt1, c_isHorn1 c w q1, bt1, cah, Option.bind_some, c_within0 q2, bt0]
    · unfold F_X8_shuts
      rw [m_isThere1 (mr8 m s) w q0, bt1, m_isHorn1 (mr8 m s) w q1, bt1, mah _ (mr8 m s), if_pos q2, bt0]
  by_cases q3 : z < nI 1 ∨ nI 30 < z
  · refine Ag.q i (-1000001) σ ?_ (Scr.rf σ) (fun τ s => ⟨setF τ 8 (nI 0), ?_, scr8 s⟩)
    · unfold F_X7_shuts
      rw [c_stands1 c w q0, bt1, c_isHorn1 c w q1, bt1, cah, Option.bind_some, c_within1 q2, bt1, c_within0 q3, bt0]
    · unfold F_X8_shuts
      rw [m_isThere1 (mr8 m s) w q0, bt1, m_isHorn1 (mr8 m s) w q1, bt1, mah _ (mr8 m s), if_neg q2, bt1, m_in0 q3 (by omega) (by omega), bt0]
  by_cases q4 : u < nI 0 ∨ nI 1 < u
  · refine Ag.q i (-1000001) σ ?_ (Scr.rf σ) (fun τ s => ⟨setF τ 8 (nI 0), ?_, scr8 s⟩)
    · unfold F_X7_shuts
      rw [c_stands1 c w q0, bt1, c_isHorn1 c w q1, bt1, cah, Option.bind_some, c_within1 q2, bt1, c_within1 q3, bt1, c_within0 q4, bt0]
    · unfold F_X8_shuts
      rw [m_isThere1 (mr8 m s) w q0, bt1, m_isHorn1 (mr8 m s) w q1, bt1, mah _ (mr8 m s), if_neg q2, bt1, m_in1 q3 (by omega) (by omega), bt1, m_in0 q4 (by omega) (by omega), bt0]
  obtain ⟨j, hj, rfl⟩ := in_H (by omega) q1
  obtain ⟨H, -, hHH, rfl⟩ := in_N (by omega) (by omega) q2
  obtain ⟨t, ht1, ht2, rfl⟩ := in_N (by omega) (by omega) q3
  obtain ⟨y, -, hy, rfl⟩ := in_N (by omega) (by omega) q4
  obtain ⟨f1, o1, l1⟩ := x_fewest (σ := sn σ) (A := h 3) (j := j) (H := H) (t := t) (want := 0) (sn_10 c) w w.2.2.2.1 (by omega) (by omega) (by omega) (by omega) 128 fuel 0 none ((sn σ).1 13) ((sn σ).1 14) (by omega) (by omega) (fun B e => by cases e)
  rw [etaT, pk_128 _ h3] at l1
  have bl : ∀ B, pk (okC h j H t 0) (h 3) (h 3 + 1) 0 none = some B → B < 128 := pkk_lt _ _ _ _ _ (by omega) (fun B e => by cases e)
  refine Ag.q i (rz (pk (okC h j H t 0) (h 3) (h 3 + 1) 0 none) y) (st2 12 (sn σ) f1 o1) ?_ ((sn_scr σ).T f1 o1) (fun τ s => ?_)
  · unfold F_X7_shuts F_X2_fewestTurned
    rw [c_stands1 c w q0, bt1, c_isHorn1 c w q1, bt1, cah, Option.bind_some, c_within1 q2, bt1, c_within1 q3, bt1, c_within1 q4, bt1]
    show (F_X7_seen σ).bind _ = _
    have c3 : (sn σ).1 4 3 = nI (h 3) := by rw [(sn_scr σ).1 4 (nsc (by omega))]; exact c 3 (by omega)
    rw [c_seen, Option.bind_some, if_pos (show ix (nI 3) 80 by decide), show (nI 3).toNatClampNeg = 3 from rfl, c3, show (-1000000 : Int32) = bv none from rfl, l1, Option.bind_some]
    show (F_X7_sizeOrSet _ _ _).bind _ = _
    rw [c_sos bl hy]
    rfl
  · obtain ⟨g2, e2, l2⟩ := m_shuts (σ := setF τ 8 (nI 0)) (mr8 m s) w (j := j) (H := H) (t := t) (by omega) (by omega) (by omega) (nI y) (h 3 + 1) fuel 0 none ((setF τ 8 (nI 0)).1 31) ((setF τ 8 (nI 0)).1 34) (by omega) (by omega) (fun B e => by cases e)
    rw [etaU] at l2
    refine ⟨st3 31 (setF τ 8 (nI 0)) g2 e2, ?_, (scr8 s).U g2 e2⟩
    unfold F_X8_shuts
    rw [m_isThere1 (mr8 m s) w q0, bt1, m_isHorn1 (mr8 m s) w q1, bt1, mah _ (mr8 m s), if_neg q2, bt1, m_in1 q3 (by omega) (by omega), bt1, m_in1 q4 (by omega) (by omega), bt1]
    show L_X8_shuts_64 _ fuel _ _ _ _ (bv none) _ (setF τ 8 (nI 0)) = _
    rw [l2]
    exact m_sos bl hy _
end TURNED2
