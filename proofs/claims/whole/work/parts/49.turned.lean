/-! the fewest pipes turned -/
set_option maxRecDepth 100000 in
theorem sub_le : ∀ T, T < 128 → ∀ A, A < 128 → T &&& (127 ^^^ A) = 0 → T ≤ A := by decide +kernel
set_option maxRecDepth 100000 in
theorem sub_xor : ∀ T, T < 128 → ∀ A, A < 128 → T &&& (127 ^^^ A) = 0 → A &&& (127 ^^^ T) = A ^^^ T := by decide +kernel
def gd (A T : Nat) (b : Option Nat) : Bool := decide (T &&& (127 ^^^ A) = 0) && (match b with
  | none => true
  | some B => decide (pc7 T < pc7 B))
def pk1 (ok : Nat → Bool) (A T : Nat) (b : Option Nat) : Option Nat := if gd A T b && ok T then some T else b
def pk (ok : Nat → Bool) (A : Nat) : Nat → Nat → Option Nat → Option Nat
  | 0, _, b => b
  | m + 1, T, b => pk ok A m (T + 1) (pk1 ok A T b)
def bv (b : Option Nat) : Int32 := match b with
  | none => -1000000
  | some B => nI B
theorem pk_add (ok : Nat → Bool) (A : Nat) : ∀ m n T b, pk ok A (m + n) T b = pk ok A n (T + m) (pk ok A m T b) := by
  intro m
  induction m with
  | zero => intro n T b; rw [Nat.zero_add]; rfl
  | succ m ih =>
    intro n T b
    rw [show m + 1 + n = (m + n) + 1 by omega, pk, ih, pk, show T + 1 + m = T + (m + 1) by omega]
theorem pk_none (ok : Nat → Bool) {A : Nat} (hA : A < 128) : ∀ m T b, A < T → T + m ≤ 128 → pk ok A m T b = b := by
  intro m
  induction m with
  | zero => intro T b _ _; rfl
  | succ m ih =>
    intro T b h1 h2
    have e : pk1 ok A T b = b := by
      unfold pk1 gd
      have : ¬ T &&& (127 ^^^ A) = 0 := fun z => by have := sub_le T (by omega) A hA z; omega
      rw [decide_eq_false this, Bool.false_and, Bool.false_and]
      rfl
    rw [pk, e, ih _ _ (by omega) (by omega)]
theorem pk_128 (ok : Nat → Bool) {A : Nat} (hA : A < 128) : pk ok A 128 0 none = pk ok A (A + 1) 0 none := by
  rw [show 128 = (A + 1) + (127 - A) by omega, pk_add, pk_none ok hA _ _ _ (by omega) (by omega)]
theorem pk1_lt {ok : Nat → Bool} {A T : Nat} {b : Option Nat} (hT : T < 128) (hb : ∀ B, b = some B → B < 128) : ∀ B, pk1 ok A T b = some B → B < 128 := by
  intro B
  unfold pk1
  split
  · intro e; injection e with e; omega
  · exact hb B
theorem pk_congr {o1 o2 : Nat → Bool} {A : Nat} (e : ∀ T, T < 128 → T &&& (127 ^^^ A) = 0 → o1 T = o2 T) : ∀ m T b, T + m ≤ 128 → pk o1 A m T b = pk o2 A m T b := by
  intro m
  induction m with
  | zero => intro T b _; rfl
  | succ m ih =>
    intro T b h
    have e1 : pk1 o1 A T b = pk1 o2 A T b := by
      unfold pk1
      by_cases z : T &&& (127 ^^^ A) = 0
      · rw [e T (by omega) z]
      · unfold gd
        rw [decide_eq_false z, Bool.false_and, Bool.false_and, Bool.false_and]
    rw [pk, pk, e1, ih _ _ (by omega)]
theorem bvn {B : Nat} (h : B < 128) : ¬ nI B = (-1000000 : Int32) := fun e => by
  have := congrArg Int32.toInt e
  rw [nI_toInt (by omega)] at this
  have e1 : (-1000000 : Int32).toInt = -1000000 := by decide
  omega
section TURNED
variable {σ : St} {h : Hs}
def okC (h : Hs) (j H t want : Nat) (T : Nat) : Bool := decide ((if fo H t (hS (uH h 3 (h 3 ^^^ T)) j 0 50 (h 2)) = 0 then 0 else 1) = want)
theorem x_turn {f o : Nat → Int32} (c0 : CR (σ.1 10) h) (w : WF h) {T j H t : Nat} (hT : T < 2 ^ h 2) (hj : j < 6) (hH : H < 2147483648) (ht : t ≤ 60) : ∃ f' o', F_X2_hearsWhenTurned (nI T) (nI j) (nI H) (nI t) (st2 12 σ f o) = some (nI (if fo H t (hS (uH h 3 (h 3 ^^^ T)) j 0 50 (h 2)) = 0 then 0 else 1), st2 12 σ f' o') := by
  obtain ⟨f1, e1, c1⟩ := x_begin (σ := σ) (f := f) (o := o) c0
  have w2 : WF (uH h 3 (h 3 ^^^ T)) := w.taps' (Nat.xor_lt_two_pow w.2.2.2.1 hT)
  obtain ⟨f2, e2, c2⟩ := n_letIn (r := 12) (σ := σ) (o := o) (c1.upd 3 (h 3 ^^^ T)) w2 (x := j) (wd := 0) (l := 50) (by omega) (by omega) (by omega)
  rw [show uH h 3 (h 3 ^^^ T) 2 = h 2 from uH_ne (by decide)] at e2 c2
  have w3 := hS_wf w2 (x := j) (wd := 0) (l := 50) (by omega) (by omega)
  rw [show uH h 3 (h 3 ^^^ T) 2 = h 2 from uH_ne (by decide)] at w3
  obtain ⟨f3, o3, e3⟩ := x_first (σ := σ) (o := o) c2 w3 hH ht
  refine ⟨f3, o3, ?_⟩
  have hb := fo_le H t (hS (uH h 3 (h 3 ^^^ T)) j 0 50 (h 2))
  unfold F_X2_hearsWhenTurned
  by_cases z : fo H t (hS (uH h 3 (h 3 ^^^ T)) j 0 50 (h 2)) = 0
  · rw [if_pos z]
    simp (disch := omega) only [ixN, clN, nI_add, pk_mul, subN, divN, remN, leN, ltN, eqN, le0N, eq0N, lt0N, ge0N, gt0N, if_pos, if_neg, if_true, if_false, Option.bind_some, shrN, shlN, andN1, nI_or, andm1, modS, true_or, or_true, e1, T_a, T_A, c1 3 (by omega), nI_xor, e2, e3, z]
  · rw [if_neg z]
    simp (disch := omega) only [ixN, clN, nI_add, pk_mul, subN, divN, remN, leN, ltN, eqN, le0N, eq0N, lt0N, ge0N, gt0N, if_pos, if_neg, if_true, if_false, Option.bind_some, shrN, shlN, andN1, nI_or, andm1, modS, true_or, or_true, e1, T_a, T_A, c1 3 (by omega), nI_xor, e2, e3]
theorem x_fewest (c0 : CR (σ.1 10) h) (w : WF h) {A j H t want : Nat} (hA : A < 2 ^ h 2) (hj : j < 6) (hH : H < 2147483648) (ht : t ≤ 60) (hw : want ≤ 1) : ∀ (m N T : Nat) (b : Option Nat) (f o : Nat → Int32), T + m = 128 → m < N → (∀ B, b = some B → B < 128) → ∃ f' o', ∀ K, L_X2_fewestTurned_7 K N (nI A) (nI j) (nI H) (nI t) (nI want) (bv b) (nI T) (st2 12 σ f o) = K (bv (pk (okC h j H t want) A m T b)) (st2 12 σ f' o') := by
  have h7 : 2 ^ h 2 ≤ 2 ^ 7 := Nat.pow_le_pow_right (by decide) w.2.2.1
  intro m
  induction m with
  | zero =>
    intro N T b f o hT hN hb
    obtain ⟨N, rfl⟩ : ∃ n', N = n' + 1 := ⟨N - 1, by omega⟩
    refine ⟨f, o, fun K => ?_⟩
    rw [L_X2_fewestTurned_7.eq_2, if_pos (nI_le (by omega) (by omega))]
    rfl
  | succ m ih =>
    intro N T b f o hT hN hb
    obtain ⟨N, rfl⟩ : ∃ n', N = n' + 1 := ⟨N - 1, by omega⟩
    -- one round
    have rd : ∃ f1 o1, ∀ K, L_X2_fewestTurned_7 K (N + 1) (nI A) (nI j) (nI H) (nI t) (nI want) (bv b) (nI T) (st2 12 σ f o) = L_X2_fewestTurned_7 K N (nI A) (nI j) (nI H) (nI t) (nI want) (bv (pk1 (okC h j H t want) A T b)) (nI (T + 1)) (st2 12 σ f1 o1) := by
      by_cases sb : T &&& (127 ^^^ A) = 0
      · have hTA := sub_le T (by omega) A (by omega) sb
        obtain ⟨f1, o1, e1⟩ := x_turn (σ := σ) (f := f) (o := o) c0 w (T := T) (by omega) hj hH ht
        have j35 : ∀ (u : Int32) K, J_X2_fewestTurned_35 (fun a1 a2 a3 a4 a5 a6 a7 σ => L_X2_fewestTurned_7 K N a1 a2 a3 a4 a5 a6 a7 σ) (nI A) (nI j) (nI H) (nI t) (nI want) u (nI T) (st2 12 σ f o) = L_X2_fewestTurned_7 K N (nI A) (nI j) (nI H) (nI t) (nI want) (if okC h j H t want T then nI T else u) (nI (T + 1)) (st2 12 σ f1 o1) := fun u K => by
          unfold J_X2_fewestTurned_35 J_X2_fewestTurned_40
          rw [if_neg (show ¬ nI 1 = 0 by decide), andnot T (by omega) A (by omega), sb, if_pos (show nI 0 = 0 by decide), e1, Option.bind_some]
          unfold okC
          by_cases z : fo H t (hS (uH h 3 (h 3 ^^^ T)) j 0 50 (h 2)) = 0
          · simp only [if_pos z]
            obtain rfl | rfl : want = 0 ∨ want = 1 := by omega
            · simp (disch := omega) only [ixN, clN, nI_add, pk_mul, subN, divN, remN, leN, ltN, eqN, le0N, eq0N, lt0N, ge0N, gt0N, if_pos, if_neg, if_true, if_false, Option.bind_some, shrN, shlN, andN1, nI_or, andm1, modS, true_or, or_true, decide_true]
            · simp (disch := omega) only [ixN, clN, nI_add, pk_mul, subN, divN, remN, leN, ltN, eqN, le0N, eq0N, lt0N, ge0N, gt0N, if_pos, if_neg, if_true, if_false, Option.bind_some, shrN, shlN, andN1, nI_or, andm1, modS, true_or, or_true, decide_false]
              rfl
          · simp only [if_neg z]
            obtain rfl | rfl : want = 0 ∨ want = 1 := by omega
            · simp (disch := omega) only [ixN, clN, nI_add, pk_mul, subN, divN, remN, leN, ltN, eqN, le0N, eq0N, lt0N, ge0N, gt0N, if_pos, if_neg, if_true, if_false, Option.bind_some, shrN, shlN, andN1, nI_or, andm1, modS, true_or, or_true, decide_false]
              rfl
            · simp (disch := omega) only [ixN, clN, nI_add, pk_mul, subN, divN, remN, leN, ltN, eqN, le0N, eq0N, lt0N, ge0N, gt0N, if_pos, if_neg, if_true, if_false, Option.bind_some, shrN, shlN, andN1, nI_or, andm1, modS, true_or, or_true, decide_true]
        cases b with
        | none =>
          refine ⟨f1, o1, fun K => ?_⟩
          rw [L_X2_fewestTurned_7.eq_2, if_neg (by rw [leN (by omega) (by omega)]; omega), if_pos (show bv none = -1000000 from rfl), j35]
          unfold pk1 gd
          rw [decide_eq_true sb]
          by_cases z : okC h j H t want T = true
          · rw [if_pos z, z]; rfl
          · rw [if_neg z, Bool.not_eq_true _ |>.mp z]; rfl
        | some B =>
          have hB := hb B rfl
          have pB := pc7_le B
          have pT := pc7_le T
          by_cases lt : pc7 T < pc7 B
          · refine ⟨f1, o1, fun K => ?_⟩
            rw [L_X2_fewestTurned_7.eq_2, if_neg (by rw [leN (by omega) (by omega)]; omega), if_neg (show ¬ bv (some B) = -1000000 from bvn hB), c_bits (by omega), Option.bind_some]
            show (F_J6_bitCount_0f7a4 (nI B) (st2 12 σ f o)).bind _ = _
            rw [c_bits hB, Option.bind_some]
            show (if nI (pc7 B) ≤ nI (pc7 T) then _ else J_X2_fewestTurned_35 (fun a1 a2 a3 a4 a5 a6 a7 σ => L_X2_fewestTurned_7 K N a1 a2 a3 a4 a5 a6 a7 σ) (nI A) (nI j) (nI H) (nI t) (nI want) (nI B) (nI T) (st2 12 σ f o)) = _
            rw [if_neg (by rw [leN (by omega) (by omega)]; omega), j35]
            unfold pk1 gd
            rw [decide_eq_true sb]
            simp only [decide_eq_true lt, Bool.true_and]
            by_cases z : okC h j H t want T = true
            · rw [if_pos z, if_pos z]; rfl
            · rw [if_neg z, if_neg z]; rfl
          · refine ⟨f, o, fun K => ?_⟩
            rw [L_X2_fewestTurned_7.eq_2, if_neg (by rw [leN (by omega) (by omega)]; omega), if_neg (show ¬ bv (some B) = -1000000 from bvn hB), c_bits (by omega), Option.bind_some]
            show (F_J6_bitCount_0f7a4 (nI B) (st2 12 σ f o)).bind _ = _
            rw [c_bits hB, Option.bind_some]
            show (if nI (pc7 B) ≤ nI (pc7 T) then J_X2_fewestTurned_40 (fun a1 a2 a3 a4 a5 a6 a7 σ => L_X2_fewestTurned_7 K N a1 a2 a3 a4 a5 a6 a7 σ) (nI A) (nI j) (nI H) (nI t) (nI want) (nI B) (nI T) (nI 0) (st2 12 σ f o) else _) = _
            rw [if_pos (by rw [leN (by omega) (by omega)]; omega)]
            unfold J_X2_fewestTurned_40 pk1 gd
            simp only [decide_eq_false lt, Bool.and_false, Bool.false_and]
            rw [if_pos (show nI 0 = 0 by decide), nI_add]
            rfl
      · refine ⟨f, o, fun K => ?_⟩
        have e : pk1 (okC h j H t want) A T b = b := by
          unfold pk1 gd
          rw [decide_eq_false sb, Bool.false_and, Bool.false_and]
          rfl
        have tl : T &&& (127 ^^^ A) ≤ T := Nat.and_le_left
        have j40 : ∀ (s u : Int32) K, J_X2_fewestTurned_40 (fun a1 a2 a3 a4 a5 a6 a7 σ => L_X2_fewestTurned_7 K N a1 a2 a3 a4 a5 a6 a7 σ) (nI A) (nI j) (nI H) (nI t) (nI want) u (nI T) s (st2 12 σ f o) = L_X2_fewestTurned_7 K N (nI A) (nI j) (nI H) (nI t) (nI want) u (nI (T + 1)) (st2 12 σ f o) := fun s u K => by
          unfold J_X2_fewestTurned_40
          rw [andnot T (by omega) A (by omega), if_neg (show ¬ nI (T &&& (127 ^^^ A)) = 0 by rw [eq0N (by omega)]; exact sb), nI_add]
          split <;> rfl
        rw [e, L_X2_fewestTurned_7.eq_2, if_neg (by rw [leN (by omega) (by omega)]; omega)]
        cases b with
        | none =>
          rw [if_pos (show bv none = -1000000 from rfl)]
          exact j40 _ _ K
        | some B =>
          have hB := hb B rfl
          rw [if_neg (show ¬ bv (some B) = -1000000 from bvn hB), c_bits (by omega), Option.bind_some]
          show (F_J6_bitCount_0f7a4 (nI B) (st2 12 σ f o)).bind _ = _
          rw [c_bits hB, Option.bind_some]
          split
          · exact j40 _ _ K
          · exact j40 _ _ K
    obtain ⟨f1, o1, r1⟩ := rd
    obtain ⟨f2, o2, l2⟩ := ih N (T + 1) (pk1 (okC h j H t want) A T b) f1 o1 (by omega) (by omega) (pk1_lt (by omega) hb)
    exact ⟨f2, o2, fun K => by rw [r1, l2]; rfl⟩
end TURNED
