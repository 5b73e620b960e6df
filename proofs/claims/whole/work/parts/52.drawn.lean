/-! drawn -/
theorem lB {a : Nat} (h : a < 9223372036854775808) : (lN a).toInt = (a : Int) := lg_ofNat_toInt (by omega)
theorem lN_divB {a d : Nat} (ha : a < 9223372036854775808) (h0 : 0 < d) (hd : d < 9223372036854775808) : lN a / lN d = lN (a / d) := by
  apply Int64.toInt_inj.mp
  have : a / d ≤ a := Nat.div_le_self a d
  rw [lg_ldiv_nonneg (by rw [lB ha]; omega) (by rw [lB hd]; omega), lB ha, lB hd, lB (by omega)]
  rfl
theorem lN_remB {a d : Nat} (ha : a < 9223372036854775808) (h0 : 0 < d) (hd : d < 9223372036854775808) : lN a - lN a / lN d * lN d = lN (a % d) := by
  rw [lN_divB ha h0 hd, lN_mul, lN_sub (Nat.div_mul_le_self a d)]
  exact congrArg lN (by have := Nat.div_add_mod' a d; omega)
def sd (S : Nat) : Nat := S * 16807 % 2147483647
def ds (h : Hs) (S : Nat) : Hs := if S % 3 = 0 then hS h (S % h 0) (S % 10) 40 (h 2) else h
def dn : Nat → Hs → Nat → Nat → Hs × Nat
  | 0, h, _, a => (h, a)
  | n + 1, h, S, a => dn n (hB (ds h (sd S))) (sd S) (a + pc7 (hrd (ds h (sd S)) (ds h (sd S) 0)))
theorem ds_wf {h : Hs} (w : WF h) (S : Nat) : WF (ds h S) := by
  unfold ds
  split
  · have : S % 10 < 10 := Nat.mod_lt _ (by decide)
    exact hS_wf w (by omega) (by omega)
  · exact w
theorem ds_0 (h : Hs) (S : Nat) : ds h S 0 = h 0 := by
  unfold ds
  split
  · exact hS_h0
  · rfl
theorem dn_wf : ∀ n h S a, WF h → WF (dn n h S a).1 := by
  intro n
  induction n with
  | zero => intro h S a w; exact w
  | succ n ih => intro h S a w; exact ih _ _ _ (hB_wf (ds_wf w _))
section DRAWN
variable {σ : St}
theorem sd_lt (S : Nat) : sd S < 2147483647 := Nat.mod_lt _ (by decide)
theorem x_drawn {M : Nat} (hM : M ≤ 60) : ∀ (mm N i S a : Nat) (h : Hs) (a3 : Int32) (f o : Nat → Int32), i + mm = M → mm < N → S < 2147483647 → 1 ≤ h 0 → CR f h → WF h → ∃ f' o', (∀ K, L_X2_sitting_25 K N (nI M) a3 (nI (h 0)) (lN S) (nI a) (nI i) (st2 12 σ f o) = K a3 (nI (dn mm h S a).2) (st2 12 σ f' o')) ∧ CR f' (dn mm h S a).1 := by
  intro mm
  induction mm with
  | zero =>
    intro N i S a h a3 f o hi hN hS h1 c w
    obtain ⟨N, rfl⟩ : ∃ n', N = n' + 1 := ⟨N - 1, by omega⟩
    refine ⟨f, o, fun K => ?_, c⟩
    rw [L_X2_sitting_25.eq_2, if_pos (nI_le (by omega) (by omega))]
    rfl
  | succ mm ih =>
    intro N i S a h a3 f o hi hN hS h1 c w
    have h6 := w.1
    obtain ⟨N, rfl⟩ : ∃ n', N = n' + 1 := ⟨N - 1, by omega⟩
    have sl := sd_lt S
    have r1 : lN (S * 16807) - lN (S * 16807) / lN 2147483647 * lN 2147483647 = lN (sd S) := lN_remB (by omega) (by omega) (by omega)
    have r3 : lN (sd S) - lN (sd S) / lN 3 * lN 3 = lN (sd S % 3) := lN_remB (by omega) (by omega) (by omega)
    have r10 : lN (sd S) - lN (sd S) / lN 10 * lN 10 = lN (sd S % 10) := lN_remB (by omega) (by omega) (by omega)
    have rh : lN (sd S) - lN (sd S) / lN (h 0) * lN (h 0) = lN (sd S % h 0) := lN_remB (by omega) (by omega) (by omega)
    have m3 : sd S % 3 < 3 := Nat.mod_lt _ (by decide)
    have m10 : sd S % 10 < 10 := Nat.mod_lt _ (by decide)
    have mh : sd S % h 0 < h 0 := Nat.mod_lt _ (by omega)
    have sp : ∃ f1, CR f1 (ds h (sd S)) ∧ ∀ K, L_X2_sitting_25 K (N + 1) (nI M) a3 (nI (h 0)) (lN S) (nI a) (nI i) (st2 12 σ f o) = J_X2_sitting_83 (fun a1 a3 a4 a5 a7 a8 σ => L_X2_sitting_25 K N a1 a3 a4 a5 a7 a8 σ) (nI M) a3 (nI (h 0)) (lN (sd S)) (nI a) (nI i) (st2 12 σ f1 o) := by
      unfold ds
      by_cases z : sd S % 3 = 0
      · obtain ⟨f1, e1, c1⟩ := n_letIn (r := 12) (σ := σ) (o := o) c w (x := sd S % h 0) (wd := sd S % 10) (l := 40) (by omega) (by omega) (by omega)
        refine ⟨f1, by rw [if_pos z]; exact c1, fun K => ?_⟩
        rw [L_X2_sitting_25.eq_2]
        simp only [lN_mul, r1, r3, r10]
        rw [if_neg (by rw [leN (by omega) (by omega)]; omega), if_pos ((lc_eq _ _).mpr (by rw [z])), if_neg (by rw [le0N (by omega)]; omega)]
        rw [if_pos (by rw [nI_l (by omega)]; exact fun y => by have := (lN_eq (b := 0) (by omega) (by omega)).mp y; omega)]
        simp only [nI_l (show h 0 < 2 ^ 31 by omega), rh, lN_i]
        rw [e1, Option.bind_some]
      · refine ⟨f, by rw [if_neg z]; exact c, fun K => ?_⟩
        rw [L_X2_sitting_25.eq_2]
        simp only [lN_mul, r1, r3, r10]
        rw [if_neg (by rw [leN (by omega) (by omega)]; omega), if_neg (fun y => z ((lN_eq (by omega) (by omega)).mp ((lc_eq _ _).mp y)))]
    obtain ⟨f1, c1, s1⟩ := sp
    have w1 := ds_wf w (sd S)
    have hl := hrd_lt w1
    obtain ⟨f2, o2, e2, c2, -⟩ := n_passBreath (r := 12) (σ := σ) (o := o) c1 w1
    obtain ⟨f3, o3, l3, c3⟩ := ih N (i + 1) (sd S) (a + pc7 (hrd (ds h (sd S)) (ds h (sd S) 0))) (hB (ds h (sd S))) a3 f2 o2 (by omega) (by omega) sl (by rw [hB_0, ds_0]; exact h1) c2 (hB_wf w1)
    rw [hB_0, ds_0 h] at l3
    refine ⟨f3, o3, fun K => ?_, c3⟩
    rw [s1]
    unfold J_X2_sitting_83
    rw [e2, Option.bind_some]
    show (F_J6_bitCount_0f7a4 (nI (hrd (ds h (sd S)) (ds h (sd S) 0))) (st2 12 σ f2 o2)).bind _ = _
    rw [c_bits (by omega), Option.bind_some]
    show L_X2_sitting_25 K N (nI M) a3 (nI (h 0)) (lN (sd S)) (nI a + nI (pc7 (hrd (ds h (sd S)) (ds h (sd S) 0)))) (nI i + nI 1) (st2 12 σ f2 o2) = _
    rw [nI_add, nI_add, ds_0 h, l3, dn, ds_0 h]
theorem m_drawn {M : Nat} (hM : M ≤ 60) : ∀ (mm N i S a : Nat) (h : Hs) (a3 : Int32) (g e : Nat → Int32), i + mm = M → mm < N → S < 2147483647 → 1 ≤ h 0 → MR g h → WF h → ∃ g' e', (∀ K, L_X8_drawn_66 K N (nI M) a3 (lN S) (nI a) (nI i) (st3 31 σ g e) = K a3 (nI (dn mm h S a).2) (st3 31 σ g' e')) ∧ MR g' (dn mm h S a).1 := by
  intro mm
  induction mm with
  | zero =>
    intro N i S a h a3 g e hi hN hS h1 c w
    obtain ⟨N, rfl⟩ : ∃ n', N = n' + 1 := ⟨N - 1, by omega⟩
    refine ⟨g, e, fun K => ?_, c⟩
    rw [L_X8_drawn_66.eq_2, if_pos (nI_le (by omega) (by omega))]
    rfl
  | succ mm ih =>
    intro N i S a h a3 g e hi hN hS h1 c w
    have h6 := w.1
    obtain ⟨N, rfl⟩ : ∃ n', N = n' + 1 := ⟨N - 1, by omega⟩
    have sl := sd_lt S
    have r1 : lN (S * 16807) - lN (S * 16807) / lN 2147483647 * lN 2147483647 = lN (sd S) := lN_remB (by omega) (by omega) (by omega)
    have r3 : lN (sd S) - lN (sd S) / lN 3 * lN 3 = lN (sd S % 3) := lN_remB (by omega) (by omega) (by omega)
    have r10 : lN (sd S) - lN (sd S) / lN 10 * lN 10 = lN (sd S % 10) := lN_remB (by omega) (by omega) (by omega)
    have rh : lN (sd S) - lN (sd S) / lN (h 0) * lN (h 0) = lN (sd S % h 0) := lN_remB (by omega) (by omega) (by omega)
    have m3 : sd S % 3 < 3 := Nat.mod_lt _ (by decide)
    have m10 : sd S % 10 < 10 := Nat.mod_lt _ (by decide)
    have mh : sd S % h 0 < h 0 := Nat.mod_lt _ (by omega)
    have cl0 : (nI 0).toNatClampNeg = 0 := rfl
    have ix0 : ix (nI 0) 80 := by decide
    have sp : ∃ g1, MR g1 (ds h (sd S)) ∧ ∀ K, L_X8_drawn_66 K (N + 1) (nI M) a3 (lN S) (nI a) (nI i) (st3 31 σ g e) = J_X8_drawn_124 (fun a1 a3 a4 a6 a7 σ => L_X8_drawn_66 K N a1 a3 a4 a6 a7 σ) (nI M) a3 (lN (sd S)) (nI a) (nI i) (st3 31 σ g1 e) := by
      unfold ds
      by_cases z : sd S % 3 = 0
      · obtain ⟨g1, e1, c1⟩ := m_speech (k := 31) (by decide) (σ := σ) (e := e) c w (x := sd S % h 0) (wd := sd S % 10) (l := 40) (by omega) (by omega) (by omega)
        refine ⟨g1, by rw [if_pos z]; exact c1, fun K => ?_⟩
        rw [L_X8_drawn_66.eq_2]
        simp only [lN_mul, r1, r3, r10, cl0, U_a, c.a0, if_pos ix0]
        rw [if_neg (by rw [leN (by omega) (by omega)]; omega), if_pos ((lc_eq _ _).mpr (by rw [z]))]
        rw [if_pos (by rw [nI_l (by omega)]; exact fun y => by have := (lN_eq (b := 0) (by omega) (by omega)).mp y; omega)]
        simp only [nI_l (show h 0 < 2 ^ 31 by omega), rh, lN_i]
        rw [e1, Option.bind_some]
      · refine ⟨g, by rw [if_neg z]; exact c, fun K => ?_⟩
        rw [L_X8_drawn_66.eq_2]
        simp only [lN_mul, r1, r3, r10]
        rw [if_neg (by rw [leN (by omega) (by omega)]; omega), if_neg (fun y => z ((lN_eq (by omega) (by omega)).mp ((lc_eq _ _).mp y)))]
    obtain ⟨g1, c1, s1⟩ := sp
    have w1 := ds_wf w (sd S)
    have hl := hrd_lt w1
    obtain ⟨g2, o2, e2, c2, -⟩ := m_breath (k := 31) (by decide) (σ := σ) (e := e) c1 w1
    obtain ⟨g3, o3, l3, c3⟩ := ih N (i + 1) (sd S) (a + pc7 (hrd (ds h (sd S)) (ds h (sd S) 0))) (hB (ds h (sd S))) a3 g2 o2 (by omega) (by omega) sl (by rw [hB_0, ds_0]; exact h1) c2 (hB_wf w1)
    refine ⟨g3, o3, fun K => ?_, c3⟩
    rw [s1]
    unfold J_X8_drawn_124
    rw [e2, Option.bind_some]
    show (F_X8_bits (nI (hrd (ds h (sd S)) (ds h (sd S) 0))) (st3 31 σ g2 o2)).bind _ = _
    rw [m_bits (by omega), Option.bind_some]
    show L_X8_drawn_66 K N (nI M) a3 (lN (sd S)) (nI a + nI (pc7 (hrd (ds h (sd S)) (ds h (sd S) 0)))) (nI i + nI 1) (st3 31 σ g2 o2) = _
    rw [nI_add, nI_add, l3, dn]
theorem e_drawn (i : Inv σ) (x y z : Int32) : Ag (F_X7_drawn x y z σ) (F_X8_drawn x y z) := by
  obtain ⟨⟨h, c, m, w, b⟩, -⟩ := id i
  have hf := fuel_ge
  by_cases q0 : h 0 = 0
  · refine Ag.q i (-1000002) σ ?_ (Scr.rf σ) (fun τ s => ⟨setF τ 8 (nI 0), ?_, scr8 s⟩)
    · unfold F_X7_drawn
      rw [c_stands0 c w q0, bt0]
    · unfold F_X8_drawn
      rw [m_isThere0 (mr8 m s) w q0, bt0]
  by_cases q1 : x < nI 0 ∨ nI 60 < x
  · refine Ag.q i (-1000001) σ ?_ (Scr.rf σ) (fun τ s => ⟨setF τ 8 (nI 0), ?_, scr8 s⟩)
    · unfold F_X7_drawn
      rw [c_stands1 c w q0, bt1, c_within0 q1, bt0]
    · unfold F_X8_drawn
      rw [m_isThere1 (mr8 m s) w q0, bt1, m_in0 q1 (by omega) (by omega), bt0]
  by_cases q2 : y < nI 1 ∨ nI 999999 < y
  · refine Ag.q i (-1000001) σ ?_ (Scr.rf σ) (fun τ s => ⟨setF τ 8 (nI 0), ?_, scr8 s⟩)
    · unfold F_X7_drawn
      rw [c_stands1 c w q0, bt1, c_within1 q1, bt1, c_within0 q2, bt0]
    · unfold F_X8_drawn
      rw [m_isThere1 (mr8 m s) w q0, bt1, m_in1 q1 (by omega) (by omega), bt1, m_in0 q2 (by omega) (by omega), bt0]
  by_cases q3 : z < nI 0 ∨ nI 1 < z
  · refine Ag.q i (-1000001) σ ?_ (Scr.rf σ) (fun τ s => ⟨setF τ 8 (nI 0), ?_, scr8 s⟩)
    · unfold F_X7_drawn
      rw [c_stands1 c w q0, bt1, c_within1 q1, bt1, c_within1 q2, bt1, c_within0 q3, bt0]
    · unfold F_X8_drawn
      rw [m_isThere1 (mr8 m s) w q0, bt1, m_in1 q1 (by omega) (by omega), bt1, m_in1 q2 (by omega) (by omega), bt1, m_in0 q3 (by omega) (by omega), bt0]
  obtain ⟨M, -, hM, rfl⟩ := in_N (by omega) (by omega) q1
  obtain ⟨S, hS1, hS2, rfl⟩ := in_N (by omega) (by omega) q2
  obtain ⟨y, -, hy, rfl⟩ := in_N (by omega) (by omega) q3
  obtain ⟨f1, e1, c1⟩ := beginT (sn_10 c)
  obtain ⟨f2, o2, l2, c2⟩ := x_drawn (σ := sn σ) hM M fuel 0 S 0 h (if y = 0 then nI 1 else nI 0) f1 ((sn σ).1 14) (by omega) (by omega) (by omega) (by omega) c1 w
  have wd := dn_wf M h S 0 w
  refine Ag.q i (if y = 0 then nI (dn M h S 0).2 else nI (sA (dn M h S 0).1 ((dn M h S 0).1 2))) (st2 12 (sn σ) f2 o2) ?_ ((sn_scr σ).T f2 o2) (fun τ s => ?_)
  · unfold F_X7_drawn J_X7_drawn_60 F_X2_sitting
    rw [c_stands1 c w q0, bt1, c_within1 q1, bt1, c_within1 q2, bt1, c_within1 q3, bt1]
    show (F_X7_seen σ).bind _ = _
    rw [c_seen, Option.bind_some, e1]
    have c0 : (st2 12 (sn σ) f1 ((sn σ).1 14)).1 13 0 = nI (h 0) := by rw [T_a]; exact c1 0 (by omega)
    have cl0 : (nI 0).toNatClampNeg = 0 := rfl
    have ix0 : ix (nI 0) 80 := by decide
    simp only [Option.bind_some, if_pos ix0, cl0, c0, nI_l (show S < 2 ^ 31 by omega)]
    obtain rfl | rfl : y = 0 ∨ y = 1 := by omega
    · rw [if_pos rfl] at l2 ⊢
      rw [if_pos (show nI 0 = 0 by decide), l2, if_neg (show ¬ nI 1 = 0 by decide)]
      rfl
    · rw [if_neg (show ¬ 1 = 0 by decide)] at l2 ⊢
      rw [if_neg (show ¬ nI 1 = 0 by decide), l2, if_pos (show nI 0 = 0 by decide), n_soundsInAll c2 wd]
      rfl
  · obtain ⟨g3, e3, c3⟩ := layU (mr8 m s)
    obtain ⟨g4, e4, l4, c4⟩ := m_drawn (σ := setF τ 8 (nI 0)) hM M fuel 0 S 0 h (nI y) g3 ((setF τ 8 (nI 0)).1 34) (by omega) (by omega) (by omega) (by omega) c3 w
    refine ⟨st3 31 (setF τ 8 (nI 0)) g4 e4, ?_, (scr8 s).U g4 e4⟩
    unfold F_X8_drawn
    rw [m_isThere1 (mr8 m s) w q0, bt1, m_in1 q1 (by omega) (by omega), bt1, m_in1 q2 (by omega) (by omega), bt1, m_in1 q3 (by omega) (by omega), bt1]
    show (F_X8_layThen (setF τ 8 (nI 0))).bind _ = _
    rw [e3, Option.bind_some, nI_l (show S < 2 ^ 31 by omega), l4]
    obtain rfl | rfl : y = 0 ∨ y = 1 := by omega
    · rw [if_pos rfl, if_pos (show nI 0 = 0 by decide)]
    · rw [if_neg (show ¬ 1 = 0 by decide), if_neg (show ¬ nI 1 = 0 by decide), m_sounds (by decide) c4 wd]
      rfl
end DRAWN
