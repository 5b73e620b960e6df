/-! pipe, inside, horn, kind, trace, count -/
theorem ql1 : (1 : Int32) = nI 1 := rfl
theorem ql2 : (2 : Int32) = nI 2 := rfl
theorem ql3 : (3 : Int32) = nI 3 := rfl
theorem ql4 : (4 : Int32) = nI 4 := rfl
theorem ql5 : (5 : Int32) = nI 5 := rfl
theorem ql6 : (6 : Int32) = nI 6 := rfl
theorem ql7 : (7 : Int32) = nI 7 := rfl
theorem out_ne {u : Int32} {a b : Nat} (q : u < nI a ∨ nI b < u) {k : Nat} (h1 : a ≤ k) (h2 : k ≤ b) (hb : b < 1000000) : ¬ u = nI k := fun e => by
  rw [e] at q
  rcases q with z | z
  · rw [ltN (by omega) (by omega)] at z; omega
  · rw [ltN (by omega) (by omega)] at z; omega
theorem m_in00 (x y : Int32) (τ : St) : F_X8_in x.toInt64 (lN 0) y.toInt64 τ = some (if x < 0 ∨ y < x then nI 0 else nI 1, τ) := by
  rw [i64_N (n := 0) (by omega), m_in, nI_0]
theorem n_pipesWith2 {r : Nat} {σ : St} {f o : Nat → Int32} {h : Hs} (c : CR f h) (w : WF h) {e x : Nat} (he : e ≤ 60) (hx : x < 1000) (hb : ∀ p, p < h 2 → h (e + p) < 2147483648) : F_X4_pipesWith r (nI e) (nI x) (st2 r σ f o) = some (nI (pw h e x (h 2)), st2 r σ f o) := by
  unfold F_X4_pipesWith
  have h0 := w.2.2.1
  have L : ∀ (m n p : Nat), p + m = h 2 → m < n → ∀ K : Int32 → St → Option (Int32 × St), L_X4_pipesWith_5 r K n (nI e) (nI x) (nI (pw h e x p)) (nI p) (st2 r σ f o) = K (nI (pw h e x (h 2))) (st2 r σ f o) := by
    intro m
    induction m with
    | zero =>
      intro n p hp hn K
      obtain ⟨n, rfl⟩ : ∃ n', n = n' + 1 := ⟨n - 1, by omega⟩
      rw [L_X4_pipesWith_5.eq_2]
      simp (disch := omega) only [ixN, clN, nI_add, pk_mul, subN, divN, remN, leN, ltN, eqN, le0N, eq0N, lt0N, ge0N, gt0N, if_pos, if_neg, if_true, if_false, Option.bind_some, shrN, shlN, andN1, nI_or, andm1, modS, true_or, or_true, st2_a, st2_b, st2_f, st2_A, st2_B, c 2 (by omega)]
      rw [show p = h 2 by omega]
    | succ m ih =>
      intro n p hp hn K
      obtain ⟨n, rfl⟩ : ∃ n', n = n' + 1 := ⟨n - 1, by omega⟩
      have hb1 := hb p (by omega)
      rw [L_X4_pipesWith_5.eq_2]
      simp (disch := omega) only [ixN, clN, nI_add, pk_mul, subN, divN, remN, leN, ltN, eqN, le0N, eq0N, lt0N, ge0N, gt0N, if_pos, if_neg, if_true, if_false, Option.bind_some, shrN, shlN, andN1, nI_or, andm1, modS, true_or, or_true, st2_a, st2_b, st2_f, st2_A, st2_B, c 2 (by omega), c (e + p) (by omega)]
      have hi := ih n (p + 1) (by omega) (by omega) K
      rw [show pw h e x (p + 1) = if h (e + p) = x then pw h e x p ||| 2 ^ p else pw h e x p from rfl] at hi
      by_cases q : h (e + p) = x
      · rw [if_pos q]
        rw [if_pos q] at hi
        exact hi
      · rw [if_neg q]
        rw [if_neg q] at hi
        exact hi
  exact L (h 2) fuel 0 (by omega) (by have := fuel_ge; omega) _
section ASK3
variable {σ : St}
theorem c_isOpen {h : Hs} (c : CR (σ.1 4) h) (w : WF h) {p : Nat} (hp : p < 7) : F_X4_isOpen 3 (nI p) σ = some (if h 3 / 2 ^ p % 2 = 1 then nI 1 else nI 0, σ) := by
  have := n_isOpen (r := 3) (σ := σ) (o := σ.1 5) c w hp
  rwa [eta3] at this
theorem c_soundsIn {h : Hs} (c : CR (σ.1 4) h) (w : WF h) {p : Nat} (hp : p < 7) : F_X4_soundsIn 3 (nI p) σ = some (nI (cz h (40 + 4 * p) 4), σ) := by
  have := n_soundsIn (r := 3) (σ := σ) (o := σ.1 5) c w hp
  rwa [eta3] at this
theorem c_soundsInAll {h : Hs} (c : CR (σ.1 4) h) (w : WF h) : F_X4_soundsInAll 3 σ = some (nI (sA h (h 2)), σ) := by
  have := n_soundsInAll (r := 3) (σ := σ) (o := σ.1 5) c w
  rwa [eta3] at this
theorem c_pipesWith {h : Hs} (c : CR (σ.1 4) h) (w : WF h) {e x : Nat} (he : e ≤ 60) (hx : x < 1000) (hb : ∀ p, p < 7 → h (e + p) < 2147483648) : F_X4_pipesWith 3 (nI e) (nI x) σ = some (nI (pw h e x (h 2)), σ) := by
  have := n_pipesWith (r := 3) (σ := σ) (o := σ.1 5) c w he hx hb
  rwa [eta3] at this
theorem m29_soundsIn {h : Hs} (c : MR (σ.1 29) h) (w : WF h) {p : Nat} (hp : p < h 2) : F_X8_soundsIn 29 (nI p) σ = some (nI (cz h (40 + 4 * p) 4), σ) := by
  have := m_soundsIn (k := 29) (σ := σ) (e := σ.1 34) (by decide) c w hp
  rwa [eta29] at this
theorem m29_sounds {h : Hs} (c : MR (σ.1 29) h) (w : WF h) : F_X8_sounds 29 σ = some (nI (sA h (h 2)), σ) := by
  have := m_sounds (k := 29) (σ := σ) (e := σ.1 34) (by decide) c w
  rwa [eta29] at this
theorem e_pipe (i : Inv σ) (x u : Int32) : Ag (F_X7_pipe x u σ) (F_X8_pipe x u) := by
  obtain ⟨⟨h, c, m, w, b⟩, -⟩ := id i
  have h7 := w.2.2.1
  by_cases q1 : x < 0 ∨ nI (h 2) ≤ x
  · refine Ag.q i (-1000001) σ ?_ (Scr.rf σ) (fun τ s => ⟨setF τ 8 (nI 0), ?_, scr8 s⟩)
    · unfold F_X7_pipe
      simp (disch := omega) only [ixN, clN, nI_add, pk_mul, subN, divN, remN, leN, ltN, eqN, le0N, eq0N, lt0N, ge0N, gt0N, if_pos, if_neg, if_true, if_false, Option.bind_some, shrN, shlN, andN1, nI_or, andm1, modS, true_or, or_true, false_or, or_false, nI_and, c_isPipe0 c w q1]
    · unfold F_X8_pipe
      simp (disch := omega) only [ixN, clN, nI_add, pk_mul, subN, divN, remN, leN, ltN, eqN, le0N, eq0N, lt0N, ge0N, gt0N, if_pos, if_neg, if_true, if_false, Option.bind_some, shrN, shlN, andN1, nI_or, andm1, modS, true_or, or_true, false_or, or_false, nI_and, m_isPipe0 (mr8 m s) w q1]
  · by_cases q2 : u < nI 0 ∨ nI 5 < u
    · refine Ag.q i (-1000001) σ ?_ (Scr.rf σ) (fun τ s => ⟨setF τ 8 (nI 0), ?_, scr8 s⟩)
      · unfold F_X7_pipe
        have n0 : ¬ u = 0 := by rw [← nI_0]; exact out_ne q2 (by omega) (by omega) (by omega)
        simp (disch := omega) only [ixN, clN, nI_add, pk_mul, subN, divN, remN, leN, ltN, eqN, le0N, eq0N, lt0N, ge0N, gt0N, if_pos, if_neg, if_true, if_false, Option.bind_some, shrN, shlN, andN1, nI_or, andm1, modS, true_or, or_true, false_or, or_false, nI_and, c_isPipe1 c w q1, ql1, ql2, ql3, ql4, ql5, n0, out_ne q2 (k := 1) (by omega) (by omega) (by omega), out_ne q2 (k := 2) (by omega) (by omega) (by omega), out_ne q2 (k := 3) (by omega) (by omega) (by omega), out_ne q2 (k := 4) (by omega) (by omega) (by omega), out_ne q2 (k := 5) (by omega) (by omega) (by omega)]
      · unfold F_X8_pipe
        simp (disch := omega) only [ixN, clN, nI_add, pk_mul, subN, divN, remN, leN, ltN, eqN, le0N, eq0N, lt0N, ge0N, gt0N, if_pos, if_neg, if_true, if_false, Option.bind_some, shrN, shlN, andN1, nI_or, andm1, modS, true_or, or_true, false_or, or_false, nI_and, m_isPipe1 (mr8 m s) w q1, m_in0 q2]
    · obtain ⟨p, hp, rfl⟩ := in_H (by omega) q1
      obtain ⟨v, -, hv, rfl⟩ := in_N (by omega) (by omega) q2
      have bt : h 3 / 2 ^ p ≤ h 3 := Nat.div_le_self _ _
      have hT := w.taps
      obtain ⟨⟨k1, k2⟩, fr, to, ln, dn⟩ := w.2.2.2.2.1 p hp
      rcases (show v = 0 ∨ v = 1 ∨ v = 2 ∨ v = 3 ∨ v = 4 ∨ v = 5 by omega) with rfl | rfl | rfl | rfl | rfl | rfl
      · refine Ag.q i (nI (h (12 + p))) σ ?_ (Scr.rf σ) (fun τ s => ⟨setF τ 8 (nI 0), ?_, scr8 s⟩)
        · unfold F_X7_pipe
          simp (disch := omega) only [ixN, clN, nI_add, pk_mul, subN, divN, remN, leN, ltN, eqN, le0N, eq0N, lt0N, ge0N, gt0N, if_pos, if_neg, if_true, if_false, Option.bind_some, shrN, shlN, andN1, nI_or, andm1, modS, true_or, or_true, false_or, or_false, nI_and, c_isPipe1 c w q1, c (12 + p) (by omega)]
        · unfold F_X8_pipe
          simp (disch := omega) only [ixN, clN, nI_add, pk_mul, subN, divN, remN, leN, ltN, eqN, le0N, eq0N, lt0N, ge0N, gt0N, if_pos, if_neg, if_true, if_false, Option.bind_some, shrN, shlN, andN1, nI_or, andm1, modS, true_or, or_true, false_or, or_false, nI_and, m_isPipe1 (mr8 m s) w q1, m_in1 q2, m_of, Nat.add_zero, (mr8 m s).fr (show p < 7 by omega)]
      · refine Ag.q i (nI (h (19 + p))) σ ?_ (Scr.rf σ) (fun τ s => ⟨setF τ 8 (nI 0), ?_, scr8 s⟩)
        · unfold F_X7_pipe
          simp (disch := omega) only [ixN, clN, nI_add, pk_mul, subN, divN, remN, leN, ltN, eqN, le0N, eq0N, lt0N, ge0N, gt0N, if_pos, if_neg, if_true, if_false, Option.bind_some, shrN, shlN, andN1, nI_or, andm1, modS, true_or, or_true, false_or, or_false, nI_and, c_isPipe1 c w q1, ql1, c (19 + p) (by omega)]
        · unfold F_X8_pipe
          simp (disch := omega) only [ixN, clN, nI_add, pk_mul, subN, divN, remN, leN, ltN, eqN, le0N, eq0N, lt0N, ge0N, gt0N, if_pos, if_neg, if_true, if_false, Option.bind_some, shrN, shlN, andN1, nI_or, andm1, modS, true_or, or_true, false_or, or_false, nI_and, m_isPipe1 (mr8 m s) w q1, m_in1 q2, m_of, (mr8 m s).to (show p < 7 by omega)]
      · refine Ag.q i (nI (h (26 + p))) σ ?_ (Scr.rf σ) (fun τ s => ⟨setF τ 8 (nI 0), ?_, scr8 s⟩)
        · unfold F_X7_pipe
          simp (disch := omega) only [ixN, clN, nI_add, pk_mul, subN, divN, remN, leN, ltN, eqN, le0N, eq0N, lt0N, ge0N, gt0N, if_pos, if_neg, if_true, if_false, Option.bind_some, shrN, shlN, andN1, nI_or, andm1, modS, true_or, or_true, false_or, or_false, nI_and, c_isPipe1 c w q1, ql1, ql2, c (26 + p) (by omega)]
        · unfold F_X8_pipe
          simp (disch := omega) only [ixN, clN, nI_add, pk_mul, subN, divN, remN, leN, ltN, eqN, le0N, eq0N, lt0N, ge0N, gt0N, if_pos, if_neg, if_true, if_false, Option.bind_some, shrN, shlN, andN1, nI_or, andm1, modS, true_or, or_true, false_or, or_false, nI_and, m_isPipe1 (mr8 m s) w q1, m_in1 q2, m_of, (mr8 m s).ln (show p < 7 by omega)]
      · refine Ag.q i (nI (h (33 + p))) σ ?_ (Scr.rf σ) (fun τ s => ⟨setF τ 8 (nI 0), ?_, scr8 s⟩)
        · unfold F_X7_pipe
          simp (disch := omega) only [ixN, clN, nI_add, pk_mul, subN, divN, remN, leN, ltN, eqN, le0N, eq0N, lt0N, ge0N, gt0N, if_pos, if_neg, if_true, if_false, Option.bind_some, shrN, shlN, andN1, nI_or, andm1, modS, true_or, or_true, false_or, or_false, nI_and, c_isPipe1 c w q1, ql1, ql2, ql3, c (33 + p) (by omega)]
        · unfold F_X8_pipe
          simp (disch := omega) only [ixN, clN, nI_add, pk_mul, subN, divN, remN, leN, ltN, eqN, le0N, eq0N, lt0N, ge0N, gt0N, if_pos, if_neg, if_true, if_false, Option.bind_some, shrN, shlN, andN1, nI_or, andm1, modS, true_or, or_true, false_or, or_false, nI_and, m_isPipe1 (mr8 m s) w q1, m_in1 q2, m_of, (mr8 m s).dn (show p < 7 by omega)]
      · refine Ag.q i (nI (h 3 / 2 ^ p % 2)) σ ?_ (Scr.rf σ) (fun τ s => ⟨setF τ 8 (nI 0), ?_, scr8 s⟩)
        · unfold F_X7_pipe
          simp (disch := omega) only [ixN, clN, nI_add, pk_mul, subN, divN, remN, leN, ltN, eqN, le0N, eq0N, lt0N, ge0N, gt0N, if_pos, if_neg, if_true, if_false, Option.bind_some, shrN, shlN, andN1, nI_or, andm1, modS, true_or, or_true, false_or, or_false, nI_and, c_isPipe1 c w q1, ql1, ql2, ql3, ql4, c_isOpen c w (show p < 7 by omega)]
          by_cases z : h 3 / 2 ^ p % 2 = 1
          · simp (disch := omega) only [ixN, clN, nI_add, pk_mul, subN, divN, remN, leN, ltN, eqN, le0N, eq0N, lt0N, ge0N, gt0N, if_pos, if_neg, if_true, if_false, Option.bind_some, shrN, shlN, andN1, nI_or, andm1, modS, true_or, or_true, false_or, or_false, nI_and, z]
          · simp (disch := omega) only [ixN, clN, nI_add, pk_mul, subN, divN, remN, leN, ltN, eqN, le0N, eq0N, lt0N, ge0N, gt0N, if_pos, if_neg, if_true, if_false, Option.bind_some, shrN, shlN, andN1, nI_or, andm1, modS, true_or, or_true, false_or, or_false, nI_and, show h 3 / 2 ^ p % 2 = 0 by omega]
        · unfold F_X8_pipe
          simp (disch := omega) only [ixN, clN, nI_add, pk_mul, subN, divN, remN, leN, ltN, eqN, le0N, eq0N, lt0N, ge0N, gt0N, if_pos, if_neg, if_true, if_false, Option.bind_some, shrN, shlN, andN1, nI_or, andm1, modS, true_or, or_true, m_isPipe1 (mr8 m s) w q1, m_in1 q2, (mr8 m s).a3]
      · refine Ag.q i (nI (cz h (40 + 4 * p) 4)) σ ?_ (Scr.rf σ) (fun τ s => ⟨setF τ 8 (nI 0), ?_, scr8 s⟩)
        · unfold F_X7_pipe
          simp (disch := omega) only [ixN, clN, nI_add, pk_mul, subN, divN, remN, leN, ltN, eqN, le0N, eq0N, lt0N, ge0N, gt0N, if_pos, if_neg, if_true, if_false, Option.bind_some, shrN, shlN, andN1, nI_or, andm1, modS, true_or, or_true, false_or, or_false, nI_and, c_isPipe1 c w q1, ql1, ql2, ql3, ql4, ql5, c_soundsIn c w (show p < 7 by omega)]
        · unfold F_X8_pipe
          simp (disch := omega) only [ixN, clN, nI_add, pk_mul, subN, divN, remN, leN, ltN, eqN, le0N, eq0N, lt0N, ge0N, gt0N, if_pos, if_neg, if_true, if_false, Option.bind_some, shrN, shlN, andN1, nI_or, andm1, modS, true_or, or_true, false_or, or_false, nI_and, m_isPipe1 (mr8 m s) w q1, m_in1 q2, m29_soundsIn (mr8 m s) w hp]
theorem e_kind (i : Inv σ) (x : Int32) : Ag (F_X7_kind x σ) (F_X8_kind x) := by
  obtain ⟨⟨h, c, m, w, b⟩, -⟩ := id i
  have h7 := w.2.2.1
  by_cases q1 : x < 0 ∨ nI (h 2) ≤ x
  · refine Ag.q i (-1000001) σ ?_ (Scr.rf σ) (fun τ s => ⟨setF τ 8 (nI 0), ?_, scr8 s⟩)
    · unfold F_X7_kind
      simp (disch := omega) only [ixN, clN, nI_add, pk_mul, subN, divN, remN, leN, ltN, eqN, le0N, eq0N, lt0N, ge0N, gt0N, if_pos, if_neg, if_true, if_false, Option.bind_some, shrN, shlN, andN1, nI_or, andm1, modS, true_or, or_true, false_or, or_false, nI_and, c_isPipe0 c w q1]
    · unfold F_X8_kind
      simp (disch := omega) only [ixN, clN, nI_add, pk_mul, subN, divN, remN, leN, ltN, eqN, le0N, eq0N, lt0N, ge0N, gt0N, if_pos, if_neg, if_true, if_false, Option.bind_some, shrN, shlN, andN1, nI_or, andm1, modS, true_or, or_true, false_or, or_false, nI_and, m_isPipe0 (mr8 m s) w q1]
  · obtain ⟨p, hp, rfl⟩ := in_H (by omega) q1
    refine Ag.q i (nI (h (5 + p))) σ ?_ (Scr.rf σ) (fun τ s => ⟨setF τ 8 (nI 0), ?_, scr8 s⟩)
    · unfold F_X7_kind
      simp (disch := omega) only [ixN, clN, nI_add, pk_mul, subN, divN, remN, leN, ltN, eqN, le0N, eq0N, lt0N, ge0N, gt0N, if_pos, if_neg, if_true, if_false, Option.bind_some, shrN, shlN, andN1, nI_or, andm1, modS, true_or, or_true, false_or, or_false, nI_and, c_isPipe1 c w q1, c (5 + p) (by omega)]
    · unfold F_X8_kind
      simp (disch := omega) only [ixN, clN, nI_add, pk_mul, subN, divN, remN, leN, ltN, eqN, le0N, eq0N, lt0N, ge0N, gt0N, if_pos, if_neg, if_true, if_false, Option.bind_some, shrN, shlN, andN1, nI_or, andm1, modS, true_or, or_true, false_or, or_false, nI_and, m_isPipe1 (mr8 m s) w q1, m_of, (mr8 m s).kd (show p < 7 by omega)]
theorem e_inside (i : Inv σ) (x u : Int32) : Ag (F_X7_inside x u σ) (F_X8_inside x u) := by
  obtain ⟨⟨h, c, m, w, b⟩, -⟩ := id i
  have h7 := w.2.2.1
  by_cases q1 : x < 0 ∨ nI (h 2) ≤ x
  · refine Ag.q i (-1000001) σ ?_ (Scr.rf σ) (fun τ s => ⟨setF τ 8 (nI 0), ?_, scr8 s⟩)
    · unfold F_X7_inside
      simp (disch := omega) only [ixN, clN, nI_add, pk_mul, subN, divN, remN, leN, ltN, eqN, le0N, eq0N, lt0N, ge0N, gt0N, if_pos, if_neg, if_true, if_false, Option.bind_some, shrN, shlN, andN1, nI_or, andm1, modS, true_or, or_true, false_or, or_false, nI_and, c_isPipe0 c w q1]
    · unfold F_X8_inside
      simp (disch := omega) only [ixN, clN, nI_add, pk_mul, subN, divN, remN, leN, ltN, eqN, le0N, eq0N, lt0N, ge0N, gt0N, if_pos, if_neg, if_true, if_false, Option.bind_some, shrN, shlN, andN1, nI_or, andm1, modS, true_or, or_true, false_or, or_false, nI_and, m_isPipe0 (mr8 m s) w q1]
  · obtain ⟨p, hp, rfl⟩ := in_H (by omega) q1
    obtain ⟨⟨k1, k2⟩, fr, to, ln, dn⟩ := w.2.2.2.2.1 p hp
    have cl := c (26 + p) (by omega)
    by_cases q2 : u < 0 ∨ nI (h (26 + p)) ≤ u
    · refine Ag.q i (-1000001) σ ?_ (Scr.rf σ) (fun τ s => ⟨setF τ 8 (nI 0), ?_, scr8 s⟩)
      · unfold F_X7_inside
        by_cases q3 : u < 0
        · simp (disch := omega) only [ixN, clN, nI_add, pk_mul, subN, divN, remN, leN, ltN, eqN, le0N, eq0N, lt0N, ge0N, gt0N, if_pos, if_neg, if_true, if_false, Option.bind_some, shrN, shlN, andN1, nI_or, andm1, modS, true_or, or_true, false_or, or_false, nI_and, c_isPipe1 c w q1, q3]
        · have q4 : ¬ u < nI (h (26 + p)) := fun z => by
            have z2 := q2.resolve_left q3
            rw [Int32.lt_iff_toInt_lt] at z
            rw [Int32.le_iff_toInt_le] at z2
            omega
          simp (disch := omega) only [ixN, clN, nI_add, pk_mul, subN, divN, remN, leN, ltN, eqN, le0N, eq0N, lt0N, ge0N, gt0N, if_pos, if_neg, if_true, if_false, Option.bind_some, shrN, shlN, andN1, nI_or, andm1, modS, true_or, or_true, false_or, or_false, nI_and, c_isPipe1 c w q1, q3, cl, q4]
      · unfold F_X8_inside
        simp (disch := omega) only [ixN, clN, nI_add, pk_mul, subN, divN, remN, leN, ltN, eqN, le0N, eq0N, lt0N, ge0N, gt0N, if_pos, if_neg, if_true, if_false, Option.bind_some, shrN, shlN, andN1, nI_or, andm1, modS, true_or, or_true, false_or, or_false, nI_and, m_isPipe1 (mr8 m s) w q1, m_of, (mr8 m s).ln (show p < 7 by omega)]
        rw [show nI (h (26 + p) - 1) = nI (h (26 + p)) - nI 1 from (subN (by omega)).symm, m_in00]
        simp only [sub1_lt (show h (26 + p) < 1000000 by omega)]
        simp (disch := omega) only [ixN, clN, nI_add, pk_mul, subN, divN, remN, leN, ltN, eqN, le0N, eq0N, lt0N, ge0N, gt0N, if_pos, if_neg, if_true, if_false, Option.bind_some, shrN, shlN, andN1, nI_or, andm1, modS, true_or, or_true, false_or, or_false, nI_and, q2]
    · obtain ⟨k, hk, rfl⟩ := in_H (by omega) q2
      have hv := w.2.2.2.2.2.1 (40 + 4 * p + k) (by omega) (by omega)
      have cs := c (40 + 4 * p + k) (by omega)
      obtain ⟨hv1, hv2⟩ := hv
      refine Ag.q i (if h (40 + 4 * p + k) = 0 then (-1000000) else nI (h (40 + 4 * p + k))) σ ?_ (Scr.rf σ) (fun τ s => ⟨setF τ 8 (nI 0), ?_, scr8 s⟩)
      · unfold F_X7_inside
        simp (disch := omega) only [ixN, clN, nI_add, pk_mul, subN, divN, remN, leN, ltN, eqN, le0N, eq0N, lt0N, ge0N, gt0N, if_pos, if_neg, if_true, if_false, Option.bind_some, shrN, shlN, andN1, nI_or, andm1, modS, true_or, or_true, false_or, or_false, nI_and, c_isPipe1 c w q1, cl, Nat.mul_comm p 4, cs]
        split <;> rfl
      · unfold F_X8_inside
        simp (disch := omega) only [ixN, clN, nI_add, pk_mul, subN, divN, remN, leN, ltN, eqN, le0N, eq0N, lt0N, ge0N, gt0N, if_pos, if_neg, if_true, if_false, Option.bind_some, shrN, shlN, andN1, nI_or, andm1, modS, true_or, or_true, false_or, or_false, nI_and, m_isPipe1 (mr8 m s) w q1, m_of, (mr8 m s).ln (show p < 7 by omega)]
        rw [show nI (h (26 + p) - 1) = nI (h (26 + p)) - nI 1 from (subN (by omega)).symm, m_in00]
        simp only [sub1_lt (show h (26 + p) < 1000000 by omega)]
        rw [if_neg q2]
        simp (disch := omega) only [ixN, clN, nI_add, pk_mul, subN, divN, remN, leN, ltN, eqN, le0N, eq0N, lt0N, ge0N, gt0N, if_pos, if_neg, if_true, if_false, Option.bind_some, shrN, shlN, andN1, nI_or, andm1, modS, true_or, or_true, false_or, or_false, nI_and, m_of, (mr8 m s).sn (p := p) (k := k) (show p < 7 by omega) (by omega) rfl]
        split <;> rfl
theorem e_trace (i : Inv σ) (x : Int32) : Ag (F_X7_trace x σ) (F_X8_trace x) := by
  obtain ⟨t, ht, t1, t2, t3⟩ := i.2.2.2.2.2.1
  by_cases q : x < 0 ∨ nI t ≤ x
  · refine Ag.q i (-1000000) σ ?_ (Scr.rf σ) (fun τ s => ⟨setF τ 8 (nI 0), ?_, scr8 s⟩)
    · unfold F_X7_trace
      rw [t1]
      by_cases q3 : x < 0
      · rw [if_pos q3]
      · rw [if_neg q3, if_pos (q.resolve_left q3)]
    · unfold F_X8_trace
      rw [setF_ne (by decide), s.2 19 (nsf (by omega)), t2, m_in00]
      simp only [sub1_lt (show t < 1000000 by omega)]
      rw [if_pos q]
      rfl
  · obtain ⟨k, hk, rfl⟩ := in_H (by omega) q
    refine Ag.q i (σ.1 24 k) σ ?_ (Scr.rf σ) (fun τ s => ⟨setF τ 8 (nI 0), ?_, scr8 s⟩)
    · unfold F_X7_trace
      rw [t1]
      simp (disch := omega) only [ixN, clN, nI_add, pk_mul, subN, divN, remN, leN, ltN, eqN, le0N, eq0N, lt0N, ge0N, gt0N, if_pos, if_neg, if_true, if_false, Option.bind_some, shrN, shlN, andN1, nI_or, andm1, modS, true_or, or_true, false_or, or_false, nI_and]
    · unfold F_X8_trace
      rw [setF_ne (by decide), s.2 19 (nsf (by omega)), t2, m_in00]
      simp only [sub1_lt (show t < 1000000 by omega)]
      rw [if_neg q]
      simp (disch := omega) only [ixN, clN, nI_add, pk_mul, subN, divN, remN, leN, ltN, eqN, le0N, eq0N, lt0N, ge0N, gt0N, if_pos, if_neg, if_true, if_false, Option.bind_some, shrN, shlN, andN1, nI_or, andm1, modS, true_or, or_true, false_or, or_false, nI_and]
      rw [setF_1, s.1 37 (nsc (by omega)), t3 k hk]
theorem e_horn (i : Inv σ) (x u : Int32) : Ag (F_X7_horn x u σ) (F_X8_horn x u) := by
  obtain ⟨⟨h, c, m, w, b⟩, -⟩ := id i
  have h7 := w.2.2.1
  have hH := w.1
  by_cases q1 : x < 0 ∨ nI (h 0) ≤ x
  · refine Ag.q i (-1000001) σ ?_ (Scr.rf σ) (fun τ s => ⟨setF τ 8 (nI 0), ?_, scr8 s⟩)
    · unfold F_X7_horn
      simp (disch := omega) only [ixN, clN, nI_add, pk_mul, subN, divN, remN, leN, ltN, eqN, le0N, eq0N, lt0N, ge0N, gt0N, if_pos, if_neg, if_true, if_false, Option.bind_some, shrN, shlN, andN1, nI_or, andm1, modS, true_or, or_true, false_or, or_false, nI_and, c_isHorn0 c w q1]
    · unfold F_X8_horn
      simp (disch := omega) only [ixN, clN, nI_add, pk_mul, subN, divN, remN, leN, ltN, eqN, le0N, eq0N, lt0N, ge0N, gt0N, if_pos, if_neg, if_true, if_false, Option.bind_some, shrN, shlN, andN1, nI_or, andm1, modS, true_or, or_true, false_or, or_false, nI_and, m_isHorn0 (mr8 m s) w q1]
  · obtain ⟨j, hj, rfl⟩ := in_H (by omega) q1
    have hv := (w.2.2.2.2.2.1 (68 + j) (by omega) (by omega)).1
    have c68 := c (68 + j) (by omega)
    have c74 := c (74 + j) (by omega)
    have hbF : ∀ p, p < h 2 → h (12 + p) < 2147483648 := fun p hp => by have := (w.2.2.2.2.1 p hp).2.1; omega
    have hbT : ∀ p, p < h 2 → h (19 + p) < 2147483648 := fun p hp => by have := (w.2.2.2.2.1 p hp).2.2.1; omega
    -- the reference's loop
    have L : ∀ (τ : St) (mτ : MR (τ.1 29) h) (E wh : Nat) (u a3 : Int32), ((u = nI 3 ∧ E = 12 ∧ wh = 1) ∨ (¬ u = nI 3 ∧ E = 19 ∧ wh = 2)) → ∀ (mm N p : Nat), p + mm = h 2 → mm < N → ∀ K, L_X8_horn_33 K N (nI j) u a3 (nI (pw h E j p)) (nI p) τ = K (nI j) u a3 (nI (pw h E j (h 2))) τ := by
      intro τ mτ E wh u a3 hc mm
      induction mm with
      | zero =>
        intro N p hp hN K
        obtain ⟨N, rfl⟩ : ∃ n', N = n' + 1 := ⟨N - 1, by omega⟩
        rw [L_X8_horn_33.eq_2]
        simp (disch := omega) only [ixN, clN, nI_add, pk_mul, subN, divN, remN, leN, ltN, eqN, le0N, eq0N, lt0N, ge0N, gt0N, if_pos, if_neg, if_true, if_false, Option.bind_some, shrN, shlN, andN1, nI_or, andm1, modS, true_or, or_true, mτ.a2]
        rw [show p = h 2 by omega]
      | succ mm ih =>
        intro N p hp hN K
        obtain ⟨N, rfl⟩ : ∃ n', N = n' + 1 := ⟨N - 1, by omega⟩
        have hi := ih N (p + 1) (by omega) (by omega) K
        rw [show pw h E j (p + 1) = if h (E + p) = j then pw h E j p ||| 2 ^ p else pw h E j p from rfl] at hi
        rw [L_X8_horn_33.eq_2, ← hi]
        have bF := hbF p (by omega)
        have bT := hbT p (by omega)
        rcases hc with ⟨hu, rfl, rfl⟩ | ⟨hu, rfl, rfl⟩
        · by_cases z : h (12 + p) = j
          · simp (disch := omega) only [ixN, clN, nI_add, pk_mul, subN, divN, remN, leN, ltN, eqN, le0N, eq0N, lt0N, ge0N, gt0N, if_pos, if_neg, if_true, if_false, Option.bind_some, shrN, shlN, andN1, nI_or, andm1, modS, true_or, or_true, mτ.a2, hu, J_X8_horn_62, m_of, mτ.fr (show p < 7 by omega), z]
          · simp (disch := omega) only [ixN, clN, nI_add, pk_mul, subN, divN, remN, leN, ltN, eqN, le0N, eq0N, lt0N, ge0N, gt0N, if_pos, if_neg, if_true, if_false, Option.bind_some, shrN, shlN, andN1, nI_or, andm1, modS, true_or, or_true, mτ.a2, hu, J_X8_horn_62, m_of, mτ.fr (show p < 7 by omega), Nat.or_zero]
        · by_cases z : h (19 + p) = j
          · simp (disch := omega) only [ixN, clN, nI_add, pk_mul, subN, divN, remN, leN, ltN, eqN, le0N, eq0N, lt0N, ge0N, gt0N, if_pos, if_neg, if_true, if_false, Option.bind_some, shrN, shlN, andN1, nI_or, andm1, modS, true_or, or_true, mτ.a2, hu, J_X8_horn_62, m_of, mτ.to (show p < 7 by omega), z]
          · simp (disch := omega) only [ixN, clN, nI_add, pk_mul, subN, divN, remN, leN, ltN, eqN, le0N, eq0N, lt0N, ge0N, gt0N, if_pos, if_neg, if_true, if_false, Option.bind_some, shrN, shlN, andN1, nI_or, andm1, modS, true_or, or_true, mτ.a2, hu, J_X8_horn_62, m_of, mτ.to (show p < 7 by omega), Nat.or_zero]
    have c8 : ∀ τ, Scr σ τ → (setF τ 8 (nI 0)).1 29 (5 + 2 * j) = nI (h (68 + j)) := fun τ s => by rw [← pmH j (by omega)]; exact (mr8 m s) _ (by omega)
    have c9 : ∀ τ, Scr σ τ → (setF τ 8 (nI 0)).1 29 (5 + 2 * j + 1) = nI (h (74 + j)) := fun τ s => by rw [← pmW j (by omega)]; exact (mr8 m s) _ (by omega)
    have hx : ∀ p, p < 7 → h (12 + p) < 2147483648 → True := fun _ _ _ => trivial
    have tail : ∀ (τ : St) (s : Scr σ τ), F_X8_horn (nI j) u τ = (if u = 0 then (if h (68 + j) = 0 then some ((-1000000 : Int32), setF τ 8 (nI 0)) else some (nI (h (68 + j) / 100), setF τ 8 (nI 0))) else if u = nI 1 then some (nI (h (68 + j) % 100), setF τ 8 (nI 0)) else if u = nI 2 then (if h (68 + j) = 0 then some ((-1000000 : Int32), setF τ 8 (nI 0)) else some (nI (h (74 + j)), setF τ 8 (nI 0))) else if u = nI 3 then some (nI (pw h 12 j (h 2)), setF τ 8 (nI 0)) else if u = nI 4 then some (nI (pw h 19 j (h 2)), setF τ 8 (nI 0)) else some ((-1000001 : Int32), setF τ 8 (nI 0))) := by
      intro τ s
      unfold F_X8_horn
      by_cases u3 : u = nI 3
      · subst u3
        have l := L (setF τ 8 (nI 0)) (mr8 m s) 12 1 (nI 3) (nI (h (68 + j))) (Or.inl ⟨rfl, rfl, rfl⟩) (h 2) fuel 0 (by omega) (by have := fuel_ge; omega)
        rw [show pw h 12 j 0 = 0 from rfl] at l
        simp (disch := omega) only [ixN, clN, nI_add, pk_mul, subN, divN, remN, leN, ltN, eqN, le0N, eq0N, lt0N, ge0N, gt0N, if_pos, if_neg, if_true, if_false, Option.bind_some, shrN, shlN, andN1, nI_or, andm1, modS, true_or, or_true, m_isHorn1 (mr8 m s) w q1, c8 τ s, l, ql1, ql2, ql3, ql4, c9 τ s]
      · have l := L (setF τ 8 (nI 0)) (mr8 m s) 19 2 u (nI (h (68 + j))) (Or.inr ⟨u3, rfl, rfl⟩) (h 2) fuel 0 (by omega) (by have := fuel_ge; omega)
        rw [show pw h 19 j 0 = 0 from rfl] at l
        simp (disch := omega) only [ixN, clN, nI_add, pk_mul, subN, divN, remN, leN, ltN, eqN, le0N, eq0N, lt0N, ge0N, gt0N, if_pos, if_neg, if_true, if_false, Option.bind_some, shrN, shlN, andN1, nI_or, andm1, modS, true_or, or_true, m_isHorn1 (mr8 m s) w q1, c8 τ s, l, ql1, ql2, ql3, ql4, c9 τ s, u3]
        rfl
    have cF : F_X4_pipesWith 3 (nI 12) (nI j) σ = some (nI (pw h 12 j (h 2)), σ) := by
      have := n_pipesWith2 (r := 3) (σ := σ) (o := σ.1 5) c w (e := 12) (x := j) (by omega) (by omega) hbF
      rwa [eta3] at this
    have cT : F_X4_pipesWith 3 (nI 19) (nI j) σ = some (nI (pw h 19 j (h 2)), σ) := by
      have := n_pipesWith2 (r := 3) (σ := σ) (o := σ.1 5) c w (e := 19) (x := j) (by omega) (by omega) hbT
      rwa [eta3] at this
    have head : F_X7_horn (nI j) u σ = (if u = 0 then (if h (68 + j) = 0 then some ((-1000000 : Int32), σ) else some (nI (h (68 + j) / 100), σ)) else if u = nI 1 then some (nI (h (68 + j) % 100), σ) else if u = nI 2 then (if h (68 + j) = 0 then some ((-1000000 : Int32), σ) else some (nI (h (74 + j)), σ)) else if u = nI 3 then some (nI (pw h 12 j (h 2)), σ) else if u = nI 4 then some (nI (pw h 19 j (h 2)), σ) else some ((-1000001 : Int32), σ)) := by
      unfold F_X7_horn F_X7_wordOrNone
      simp (disch := omega) only [ixN, clN, nI_add, pk_mul, subN, divN, remN, leN, ltN, eqN, le0N, eq0N, lt0N, ge0N, gt0N, if_pos, if_neg, if_true, if_false, Option.bind_some, shrN, shlN, andN1, nI_or, andm1, modS, true_or, or_true, c_isHorn1 c w q1, c68, c74, ql1, ql2, ql3, ql4, cF, cT, F_X4_wordOf, F_X4_loudnessOf]
      by_cases z : h (68 + j) = 0
      · simp only [z, if_true]; rfl
      · simp only [if_neg z]; rfl
    refine Ag.q i (if u = 0 then (if h (68 + j) = 0 then (-1000000) else nI (h (68 + j) / 100)) else if u = nI 1 then nI (h (68 + j) % 100) else if u = nI 2 then (if h (68 + j) = 0 then (-1000000) else nI (h (74 + j))) else if u = nI 3 then nI (pw h 12 j (h 2)) else if u = nI 4 then nI (pw h 19 j (h 2)) else (-1000001)) σ ?_ (Scr.rf σ) (fun τ s => ⟨setF τ 8 (nI 0), ?_, scr8 s⟩)
    · rw [head]
      split
      · split <;> rfl
      · split
        · rfl
        · split
          · split <;> rfl
          · split
            · rfl
            · split <;> rfl
    · rw [tail τ s]
      split
      · split <;> rfl
      · split
        · rfl
        · split
          · split <;> rfl
          · split
            · rfl
            · split <;> rfl
end ASK3
