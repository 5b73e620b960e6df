/-! one pipe of a text -/
def CRx (f : Nat → Int32) (h : Hs) : Prop := ∀ i, i < 80 → i ≠ 3 → f i = nI (h i)
theorem CRx.upd {f : Nat → Int32} {h : Hs} (c : CRx f h) (i v : Nat) : CRx (upd f i (nI v)) (uH h i v) := fun j hj h3 => by
  show (if j = i then nI v else f j) = nI (if j = i then v else h j)
  by_cases e : j = i
  · rw [if_pos e, if_pos e]
  · rw [if_neg e, if_neg e]
    exact c j hj h3
theorem CRx.n3 {f : Nat → Int32} {h : Hs} (c : CRx f h) (v : Nat) : CRx f (uH h 3 v) := fun j hj h3 => by
  rw [uH_ne h3]
  exact c j hj h3
/-- a draft of a house -/
def PW (d : Hs) : Prop := 2 ≤ d 0 ∧ d 0 ≤ 6 ∧ d 1 ≤ 9 ∧ d 2 ≤ 7 ∧ d 3 = 2 ^ d 2 - 1 ∧ d 4 = 0 ∧ (∀ p, p < d 2 → (1 ≤ d (5 + p) ∧ d (5 + p) ≤ 5) ∧ d (12 + p) < d 0 ∧ d (19 + p) < d 0 ∧ (1 ≤ d (26 + p) ∧ d (26 + p) ≤ 4) ∧ d (33 + p) ≤ 9) ∧ ∀ i, 40 ≤ i → i < 80 → d i = 0
/-- a pipe more -/
def dN (d : Hs) (k f t l e : Nat) : Hs := uH (uH (uH (uH (uH (uH (uH d (5 + d 2) k) (12 + d 2) f) (19 + d 2) t) (26 + d 2) l) (33 + d 2) e) 3 (2 ^ (d 2 + 1) - 1)) 2 (d 2 + 1)
theorem dN_ne {d : Hs} {k f t l e i : Nat} (h7 : d 2 < 7) (h2 : i ≠ 2) (h3 : i ≠ 3) (h : i < 5 ∨ 40 ≤ i) : dN d k f t l e i = d i := by
  unfold dN
  rw [uH_ne h2, uH_ne h3, uH_ne (by omega), uH_ne (by omega), uH_ne (by omega), uH_ne (by omega), uH_ne (by omega)]
theorem dN_wf {d : Hs} (w : PW d) (h7 : d 2 < 7) {k f t l e : Nat} (hk : 1 ≤ k ∧ k ≤ 5) (hf : f < d 0) (ht : t < d 0) (hl : 1 ≤ l ∧ l ≤ 4) (he : e ≤ 9) : PW (dN d k f t l e) := by
  obtain ⟨w0, w0', w1, w2, w3, w4, w5, w6⟩ := w
  have e2 : dN d k f t l e 2 = d 2 + 1 := uH_eq _ _ _
  have e3 : dN d k f t l e 3 = 2 ^ (d 2 + 1) - 1 := by
    unfold dN
    rw [uH_ne (by omega), uH_eq]
  have e0 : dN d k f t l e 0 = d 0 := dN_ne h7 (by omega) (by omega) (by omega)
  refine ⟨by rw [e0]; exact w0, by rw [e0]; exact w0', by rw [dN_ne h7 (by omega) (by omega) (by omega)]; exact w1, by rw [e2]; omega, by rw [e2, e3], by rw [dN_ne h7 (by omega) (by omega) (by omega)]; exact w4, fun p hp => ?_, fun i h1 h2 => by rw [dN_ne h7 (by omega) (by omega) (by omega)]; exact w6 i h1 h2⟩
  rw [e2] at hp
  rw [e0]
  by_cases z : p = d 2
  · subst z
    have a1 : dN d k f t l e (5 + d 2) = k := by
      unfold dN
      rw [uH_ne (by omega), uH_ne (by omega), uH_ne (by omega), uH_ne (by omega), uH_ne (by omega), uH_ne (by omega), uH_eq]
    have a2 : dN d k f t l e (12 + d 2) = f := by
      unfold dN
      rw [uH_ne (by omega), uH_ne (by omega), uH_ne (by omega), uH_ne (by omega), uH_ne (by omega), uH_eq]
    have a3 : dN d k f t l e (19 + d 2) = t := by
      unfold dN
      rw [uH_ne (by omega), uH_ne (by omega), uH_ne (by omega), uH_ne (by omega), uH_eq]
    have a4 : dN d k f t l e (26 + d 2) = l := by
      unfold dN
      rw [uH_ne (by omega), uH_ne (by omega), uH_ne (by omega), uH_eq]
    have a5 : dN d k f t l e (33 + d 2) = e := by
      unfold dN
      rw [uH_ne (by omega), uH_ne (by omega), uH_eq]
    rw [a1, a2, a3, a4, a5]
    exact ⟨hk, hf, ht, hl, he⟩
  · have a : ∀ b, b = 5 ∨ b = 12 ∨ b = 19 ∨ b = 26 ∨ b = 33 → dN d k f t l e (b + p) = d (b + p) := fun b hb => by
      unfold dN
      rw [uH_ne (by omega), uH_ne (by omega), uH_ne (by omega), uH_ne (by omega), uH_ne (by omega), uH_ne (by omega), uH_ne (by omega)]
    rw [a 5 (by omega), a 12 (by omega), a 19 (by omega), a 26 (by omega), a 33 (by omega)]
    exact w5 p (by omega)
section TAPE5
variable {σ τ : St} {B : Nat → Nat} {n p : Nat} {d : Hs}
/-- the end of a pipe, as the class writes it down -/
theorem c_fill {s0 a2 z3 z5 z7 z9 : Nat} (h2 : a2 < 7) (σ : St) : (if ix ((nI 5) + nI a2) 80 then if ix ((nI 12) + nI a2) 80 then if ix ((nI 19) + nI a2) 80 then if ix ((nI 26) + nI a2) 80 then if ix ((nI 33) + nI a2) 80 then if ix (nI 2) 80 then some ((nI 1), setA (setA (setA (setA (setA (setA σ 7 ((nI 5) + nI a2).toNatClampNeg (nI s0)) 7 ((nI 12) + nI a2).toNatClampNeg (nI z3)) 7 ((nI 19) + nI a2).toNatClampNeg (nI z5)) 7 ((nI 26) + nI a2).toNatClampNeg (nI z7)) 7 ((nI 33) + nI a2).toNatClampNeg (nI z9)) 7 (nI 2).toNatClampNeg (nI a2 + (nI 1))) else none else none else none else none else none else none) = some (nI 1, setA (setA (setA (setA (setA (setA σ 7 (5 + a2) (nI s0)) 7 (12 + a2) (nI z3)) 7 (19 + a2) (nI z5)) 7 (26 + a2) (nI z7)) 7 (33 + a2) (nI z9)) 7 2 (nI (a2 + 1))) := by
  simp (disch := omega) only [ixN, clN, nI_add, if_pos]
theorem c_fillR {s0 z3 z5 z7 z9 : Nat} (c : CRx (σ.1 7) d) : CRx ((setA (setA (setA (setA (setA (setA σ 7 (5 + d 2) (nI s0)) 7 (12 + d 2) (nI z3)) 7 (19 + d 2) (nI z5)) 7 (26 + d 2) (nI z7)) 7 (33 + d 2) (nI z9)) 7 2 (nI (d 2 + 1))).1 7) (dN d s0 z3 z5 z7 z9) := by
  simp only [setA_get]
  exact ((((((c.upd _ _).upd _ _).upd _ _).upd _ _).upd _ _).n3 _).upd _ _
theorem b_J77 (h : ¬ τ.2 16 = 0) (a b : Int32) : J_X8_readPipe_77 a b τ = some τ := by
  unfold J_X8_readPipe_77
  rw [if_pos (by rw [ixN (by omega)]; omega), b_number h, Option.bind_some, b_sign (by exact h), Option.bind_some, b_number h, Option.bind_some, b_sign (by exact h), Option.bind_some, b_number h, Option.bind_some, b_sign (by exact h), Option.bind_some, if_neg h]
theorem or_pw : ∀ P, P < 7 → (2 ^ P - 1) ||| 2 ^ P = 2 ^ (P + 1) - 1 := by decide +kernel
theorem j24_eq (a1 : Int32) (τ : St) : J_X8_readPipe_24 a1 τ = (F_X8_must (nI 1) τ).bind fun z3 => (F_X8_number (nI 0) ((z3.1 30 0) - (nI 1)) z3).bind fun z5 => (F_X8_mustSign (nI 44) z5.2).bind fun z6 => (chk z5.1 z6).bind fun z => J_X8_readPipe_77 a1 z5.1 z := by
  unfold J_X8_readPipe_24 chk
  simp (disch := omega) only [ixN, clN, if_pos]
  congr 1
  funext z3
  congr 1
  funext z5
  congr 1
  funext z6
  by_cases h1 : z6.2 16 = 0
  · rw [if_pos h1, if_pos h1]
    by_cases h2 : z6.2 14 = nI 3
    · rw [if_pos h2, if_pos h2]
      by_cases h3 : z6.2 15 = z5.1
      · rw [if_pos h3, if_pos h3]
      · rw [if_neg h3, if_neg h3, Option.bind_some]
    · rw [if_neg h2, if_neg h2, Option.bind_some]
  · rw [if_neg h1, if_neg h1, Option.bind_some]
theorem b_J24 (h : ¬ τ.2 16 = 0) (a : Int32) : J_X8_readPipe_24 a τ = some τ := by
  rw [j24_eq, b_must h, Option.bind_some, b_number h, Option.bind_some, b_sign (by exact h), Option.bind_some]
  have : ∀ f, chk f τ = some τ := fun f => by
    unfold chk
    rw [if_neg h]
  rw [this, Option.bind_some]
  exact b_J77 h _ _
/-- the end of a pipe, as the reference writes it down -/
def mF (P : Nat) (a1 a2 a3 a4 a5 : Nat) (z : St) : St := setA (setA (setA (setA (setA (setA (setA z 30 (17 + 9 * P) (nI a1)) 30 (17 + 9 * P + 1) (nI a2)) 30 (17 + 9 * P + 2) (nI a3)) 30 (17 + 9 * P + 3) (nI a4)) 30 (17 + 9 * P + 4) (nI a5)) 30 4 (nI (2 ^ (P + 1) - 1))) 30 2 (nI (P + 1))
def mTail (a1 a2 v8 v10 v12 : Int32) (z : St) : Option St := if (z.2 16) = 0 then (if ix (nI 2) 80 then if ix ((nI 17) + ((nI 9) * (z.1 30 (nI 2).toNatClampNeg))) 80 then if ix (((nI 17) + ((nI 9) * (z.1 30 (nI 2).toNatClampNeg))) + (nI 1)) 80 then if ix (((nI 17) + ((nI 9) * (z.1 30 (nI 2).toNatClampNeg))) + (nI 2)) 80 then if ix (((nI 17) + ((nI 9) * (z.1 30 (nI 2).toNatClampNeg))) + (nI 3)) 80 then if ix (((nI 17) + ((nI 9) * (z.1 30 (nI 2).toNatClampNeg))) + (nI 4)) 80 then if ix (nI 4) 80 then if ix (nI 2) 80 then if ix (nI 4) 80 then if ix (nI 2) 80 then if ix (nI 2) 80 then some (setA (setA (setA (setA (setA (setA (setA z 30 ((nI 17) + ((nI 9) * (z.1 30 (nI 2).toNatClampNeg))).toNatClampNeg a1) 30 (((nI 17) + ((nI 9) * (z.1 30 (nI 2).toNatClampNeg))) + (nI 1)).toNatClampNeg a2) 30 (((nI 17) + ((nI 9) * (z.1 30 (nI 2).toNatClampNeg))) + (nI 2)).toNatClampNeg v8) 30 (((nI 17) + ((nI 9) * (z.1 30 (nI 2).toNatClampNeg))) + (nI 3)).toNatClampNeg v10) 30 (((nI 17) + ((nI 9) * (z.1 30 (nI 2).toNatClampNeg))) + (nI 4)).toNatClampNeg v12) 30 (nI 4).toNatClampNeg (((setA (setA (setA (setA (setA z 30 ((nI 17) + ((nI 9) * (z.1 30 (nI 2).toNatClampNeg))).toNatClampNeg a1) 30 (((nI 17) + ((nI 9) * (z.1 30 (nI 2).toNatClampNeg))) + (nI 1)).toNatClampNeg a2) 30 (((nI 17) + ((nI 9) * (z.1 30 (nI 2).toNatClampNeg))) + (nI 2)).toNatClampNeg v8) 30 (((nI 17) + ((nI 9) * (z.1 30 (nI 2).toNatClampNeg))) + (nI 3)).toNatClampNeg v10) 30 (((nI 17) + ((nI 9) * (z.1 30 (nI 2).toNatClampNeg))) + (nI 4)).toNatClampNeg v12).1 30 (nI 4).toNatClampNeg) ||| ((nI 1) <<< (((setA (setA (setA (setA (setA z 30 ((nI 17) + ((nI 9) * (z.1 30 (nI 2).toNatClampNeg))).toNatClampNeg a1) 30 (((nI 17) + ((nI 9) * (z.1 30 (nI 2).toNatClampNeg))) + (nI 1)).toNatClampNeg a2) 30 (((nI 17) + ((nI 9) * (z.1 30 (nI 2).toNatClampNeg))) + (nI 2)).toNatClampNeg v8) 30 (((nI 17) + ((nI 9) * (z.1 30 (nI 2).toNatClampNeg))) + (nI 3)).toNatClampNeg v10) 30 (((nI 17) + ((nI 9) * (z.1 30 (nI 2).toNatClampNeg))) + (nI 4)).toNatClampNeg v12).1 30 (nI 2).toNatClampNeg) &&& 31)))) 30 (nI 2).toNatClampNeg (((setA (setA (setA (setA (setA (setA z 30 ((nI 17) + ((nI 9) * (z.1 30 (nI 2).toNatClampNeg))).toNatClampNeg a1) 30 (((nI 17) + ((nI 9) * (z.1 30 (nI 2).toNatClampNeg))) + (nI 1)).toNatClampNeg a2) 30 (((nI 17) + ((nI 9) * (z.1 30 (nI 2).toNatClampNeg))) + (nI 2)).toNatClampNeg v8) 30 (((nI 17) + ((nI 9) * (z.1 30 (nI 2).toNatClampNeg))) + (nI 3)).toNatClampNeg v10) 30 (((nI 17) + ((nI 9) * (z.1 30 (nI 2).toNatClampNeg))) + (nI 4)).toNatClampNeg v12) 30 (nI 4).toNatClampNeg (((setA (setA (setA (setA (setA z 30 ((nI 17) + ((nI 9) * (z.1 30 (nI 2).toNatClampNeg))).toNatClampNeg a1) 30 (((nI 17) + ((nI 9) * (z.1 30 (nI 2).toNatClampNeg))) + (nI 1)).toNatClampNeg a2) 30 (((nI 17) + ((nI 9) * (z.1 30 (nI 2).toNatClampNeg))) + (nI 2)).toNatClampNeg v8) 30 (((nI 17) + ((nI 9) * (z.1 30 (nI 2).toNatClampNeg))) + (nI 3)).toNatClampNeg v10) 30 (((nI 17) + ((nI 9) * (z.1 30 (nI 2).toNatClampNeg))) + (nI 4)).toNatClampNeg v12).1 30 (nI 4).toNatClampNeg) ||| ((nI 1) <<< (((setA (setA (setA (setA (setA z 30 ((nI 17) + ((nI 9) * (z.1 30 (nI 2).toNatClampNeg))).toNatClampNeg a1) 30 (((nI 17) + ((nI 9) * (z.1 30 (nI 2).toNatClampNeg))) + (nI 1)).toNatClampNeg a2) 30 (((nI 17) + ((nI 9) * (z.1 30 (nI 2).toNatClampNeg))) + (nI 2)).toNatClampNeg v8) 30 (((nI 17) + ((nI 9) * (z.1 30 (nI 2).toNatClampNeg))) + (nI 3)).toNatClampNeg v10) 30 (((nI 17) + ((nI 9) * (z.1 30 (nI 2).toNatClampNeg))) + (nI 4)).toNatClampNeg v12).1 30 (nI 2).toNatClampNeg) &&& 31)))).1 30 (nI 2).toNatClampNeg) + (nI 1))) else none else none else none else none else none else none else none else none else none else none else none) else (some z)
theorem j77_eq (a1 a2 : Int32) (τ : St) : J_X8_readPipe_77 a1 a2 τ = (F_X8_number (nI 0) ((τ.1 30 0) - (nI 1)) τ).bind fun z8 => (F_X8_mustSign (nI 44) z8.2).bind fun z9 => (F_X8_number (nI 1) (nI 4) z9).bind fun z10 => (F_X8_mustSign (nI 44) z10.2).bind fun z11 => (F_X8_number (nI 0) (nI 9) z11).bind fun z12 => (F_X8_mustSign (nI 59) z12.2).bind fun z13 => mTail a1 a2 z8.1 z10.1 z12.1 z13 := by
  unfold J_X8_readPipe_77
  rw [if_pos (by rw [ixN (by omega)]; omega)]
  rfl
theorem b_tail {z : St} (h : ¬ z.2 16 = 0) (a b c d e : Int32) : mTail a b c d e z = some z := by
  unfold mTail
  rw [if_neg h]
theorem m_tail {z : St} {k f t l e : Nat} (h : z.2 16 = nI 0) (m : MR (z.1 30) d) (w : PW d) (h7 : d 2 < 7) : mTail (nI k) (nI f) (nI t) (nI l) (nI e) z = some (mF (d 2) k f t l e z) := by
  have m2 : z.1 30 2 = nI (d 2) := m.a2
  have m4 : z.1 30 4 = nI (2 ^ d 2 - 1) := by rw [m.a3, w.2.2.2.2.1]
  have ow := or_pw (d 2) h7
  unfold mTail mF
  rw [if_pos (show z.2 16 = 0 from h)]
  simp (disch := omega) only [ixN, clN, nI_add, pk_mul, subN, divN, remN, leN, ltN, eqN, le0N, eq0N, lt0N, ge0N, gt0N, if_pos, if_neg, if_true, if_false, Option.bind_some, shrN, shlN, andN1, nI_or, andm1, modS, true_or, or_true, setF_1, setA_32, setA_get, setR_ne, setR_get, setF_ne, setF_get, setA_2, setR_2, pk_us, pk_un, m2, m4, ow]
theorem m_fillR {z : St} {k f t l e : Nat} (m : MR (z.1 30) d) (h7 : d 2 < 7) : MR ((mF (d 2) k f t l e z).1 30) (dN d k f t l e) := by
  unfold mF
  simp only [setA_get]
  exact ((((((m.upd k (by omega) (pmK _ h7)).upd f (by omega) (pmF _ h7)).upd t (by omega) (pmT _ h7)).upd l (by omega) (pmL _ h7)).upd e (by omega) (pmD _ h7)).upd (2 ^ (d 2 + 1) - 1) (i := 3) (by omega) rfl).upd (d 2 + 1) (i := 2) (by omega) rfl
theorem mF_N {z : St} {P k f t l e : Nat} : FrN z (mF P k f t l e z) := (((((((FrN.rf z).A _ _).A _ _).A _ _).A _ _).A _ _).A _ _).A _ _
theorem mF_M {z : St} {P k f t l e : Nat} (m : TM z B n p) : TM (mF P k f t l e z) B n p := (((((((m.A _ _).A _ _).A _ _).A _ _).A _ _).A _ _).A _ _)
/-- a pipe: both write down the same, or both have the same fault -/
theorem b_pipe (c : TC σ B n p) (t : TM τ B n p) (hp : p < n) (hk : kl (B p) ≠ 0) (w : PW d) (cx : CRx (σ.1 7) d) (mx : MR (τ.1 30) d) : (∃ k q σ' τ', F_X6_readPipe σ = some (nI 0, σ') ∧ FrD σ σ' ∧ BadC σ' k q ∧ F_X8_readPipe τ = some τ' ∧ FrN τ τ' ∧ BadM τ' k q) ∨ (∃ q d' σ' τ', p < q ∧ F_X6_readPipe σ = some (nI 1, σ') ∧ FrD σ σ' ∧ σ'.2 2 = σ.2 2 ∧ TC σ' B n q ∧ F_X8_readPipe τ = some τ' ∧ FrN τ τ' ∧ TM τ' B n q ∧ PW d' ∧ CRx (σ'.1 7) d' ∧ MR (τ'.1 30) d') := by
  obtain ⟨w0, w0', -, w2, -⟩ := id w
  obtain ⟨st, e15, e12⟩ := m_sort1 t hp hk
  have f2 := (t.1.2.2 p hp).2
  have kle := kl_le (B p)
  have s2 : σ.1 7 2 = nI (d 2) := cx 2 (by omega) (by omega)
  have s0 : σ.1 7 0 = nI (d 0) := cx 0 (by omega) (by omega)
  have t0 : τ.1 30 0 = nI (d 0) := mx.a0
  have t2 : τ.1 30 2 = nI (d 2) := mx.a2
  have ca : σ.2 1 = nI n := c.2.2.1
  have cb : σ.2 4 = nI p := c.2.2.2.1
  have hn := c.1
  have cf : σ.1 22 p = nI (B p) := (c.2.2.2.2 p hp).1
  have er : F_X6_readPipe σ = J_X6_readPipe_34 (nI (d 2)) (nI (kl (B p))) σ := by
    unfold F_X6_readPipe
    simp (disch := omega) only [ixN, clN, nI_add, pk_mul, subN, divN, remN, leN, ltN, eqN, le0N, eq0N, lt0N, ge0N, gt0N, if_pos, if_neg, if_true, if_false, Option.bind_some, shrN, shlN, andN1, nI_or, andm1, modS, true_or, or_true, s2, ca, cb, cf, c_letter]
  have mr : F_X8_readPipe τ = if d 2 = 7 then ((F_X8_bad (nI 3) τ).bind fun z30 => J_X8_readPipe_24 (nI (kl (B p))) z30) else J_X8_readPipe_24 (nI (kl (B p))) τ := by
    unfold F_X8_readPipe
    rw [e15, m_kindBy f2, if_neg hk, Option.bind_some, if_pos (by rw [ixN (by omega)]; omega), clN (by omega)]
    show (if τ.1 30 2 = nI 7 then _ else _) = _
    rw [t2]
    by_cases z : d 2 = 7
    · rw [if_pos (by rw [z]), if_pos z]
    · rw [if_neg (by rw [eqN (by omega) (by omega)]; exact z), if_neg z]
  have c' := c.go hp
  have fr0 : FrC σ (setF σ 4 (nI (p + 1))) := (FrC.rf σ).F _ (by omega)
  by_cases h7 : d 2 = 7
  · left
    have bb : BadM (setF (setF τ 16 (nI 3)) 17 (nI p)) 3 p := bad_M (by omega)
    refine ⟨3, p, setF (setF σ 2 (nI 3)) 3 (nI p), setF (setF τ 16 (nI 3)) 17 (nI p), ?_, (((FrC.rf σ).F _ (by omega)).F _ (by omega)).D, ⟨by rw [setF_ne (by decide), setF_get], setF_get _ _ _⟩, ?_, (bad_F 3 p).N, bb⟩
    · rw [er]
      unfold J_X6_readPipe_34
      rw [if_neg (by rw [eq0N (by omega)]; exact hk), if_neg (by rw [ltN (by omega) (by omega)]; omega), c_refuse, Option.bind_some, cb]
      exact if_pos (Or.inl rfl)
    · rw [mr, if_pos h7, m_bad t.2.2.1 t.2.2.2.1, Option.bind_some]
      exact b_J24 bb.ne _
  have h7' : d 2 < 7 := by omega
  rw [if_neg h7] at mr
  have er2 : F_X6_readPipe σ = ((F_X6_number (nI 0) (nI (d 0 - 1)) (-1 : Int32) (setF σ 4 (nI (p + 1)))).bind fun z3 => if z3.1 = (-1 : Int32) then (some ((nI 0), z3.2)) else ((F_X6_passes (nI 44) z3.2).bind fun z4 => if z4.1 = 0 then (some ((nI 0), z4.2)) else ((F_X6_number (nI 0) (nI (d 0 - 1)) z3.1 z4.2).bind fun z5 => if z5.1 = (-1 : Int32) then (some ((nI 0), z5.2)) else ((F_X6_passes (nI 44) z5.2).bind fun z6 => if z6.1 = 0 then (some ((nI 0), z6.2)) else ((F_X6_number (nI 1) (nI 4) (-1 : Int32) z6.2).bind fun z7 => if z7.1 = (-1 : Int32) then (some ((nI 0), z7.2)) else ((F_X6_passes (nI 44) z7.2).bind fun z8 => if z8.1 = 0 then (some ((nI 0), z8.2)) else ((F_X6_number (nI 0) (nI 9) (-1 : Int32) z8.2).bind fun z9 => if z9.1 = (-1 : Int32) then (some ((nI 0), z9.2)) else ((F_X6_passes (nI 59) z9.2).bind fun z10 => if z10.1 = 0 then (some ((nI 0), z10.2)) else (if ix ((nI 5) + nI (d 2)) 80 then if ix ((nI 12) + nI (d 2)) 80 then if ix ((nI 19) + nI (d 2)) 80 then if ix ((nI 26) + nI (d 2)) 80 then if ix ((nI 33) + nI (d 2)) 80 then if ix (nI 2) 80 then some ((nI 1), setA (setA (setA (setA (setA (setA z10.2 7 ((nI 5) + nI (d 2)).toNatClampNeg (nI (kl (B p)))) 7 ((nI 12) + nI (d 2)).toNatClampNeg z3.1) 7 ((nI 19) + nI (d 2)).toNatClampNeg z5.1) 7 ((nI 26) + nI (d 2)).toNatClampNeg z7.1) 7 ((nI 33) + nI (d 2)).toNatClampNeg z9.1) 7 (nI 2).toNatClampNeg (nI (d 2) + (nI 1))) else none else none else none else none else none else none))))))))) := by
    rw [er]
    unfold J_X6_readPipe_34
    rw [if_neg (by rw [eq0N (by omega)]; exact hk), if_pos (by rw [ltN (by omega) (by omega)]; omega), if_pos (by rw [ixN (by omega)]; omega), clN (by omega), cb, setF_1, s0, nI_add, subN (by omega)]
  obtain ⟨τ1, mu1, mu2, mu3⟩ := m_must1 t e12 (by omega)
  have u0 : τ1.1 30 0 = nI (d 0) := by rw [mu2.1]; exact t0
  have u0' : τ1.1 30 0 - nI 1 = nI (d 0 - 1) := by rw [u0, subN (by omega)]
  rw [j24_eq, mu1, Option.bind_some, u0'] at mr
  have hh : d 0 - 1 < 1000 := by omega
  rcases b_nm (lo := 0) (hi := d 0 - 1) c' mu3 (by omega) hh with ⟨k, σ2, τ2, c1, c2, c3, d1, d2, d3⟩ | ⟨f, q, σ2, τ2, hv1, hv2, hq, c1, c2k, c3, d1, d2, d3⟩
  · have hb := d3.ne
    refine Or.inl ⟨k, _, σ2, τ2, er2.trans ?_, (fr0.tr c2).D, c3, ?_, (mu2.tr d2).N, d3⟩
    · rw [c1, Option.bind_some]
      exact if_pos rfl
    · have ck : ∀ g, chk g τ2 = some τ2 := fun g => by
        unfold chk
        rw [if_neg hb]
      rw [mr, d1, Option.bind_some, b_sign (by exact hb), Option.bind_some, ck, Option.bind_some]
      exact b_J77 hb _ _
  have c2 := c2k.C
  rw [c1, Option.bind_some] at er2
  rw [d1, Option.bind_some] at mr
  have nf := nm1 (n := f) (by omega)
  simp only [if_neg nf] at er2
  rcases b_sg (ch := 44) c3 d3 (by omega) with ⟨σ3, τ3, e1, e2, e3, f1, f2, f3⟩ | ⟨σ3, τ3, e1, e2k, e3, f1, f2, f3⟩
  · have hb := f3.ne
    refine Or.inl ⟨1, _, σ3, τ3, er2.trans ?_, (fr0.tr (c2.tr e2)).D, e3, ?_, (mu2.tr (d2.tr f2)).N, f3⟩
    · rw [e1, bt0]
    · have ck : ∀ g, chk g τ3 = some τ3 := fun g => by
        unfold chk
        rw [if_neg hb]
      rw [mr, f1, Option.bind_some, ck, Option.bind_some]
      exact b_J77 hb _ _
  have e2 := e2k.C
  rw [e1, bt1] at er2
  rw [f1, Option.bind_some] at mr
  have x3 : τ3.1 30 0 - nI 1 = nI (d 0 - 1) := by rw [f2.1, d2.1, u0']
  rcases b_to (hi := d 0 - 1) (f := f) e3 f3 hh hv2 with ⟨k, σ4, τ40, τ4, g1, g2, g3, h0, h00, h1, h2, h3⟩ | ⟨v, r, σ4, τ4, hr1, hr2, g1, g2k, g3, h0, h1, h2, h3⟩
  · have hb := h3.ne
    refine Or.inl ⟨k, _, σ4, τ4, er2.trans ?_, (fr0.tr (c2.tr (e2.tr g2))).D, g3, ?_, (mu2.tr (d2.tr (f2.tr h2))).N, h3⟩
    · rw [g1, Option.bind_some]
      exact if_pos rfl
    · rw [mr, h0, Option.bind_some, j77_eq, show τ40.1 30 0 = τ3.1 30 0 by rw [h00.1], x3, h1, Option.bind_some, b_sign (by exact hb), Option.bind_some, b_number (by exact hb), Option.bind_some, b_sign (by exact hb), Option.bind_some, b_number (by exact hb), Option.bind_some, b_sign (by exact hb), Option.bind_some]
      exact b_tail hb _ _ _ _ _
  have g2 := g2k.C
  rw [g1, Option.bind_some] at er2
  rw [h0, Option.bind_some, j77_eq, x3, h1, Option.bind_some] at mr
  have nv := nm1 (n := v) (by omega)
  simp only [if_neg nv] at er2
  rcases b_sg (ch := 44) g3 h3 (by omega) with ⟨σ5, τ5, i1, i2, i3, j1, j2, j3⟩ | ⟨σ5, τ5, i1, i2k, i3, j1, j2, j3⟩
  · have hb := j3.ne
    refine Or.inl ⟨1, _, σ5, τ5, er2.trans ?_, (fr0.tr (c2.tr (e2.tr (g2.tr i2)))).D, i3, ?_, (mu2.tr (d2.tr (f2.tr (h2.tr j2)))).N, j3⟩
    · rw [i1, bt0]
    · rw [mr, j1, Option.bind_some, b_number (by exact hb), Option.bind_some, b_sign (by exact hb), Option.bind_some, b_number (by exact hb), Option.bind_some, b_sign (by exact hb), Option.bind_some]
      exact b_tail hb _ _ _ _ _
  have i2 := i2k.C
  rw [i1, bt1] at er2
  rw [j1, Option.bind_some] at mr
  rcases b_nm (lo := 1) (hi := 4) i3 j3 (by omega) (by omega) with ⟨k, σ6, τ6, k1, k2, k3, l1, l2, l3⟩ | ⟨l, s, σ6, τ6, hl1, hl2, hs, k1, k2k, k3, l1, l2, l3⟩
  · have hb := l3.ne
    refine Or.inl ⟨k, _, σ6, τ6, er2.trans ?_, (fr0.tr (c2.tr (e2.tr (g2.tr (i2.tr k2))))).D, k3, ?_, (mu2.tr (d2.tr (f2.tr (h2.tr (j2.tr l2))))).N, l3⟩
    · rw [k1, Option.bind_some]
      exact if_pos rfl
    · rw [mr, l1, Option.bind_some, b_sign (by exact hb), Option.bind_some, b_number (by exact hb), Option.bind_some, b_sign (by exact hb), Option.bind_some]
      exact b_tail hb _ _ _ _ _
  have k2 := k2k.C
  rw [k1, Option.bind_some] at er2
  rw [l1, Option.bind_some] at mr
  have nl := nm1 (n := l) (by omega)
  simp only [if_neg nl] at er2
  rcases b_sg (ch := 44) k3 l3 (by omega) with ⟨σ7, τ7, o1, o2, o3, p1, p2, p3⟩ | ⟨σ7, τ7, o1, o2k, o3, p1, p2, p3⟩
  · have hb := p3.ne
    refine Or.inl ⟨1, _, σ7, τ7, er2.trans ?_, (fr0.tr (c2.tr (e2.tr (g2.tr (i2.tr (k2.tr o2)))))).D, o3, ?_, (mu2.tr (d2.tr (f2.tr (h2.tr (j2.tr (l2.tr p2)))))).N, p3⟩
    · rw [o1, bt0]
    · rw [mr, p1, Option.bind_some, b_number (by exact hb), Option.bind_some, b_sign (by exact hb), Option.bind_some]
      exact b_tail hb _ _ _ _ _
  have o2 := o2k.C
  rw [o1, bt1] at er2
  rw [p1, Option.bind_some] at mr
  rcases b_nm (lo := 0) (hi := 9) o3 p3 (by omega) (by omega) with ⟨k, σ8, τ8, q1, q2, q3, r1, r2, r3⟩ | ⟨e, y, σ8, τ8, he1, he2, hy, q1, q2k, q3, r1, r2, r3⟩
  · have hb := r3.ne
    refine Or.inl ⟨k, _, σ8, τ8, er2.trans ?_, (fr0.tr (c2.tr (e2.tr (g2.tr (i2.tr (k2.tr (o2.tr q2))))))).D, q3, ?_, (mu2.tr (d2.tr (f2.tr (h2.tr (j2.tr (l2.tr (p2.tr r2))))))).N, r3⟩
    · rw [q1, Option.bind_some]
      exact if_pos rfl
    · rw [mr, r1, Option.bind_some, b_sign (by exact hb), Option.bind_some]
      exact b_tail hb _ _ _ _ _
  have q2 := q2k.C
  rw [q1, Option.bind_some] at er2
  rw [r1, Option.bind_some] at mr
  have ne := nm1 (n := e) (by omega)
  simp only [if_neg ne] at er2
  have frc := fr0.tr (c2.tr (e2.tr (g2.tr (i2.tr (k2.tr (o2.tr q2))))))
  have frm := mu2.tr (d2.tr (f2.tr (h2.tr (j2.tr (l2.tr (p2.tr r2))))))
  rcases b_sg (ch := 59) q3 r3 (by omega) with ⟨σ9, τ9, v1, v2, v3, x1, x2, x3⟩ | ⟨σ9, τ9, v1, v2k, v3, x1, x2, x3⟩
  · have hb := x3.ne
    refine Or.inl ⟨1, _, σ9, τ9, er2.trans ?_, (frc.tr v2).D, v3, ?_, (frm.tr x2).N, x3⟩
    · rw [v1, bt0]
    · rw [mr, x1, Option.bind_some]
      exact b_tail hb _ _ _ _ _
  · have v2 := v2k.C
    have mx9 : MR (τ9.1 30) d := by rw [(frm.tr x2).1]; exact mx
    have cx9 : CRx (σ9.1 7) d := by rw [(frc.tr v2).1]; exact cx
    refine Or.inr ⟨_, dN d (kl (B p)) f v l e, setA (setA (setA (setA (setA (setA σ9 7 (5 + d 2) (nI (kl (B p)))) 7 (12 + d 2) (nI f)) 7 (19 + d 2) (nI v)) 7 (26 + d 2) (nI l)) 7 (33 + d 2) (nI e)) 7 2 (nI (d 2 + 1)), mF (d 2) (kl (B p)) f v l e τ9, ?_, er2.trans ?_, ((((((frc.tr v2).D.A _ _).A _ _).A _ _).A _ _).A _ _).A _ _, ((FrK.to σ _).tr (c2k.tr (e2k.tr (g2k.tr (i2k.tr (k2k.tr (o2k.tr (q2k.tr v2k)))))))).2 2 (by decide), (((((v3.A _ _).A _ _).A _ _).A _ _).A _ _).A _ _, ?_, (frm.tr x2).N.tr mF_N, mF_M x3, dN_wf w h7' (by omega) (by omega) (by omega) (by omega) (by omega), c_fillR cx9, m_fillR mx9 h7'⟩
    · omega
    · rw [v1, bt1]
      exact c_fill h7' σ9
    · rw [mr, x1, Option.bind_some]
      exact m_tail x3.2.2.1 mx9 w h7'
end TAPE5
