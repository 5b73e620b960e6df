/-! the law of a text, and a pipe -/
/-- the same but for the class's reader and its draft -/
def FrD (σ τ : St) : Prop := (∀ k, k ≠ 7 → τ.1 k = σ.1 k) ∧ ∀ j, j ≠ 2 → j ≠ 3 → j ≠ 4 → τ.2 j = σ.2 j
/-- the same but for the reference's reader and its draft -/
def FrN (σ τ : St) : Prop := (∀ k, k ≠ 30 → τ.1 k = σ.1 k) ∧ ∀ j, (j < 12 ∨ 17 < j) → τ.2 j = σ.2 j
theorem FrC.D {σ τ : St} (f : FrC σ τ) : FrD σ τ := ⟨fun k _ => by rw [f.1], f.2⟩
theorem FrT.N {σ τ : St} (f : FrT σ τ) : FrN σ τ := ⟨fun k _ => by rw [f.1], f.2⟩
theorem FrD.rf (σ : St) : FrD σ σ := ⟨fun _ _ => rfl, fun _ _ _ _ => rfl⟩
theorem FrN.rf (σ : St) : FrN σ σ := ⟨fun _ _ => rfl, fun _ _ => rfl⟩
theorem FrD.tr {a b c : St} (h1 : FrD a b) (h2 : FrD b c) : FrD a c := ⟨fun k hk => (h2.1 k hk).trans (h1.1 k hk), fun j x y z => (h2.2 j x y z).trans (h1.2 j x y z)⟩
theorem FrN.tr {a b c : St} (h1 : FrN a b) (h2 : FrN b c) : FrN a c := ⟨fun k hk => (h2.1 k hk).trans (h1.1 k hk), fun j hj => (h2.2 j hj).trans (h1.2 j hj)⟩
theorem FrD.A {σ τ : St} (h : FrD σ τ) (i : Nat) (v : Int32) : FrD σ (setA τ 7 i v) := ⟨fun k hk => by rw [setA_32 hk]; exact h.1 k hk, h.2⟩
theorem FrN.A {σ τ : St} (h : FrN σ τ) (i : Nat) (v : Int32) : FrN σ (setA τ 30 i v) := ⟨fun k hk => by rw [setA_32 hk]; exact h.1 k hk, h.2⟩
theorem TC.A {σ : St} {B : Nat → Nat} {n p : Nat} (c : TC σ B n p) (i : Nat) (v : Int32) : TC (setA σ 7 i v) B n p := by
  obtain ⟨a, b, d, e, f⟩ := c
  exact ⟨a, b, d, e, by rw [setA_32 (by decide)]; exact f⟩
theorem TM.A {σ : St} {B : Nat → Nat} {n p : Nat} (c : TM σ B n p) (i : Nat) (v : Int32) : TM (setA σ 30 i v) B n p := by
  obtain ⟨⟨a, b, d⟩, e⟩ := c
  exact ⟨⟨a, b, by rw [setA_32 (by decide)]; exact d⟩, e⟩
theorem BadM.A {σ : St} {k q : Nat} (c : BadM σ k q) (i : Nat) (v : Int32) : BadM (setA σ 30 i v) k q := c
/-- the reference's reading of a text's law -/
noncomputable def mLaw (K : St → Option (Int32 × St)) (σ : St) : Option (Int32 × St) := (F_X8_isLetter (nI 109) σ).bind fun z4 => (F_X8_must z4.1 z4.2).bind fun z5 => (F_X8_number (nI 2) (nI 6) z5).bind fun z6 => if ix (nI 0) 80 then (F_X8_mustSign (nI 44) (setA z6.2 30 (nI 0).toNatClampNeg z6.1)).bind fun z8 => (F_X8_number (nI 0) (nI 9) z8).bind fun z9 => if ix (nI 1) 80 then (F_X8_mustSign (nI 59) (setA z9.2 30 (nI 1).toNatClampNeg z9.1)).bind fun z11 => K z11 else none else none
noncomputable def mEnd (σ : St) : Option (Int32 × St) := (F_X8_failed σ).bind fun z23 => if z23.1 = 0 then (L_X8_house_126 (fun σ => if ix (nI 2) 80 then some (σ.1 29 (nI 2).toNatClampNeg, σ) else none) fuel (nI 0) (setF z23.2 10 (nI 0))) else (some ((-1000100 : Int32) - (z23.2.2 17), z23.2))
noncomputable def mRest (z11 : St) : Option (Int32 × St) := (F_X8_isSort z11).bind fun z12 => if z12.1 = 0 then ((F_X8_bad (nI 1) z12.2).bind fun z22 => L_X8_house_90 mEnd fuel z22) else (L_X8_house_90 mEnd fuel z12.2)
theorem house_eq (σ : St) : F_X8_house σ = (F_X8_begin (setF σ 8 (nI 0))).bind fun z1 => L_X8_house_11 (mLaw mRest) fuel (nI 0) z1 := rfl
section TAPE4
variable {σ τ : St} {B : Nat → Nat} {n p : Nat}
theorem mLaw_eq (K : St → Option (Int32 × St)) (σ : St) : mLaw K σ = ((F_X8_isLetter (nI 109) σ).bind fun z => F_X8_must z.1 z.2).bind fun z5 => (F_X8_number (nI 2) (nI 6) z5).bind fun z6 => (F_X8_mustSign (nI 44) (setA z6.2 30 0 z6.1)).bind fun z8 => (F_X8_number (nI 0) (nI 9) z8).bind fun z9 => (F_X8_mustSign (nI 59) (setA z9.2 30 1 z9.1)).bind fun z11 => K z11 := by
  unfold mLaw
  simp (disch := omega) only [ixN, clN, if_pos, Option.bind_assoc]
theorem b_law (c : TC σ B n p) (t : TM τ B n p) : (∃ k q σ' τ', F_X6_readLaw σ = some (nI 0, σ') ∧ FrD σ σ' ∧ BadC σ' k q ∧ (∀ K, mLaw K τ = K τ') ∧ FrN τ τ' ∧ BadM τ' k q) ∨ (∃ v l q σ' τ', 2 ≤ v ∧ v ≤ 6 ∧ l ≤ 9 ∧ F_X6_readLaw σ = some (nI 1, σ') ∧ FrD σ σ' ∧ σ'.2 2 = σ.2 2 ∧ TC σ' B n q ∧ σ'.1 7 = upd (upd (σ.1 7) 0 (nI v)) 1 (nI l) ∧ (∀ K, mLaw K τ = K τ') ∧ FrN τ τ' ∧ TM τ' B n q ∧ τ'.1 30 = upd (upd (τ.1 30) 0 (nI v)) 1 (nI l)) := by
  rcases b_m c t with ⟨σ1, τ1, a1, a2, a3, b1, b2, b3⟩ | ⟨σ1, τ1, a1, a2k, a3, b1, b2, b3⟩
  · refine Or.inl ⟨1, p, σ1, setA (setA τ1 30 0 (nI 2)) 30 1 (nI 0), ?_, a2.D, a3, fun K => ?_, (b2.N.A _ _).A _ _, b3⟩
    · unfold F_X6_readLaw
      rw [a1, bt0]
    · have hb := b3.ne
      rw [mLaw_eq, b1, Option.bind_some, b_number hb, Option.bind_some, b_sign (by exact hb), Option.bind_some, b_number (by exact hb), Option.bind_some, b_sign (by exact hb), Option.bind_some]
  have a2 := a2k.C
  rcases b_nm (lo := 2) (hi := 6) a3 b3 (by omega) (by omega) with ⟨k, σ2, τ2, c1, c2, c3, d1, d2, d3⟩ | ⟨v, q, σ2, τ2, hv1, hv2, hq, c1, c2k, c3, d1, d2, d3⟩
  · refine Or.inl ⟨k, _, σ2, setA (setA τ2 30 0 (nI 2)) 30 1 (nI 0), ?_, (a2.tr c2).D, c3, fun K => ?_, ((b2.tr d2).N.A _ _).A _ _, d3⟩
    · unfold F_X6_readLaw
      rw [a1, bt1, c1, Option.bind_some]
      exact if_pos rfl
    · have hb := d3.ne
      rw [mLaw_eq, b1, Option.bind_some, d1, Option.bind_some, b_sign (by exact hb), Option.bind_some, b_number (by exact hb), Option.bind_some, b_sign (by exact hb), Option.bind_some]
  have c2 := c2k.C
  rcases b_sg (ch := 44) c3 (d3.A 0 (nI v)) (by omega) with ⟨σ3, τ3, e1, e2, e3, f1, f2, f3⟩ | ⟨σ3, τ3, e1, e2k, e3, f1, f2, f3⟩
  · refine Or.inl ⟨1, _, σ3, setA τ3 30 1 (nI 0), ?_, (a2.tr (c2.tr e2)).D, e3, fun K => ?_, (((b2.tr d2).N.A 0 (nI v)).tr f2.N).A _ _, f3⟩
    · unfold F_X6_readLaw
      rw [a1, bt1, c1, Option.bind_some]
      show (if nI v = -1 then _ else (F_X6_passes (nI 44) σ2).bind _) = _
      rw [if_neg (nm1 (by omega)), e1, bt0]
    · have hb := f3.ne
      rw [mLaw_eq, b1, Option.bind_some, d1, Option.bind_some, f1, Option.bind_some, b_number (by exact hb), Option.bind_some, b_sign (by exact hb), Option.bind_some]
  have e2 := e2k.C
  rcases b_nm (lo := 0) (hi := 9) e3 f3 (by omega) (by omega) with ⟨k, σ4, τ4, g1, g2, g3, h1, h2, h3⟩ | ⟨l, r, σ4, τ4, hl1, hl2, hr, g1, g2k, g3, h1, h2, h3⟩
  · refine Or.inl ⟨k, _, σ4, setA τ4 30 1 (nI 0), ?_, (a2.tr (c2.tr (e2.tr g2))).D, g3, fun K => ?_, (((b2.tr d2).N.A 0 (nI v)).tr (f2.tr h2).N).A _ _, h3⟩
    · unfold F_X6_readLaw
      rw [a1, bt1, c1, Option.bind_some]
      show (if nI v = -1 then _ else (F_X6_passes (nI 44) σ2).bind _) = _
      rw [if_neg (nm1 (by omega)), e1, bt1, g1, Option.bind_some]
      exact if_pos rfl
    · have hb := h3.ne
      rw [mLaw_eq, b1, Option.bind_some, d1, Option.bind_some, f1, Option.bind_some, h1, Option.bind_some, b_sign (by exact hb), Option.bind_some]
  have g2 := g2k.C
  have cl : ∀ P, (((F_X6_passes (nI 59) σ4).bind fun z5 => if z5.1 = 0 then (some ((nI 0), z5.2)) else (if ix (nI 0) 80 then if ix (nI 1) 80 then some ((nI 1), setA (setA z5.2 7 (nI 0).toNatClampNeg (nI v)) 7 (nI 1).toNatClampNeg (nI l)) else none else none)) = P) → F_X6_readLaw σ = P := fun P hP => by
    rw [← hP]
    unfold F_X6_readLaw
    rw [a1, bt1, c1, Option.bind_some]
    show (if nI v = -1 then _ else (F_X6_passes (nI 44) σ2).bind _) = _
    rw [if_neg (nm1 (by omega)), e1, bt1, g1, Option.bind_some]
    show (if nI l = -1 then _ else _) = _
    rw [if_neg (nm1 (by omega))]
  have ml : ∀ K, mLaw K τ = (F_X8_mustSign (nI 59) (setA τ4 30 1 (nI l))).bind fun z11 => K z11 := fun K => by
    rw [mLaw_eq, b1, Option.bind_some, d1, Option.bind_some, f1, Option.bind_some, h1, Option.bind_some]
  have fm : FrN τ (setA τ4 30 1 (nI l)) := (((b2.tr d2).N.A 0 (nI v)).tr (f2.tr h2).N).A _ _
  rcases b_sg (ch := 59) g3 (h3.A 1 (nI l)) (by omega) with ⟨σ5, τ5, i1, i2, i3, j1, j2, j3⟩ | ⟨σ5, τ5, i1, i2k, i3, j1, j2, j3⟩
  · refine Or.inl ⟨1, _, σ5, τ5, cl _ ?_, (a2.tr (c2.tr (e2.tr (g2.tr i2)))).D, i3, fun K => ?_, fm.tr j2.N, j3⟩
    · rw [i1, bt0]
    · rw [ml, j1, Option.bind_some]
  · have i2 := i2k.C
    refine Or.inr ⟨v, l, _, setA (setA σ5 7 0 (nI v)) 7 1 (nI l), τ5, hv1, hv2, hl2, cl _ ?_, ((a2.tr (c2.tr (e2.tr (g2.tr i2)))).D.A _ _).A _ _, (a2k.tr (c2k.tr (e2k.tr (g2k.tr i2k)))).2 2 (by decide), (i3.A _ _).A _ _, ?_, fun K => ?_, fm.tr j2.N, j3, ?_⟩
    · rw [i1, bt1]
      simp (disch := omega) only [ixN, clN, if_pos]
    · rw [setA_get, setA_get, i2.1, g2.1, e2.1, c2.1, a2.1]
    · rw [ml, j1, Option.bind_some]
    · rw [j2.1, setA_get, h2.1, f2.1, setA_get, d2.1, b2.1]
end TAPE4
