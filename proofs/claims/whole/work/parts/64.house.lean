/-! house -/
section HOUSE
variable {σ : St}
theorem c_readInto {a : Int32} {σ' : St} (ha : a = nI 0 ∨ a = nI 1) : ((F_X4_allPipes 6 σ').bind fun z8 => if ix (nI 3) 80 then if (a = 0 ∨ a = 1) then some (a, setA z8.2 7 (nI 3).toNatClampNeg z8.1) else none else none) = some (a, setA σ' 7 3 (((nI 1) <<< ((σ'.1 7 2) &&& 31)) - (nI 1))) := by
  unfold F_X4_allPipes
  rw [if_pos (by rw [ixN (by omega)]; omega), Option.bind_some, if_pos (by rw [ixN (by omega)]; omega), if_pos (show a = 0 ∨ a = 1 from ha), clN (by omega), clN (by omega)]
theorem e_house (i : Inv σ) : Ag (F_X7_house σ) F_X8_house := by
  obtain ⟨⟨h, iN⟩, iR, ⟨⟨n, hn, a1, a11, ab⟩, fl⟩, iA, iI, iB, iS⟩ := id i
  have hf := fuel_ge
  -- the bytes
  let B : Nat → Nat := fun j => (σ.1 22 j).toNatClampNeg
  have hB : ∀ j, j < n → σ.1 22 j = nI (B j) ∧ B j < 256 := fun j hj => by
    obtain ⟨e, b, hb, eb⟩ := ab j hj
    have : B j = b := by
      show (σ.1 22 j).toNatClampNeg = b
      rw [eb, clN (by omega)]
    rw [this]
    exact ⟨eb, hb⟩
  -- the class begins
  obtain ⟨f', cl1, cl2⟩ := n_clear (r := 6) (σ := σ) (o := σ.1 8) (σ.1 7)
  have ee : st2 6 σ (σ.1 7) (σ.1 8) = σ := st2_eta 6 σ
  rw [ee] at cl1
  let ρ : St := setF (st2 6 σ f' (σ.1 8)) 4 (nI 0)
  have ρ7 : ρ.1 7 = f' := st2_a 6 σ f' (σ.1 8)
  have ρk : ∀ k, k ≠ 7 → ρ.1 k = σ.1 k := fun k hk => by
    show (st2 6 σ f' (σ.1 8)).1 k = σ.1 k
    by_cases z : k = 8
    · rw [z]
      exact st2_b 6 σ f' (σ.1 8)
    · exact st2_k hk z
  have ρf : ∀ j, j ≠ 4 → ρ.2 j = σ.2 j := fun j hj => setF_ne hj
  have tc : TC ρ B n 0 := ⟨hn, by omega, by rw [ρf 1 (by omega)]; exact a1, setF_get _ _ _, by rw [ρk 22 (by omega)]; exact hB⟩
  -- the reference begins, at any state that holds the same tape
  have beg : ∀ υ : St, υ.1 33 = σ.1 33 → υ.2 11 = σ.2 11 → ∃ τ, F_X8_house υ = mLaw mRest τ ∧ TM τ B n 0 ∧ (∀ j, j < 80 → τ.1 30 j = nI 0) ∧ FrN (setF υ 8 (nI 0)) τ := fun υ u1 u2 => by
    let υ0 : St := setF (setF (setF υ 8 (nI 0)) 12 (nI 0)) 16 (nI 0)
    have f0 : FrT (setF υ 8 (nI 0)) υ0 := ((FrT.rf _).F _ (by omega)).F _ (by omega)
    have tb : TB υ0 B n := ⟨hn, by
      show (setF (setF (setF υ 8 (nI 0)) 12 (nI 0)) 16 (nI 0)).2 11 = _
      rw [setF_ne (by decide), setF_ne (by decide), setF_ne (by decide), u2]; exact a11, fun j hj => by
      show υ.1 33 j = _ ∧ _
      rw [u1, ← (ab j hj).1]
      exact hB j hj⟩
    obtain ⟨τ0, t1, t2, t3⟩ := m_token (p := 0) tb (by
      show (setF (setF (setF υ 8 (nI 0)) 12 (nI 0)) 16 (nI 0)).2 12 = _
      rw [setF_ne (by decide), setF_get]) (by omega) (setF_get _ _ _)
    obtain ⟨w, l1, l2, -⟩ := m_clear30 80 fuel 0 τ0 (by omega) (by omega)
    refine ⟨setR τ0 30 w, ?_, t2.R w, fun j hj => ?_, (f0.tr t3).N.tr ⟨fun k hk => setR_ne hk, fun j _ => rfl⟩⟩
    · have bg : F_X8_begin (setF υ 8 (nI 0)) = some τ0 := by
        unfold F_X8_begin
        show (F_X8_nextToken υ0).bind _ = _
        rw [t1, Option.bind_some]
      rw [house_eq, bg, Option.bind_some, l1]
    · rw [setR_get]
      exact l2 j hj (by omega)
  -- what both share, once read
  have pro : ∀ (σ' : St) (x : Int32) (υ : St), FrD ρ σ' → υ = setF (setA σ' 7 3 x) 1 (nI 0) → (∀ k, k ≠ 7 → υ.1 k = σ.1 k) ∧ (∀ j, j ≠ 1 → j ≠ 2 → j ≠ 3 → j ≠ 4 → υ.2 j = σ.2 j) := fun σ' x υ fd e => by
    subst e
    refine ⟨fun k hk => ?_, fun j h1 h2 h3 h4 => ?_⟩
    · rw [setF_1, setA_32 hk, fd.1 k hk, ρk k hk]
    · rw [setF_ne h1]
      show σ'.2 j = _
      rw [fd.2 j h2 h3 h4, ρf j h4]
  obtain ⟨τ₀, -, tm0, z0, -⟩ := beg σ rfl rfl
  -- the class's reading does not look at the reference's state: read it beside σ first, then beside its own end
  have key : ∀ τ : St, TM τ B n 0 → (∀ j, j < 80 → τ.1 30 j = nI 0) → _ := fun τ t z => b_read tc t (fun j hj => by rw [ρ7]; exact cl2 j hj) z
  have rd : ∀ (a : Int32) (σ' : St), (a = nI 0 ∨ a = nI 1) → (∀ K, ((F_X6_readLaw ρ).bind fun z2 => L_X6_readInto_17 K fuel z2.1 (nI 0) z2.2) = K a σ') → F_X6_readInto σ = some (a, setA σ' 7 3 (((nI 1) <<< ((σ'.1 7 2) &&& 31)) - (nI 1))) := fun a σ' ha hK => by
    unfold F_X6_readInto
    rw [cl1, Option.bind_some]
    show ((F_X6_readLaw ρ).bind fun z2 => L_X6_readInto_17 _ fuel z2.1 (nI 0) z2.2) = _
    rw [hK]
    exact c_readInto ha
  have bad : ∀ (k q : Nat) (σ' : St), (∀ K, ((F_X6_readLaw ρ).bind fun z2 => L_X6_readInto_17 K fuel z2.1 (nI 0) z2.2) = K (nI 0) σ') → BadC σ' k q → F_X7_house σ = some ((-1000100 : Int32) - nI q, setF (setA σ' 7 3 (((nI 1) <<< ((σ'.1 7 2) &&& 31)) - (nI 1))) 1 (nI 0)) := fun k q σ' hK hb => by
    unfold F_X7_house
    rw [rd _ _ (Or.inl rfl) hK, bt0]
    show some ((-1000100 : Int32) - (setF (setA σ' 7 3 (((nI 1) <<< ((σ'.1 7 2) &&& 31)) - (nI 1))) 1 (nI 0)).2 3, _) = _
    rw [setF_ne (by decide)]
    show some ((-1000100 : Int32) - σ'.2 3, _) = _
    rw [hb.2]
  have inj : ∀ (a b : Int32) (s u : St), (∀ K, ((F_X6_readLaw ρ).bind fun z2 => L_X6_readInto_17 K fuel z2.1 (nI 0) z2.2) = K a s) → (∀ K, ((F_X6_readLaw ρ).bind fun z2 => L_X6_readInto_17 K fuel z2.1 (nI 0) z2.2) = K b u) → a = b ∧ s = u := fun a b s u h1 h2 => by
    have h3 := (h1 (fun a s => some (a, s))).symm.trans (h2 (fun a s => some (a, s)))
    have h4 := Option.some.inj h3
    exact ⟨congrArg Prod.fst h4, congrArg Prod.snd h4⟩
  rcases key τ₀ tm0 z0 with ⟨k, q, σ', -, r1, r2, r3, -⟩ | ⟨d', σ', -, r1, r2, r4, -, -, -, -, r3, -⟩
  · -- a fault
    let υ : St := setF (setA σ' 7 3 (((nI 1) <<< ((σ'.1 7 2) &&& 31)) - (nI 1))) 1 (nI 0)
    obtain ⟨pk, pf⟩ := pro σ' _ υ r2 rfl
    obtain ⟨τ, g1, g2, g3, g4⟩ := beg υ (pk 33 (by omega)) (pf 11 (by omega) (by omega) (by omega) (by omega))
    rcases key τ g2 g3 with ⟨k1, q1, σ1, τ1, s1, s2, s3, s4, s5, s6⟩ | ⟨d1, σ1, τ1, s1, -⟩
    · obtain ⟨-, rfl⟩ := inj _ _ _ _ r1 s1
      have fin : ∃ τ2, mEnd τ1 = some ((-1000100 : Int32) - nI q1, setF (setF τ2 11 (nI 0)) 18 (nI k1)) ∧ FrN τ1 τ2 := by
        rcases s6 with y | ⟨rfl, y1, y2⟩
        · exact ⟨τ1, m_fail y, FrN.rf τ1⟩
        · exact ⟨_, m_fail' y2 y1, (bad_F 1 q1).N⟩
      obtain ⟨τ2, m1, m2⟩ := fin
      have fr := g4.tr (s5.tr m2)
      have fk : ∀ k, k ≠ 7 → k ≠ 30 → (setF (setF τ2 11 (nI 0)) 18 (nI k1)).1 k = σ.1 k := fun k h1 h2 => by
        rw [setF_1, setF_1, fr.1 k h2, setF_1, pk k h1]
      have ff : ∀ j, j = 0 ∨ j = 5 ∨ j = 6 ∨ j = 7 ∨ j = 9 ∨ j = 10 ∨ j = 19 → (setF (setF τ2 11 (nI 0)) 18 (nI k1)).2 j = σ.2 j := fun j hj => by
        rw [setF_ne (by omega), setF_ne (by omega), fr.2 j (by omega), setF_ne (by omega), pf j (by omega) (by omega) (by omega) (by omega)]
      refine ⟨(-1000100 : Int32) - nI q1, υ, setF (setF τ2 11 (nI 0)) 18 (nI k1), bad k1 q1 σ' s1 s3, g1.trans (s4.trans m1), ⟨h, iN.fr (fk 4 (by omega) (by omega)) (fk 29 (by omega) (by omega))⟩, iR.fr (fun k hk => fk k (by omega) (by omega)), ⟨⟨0, by omega, ?_, ?_, fun j hj => by omega⟩, ?_⟩, iA.fr (fk 32 (by omega) (by omega)) (fun k h1 h2 => fk k (by omega) (by omega)) (fun j hj => ff j (by omega)), iI.fr (fun k hk => fk k (by omega) (by omega)), iB.fr (fk 24 (by omega) (by omega)) (fk 37 (by omega) (by omega)) (fun j hj => ff j (by omega)), iS.fr (fun j hj => ff j (by omega))⟩
      · rw [setF_ne (by decide), setF_ne (by decide), fr.2 1 (by omega), setF_ne (by decide)]
        exact setF_get _ _ _
      · rw [setF_ne (by decide), setF_get]
      · rw [setF_get, setF_ne (by decide), setF_ne (by decide), fr.2 2 (by omega), setF_ne (by decide)]
        show (setF (setA σ' 7 3 (((nI 1) <<< ((σ'.1 7 2) &&& 31)) - (nI 1))) 1 (nI 0)).2 2 = _
        rw [setF_ne (by decide)]
        exact s3.1
    · exact absurd (inj _ _ _ _ r1 s1).1 (by decide)
  · -- a house
    let υ1 : St := setF (setA σ' 7 3 (((nI 1) <<< ((σ'.1 7 2) &&& 31)) - (nI 1))) 1 (nI 0)
    obtain ⟨pk, pf⟩ := pro σ' _ υ1 r2 rfl
    let υ : St := setF (cpyA υ1 7 0 4 0 80) 6 (nI 0)
    have uk : ∀ k, k ≠ 7 → k ≠ 4 → υ.1 k = σ.1 k := fun k h1 h2 => by
      show (setR υ1 4 _).1 k = _
      rw [setR_ne h2, pk k h1]
    have uf : ∀ j, j ≠ 1 → j ≠ 2 → j ≠ 3 → j ≠ 4 → j ≠ 6 → υ.2 j = σ.2 j := fun j h1 h2 h3 h4 h6 => by
      show (setF (cpyA υ1 7 0 4 0 80) 6 (nI 0)).2 j = _
      rw [setF_ne h6]
      exact pf j h1 h2 h3 h4
    obtain ⟨τ, g1, g2, g3, g4⟩ := beg υ (uk 33 (by omega) (by omega)) (uf 11 (by omega) (by omega) (by omega) (by omega) (by omega))
    rcases key τ g2 g3 with ⟨k1, q1, σ1, τ1, s1, -⟩ | ⟨d, σ1, τ1, s1, s2, s7, s3, s4, s5, s6, cx, mx⟩
    · exact absurd (inj _ _ _ _ r1 s1).1 (by decide)
    · obtain ⟨-, rfl⟩ := inj _ _ _ _ r1 s1
      obtain ⟨w, m1, m2⟩ := m_good s5 mx
      have h7 := s6.2.2.2.1
      have c2 : σ'.1 7 2 = nI (d 2) := cx 2 (by omega) (by omega)
      have x3 : ((nI 1) <<< ((σ'.1 7 2) &&& 31)) - (nI 1) = nI (2 ^ d 2 - 1) := by
        rw [c2, shlN (by omega), subN (Nat.two_pow_pos _)]
      have cr : CR (υ.1 4) d := fun j hj => by
        show (setR υ1 4 (va_cpy (υ1.1 7) (υ1.1 4) 0 0 80)).1 4 j = _
        rw [setR_get, sb_cpy0 hj]
        show (setA σ' 7 3 _).1 7 j = _
        rw [setA_get, x3]
        by_cases z : j = 3
        · rw [z, pk_us, s6.2.2.2.2.1]
        · rw [pk_un z]
          exact cx j hj z
      have r8 := g4.tr s4
      have fk : ∀ k, k ≠ 30 → k ≠ 29 → (setR (setF (setF (setF τ1 11 (nI 0)) 18 (τ1.2 18)) 10 (nI 0)) 29 w).1 k = υ.1 k := fun k h1 h2 => by
        rw [setR_ne h2]
        show τ1.1 k = _
        rw [r8.1 k h1]
        rfl
      have ff : ∀ j, (j < 12 ∨ 17 < j) → j ≠ 8 → j ≠ 10 → j ≠ 11 → (setR (setF (setF (setF τ1 11 (nI 0)) 18 (τ1.2 18)) 10 (nI 0)) 29 w).2 j = υ.2 j := fun j h1 h2 h3 h4 => by
        show (setF (setF (setF τ1 11 (nI 0)) 18 (τ1.2 18)) 10 (nI 0)).2 j = _
        rw [setF_ne h3]
        by_cases z : j = 18
        · rw [z, setF_get, r8.2 18 (by omega), setF_ne (by decide)]
        · rw [setF_ne z, setF_ne h4, r8.2 j h1, setF_ne h2]
      have fg : ∀ j, j = 0 ∨ j = 5 ∨ j = 7 ∨ j = 9 ∨ j = 19 ∨ j = 18 → (setR (setF (setF (setF τ1 11 (nI 0)) 18 (τ1.2 18)) 10 (nI 0)) 29 w).2 j = σ.2 j := fun j hj => by
        rw [ff j (by omega) (by omega) (by omega) (by omega), uf j (by omega) (by omega) (by omega) (by omega) (by omega)]
      have fh : ∀ k, k ≠ 30 → k ≠ 29 → k ≠ 7 → k ≠ 4 → (setR (setF (setF (setF τ1 11 (nI 0)) 18 (τ1.2 18)) 10 (nI 0)) 29 w).1 k = σ.1 k := fun k h1 h2 h3 h4 => by
        rw [fk k h1 h2, uk k h3 h4]
      have ho : F_X7_house σ = some (nI (d 2), υ) := by
        unfold F_X7_house
        rw [rd _ _ (Or.inr rfl) r1, bt1]
        show (F_X4_take 3 7 υ1).bind _ = _
        rw [n_take, Option.bind_some]
        unfold F_X0_forget
        rw [Option.bind_some, if_pos (by rw [ixN (by omega)]; omega), clN (by omega)]
        show some (υ.1 4 2, υ) = _
        rw [cr 2 (by omega)]
      obtain ⟨n0, x0, S0, -, hx0, -, -, h5, -⟩ := iA
      refine ⟨nI (d 2), υ, setR (setF (setF (setF τ1 11 (nI 0)) 18 (τ1.2 18)) 10 (nI 0)) 29 w, ho, g1.trans (s3.trans m1), ⟨d, ?_, ?_, s6.wf, ?_⟩, iR.fr (fun k hk => fh k (by omega) (by omega) (by omega) (by omega)), ⟨⟨0, by omega, ?_, ?_, fun j hj => by omega⟩, ?_⟩, ⟨0, x0, S0, by omega, hx0, ?_, ?_, ?_, fun j hj => by omega⟩, iI.fr (fun k hk => fh k (by omega) (by omega) (by omega) (by omega)), iB.fr (fh 24 (by omega) (by omega) (by omega) (by omega)) (fh 37 (by omega) (by omega) (by omega) (by omega)) (fun j hj => fg j (by omega)), iS.fr (fun j hj => fg j (by omega))⟩
      · rw [fk 4 (by omega) (by omega)]
        exact cr
      · rw [setR_get]
        exact m2
      · rw [s6.2.2.2.2.2.1]
        omega
      · rw [ff 1 (by omega) (by omega) (by omega) (by omega)]
        show (setF (cpyA υ1 7 0 4 0 80) 6 (nI 0)).2 1 = _
        rw [setF_ne (by decide)]
        exact setF_get (setA σ' 7 3 (((nI 1) <<< ((σ'.1 7 2) &&& 31)) - (nI 1))) 1 (nI 0)
      · show (setF (setF (setF τ1 11 (nI 0)) 18 (τ1.2 18)) 10 (nI 0)).2 11 = _
        rw [setF_ne (by decide), setF_ne (by decide), setF_get]
      · rw [fg 18 (by omega), ff 2 (by omega) (by omega) (by omega) (by omega), ← fl]
        show (setF (cpyA υ1 7 0 4 0 80) 6 (nI 0)).2 2 = _
        rw [setF_ne (by decide)]
        show (setF (setA σ' 7 3 (((nI 1) <<< ((σ'.1 7 2) &&& 31)) - (nI 1))) 1 (nI 0)).2 2 = _
        rw [setF_ne (by decide)]
        show σ'.2 2 = _
        rw [r4, ρf 2 (by omega)]
      · rw [ff 6 (by omega) (by omega) (by omega) (by omega)]
        exact setF_get _ _ _
      · exact setF_get (setF (setF τ1 11 (nI 0)) 18 (τ1.2 18)) 10 (nI 0)
      · rw [fg 5 (by omega)]
        exact h5
end HOUSE
