set_option maxHeartbeats 4000000 in
set_option maxRecDepth 100000 in
theorem mk_world {G0 : Gx} {A : Nat → Prop} {H : Heap} {q1 q2 : Nat} {ww xx : va_W} (h1 : P_X7 G0 q1 ww) (h2 : P_X8 G0 q2 xx) (hP : va_P G0.1 vwCl (([] ++ ww) ++ xx) H) (hD : va_D A (([] ++ ww) ++ xx)) : ∃ (ad : Nat → Nat) (σ0 : St), ad 0 = q1 ∧ ad 25 = q2 ∧ Inv σ0 ∧ va_P G0.1 vwCl (wld ((G0.1, G0.2.1, ad, G0.2.2.2) : Gx) σ0) H ∧ va_D A (wld ((G0.1, G0.2.1, ad, G0.2.2.2) : Gx) σ0) := by
  obtain ⟨a1, w1, a2, w2, a3, w3, a4, w4, a5, w5, a6, w6, a7, w7, a8, r8, ⟨b1, r1, b2, b3, f1, hf1, rfl⟩, ⟨c1, rfl⟩, ⟨n1, n2, rfl⟩, ⟨m1, m2, rfl⟩, ⟨t1, r5, rfl⟩, ⟨g1, v1, g2, v2, ⟨g3, g4, rfl⟩, ⟨g5, g6, rfl⟩, rfl⟩, ⟨s1, rfl⟩, rfl⟩ := h1
  obtain ⟨z1, z2, z3, z4, z5, z6, z7, z8, z9, z10, z11, z12, f2, hf2, rfl⟩ := h2
  obtain ⟨ad, had⟩ : ∃ ad : Nat → Nat, ad = fun k => ([q1, a1, a2, a3, n1, n2, a4, m1, m2, g1, g3, g4, g2, g5, g6, a5, a6, a7, a8, b1, b2, b3, c1, t1, s1, q2, z1, z2, z3, z4, z5, z6, z7, z8, z9, z10, z11, z12, r1 0, r1 1, r1 2, r1 3, r1 4, r1 5, r1 6, r1 7, r5 0, r5 1, r5 2, r5 3, r5 4, r5 5, r5 6, r5 7, r5 8, r5 9, r5 10, r5 11, r5 12, r5 13, r5 14, r5 15, r5 16, r5 17, r5 18, r5 19, r5 20, r5 21, r5 22, r5 23, r8 0, r8 1] : List Nat).getD k 0 := ⟨_, rfl⟩
  have e8 : orf 8 r1 = refs ((G0.1, G0.2.1, ad, G0.2.2.2) : Gx) 38 8 := orf_refs (fun i hi => by subst had; exact match i, hi with
    | 0, _ => rfl
    | 1, _ => rfl
    | 2, _ => rfl
    | 3, _ => rfl
    | 4, _ => rfl
    | 5, _ => rfl
    | 6, _ => rfl
    | 7, _ => rfl
    | _ + 8, h => absurd h (by omega))
  have e24 : orf 24 r5 = refs ((G0.1, G0.2.1, ad, G0.2.2.2) : Gx) 46 24 := orf_refs (fun i hi => by subst had; exact match i, hi with
    | 0, _ => rfl
    | 1, _ => rfl
    | 2, _ => rfl
    | 3, _ => rfl
    | 4, _ => rfl
    | 5, _ => rfl
    | 6, _ => rfl
    | 7, _ => rfl
    | 8, _ => rfl
    | 9, _ => rfl
    | 10, _ => rfl
    | 11, _ => rfl
    | 12, _ => rfl
    | 13, _ => rfl
    | 14, _ => rfl
    | 15, _ => rfl
    | 16, _ => rfl
    | 17, _ => rfl
    | 18, _ => rfl
    | 19, _ => rfl
    | 20, _ => rfl
    | 21, _ => rfl
    | 22, _ => rfl
    | 23, _ => rfl
    | _ + 24, h => absurd h (by omega))
  have e2 : orf 2 r8 = refs ((G0.1, G0.2.1, ad, G0.2.2.2) : Gx) 70 2 := orf_refs (fun i hi => by subst had; exact match i, hi with
    | 0, _ => rfl
    | 1, _ => rfl
    | _ + 2, h => absurd h (by omega))
  unfold w_X5 at hP hD
  rw [e8, e24, e2] at hP hD
  refine ⟨ad, s0 f1 f2, by rw [had]; rfl, by rw [had]; rfl, inv0 hf1 hf2, ?_, ?_⟩
  · refine hP.sub [0, 1, 13, 15, 16, 17, 18, 19, 20, 48, 49, 50, 51, 52, 53, 21, 47, 54, 56, 2, 11, 12, 14, 22, 55, 59, 60, 61, 62, 63, 64, 65, 66, 67, 68, 69, 70, 71, 3, 4, 5, 6, 7, 8, 9, 10, 23, 24, 25, 26, 27, 28, 29, 30, 31, 32, 33, 34, 35, 36, 37, 38, 39, 40, 41, 42, 43, 44, 45, 46, 57, 58] ?_
    subst had
    rfl
  · refine hD.sub [0, 1, 13, 15, 16, 17, 18, 19, 20, 48, 49, 50, 51, 52, 53, 21, 47, 54, 56, 2, 11, 12, 14, 22, 55, 59, 60, 61, 62, 63, 64, 65, 66, 67, 68, 69, 70, 71, 3, 4, 5, 6, 7, 8, 9, 10, 23, 24, 25, 26, 27, 28, 29, 30, 31, 32, 33, 34, 35, 36, 37, 38, 39, 40, 41, 42, 43, 44, 45, 46, 57, 58] (by decide +kernel) ?_
    subst had
    rfl
