/-! ask -/
section ASK4
variable {σ : St} {t p d n : Nat} {h : Hs}
theorem lvC_4 (v t : Nat) (σ : St) : (lvC v t σ).1 4 = σ.1 4 := rfl
theorem gv10 (c : CS σ t h) (ht : t < 16) (hp : p < 7) (hd : d ≤ 8) : F_X1_give (n + 1) (nI 10) (nI p) (nI d) σ = some (nI (h (26 + p)), lvC 10 t σ) := by
  show F_X1_give_b _ _ _ _ _ = _
  unfold F_X1_give_b
  rw [if_pos (nI_le (by omega) (by omega)), c_leave c ht, Option.bind_some, if_pos (show nI 10 = 10 from rfl)]
  simp (disch := omega) only [ixN, clN, nI_add, pk_mul, subN, divN, remN, leN, ltN, eqN, le0N, eq0N, lt0N, ge0N, gt0N, if_pos, if_neg, if_true, if_false, Option.bind_some, shrN, shlN, andN1, nI_or, andm1, modS, true_or, or_true, lvC_4, c.2 (26 + p) (by omega)]
theorem gv20 (c : CS σ t h) (ht : t < 16) (hd : d ≤ 8) : F_X1_give (n + 1) (nI 20) (nI p) (nI d) σ = some (nI p, lvC 20 t σ) := by
  show F_X1_give_b _ _ _ _ _ = _
  unfold F_X1_give_b
  rw [if_pos (nI_le (by omega) (by omega)), c_leave c ht]
  rfl
theorem gv21 (c : CS σ t h) (ht : t < 15) (hp : p < 7) (hd : d ≤ 7) : F_X1_give (n + 2) (nI 21) (nI p) (nI d) σ = some (nI (p + h (33 + p)), lvC 20 (t + 1) (lvC 21 t σ)) := by
  show F_X1_give_b _ _ _ _ _ = _
  unfold F_X1_give_b
  rw [if_pos (nI_le (by omega) (by omega)), c_leave c (by omega)]
  show (F_X1_give (n + 1) (nI 20) (nI p) (nI d + nI 1) (lvC 21 t σ)).bind _ = _
  rw [nI_add, gv20 (c.lv 21) (by omega) (by omega), Option.bind_some]
  simp (disch := omega) only [ixN, clN, nI_add, pk_mul, subN, divN, remN, leN, ltN, eqN, le0N, eq0N, lt0N, ge0N, gt0N, if_pos, if_neg, if_true, if_false, Option.bind_some, shrN, shlN, andN1, nI_or, andm1, modS, true_or, or_true, lvC_4, c.2 (33 + p) (by omega)]
theorem gv22 (c : CS σ t h) (ht : t < 14) (hp : p < 7) (hd : d ≤ 6) : F_X1_give (n + 3) (nI 22) (nI p) (nI d) σ = some (nI (p + h (33 + p)) - nI 1000, lvC 20 (t + 2) (lvC 21 (t + 1) (lvC 22 t σ))) := by
  show F_X1_give_b _ _ _ _ _ = _
  unfold F_X1_give_b
  rw [if_pos (nI_le (by omega) (by omega)), c_leave c (by omega)]
  show (F_X1_give (n + 2) (nI 21) (nI p) (nI d + nI 1) (lvC 22 t σ)).bind _ = _
  rw [nI_add, gv21 (c.lv 22) (by omega) hp (by omega), Option.bind_some]
theorem gv24 (c : CS σ t h) (ht : t < 14) (hp : p < 7) (hd : d ≤ 6) : F_X1_give (n + 3) (nI 24) (nI p) (nI d) σ = some (nI 2 * nI (p + h (33 + p)), lvC 20 (t + 2) (lvC 21 (t + 1) (lvC 24 t σ))) := by
  show F_X1_give_b _ _ _ _ _ = _
  unfold F_X1_give_b
  rw [if_pos (nI_le (by omega) (by omega)), c_leave c (by omega)]
  show (F_X1_give (n + 2) (nI 21) (nI p) (nI d + nI 1) (lvC 24 t σ)).bind _ = _
  rw [nI_add, gv21 (c.lv 24) (by omega) hp (by omega), Option.bind_some]
theorem gv13 (c : CS σ t h) (ht : t < 15) (hp : p < 7) (hd : d ≤ 7) : F_X1_give (n + 2) (nI 13) (nI p) (nI d) σ = some (nI (h (26 + p)) - nI 100, lvC 10 (t + 1) (lvC 13 t σ)) := by
  show F_X1_give_b _ _ _ _ _ = _
  unfold F_X1_give_b
  rw [if_pos (nI_le (by omega) (by omega)), c_leave c (by omega)]
  show (F_X1_give (n + 1) (nI 10) (nI p) (nI d + nI 1) (lvC 13 t σ)).bind _ = _
  rw [nI_add, gv10 (c.lv 13) (by omega) hp (by omega), Option.bind_some]
theorem gv14 (c : CS σ t h) (ht : t < 14) (hp : p < 7) (hd : d ≤ 6) : F_X1_give (n + 3) (nI 14) (nI p) (nI d) σ = some (nI 2 * (nI (h (26 + p)) - nI 100), lvC 10 (t + 2) (lvC 13 (t + 1) (lvC 14 t σ))) := by
  show F_X1_give_b _ _ _ _ _ = _
  unfold F_X1_give_b
  rw [if_pos (nI_le (by omega) (by omega)), c_leave c (by omega)]
  show (F_X1_give (n + 2) (nI 13) (nI p) (nI d + nI 1) (lvC 14 t σ)).bind _ = _
  rw [nI_add, gv13 (c.lv 14) (by omega) hp (by omega), Option.bind_some]
theorem c_sizeG (c : CS σ t h) (hp : p < 7) {k v : Nat} (hk : h (5 + p) = k) (k5 : k ≤ 5) (hv : stV 2 k = nI v) (g : Int32 → Int32 → Int32 → St → Option (Int32 × St)) (a3 : Int32) : F_X1_sizeOf g (nI p) a3 σ = g (nI v) (nI p) a3 σ := by
  unfold F_X1_sizeOf
  simp (disch := omega) only [ixN, clN, nI_add, pk_mul, subN, divN, remN, leN, ltN, eqN, le0N, eq0N, lt0N, ge0N, gt0N, if_pos, if_neg, if_true, if_false, Option.bind_some, shrN, shlN, andN1, nI_or, andm1, modS, true_or, or_true, c.2 (5 + p) (by omega), hk, hv]
  cases g (nI v) (nI p) a3 σ with
  | none => rfl
  | some z => rfl
theorem c_markG (c : CS σ t h) (hp : p < 7) {k v : Nat} (hk : h (5 + p) = k) (k5 : k ≤ 5) (hv : stV 3 k = nI v) (g : Int32 → Int32 → Int32 → St → Option (Int32 × St)) (a3 : Int32) : F_X1_markOf g (nI p) a3 σ = g (nI v) (nI p) a3 σ := by
  unfold F_X1_markOf
  simp (disch := omega) only [ixN, clN, nI_add, pk_mul, subN, divN, remN, leN, ltN, eqN, le0N, eq0N, lt0N, ge0N, gt0N, if_pos, if_neg, if_true, if_false, Option.bind_some, shrN, shlN, andN1, nI_or, andm1, modS, true_or, or_true, c.2 (5 + p) (by omega), hk, hv]
  cases g (nI v) (nI p) a3 σ with
  | none => rfl
  | some z => rfl
theorem gv23 (c : CS σ t h) (ht : t < 10) (hp : p < 7) (hd : d ≤ 4) {v : Nat} (hk : 4 ≤ h (5 + p) ∧ h (5 + p) ≤ 5) : F_X1_give (n + 5) (nI 23) (nI p) (nI d) σ = if h (5 + p) = 4 then some (nI p - (nI (h (26 + p)) - nI 100), lvC 10 (t + 3) (lvC 13 (t + 2) (lvC 20 (t + 1) (lvC 23 t σ)))) else some (nI p - nI 2 * (nI (h (26 + p)) - nI 100), lvC 10 (t + 4) (lvC 13 (t + 3) (lvC 14 (t + 2) (lvC 20 (t + 1) (lvC 23 t σ))))) := by
  show F_X1_give_b _ _ _ _ _ = _
  unfold F_X1_give_b
  rw [if_pos (nI_le (by omega) (by omega)), c_leave c (by omega)]
  show (F_X1_give (n + 4) (nI 20) (nI p) (nI d + nI 1) (lvC 23 t σ)).bind (fun z25 => (F_X1_sizeOf (F_X1_give (n + 4)) (nI p) (nI d + nI 1) z25.2).bind fun z26 => some (z25.1 - z26.1, z26.2)) = _
  rw [nI_add, gv20 (c.lv 23) (by omega) (by omega), Option.bind_some]
  have c2 := (c.lv 23).lv 20
  by_cases k4 : h (5 + p) = 4
  · rw [if_pos k4, c_sizeG c2 hp k4 (by omega) (v := 13) rfl, gv13 c2 (by omega) hp (by omega), Option.bind_some]
  · rw [if_neg k4, c_sizeG c2 hp (k := 5) (by omega) (by omega) (v := 14) rfl, gv14 c2 (by omega) hp (by omega), Option.bind_some]
/-- the mark: what is answered, and the bodies begun -/
def mkV (h : Hs) (p : Nat) : Int32 := if h (5 + p) = 1 then nI (p + h (33 + p)) else if h (5 + p) = 2 then nI 2 * nI (p + h (33 + p)) else if h (5 + p) = 3 then nI (p + h (33 + p)) - nI 1000 else if h (5 + p) = 4 then nI p - (nI (h (26 + p)) - nI 100) else nI p - nI 2 * (nI (h (26 + p)) - nI 100)
def mkL (h : Hs) (p : Nat) : List Nat := if h (5 + p) = 1 then [21, 20] else if h (5 + p) = 2 then [24, 21, 20] else if h (5 + p) = 3 then [22, 21, 20] else if h (5 + p) = 4 then [23, 20, 13, 10] else [23, 20, 14, 13, 10]
def szV (h : Hs) (p : Nat) : Int32 := if h (5 + p) = 1 then nI (h (26 + p)) + mkV h p else if h (5 + p) = 2 then nI 0 - (nI (h (26 + p)) + mkV h p) else if h (5 + p) = 3 then nI (h (26 + p)) + mkV h p else if h (5 + p) = 4 then nI (h (26 + p)) - nI 100 else nI 2 * (nI (h (26 + p)) - nI 100)
def szL (h : Hs) (p : Nat) : List Nat := if h (5 + p) = 1 then 11 :: 10 :: mkL h p else if h (5 + p) = 2 then 12 :: 11 :: 10 :: mkL h p else if h (5 + p) = 3 then 11 :: 10 :: mkL h p else if h (5 + p) = 4 then [13, 10] else [14, 13, 10]
theorem c_mark (c : CS σ t h) (ht : t < 10) (hp : p < 7) (hd : d ≤ 4) (hk : 1 ≤ h (5 + p) ∧ h (5 + p) ≤ 5) : F_X1_markOf (F_X1_give (n + 5)) (nI p) (nI d) σ = some (mkV h p, lvsC (mkL h p) t σ) := by
  unfold mkV mkL
  by_cases k1 : h (5 + p) = 1
  · rw [if_pos k1, if_pos k1, c_markG c hp k1 (by omega) (v := 21) rfl, gv21 c (by omega) hp (by omega)]; rfl
  by_cases k2 : h (5 + p) = 2
  · rw [if_neg k1, if_neg k1, if_pos k2, if_pos k2, c_markG c hp k2 (by omega) (v := 24) rfl, gv24 c (by omega) hp (by omega)]; rfl
  by_cases k3 : h (5 + p) = 3
  · rw [if_neg k1, if_neg k1, if_neg k2, if_neg k2, if_pos k3, if_pos k3, c_markG c hp k3 (by omega) (v := 22) rfl, gv22 c (by omega) hp (by omega)]; rfl
  by_cases k4 : h (5 + p) = 4
  · rw [if_neg k1, if_neg k1, if_neg k2, if_neg k2, if_neg k3, if_neg k3, if_pos k4, if_pos k4, c_markG c hp k4 (by omega) (v := 23) rfl, gv23 (v := 0) c (by omega) hp (by omega) (by omega), if_pos k4]; rfl
  · rw [if_neg k1, if_neg k1, if_neg k2, if_neg k2, if_neg k3, if_neg k3, if_neg k4, if_neg k4, c_markG c hp (k := 5) (by omega) (by omega) (v := 23) rfl, gv23 (v := 0) c (by omega) hp (by omega) (by omega), if_neg k4]; rfl
theorem gv11 (c : CS σ t h) (ht : t < 8) (hp : p < 7) (hd : d ≤ 3) (hk : 1 ≤ h (5 + p) ∧ h (5 + p) ≤ 5) : F_X1_give (n + 6) (nI 11) (nI p) (nI d) σ = some (nI (h (26 + p)) + mkV h p, lvsC (11 :: 10 :: mkL h p) t σ) := by
  show F_X1_give_b _ _ _ _ _ = _
  unfold F_X1_give_b
  rw [if_pos (nI_le (by omega) (by omega)), c_leave c (by omega)]
  show (F_X1_give (n + 5) (nI 10) (nI p) (nI d + nI 1) (lvC 11 t σ)).bind (fun z5 => (F_X1_markOf (F_X1_give (n + 5)) (nI p) (nI d + nI 1) z5.2).bind fun z6 => some (z5.1 + z6.1, z6.2)) = _
  rw [nI_add, gv10 (c.lv 11) (by omega) hp (by omega), Option.bind_some, c_mark ((c.lv 11).lv 10) (by omega) hp (by omega) hk, Option.bind_some]
  rfl
theorem gv12 (c : CS σ t h) (ht : t < 7) (hp : p < 7) (hd : d ≤ 2) (hk : 1 ≤ h (5 + p) ∧ h (5 + p) ≤ 5) : F_X1_give (n + 7) (nI 12) (nI p) (nI d) σ = some (nI 0 - (nI (h (26 + p)) + mkV h p), lvsC (12 :: 11 :: 10 :: mkL h p) t σ) := by
  show F_X1_give_b _ _ _ _ _ = _
  unfold F_X1_give_b
  rw [if_pos (nI_le (by omega) (by omega)), c_leave c (by omega)]
  show (F_X1_give (n + 6) (nI 11) (nI p) (nI d + nI 1) (lvC 12 t σ)).bind _ = _
  rw [nI_add, gv11 (c.lv 12) (by omega) hp (by omega) hk, Option.bind_some]
  rfl
theorem c_size (c : CS σ t h) (ht : t < 7) (hp : p < 7) (hd : d ≤ 2) (hk : 1 ≤ h (5 + p) ∧ h (5 + p) ≤ 5) : F_X1_sizeOf (F_X1_give (n + 7)) (nI p) (nI d) σ = some (szV h p, lvsC (szL h p) t σ) := by
  unfold szV szL
  by_cases k1 : h (5 + p) = 1
  · rw [if_pos k1, if_pos k1, c_sizeG c hp k1 (by omega) (v := 11) rfl, gv11 c (by omega) hp (by omega) hk]
  by_cases k2 : h (5 + p) = 2
  · rw [if_neg k1, if_neg k1, if_pos k2, if_pos k2, c_sizeG c hp k2 (by omega) (v := 12) rfl, gv12 c (by omega) hp (by omega) hk]
  by_cases k3 : h (5 + p) = 3
  · rw [if_neg k1, if_neg k1, if_neg k2, if_neg k2, if_pos k3, if_pos k3, c_sizeG c hp k3 (by omega) (v := 11) rfl, gv11 c (by omega) hp (by omega) hk]
  by_cases k4 : h (5 + p) = 4
  · rw [if_neg k1, if_neg k1, if_neg k2, if_neg k2, if_neg k3, if_neg k3, if_pos k4, if_pos k4, c_sizeG c hp k4 (by omega) (v := 13) rfl, gv13 c (by omega) hp (by omega)]; rfl
  · rw [if_neg k1, if_neg k1, if_neg k2, if_neg k2, if_neg k3, if_neg k3, if_neg k4, if_neg k4, c_sizeG c hp (k := 5) (by omega) (by omega) (v := 14) rfl, gv14 c (by omega) hp (by omega)]; rfl
/-! the reference -/
theorem m_plain (c : MS σ t h) (ht : t < 16) (hp : p < 7) : F_X8_plainSize (nI p) σ = some (nI (h (26 + p)), lvM 10 t σ) := by
  unfold F_X8_plainSize
  rw [m_began c ht, Option.bind_some, m_of hp (by omega), Option.bind_some]
  rw [(c.lv 10).2.ln hp]
theorem m_leaky (c : MS σ t h) (ht : t < 13) (hp : p < 7) (hk : 4 ≤ h (5 + p) ∧ h (5 + p) ≤ 5) : F_X8_leakySize (nI p) σ = if h (5 + p) = 4 then some (nI (h (26 + p)) - nI 100, lvsM [13, 10] t σ) else some (nI 2 * (nI (h (26 + p)) - nI 100), lvsM [14, 13, 10] t σ) := by
  unfold F_X8_leakySize
  rw [m_of hp (by omega), Option.bind_some]
  have e := c.2.kd hp
  unfold J_X8_leakySize_18 J_X8_leakySize_29
  by_cases k4 : h (5 + p) = 4
  · rw [if_pos k4]
    simp (disch := omega) only [ixN, clN, nI_add, pk_mul, subN, divN, remN, leN, ltN, eqN, le0N, eq0N, lt0N, ge0N, gt0N, if_pos, if_neg, if_true, if_false, Option.bind_some, shrN, shlN, andN1, nI_or, andm1, modS, true_or, or_true, e, m_began c (show t < 16 by omega), m_plain (c.lv 13) (show t + 1 < 16 by omega) hp]
    rfl
  · rw [if_neg k4]
    simp (disch := omega) only [ixN, clN, nI_add, pk_mul, subN, divN, remN, leN, ltN, eqN, le0N, eq0N, lt0N, ge0N, gt0N, if_pos, if_neg, if_true, if_false, Option.bind_some, shrN, shlN, andN1, nI_or, andm1, modS, true_or, or_true, e, m_began c (show t < 16 by omega), m_began (c.lv 14) (show t + 1 < 16 by omega), m_plain ((c.lv 14).lv 13) (show t + 1 + 1 < 16 by omega) hp]
    rfl
theorem m_mark (c : MS σ t h) (ht : t < 10) (hp : p < 7) (hk : 1 ≤ h (5 + p) ∧ h (5 + p) ≤ 5) : F_X8_markOf (nI p) σ = some (mkV h p, lvsM (mkL h p) t σ) := by
  unfold F_X8_markOf mkV mkL
  rw [m_of hp (by omega), Option.bind_some]
  have e := c.2.kd hp
  unfold J_X8_markOf_53 J_X8_markOf_56
  by_cases k1 : h (5 + p) = 1
  · rw [if_pos k1, if_pos k1]
    simp (disch := omega) only [ixN, clN, nI_add, pk_mul, subN, divN, remN, leN, ltN, eqN, le0N, eq0N, lt0N, ge0N, gt0N, if_pos, if_neg, if_true, if_false, Option.bind_some, shrN, shlN, andN1, nI_or, andm1, modS, true_or, or_true, e, k1, m_began c (show t < 16 by omega), m_began (c.lv 21) (show t + 1 < 16 by omega), m_of hp (show 4 < 9 by omega), ((c.lv 21).lv 20).2.dn hp]
    rfl
  by_cases k2 : h (5 + p) = 2
  · rw [if_neg k1, if_neg k1, if_pos k2, if_pos k2]
    simp (disch := omega) only [ixN, clN, nI_add, pk_mul, subN, divN, remN, leN, ltN, eqN, le0N, eq0N, lt0N, ge0N, gt0N, if_pos, if_neg, if_true, if_false, Option.bind_some, shrN, shlN, andN1, nI_or, andm1, modS, true_or, or_true, e, k2, m_began c (show t < 16 by omega), m_began (c.lv 24) (show t + 1 < 16 by omega), m_began ((c.lv 24).lv 21) (show t + 1 + 1 < 16 by omega), m_of hp (show 4 < 9 by omega), (((c.lv 24).lv 21).lv 20).2.dn hp]
    rfl
  by_cases k3 : h (5 + p) = 3
  · rw [if_neg k1, if_neg k1, if_neg k2, if_neg k2, if_pos k3, if_pos k3]
    simp (disch := omega) only [ixN, clN, nI_add, pk_mul, subN, divN, remN, leN, ltN, eqN, le0N, eq0N, lt0N, ge0N, gt0N, if_pos, if_neg, if_true, if_false, Option.bind_some, shrN, shlN, andN1, nI_or, andm1, modS, true_or, or_true, e, k3, m_began c (show t < 16 by omega), m_began (c.lv 22) (show t + 1 < 16 by omega), m_began ((c.lv 22).lv 21) (show t + 1 + 1 < 16 by omega), m_of hp (show 4 < 9 by omega), (((c.lv 22).lv 21).lv 20).2.dn hp]
    rfl
  have lk := m_leaky ((c.lv 23).lv 20) (show t + 1 + 1 < 13 by omega) hp (by omega)
  by_cases k4 : h (5 + p) = 4
  · rw [if_pos k4] at lk
    rw [if_neg k1, if_neg k1, if_neg k2, if_neg k2, if_neg k3, if_neg k3, if_pos k4, if_pos k4]
    simp (disch := omega) only [ixN, clN, nI_add, pk_mul, subN, divN, remN, leN, ltN, eqN, le0N, eq0N, lt0N, ge0N, gt0N, if_pos, if_neg, if_true, if_false, Option.bind_some, shrN, shlN, andN1, nI_or, andm1, modS, true_or, or_true, e, m_began c (show t < 16 by omega), m_began (c.lv 23) (show t + 1 < 16 by omega), lk]
    rfl
  · rw [if_neg k4] at lk
    rw [if_neg k1, if_neg k1, if_neg k2, if_neg k2, if_neg k3, if_neg k3, if_neg k4, if_neg k4]
    simp (disch := omega) only [ixN, clN, nI_add, pk_mul, subN, divN, remN, leN, ltN, eqN, le0N, eq0N, lt0N, ge0N, gt0N, if_pos, if_neg, if_true, if_false, Option.bind_some, shrN, shlN, andN1, nI_or, andm1, modS, true_or, or_true, e, m_began c (show t < 16 by omega), m_began (c.lv 23) (show t + 1 < 16 by omega), lk]
    rfl
theorem m_size (c : MS σ t h) (ht : t < 6) (hp : p < 7) (hk : 1 ≤ h (5 + p) ∧ h (5 + p) ≤ 5) : F_X8_sizeOf (nI p) σ = some (szV h p, lvsM (szL h p) t σ) := by
  unfold F_X8_sizeOf szV szL
  rw [m_of hp (by omega), Option.bind_some]
  have e := c.2.kd hp
  unfold J_X8_sizeOf_32
  by_cases k1 : h (5 + p) = 1
  · rw [if_pos k1, if_pos k1]
    simp (disch := omega) only [ixN, clN, nI_add, pk_mul, subN, divN, remN, leN, ltN, eqN, le0N, eq0N, lt0N, ge0N, gt0N, if_pos, if_neg, if_true, if_false, Option.bind_some, shrN, shlN, andN1, nI_or, andm1, modS, true_or, or_true, e, k1, m_began c (show t < 16 by omega), m_plain (c.lv 11) (show t + 1 < 16 by omega) hp, m_mark ((c.lv 11).lv 10) (show t + 1 + 1 < 10 by omega) hp hk]
    rfl
  by_cases k2 : h (5 + p) = 2
  · rw [if_neg k1, if_neg k1, if_pos k2, if_pos k2]
    simp (disch := omega) only [ixN, clN, nI_add, pk_mul, subN, divN, remN, leN, ltN, eqN, le0N, eq0N, lt0N, ge0N, gt0N, if_pos, if_neg, if_true, if_false, Option.bind_some, shrN, shlN, andN1, nI_or, andm1, modS, true_or, or_true, e, k2, m_began c (show t < 16 by omega), m_began (c.lv 12) (show t + 1 < 16 by omega), m_plain ((c.lv 12).lv 11) (show t + 1 + 1 < 16 by omega) hp, m_mark (((c.lv 12).lv 11).lv 10) (show t + 1 + 1 + 1 < 10 by omega) hp hk]
    rw [show (nI 0 : Int32) = 0 from rfl, Int32.zero_sub]
    rfl
  by_cases k3 : h (5 + p) = 3
  · rw [if_neg k1, if_neg k1, if_neg k2, if_neg k2, if_pos k3, if_pos k3]
    simp (disch := omega) only [ixN, clN, nI_add, pk_mul, subN, divN, remN, leN, ltN, eqN, le0N, eq0N, lt0N, ge0N, gt0N, if_pos, if_neg, if_true, if_false, Option.bind_some, shrN, shlN, andN1, nI_or, andm1, modS, true_or, or_true, e, k3, m_began c (show t < 16 by omega), m_plain (c.lv 11) (show t + 1 < 16 by omega) hp, m_mark ((c.lv 11).lv 10) (show t + 1 + 1 < 10 by omega) hp hk]
    rfl
  have lk := m_leaky c (show t < 13 by omega) hp (by omega)
  by_cases k4 : h (5 + p) = 4
  · rw [if_pos k4] at lk
    rw [if_neg k1, if_neg k1, if_neg k2, if_neg k2, if_neg k3, if_neg k3, if_pos k4, if_pos k4]
    simp (disch := omega) only [ixN, clN, nI_add, pk_mul, subN, divN, remN, leN, ltN, eqN, le0N, eq0N, lt0N, ge0N, gt0N, if_pos, if_neg, if_true, if_false, Option.bind_some, shrN, shlN, andN1, nI_or, andm1, modS, true_or, or_true, e, lk]
  · rw [if_neg k4] at lk
    rw [if_neg k1, if_neg k1, if_neg k2, if_neg k2, if_neg k3, if_neg k3, if_neg k4, if_neg k4]
    simp (disch := omega) only [ixN, clN, nI_add, pk_mul, subN, divN, remN, leN, ltN, eqN, le0N, eq0N, lt0N, ge0N, gt0N, if_pos, if_neg, if_true, if_false, Option.bind_some, shrN, shlN, andN1, nI_or, andm1, modS, true_or, or_true, e, lk]
theorem mkL_len (h : Hs) (p : Nat) : (mkL h p).length ≤ 5 := by
  unfold mkL
  repeat' split
  all_goals decide
theorem szL_len (h : Hs) (p : Nat) : (szL h p).length ≤ 8 := by
  have := mkL_len h p
  unfold szL
  repeat' split
  all_goals simp only [List.length_cons, List.length_nil] <;> omega
theorem e_ask (i : Inv σ) (x y : Int32) : Ag (F_X7_ask x y σ) (F_X8_ask x y) := by
  obtain ⟨⟨h, c, m, w, b⟩, -⟩ := id i
  have hH := w.2.2.1
  by_cases q1 : x < 0 ∨ nI (h 2) ≤ x
  · refine Ag.q i (-1000001) σ ?_ (Scr.rf σ) (fun τ s => ⟨setF τ 8 (nI 0), ?_, scr8 s⟩)
    · unfold F_X7_ask
      simp (disch := omega) only [ixN, clN, nI_add, pk_mul, subN, divN, remN, leN, ltN, eqN, le0N, eq0N, lt0N, ge0N, gt0N, if_pos, if_neg, if_true, if_false, Option.bind_some, shrN, shlN, andN1, nI_or, andm1, modS, true_or, or_true, c_isPipe0 c w q1]
    · unfold F_X8_ask
      simp (disch := omega) only [ixN, clN, nI_add, pk_mul, subN, divN, remN, leN, ltN, eqN, le0N, eq0N, lt0N, ge0N, gt0N, if_pos, if_neg, if_true, if_false, Option.bind_some, shrN, shlN, andN1, nI_or, andm1, modS, true_or, or_true, m_isPipe0 (mr8 m s) w q1]
  by_cases q2 : y < nI 0 ∨ nI 1 < y
  · refine Ag.q i (-1000001) σ ?_ (Scr.rf σ) (fun τ s => ⟨setF τ 8 (nI 0), ?_, scr8 s⟩)
    · unfold F_X7_ask
      simp (disch := omega) only [ixN, clN, nI_add, pk_mul, subN, divN, remN, leN, ltN, eqN, le0N, eq0N, lt0N, ge0N, gt0N, if_pos, if_neg, if_true, if_false, Option.bind_some, shrN, shlN, andN1, nI_or, andm1, modS, true_or, or_true, c_isPipe1 c w q1, c_within0 q2]
    · unfold F_X8_ask
      simp (disch := omega) only [ixN, clN, nI_add, pk_mul, subN, divN, remN, leN, ltN, eqN, le0N, eq0N, lt0N, ge0N, gt0N, if_pos, if_neg, if_true, if_false, Option.bind_some, shrN, shlN, andN1, nI_or, andm1, modS, true_or, or_true, m_isPipe1 (mr8 m s) w q1, m_in0 q2]
  obtain ⟨p, hp, rfl⟩ := in_H (by omega) q1
  obtain ⟨y, -, hy, rfl⟩ := in_N (by omega) (by omega) q2
  have hk := (w.2.2.2.2.1 p hp).1
  have cs : CS (setF σ 7 (nI 0)) 0 h := ⟨setF_get _ _ _, c⟩
  have m8 : ∀ vs, MR ((setF (lvsC vs 0 (setF σ 7 (nI 0))) 8 (nI 0)).1 29) h := fun vs => by
    rw [setF_1, lvsC_ar _ _ _ _ (by decide), setF_1]; exact m
  have ms : ∀ vs, MS (setF (setF (lvsC vs 0 (setF σ 7 (nI 0))) 8 (nI 0)) 19 (nI 0)) 0 h := fun vs => ⟨setF_get _ _ _, m8 vs⟩
  by_cases y0 : y = 0
  · subst y0
    refine askFin i (r := szV h p) (szL h p) (by have := szL_len h p; omega) ?_ ?_
    · unfold F_X7_ask F_X1_answer
      simp (disch := omega) only [ixN, clN, nI_add, pk_mul, subN, divN, remN, leN, ltN, eqN, le0N, eq0N, lt0N, ge0N, gt0N, if_pos, if_neg, if_true, if_false, Option.bind_some, shrN, shlN, andN1, nI_or, andm1, modS, true_or, or_true, c_isPipe1 c w q1, c_within1 q2]
      rw [c_size (n := 5) (d := 0) cs (by omega) (by omega) (by omega) hk]
      rfl
    · unfold F_X8_ask
      simp (disch := omega) only [ixN, clN, nI_add, pk_mul, subN, divN, remN, leN, ltN, eqN, le0N, eq0N, lt0N, ge0N, gt0N, if_pos, if_neg, if_true, if_false, Option.bind_some, shrN, shlN, andN1, nI_or, andm1, modS, true_or, or_true, m_isPipe1 (m8 _) w q1, m_in1 q2]
      rw [m_size (ms _) (by omega) (by omega) hk]
      rfl
  · obtain rfl : y = 1 := by omega
    refine askFin i (r := mkV h p) (mkL h p) (by have := mkL_len h p; omega) ?_ ?_
    · unfold F_X7_ask F_X1_answer
      simp (disch := omega) only [ixN, clN, nI_add, pk_mul, subN, divN, remN, leN, ltN, eqN, le0N, eq0N, lt0N, ge0N, gt0N, if_pos, if_neg, if_true, if_false, Option.bind_some, shrN, shlN, andN1, nI_or, andm1, modS, true_or, or_true, c_isPipe1 c w q1, c_within1 q2]
      rw [c_mark (n := 7) (d := 0) cs (by omega) (by omega) (by omega) hk]
      rfl
    · unfold F_X8_ask
      simp (disch := omega) only [ixN, clN, nI_add, pk_mul, subN, divN, remN, leN, ltN, eqN, le0N, eq0N, lt0N, ge0N, gt0N, if_pos, if_neg, if_true, if_false, Option.bind_some, shrN, shlN, andN1, nI_or, andm1, modS, true_or, or_true, m_isPipe1 (m8 _) w q1, m_in1 q2]
      rw [m_mark (ms _) (by omega) (by omega) hk]
      rfl
end ASK4
