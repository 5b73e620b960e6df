noncomputable section
/-! X3_isOne -/
def L_X3_isOne_4 (K : Int32 → Int32 → St → Option (Int32 × St)) : Nat → Int32 → Int32 → Int32 → St → Option (Int32 × St)
  | 0, _, _, _, _ => none
  | n + 1, a1, a2, a3, σ => if (nI 5) < a3 then (K a1 a2 σ) else (if a2 = a1 then (K a1 a2 σ) else (if ix a2 6 then L_X3_isOne_4 K n a1 (stV 0 a2.toNatClampNeg) (a3 + (nI 1)) σ else none))
def F_X3_isOne (a0 : Int32) (a1 : Int32) (σ : St) : Option (Int32 × St) := L_X3_isOne_4 (fun a1 a2 σ => if a2 = a1 then (some ((nI 1), σ)) else (some ((nI 0), σ))) fuel a1 a0 (nI 0) σ
set_option maxRecDepth 20000 in
theorem l_X3_isOne_4 {G : Gx} {X : Cx} (F : Fx G X cX3_isOne 4 RX3 0) {o : (Int32 × St)} (R : Ret G X cX3_isOne 4 (some .boolean) (some (.int o.1)) o.2) {K : Int32 → Int32 → St → Option (Int32 × St)} (hK : ∀ (a1 : Int32) (a2 : Int32) (σ : St), Sim G X 4 o (K a1 a2 σ) σ 26 [(1, .int a1), (2, .int a2)] []) : ∀ (n : Nat) (a1 : Int32) (a2 : Int32) (a3 : Int32) (σ : St), Sim G X 4 o (L_X3_isOne_4 K n a1 a2 a3 σ) σ 4 [(1, .int a1), (2, .int a2), (3, .int a3)] [] := by
  intro n
  induction n with
  | zero =>
    intro a1 a2 a3 σ
    exact s_none
  | succ n ih =>
    intro a1 a2 a3 σ
    rw [L_X3_isOne_4.eq_2]
    refine s_iload_n F 2 dX3_isOne_4 rfl rfl ?_
    refine s_iconst F (nI 5) dX3_isOne_5 rfl ?_
    refine s_icmp_gt F 26 dX3_isOne_6 (by decide) (fun c3 => ?_) (fun c3 => ?_)
    · refine s_lv [(1, .int a1), (2, .int a2)] [0, 1] rfl ?_
      exact hK _ _ _
    · refine s_iload_n F 1 dX3_isOne_9 rfl rfl ?_
      refine s_iload_n F 0 dX3_isOne_10 rfl rfl ?_
      refine s_icmp_eq F 26 dX3_isOne_11 (by decide) (fun c2 => ?_) (fun c2 => ?_)
      · refine s_lv [(1, .int a1), (2, .int a2)] [0, 1] rfl ?_
        exact hK _ _ _
      · refine s_gets F 0 (by decide) dX3_isOne_14 m_3_142 ?_
        refine s_iload_n F 1 dX3_isOne_17 rfl rfl ?_
        refine s_tald F (by decide) dX3_isOne_18 (fun q1 => ?_)
        refine s_istore_n F [(2, .int (stV 0 a2.toNatClampNeg)), (1, .int a1), (3, .int a3)] dX3_isOne_19 rfl (by decide) rfl ?_
        refine s_iinc F 2 [(3, .int (a3 + (nI 1))), (2, .int (stV 0 a2.toNatClampNeg)), (1, .int a1)] dX3_isOne_20 rfl rfl (by decide) rfl ?_
        refine s_goto F 4 dX3_isOne_23 (by decide) ?_
        refine s_lv [(1, .int a1), (2, .int (stV 0 a2.toNatClampNeg)), (3, .int (a3 + (nI 1)))] [2, 1, 0] rfl ?_
        exact ih _ _ _ _
set_option maxRecDepth 20000 in
theorem c_X3_isOne {G : Gx} {l : Launch} {a0 : Int32} {a1 : Int32} {σ : St} {o : (Int32 × St)} (hF : F_X3_isOne a0 a1 σ = some o) : Con G l yX3_isOne cX3_isOne 4 (some .boolean) 0 [.int a0, .int a1] σ (some (.int o.1)) o.2 := by
  refine Con.of plX3 (Nat.le_of_ble_eq_true rfl) [(0, .int a0), (1, .int a1)] rfl (fun X F R => ?_)
  refine (show Sim G X 4 o (F_X3_isOne a0 a1 σ) σ 0 [(0, .int a0), (1, .int a1)] [] from ?_) hF
  unfold F_X3_isOne
  refine s_iload_n F 0 dX3_isOne_0 rfl rfl ?_
  refine s_istore_n F [(2, .int a0), (0, .int a0), (1, .int a1)] dX3_isOne_1 rfl (by decide) rfl ?_
  refine s_iconst F (nI 0) dX3_isOne_2 rfl ?_
  refine s_istore_n F [(3, .int (nI 0)), (2, .int a0), (0, .int a0), (1, .int a1)] dX3_isOne_3 rfl (by decide) rfl ?_
  refine s_lv [(1, .int a1), (2, .int a0), (3, .int (nI 0))] [3, 1, 0] rfl ?_
  refine l_X3_isOne_4 F R (fun a1 a2 σ => ?_) fuel _ _ _ _
  refine s_iload_n F 1 dX3_isOne_26 rfl rfl ?_
  refine s_iload_n F 0 dX3_isOne_27 rfl rfl ?_
  refine s_icmp_ne F 35 dX3_isOne_28 (by decide) (fun c4 => ?_) (fun c4 => ?_)
  · refine s_iconst F (nI 0) dX3_isOne_35 rfl ?_
    exact s_zret R dX3_isOne_36 rfl
  · refine s_iconst F (nI 1) dX3_isOne_31 rfl ?_
    refine s_goto F 36 dX3_isOne_32 (by decide) ?_
    exact s_zret R dX3_isOne_36 rfl
/-! X3_ofLetter -/
def L_X3_ofLetter_2 (K : St → Option (Int32 × St)) : Nat → Int32 → Int32 → St → Option (Int32 × St)
  | 0, _, _, _ => none
  | n + 1, a0, a1, σ => if (nI 5) < a1 then (K σ) else (if ix a1 6 then if (stV 1 a1.toNatClampNeg) = a0 then (some (a1, σ)) else (L_X3_ofLetter_2 K n a0 (a1 + (nI 1)) σ) else none)
def F_X3_ofLetter (a0 : Int32) (σ : St) : Option (Int32 × St) := L_X3_ofLetter_2 (fun σ => some ((nI 0), σ)) fuel a0 (nI 1) σ
set_option maxRecDepth 20000 in
theorem l_X3_ofLetter_2 {G : Gx} {X : Cx} (F : Fx G X cX3_ofLetter 2 RX3 0) {o : (Int32 × St)} (R : Ret G X cX3_ofLetter 2 (some .int) (some (.int o.1)) o.2) {K : St → Option (Int32 × St)} (hK : ∀ (σ : St), Sim G X 2 o (K σ) σ 24 [] []) : ∀ (n : Nat) (a0 : Int32) (a1 : Int32) (σ : St), Sim G X 2 o (L_X3_ofLetter_2 K n a0 a1 σ) σ 2 [(0, .int a0), (1, .int a1)] [] := by
  intro n
  induction n with
  | zero =>
    intro a0 a1 σ
    exact s_none
  | succ n ih =>
    intro a0 a1 σ
    rw [L_X3_ofLetter_2.eq_2]
    refine s_iload_n F 1 dX3_ofLetter_2 rfl rfl ?_
    refine s_iconst F (nI 5) dX3_ofLetter_3 rfl ?_
    refine s_icmp_gt F 24 dX3_ofLetter_4 (by decide) (fun c3 => ?_) (fun c3 => ?_)
    · refine s_lv [] [] rfl ?_
      exact hK _
    · refine s_gets F 1 (by decide) dX3_ofLetter_7 m_2_22 ?_
      refine s_iload_n F 1 dX3_ofLetter_10 rfl rfl ?_
      refine s_tald F (by decide) dX3_ofLetter_11 (fun q1 => ?_)
      refine s_iload_n F 0 dX3_ofLetter_12 rfl rfl ?_
      refine s_icmp_ne F 18 dX3_ofLetter_13 (by decide) (fun c2 => ?_) (fun c2 => ?_)
      · refine s_iinc F 1 [(1, .int (a1 + (nI 1))), (0, .int a0)] dX3_ofLetter_18 rfl rfl (by decide) rfl ?_
        refine s_goto F 2 dX3_ofLetter_21 (by decide) ?_
        refine s_lv [(0, .int a0), (1, .int (a1 + (nI 1)))] [1, 0] rfl ?_
        exact ih _ _ _
      · refine s_iload_n F 1 dX3_ofLetter_16 rfl rfl ?_
        exact s_iret R dX3_ofLetter_17
set_option maxRecDepth 20000 in
theorem c_X3_ofLetter {G : Gx} {l : Launch} {a0 : Int32} {σ : St} {o : (Int32 × St)} (hF : F_X3_ofLetter a0 σ = some o) : Con G l yX3_ofLetter cX3_ofLetter 2 (some .int) 0 [.int a0] σ (some (.int o.1)) o.2 := by
  refine Con.of plX3 (Nat.le_of_ble_eq_true rfl) [(0, .int a0)] rfl (fun X F R => ?_)
  refine (show Sim G X 2 o (F_X3_ofLetter a0 σ) σ 0 [(0, .int a0)] [] from ?_) hF
  unfold F_X3_ofLetter
  refine s_iconst F (nI 1) dX3_ofLetter_0 rfl ?_
  refine s_istore_n F [(1, .int (nI 1)), (0, .int a0)] dX3_ofLetter_1 rfl (by decide) rfl ?_
  refine s_lv [(0, .int a0), (1, .int (nI 1))] [1, 0] rfl ?_
  refine l_X3_ofLetter_2 F R (fun σ => ?_) fuel _ _ _
  refine s_iconst F (nI 0) dX3_ofLetter_24 rfl ?_
  exact s_iret R dX3_ofLetter_25
end
