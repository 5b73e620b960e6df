noncomputable section
/-! X7_found -/
def F_X7_found (a1 : Int32) (σ : St) : Option (Int32 × St) := some ((-1000010 : Int32) - a1, setF σ 0 a1)
set_option maxRecDepth 20000 in
theorem c_X7_found {G : Gx} {l : Launch} {a1 : Int32} {σ : St} {o : (Int32 × St)} (hF : F_X7_found a1 σ = some o) : Con G l yX7_found cX7_found 2 (some .int) 0 [.ref (ga G 0), .int a1] σ (some (.int o.1)) o.2 := by
  refine Con.of plX7 (Nat.le_of_ble_eq_true rfl) [(0, .ref (ga G 0)), (1, .int a1)] rfl (fun X F R => ?_)
  refine (show Sim G X 2 o (F_X7_found a1 σ) σ 0 [(0, .ref (ga G 0)), (1, .int a1)] [] from ?_) hF
  unfold F_X7_found
  refine s_aload_n F 0 dX7_found_0 rfl rfl ?_
  refine s_iload_n F 1 dX7_found_1 rfl rfl ?_
  refine fp_X7_59 F dX7_found_2 ?_
  refine s_ldcw F dX7_found_5 m_1_178 ?_
  refine s_iload_n F 1 dX7_found_8 rfl rfl ?_
  refine s_isub F dX7_found_9 ?_
  exact s_iret R dX7_found_10
/-! X7_isWithin -/
def F_X7_isWithin (a0 : Int32) (a1 : Int32) (a2 : Int32) (σ : St) : Option (Int32 × St) := if a0 < a1 then (some ((nI 0), σ)) else (if a2 < a0 then (some ((nI 0), σ)) else (some ((nI 1), σ)))
set_option maxRecDepth 20000 in
theorem c_X7_isWithin {G : Gx} {l : Launch} {a0 : Int32} {a1 : Int32} {a2 : Int32} {σ : St} {o : (Int32 × St)} (hF : F_X7_isWithin a0 a1 a2 σ = some o) : Con G l yX7_isWithin cX7_isWithin 3 (some .boolean) 0 [.int a0, .int a1, .int a2] σ (some (.int o.1)) o.2 := by
  refine Con.of plX7 (Nat.le_of_ble_eq_true rfl) [(0, .int a0), (1, .int a1), (2, .int a2)] rfl (fun X F R => ?_)
  refine (show Sim G X 3 o (F_X7_isWithin a0 a1 a2 σ) σ 0 [(0, .int a0), (1, .int a1), (2, .int a2)] [] from ?_) hF
  unfold F_X7_isWithin
  refine s_iload_n F 0 dX7_isWithin_0 rfl rfl ?_
  refine s_iload_n F 1 dX7_isWithin_1 rfl rfl ?_
  refine s_icmp_lt F 14 dX7_isWithin_2 (by decide) (fun c2 => ?_) (fun c2 => ?_)
  · refine s_iconst F (nI 0) dX7_isWithin_14 rfl ?_
    exact s_zret R dX7_isWithin_15 rfl
  · refine s_iload_n F 0 dX7_isWithin_5 rfl rfl ?_
    refine s_iload_n F 2 dX7_isWithin_6 rfl rfl ?_
    refine s_icmp_gt F 14 dX7_isWithin_7 (by decide) (fun c1 => ?_) (fun c1 => ?_)
    · refine s_iconst F (nI 0) dX7_isWithin_14 rfl ?_
      exact s_zret R dX7_isWithin_15 rfl
    · refine s_iconst F (nI 1) dX7_isWithin_10 rfl ?_
      refine s_goto F 15 dX7_isWithin_11 (by decide) ?_
      exact s_zret R dX7_isWithin_15 rfl
/-! X7_unfound -/
def F_X7_unfound (a1 : Int32) (σ : St) : Option (Int32 × St) := some (a1, setF σ 0 (nI 0))
set_option maxRecDepth 20000 in
theorem c_X7_unfound {G : Gx} {l : Launch} {a1 : Int32} {σ : St} {o : (Int32 × St)} (hF : F_X7_unfound a1 σ = some o) : Con G l yX7_unfound cX7_unfound 2 (some .int) 0 [.ref (ga G 0), .int a1] σ (some (.int o.1)) o.2 := by
  refine Con.of plX7 (Nat.le_of_ble_eq_true rfl) [(0, .ref (ga G 0)), (1, .int a1)] rfl (fun X F R => ?_)
  refine (show Sim G X 2 o (F_X7_unfound a1 σ) σ 0 [(0, .ref (ga G 0)), (1, .int a1)] [] from ?_) hF
  unfold F_X7_unfound
  refine s_aload_n F 0 dX7_unfound_0 rfl rfl ?_
  refine s_iconst F (nI 0) dX7_unfound_1 rfl ?_
  refine fp_X7_59 F dX7_unfound_2 ?_
  refine s_iload_n F 1 dX7_unfound_5 rfl rfl ?_
  exact s_iret R dX7_unfound_6
/-! X7_row -/
def F_X7_row (a1 : Int32) (a2 : Int32) (a3 : Int32) (σ : St) : Option (Int32 × St) := (F_X5_isRow a1 σ).bind fun z1 => if z1.1 = 0 then (some ((-1000001 : Int32), z1.2)) else ((F_X7_isWithin a2 (nI 0) (nI 2) z1.2).bind fun z2 => if z2.1 = 0 then (some ((-1000001 : Int32), z2.2)) else (if a3 ≤ (nI 40) then (if 0 ≤ a3 then ((F_X5_lay a1 a2 a3 z2.2).bind fun z3 => (F_X7_unfound a3 z3).bind fun z4 => some (z4.1, z4.2)) else ((F_X7_found (nI 4) z2.2).bind fun z5 => some (z5.1, z5.2))) else (some ((-1000001 : Int32), z2.2))))
set_option maxRecDepth 20000 in
theorem c_X7_row {G : Gx} {l : Launch} {a1 : Int32} {a2 : Int32} {a3 : Int32} {σ : St} {o : (Int32 × St)} (hF : F_X7_row a1 a2 a3 σ = some o) : Con G l yX7_row cX7_row 4 (some .int) 1 [.ref (ga G 0), .int a1, .int a2, .int a3] σ (some (.int o.1)) o.2 := by
  refine Con.of plX7 (Nat.le_of_ble_eq_true rfl) [(0, .ref (ga G 0)), (1, .int a1), (2, .int a2), (3, .int a3)] rfl (fun X F R => ?_)
  refine (show Sim G X 4 o (F_X7_row a1 a2 a3 σ) σ 0 [(0, .ref (ga G 0)), (1, .int a1), (2, .int a2), (3, .int a3)] [] from ?_) hF
  unfold F_X7_row
  refine s_iload_n F 1 dX7_row_0 rfl rfl ?_
  refine s_Si F [.int a1] dX7_row_1 (fun z hz => c_X5_isRow hz) wS_X7_63 nk_X5_isRow (by decide) (by decide) rfl rfl (Nat.le_of_ble_eq_true rfl) (fun z1 => ?_)
  refine s_if_eq F 22 dX7_row_4 (by decide) (fun c9 => ?_) (fun c9 => ?_)
  · refine s_ldc F dX7_row_22 m_1_173 ?_
    exact s_iret R dX7_row_24
  · refine s_iload_n F 2 dX7_row_7 rfl rfl ?_
    refine s_iconst F (nI 0) dX7_row_8 rfl ?_
    refine s_iconst F (nI 2) dX7_row_9 rfl ?_
    refine s_Si F [.int a2, .int (nI 0), .int (nI 2)] dX7_row_10 (fun z hz => c_X7_isWithin hz) wS_X7_67 nk_X7_isWithin (by decide) (by decide) rfl rfl (Nat.le_of_ble_eq_true rfl) (fun z2 => ?_)
    refine s_if_eq F 22 dX7_row_13 (by decide) (fun c8 => ?_) (fun c8 => ?_)
    · refine s_ldc F dX7_row_22 m_1_173 ?_
      exact s_iret R dX7_row_24
    · refine s_iload_n F 3 dX7_row_16 rfl rfl ?_
      refine s_bipush F (nI 40) dX7_row_17 rfl ?_
      refine s_icmp_le F 25 dX7_row_19 (by decide) (fun c7 => ?_) (fun c7 => ?_)
      · refine s_iload_n F 3 dX7_row_25 rfl rfl ?_
        refine s_if_ge F 35 dX7_row_26 (by decide) (fun c6 => ?_) (fun c6 => ?_)
        · refine s_aload_n F 0 dX7_row_35 rfl rfl ?_
          refine fg_X7_10 F dX7_row_36 ?_
          refine s_iload_n F 1 dX7_row_39 rfl rfl ?_
          refine s_iload_n F 2 dX7_row_40 rfl rfl ?_
          refine s_iload_n F 3 dX7_row_41 rfl rfl ?_
          refine s_Vv F [.int a1, .int a2, .int a3] dX7_row_42 (fun z hz => c_X5_lay hz) wV_X7_76 nk_X5_lay (by decide) (by decide) ob_1 vc_4 rfl rfl (Nat.le_of_ble_eq_true rfl) (fun z3 => ?_)
          refine s_aload_n F 0 dX7_row_45 rfl rfl ?_
          refine s_iload_n F 3 dX7_row_46 rfl rfl ?_
          refine s_Vi F [.int a3] dX7_row_47 (fun z hz => c_X7_unfound hz) wV_X7_80 nk_X7_unfound (by decide) (by decide) ob_0 vc_6 rfl rfl (Nat.le_of_ble_eq_true rfl) (fun z4 => ?_)
          exact s_iret R dX7_row_50
        · refine s_aload_n F 0 dX7_row_29 rfl rfl ?_
          refine s_iconst F (nI 4) dX7_row_30 rfl ?_
          refine s_Vi F [.int (nI 4)] dX7_row_31 (fun z hz => c_X7_found hz) wV_X7_72 nk_X7_found (by decide) (by decide) ob_0 vc_6 rfl rfl (Nat.le_of_ble_eq_true rfl) (fun z5 => ?_)
          exact s_iret R dX7_row_34
      · refine s_ldc F dX7_row_22 m_1_173 ?_
        exact s_iret R dX7_row_24
/-! X7_set -/
def F_X7_set (a1 : Int32) (a2 : Int32) (a3 : Int32) (σ : St) : Option (Int32 × St) := (F_X5_isRow a1 σ).bind fun z1 => if z1.1 = 0 then (some ((-1000001 : Int32), z1.2)) else ((F_X5_isMissing a1 z1.2).bind fun z2 => if z2.1 = 0 then ((F_X5_hasStretch a1 a2 (nI 1) z2.2).bind fun z3 => if z3.1 = 0 then ((F_X7_found (nI 2) z3.2).bind fun z6 => some (z6.1, z6.2)) else ((F_X5_put a1 a2 a3 z3.2).bind fun z4 => (F_X7_unfound z4.1 z4.2).bind fun z5 => some (z5.1, z5.2))) else ((F_X7_found (nI 1) z2.2).bind fun z8 => some (z8.1, z8.2)))
set_option maxRecDepth 20000 in
theorem c_X7_set {G : Gx} {l : Launch} {a1 : Int32} {a2 : Int32} {a3 : Int32} {σ : St} {o : (Int32 × St)} (hF : F_X7_set a1 a2 a3 σ = some o) : Con G l yX7_set cX7_set 4 (some .int) 1 [.ref (ga G 0), .int a1, .int a2, .int a3] σ (some (.int o.1)) o.2 := by
  refine Con.of plX7 (Nat.le_of_ble_eq_true rfl) [(0, .ref (ga G 0)), (1, .int a1), (2, .int a2), (3, .int a3)] rfl (fun X F R => ?_)
  refine (show Sim G X 4 o (F_X7_set a1 a2 a3 σ) σ 0 [(0, .ref (ga G 0)), (1, .int a1), (2, .int a2), (3, .int a3)] [] from ?_) hF
  unfold F_X7_set
  refine s_iload_n F 1 dX7_set_0 rfl rfl ?_
  refine s_Si F [.int a1] dX7_set_1 (fun z hz => c_X5_isRow hz) wS_X7_63 nk_X5_isRow (by decide) (by decide) rfl rfl (Nat.le_of_ble_eq_true rfl) (fun z1 => ?_)
  refine s_if_ne F 10 dX7_set_4 (by decide) (fun c10 => ?_) (fun c10 => ?_)
  · refine s_aload_n F 0 dX7_set_10 rfl rfl ?_
    refine fg_X7_10 F dX7_set_11 ?_
    refine s_iload_n F 1 dX7_set_14 rfl rfl ?_
    refine s_Vi F [.int a1] dX7_set_15 (fun z hz => c_X5_isMissing hz) wV_X7_83 nk_X5_isMissing (by decide) (by decide) ob_1 vc_4 rfl rfl (Nat.le_of_ble_eq_true rfl) (fun z2 => ?_)
    refine s_if_eq F 27 dX7_set_18 (by decide) (fun c9 => ?_) (fun c9 => ?_)
    · refine s_aload_n F 0 dX7_set_27 rfl rfl ?_
      refine fg_X7_10 F dX7_set_28 ?_
      refine s_iload_n F 1 dX7_set_31 rfl rfl ?_
      refine s_iload_n F 2 dX7_set_32 rfl rfl ?_
      refine s_iconst F (nI 1) dX7_set_33 rfl ?_
      refine s_Vi F [.int a1, .int a2, .int (nI 1)] dX7_set_34 (fun z hz => c_X5_hasStretch hz) wV_X7_86 nk_X5_hasStretch (by decide) (by decide) ob_1 vc_4 rfl rfl (Nat.le_of_ble_eq_true rfl) (fun z3 => ?_)
      refine s_if_ne F 46 dX7_set_37 (by decide) (fun c7 => ?_) (fun c7 => ?_)
      · refine s_aload_n F 0 dX7_set_46 rfl rfl ?_
        refine s_aload_n F 0 dX7_set_47 rfl rfl ?_
        refine fg_X7_10 F dX7_set_48 ?_
        refine s_iload_n F 1 dX7_set_51 rfl rfl ?_
        refine s_iload_n F 2 dX7_set_52 rfl rfl ?_
        refine s_iload_n F 3 dX7_set_53 rfl rfl ?_
        refine s_Vi F [.int a1, .int a2, .int a3] dX7_set_54 (fun z hz => c_X5_put hz) wV_X7_89 nk_X5_put (by decide) (by decide) ob_1 vc_4 rfl rfl (Nat.le_of_ble_eq_true rfl) (fun z4 => ?_)
        refine s_Vi F [.int z4.1] dX7_set_57 (fun z hz => c_X7_unfound hz) wV_X7_80 nk_X7_unfound (by decide) (by decide) ob_0 vc_6 rfl rfl (Nat.le_of_ble_eq_true rfl) (fun z5 => ?_)
        exact s_iret R dX7_set_60
      · refine s_aload_n F 0 dX7_set_40 rfl rfl ?_
        refine s_iconst F (nI 2) dX7_set_41 rfl ?_
        refine s_Vi F [.int (nI 2)] dX7_set_42 (fun z hz => c_X7_found hz) wV_X7_72 nk_X7_found (by decide) (by decide) ob_0 vc_6 rfl rfl (Nat.le_of_ble_eq_true rfl) (fun z6 => ?_)
        exact s_iret R dX7_set_45
    · refine s_aload_n F 0 dX7_set_21 rfl rfl ?_
      refine s_iconst F (nI 1) dX7_set_22 rfl ?_
      refine s_Vi F [.int (nI 1)] dX7_set_23 (fun z hz => c_X7_found hz) wV_X7_72 nk_X7_found (by decide) (by decide) ob_0 vc_6 rfl rfl (Nat.le_of_ble_eq_true rfl) (fun z8 => ?_)
      exact s_iret R dX7_set_26
  · refine s_ldc F dX7_set_7 m_1_173 ?_
    exact s_iret R dX7_set_9
/-! X7_copy -/
def J_X7_copy_39 (σ : St) : Option (Int32 × St) := (F_X7_found (nI 1) σ).bind fun z4 => some (z4.1, z4.2)
def J_X7_copy_101 (σ : St) : Option (Int32 × St) := (F_X7_found (nI 2) σ).bind fun z9 => some (z9.1, z9.2)
def F_X7_copy (a1 : Int32) (a2 : Int32) (a3 : Int32) (a4 : Int32) (a5 : Int32) (σ : St) : Option (Int32 × St) := (F_X5_isRow a1 σ).bind fun z1 => if z1.1 = 0 then (some ((-1000001 : Int32), z1.2)) else ((F_X5_isRow a3 z1.2).bind fun z2 => if z2.1 = 0 then (some ((-1000001 : Int32), z2.2)) else ((F_X5_isMissing a1 z2.2).bind fun z3 => if z3.1 = 0 then ((F_X5_isMissing a3 z3.2).bind fun z5 => if z5.1 = 0 then (if ix a1 8 then if ix a3 8 then if (z5.2.1 20 a1.toNatClampNeg) = (z5.2.1 20 a3.toNatClampNeg) then ((F_X5_hasStretch a1 a2 a5 z5.2).bind fun z8 => if z8.1 = 0 then (J_X7_copy_101 z8.2) else ((F_X5_hasStretch a3 a4 a5 z8.2).bind fun z10 => if z10.1 = 0 then (J_X7_copy_101 z10.2) else (if ix a1 8 then if ix a3 8 then if (¬ a2 < 0 ∧ ¬ a4 < 0 ∧ ¬ a5 < 0 ∧ a2.toNatClampNeg + a5.toNatClampNeg ≤ 40 ∧ a4.toNatClampNeg + a5.toNatClampNeg ≤ 40) then (F_X7_unfound a5 (cpyA z10.2 (38 + a1.toNatClampNeg) a2.toNatClampNeg (38 + a3.toNatClampNeg) a4.toNatClampNeg a5.toNatClampNeg)).bind fun z14 => some (z14.1, z14.2) else none else none else none))) else ((F_X7_found (nI 5) z5.2).bind fun z17 => some (z17.1, z17.2)) else none else none) else (J_X7_copy_39 z5.2)) else (J_X7_copy_39 z3.2)))
set_option maxRecDepth 20000 in
theorem j_X7_copy_39 {G : Gx} {X : Cx} (F : Fx G X cX7_copy 6 RX7 1) {o : (Int32 × St)} (R : Ret G X cX7_copy 6 (some .int) (some (.int o.1)) o.2) (σ : St) : Sim G X 6 o (J_X7_copy_39 σ) σ 39 [(0, .ref (ga G 0))] [] := by
  unfold J_X7_copy_39
  refine s_aload_n F 0 dX7_copy_39 rfl rfl ?_
  refine s_iconst F (nI 1) dX7_copy_40 rfl ?_
  refine s_Vi F [.int (nI 1)] dX7_copy_41 (fun z hz => c_X7_found hz) wV_X7_72 nk_X7_found (by decide) (by decide) ob_0 vc_6 rfl rfl (Nat.le_of_ble_eq_true rfl) (fun z4 => ?_)
  exact s_iret R dX7_copy_44
set_option maxRecDepth 20000 in
theorem j_X7_copy_101 {G : Gx} {X : Cx} (F : Fx G X cX7_copy 6 RX7 1) {o : (Int32 × St)} (R : Ret G X cX7_copy 6 (some .int) (some (.int o.1)) o.2) (σ : St) : Sim G X 6 o (J_X7_copy_101 σ) σ 101 [(0, .ref (ga G 0))] [] := by
  unfold J_X7_copy_101
  refine s_aload_n F 0 dX7_copy_101 rfl rfl ?_
  refine s_iconst F (nI 2) dX7_copy_102 rfl ?_
  refine s_Vi F [.int (nI 2)] dX7_copy_103 (fun z hz => c_X7_found hz) wV_X7_72 nk_X7_found (by decide) (by decide) ob_0 vc_6 rfl rfl (Nat.le_of_ble_eq_true rfl) (fun z9 => ?_)
  exact s_iret R dX7_copy_106
set_option maxRecDepth 20000 in
theorem c_X7_copy {G : Gx} {l : Launch} {a1 : Int32} {a2 : Int32} {a3 : Int32} {a4 : Int32} {a5 : Int32} {σ : St} {o : (Int32 × St)} (hF : F_X7_copy a1 a2 a3 a4 a5 σ = some o) : Con G l yX7_copy cX7_copy 6 (some .int) 1 [.ref (ga G 0), .int a1, .int a2, .int a3, .int a4, .int a5] σ (some (.int o.1)) o.2 := by
  refine Con.of plX7 (Nat.le_of_ble_eq_true rfl) [(0, .ref (ga G 0)), (1, .int a1), (2, .int a2), (3, .int a3), (4, .int a4), (5, .int a5)] rfl (fun X F R => ?_)
  refine (show Sim G X 6 o (F_X7_copy a1 a2 a3 a4 a5 σ) σ 0 [(0, .ref (ga G 0)), (1, .int a1), (2, .int a2), (3, .int a3), (4, .int a4), (5, .int a5)] [] from ?_) hF
  unfold F_X7_copy
  refine s_iload_n F 1 dX7_copy_0 rfl rfl ?_
  refine s_Si F [.int a1] dX7_copy_1 (fun z hz => c_X5_isRow hz) wS_X7_63 nk_X5_isRow (by decide) (by decide) rfl rfl (Nat.le_of_ble_eq_true rfl) (fun z1 => ?_)
  refine s_if_eq F 14 dX7_copy_4 (by decide) (fun c22 => ?_) (fun c22 => ?_)
  · refine s_ldc F dX7_copy_14 m_1_173 ?_
    exact s_iret R dX7_copy_16
  · refine s_iload_n F 3 dX7_copy_7 rfl rfl ?_
    refine s_Si F [.int a3] dX7_copy_8 (fun z hz => c_X5_isRow hz) wS_X7_63 nk_X5_isRow (by decide) (by decide) rfl rfl (Nat.le_of_ble_eq_true rfl) (fun z2 => ?_)
    refine s_if_ne F 17 dX7_copy_11 (by decide) (fun c21 => ?_) (fun c21 => ?_)
    · refine s_aload_n F 0 dX7_copy_17 rfl rfl ?_
      refine fg_X7_10 F dX7_copy_18 ?_
      refine s_iload_n F 1 dX7_copy_21 rfl rfl ?_
      refine s_Vi F [.int a1] dX7_copy_22 (fun z hz => c_X5_isMissing hz) wV_X7_83 nk_X5_isMissing (by decide) (by decide) ob_1 vc_4 rfl rfl (Nat.le_of_ble_eq_true rfl) (fun z3 => ?_)
      refine s_if_ne F 39 dX7_copy_25 (by decide) (fun c20 => ?_) (fun c20 => ?_)
      · refine s_lv [(0, .ref (ga G 0))] [0] rfl ?_
        exact j_X7_copy_39 F R _
      · refine s_aload_n F 0 dX7_copy_28 rfl rfl ?_
        refine fg_X7_10 F dX7_copy_29 ?_
        refine s_iload_n F 3 dX7_copy_32 rfl rfl ?_
        refine s_Vi F [.int a3] dX7_copy_33 (fun z hz => c_X5_isMissing hz) wV_X7_83 nk_X5_isMissing (by decide) (by decide) ob_1 vc_4 rfl rfl (Nat.le_of_ble_eq_true rfl) (fun z5 => ?_)
        refine s_if_eq F 45 dX7_copy_36 (by decide) (fun c19 => ?_) (fun c19 => ?_)
        · refine s_aload_n F 0 dX7_copy_45 rfl rfl ?_
          refine fg_X7_10 F dX7_copy_46 ?_
          refine fg_X7_93 F dX7_copy_49 ?_
          refine s_iload_n F 1 dX7_copy_52 rfl rfl ?_
          refine s_iald F ar_20 dX7_copy_53 (fun q6 => ?_)
          refine s_aload_n F 0 dX7_copy_54 rfl rfl ?_
          refine fg_X7_10 F dX7_copy_55 ?_
          refine fg_X7_93 F dX7_copy_58 ?_
          refine s_iload_n F 3 dX7_copy_61 rfl rfl ?_
          refine s_iald F ar_20 dX7_copy_62 (fun q7 => ?_)
          refine s_icmp_eq F 72 dX7_copy_63 (by decide) (fun c18 => ?_) (fun c18 => ?_)
          · refine s_aload_n F 0 dX7_copy_72 rfl rfl ?_
            refine fg_X7_10 F dX7_copy_73 ?_
            refine s_iload_n F 1 dX7_copy_76 rfl rfl ?_
            refine s_iload_n F 2 dX7_copy_77 rfl rfl ?_
            refine s_iload F 5 dX7_copy_78 rfl ?_
            refine s_Vi F [.int a1, .int a2, .int a5] dX7_copy_80 (fun z hz => c_X5_hasStretch hz) wV_X7_86 nk_X5_hasStretch (by decide) (by decide) ob_1 vc_4 rfl rfl (Nat.le_of_ble_eq_true rfl) (fun z8 => ?_)
            refine s_if_eq F 101 dX7_copy_83 (by decide) (fun c16 => ?_) (fun c16 => ?_)
            · refine s_lv [(0, .ref (ga G 0))] [0] rfl ?_
              exact j_X7_copy_101 F R _
            · refine s_aload_n F 0 dX7_copy_86 rfl rfl ?_
              refine fg_X7_10 F dX7_copy_87 ?_
              refine s_iload_n F 3 dX7_copy_90 rfl rfl ?_
              refine s_iload F 4 dX7_copy_91 rfl ?_
              refine s_iload F 5 dX7_copy_93 rfl ?_
              refine s_Vi F [.int a3, .int a4, .int a5] dX7_copy_95 (fun z hz => c_X5_hasStretch hz) wV_X7_86 nk_X5_hasStretch (by decide) (by decide) ob_1 vc_4 rfl rfl (Nat.le_of_ble_eq_true rfl) (fun z10 => ?_)
              refine s_if_ne F 107 dX7_copy_98 (by decide) (fun c15 => ?_) (fun c15 => ?_)
              · refine s_aload_n F 0 dX7_copy_107 rfl rfl ?_
                refine fg_X7_10 F dX7_copy_108 ?_
                refine fg_X7_97 F dX7_copy_111 ?_
                refine s_iload_n F 1 dX7_copy_114 rfl rfl ?_
                refine s_aald F (by decide) rfl dX7_copy_115 (fun q11 => ?_)
                refine s_iload_n F 2 dX7_copy_116 rfl rfl ?_
                refine s_aload_n F 0 dX7_copy_117 rfl rfl ?_
                refine fg_X7_10 F dX7_copy_118 ?_
                refine fg_X7_97 F dX7_copy_121 ?_
                refine s_iload_n F 3 dX7_copy_124 rfl rfl ?_
                refine s_aald F (by decide) rfl dX7_copy_125 (fun q12 => ?_)
                refine s_iload F 4 dX7_copy_126 rfl ?_
                refine s_iload F 5 dX7_copy_128 rfl ?_
                refine s_copy F (isArr.items (ix_lt q11)) (isArr.items (ix_lt q12)) dX7_copy_130 (by decide) (Nat.le_of_ble_eq_true rfl) wc_X7_100 (fun q13 => ?_)
                refine s_aload_n F 0 dX7_copy_133 rfl rfl ?_
                refine s_iload F 5 dX7_copy_134 rfl ?_
                refine s_Vi F [.int a5] dX7_copy_136 (fun z hz => c_X7_unfound hz) wV_X7_80 nk_X7_unfound (by decide) (by decide) ob_0 vc_6 rfl rfl (Nat.le_of_ble_eq_true rfl) (fun z14 => ?_)
                exact s_iret R dX7_copy_139
              · refine s_lv [(0, .ref (ga G 0))] [0] rfl ?_
                exact j_X7_copy_101 F R _
          · refine s_aload_n F 0 dX7_copy_66 rfl rfl ?_
            refine s_iconst F (nI 5) dX7_copy_67 rfl ?_
            refine s_Vi F [.int (nI 5)] dX7_copy_68 (fun z hz => c_X7_found hz) wV_X7_72 nk_X7_found (by decide) (by decide) ob_0 vc_6 rfl rfl (Nat.le_of_ble_eq_true rfl) (fun z17 => ?_)
            exact s_iret R dX7_copy_71
        · refine s_lv [(0, .ref (ga G 0))] [0] rfl ?_
          exact j_X7_copy_39 F R _
    · refine s_ldc F dX7_copy_14 m_1_173 ?_
      exact s_iret R dX7_copy_16
/-! X7_drop -/
def F_X7_drop (a1 : Int32) (σ : St) : Option (Int32 × St) := (F_X5_isRow a1 σ).bind fun z1 => if z1.1 = 0 then (some ((-1000001 : Int32), z1.2)) else ((F_X5_isMissing a1 z1.2).bind fun z2 => if z2.1 = 0 then ((F_X5_takeAway a1 z2.2).bind fun z3 => (F_X7_unfound z3.1 z3.2).bind fun z4 => some (z4.1, z4.2)) else ((F_X7_found (nI 1) z2.2).bind fun z5 => some (z5.1, z5.2)))
set_option maxRecDepth 20000 in
theorem c_X7_drop {G : Gx} {l : Launch} {a1 : Int32} {σ : St} {o : (Int32 × St)} (hF : F_X7_drop a1 σ = some o) : Con G l yX7_drop cX7_drop 2 (some .int) 1 [.ref (ga G 0), .int a1] σ (some (.int o.1)) o.2 := by
  refine Con.of plX7 (Nat.le_of_ble_eq_true rfl) [(0, .ref (ga G 0)), (1, .int a1)] rfl (fun X F R => ?_)
  refine (show Sim G X 2 o (F_X7_drop a1 σ) σ 0 [(0, .ref (ga G 0)), (1, .int a1)] [] from ?_) hF
  unfold F_X7_drop
  refine s_iload_n F 1 dX7_drop_0 rfl rfl ?_
  refine s_Si F [.int a1] dX7_drop_1 (fun z hz => c_X5_isRow hz) wS_X7_63 nk_X5_isRow (by decide) (by decide) rfl rfl (Nat.le_of_ble_eq_true rfl) (fun z1 => ?_)
  refine s_if_ne F 10 dX7_drop_4 (by decide) (fun c7 => ?_) (fun c7 => ?_)
  · refine s_aload_n F 0 dX7_drop_10 rfl rfl ?_
    refine fg_X7_10 F dX7_drop_11 ?_
    refine s_iload_n F 1 dX7_drop_14 rfl rfl ?_
    refine s_Vi F [.int a1] dX7_drop_15 (fun z hz => c_X5_isMissing hz) wV_X7_83 nk_X5_isMissing (by decide) (by decide) ob_1 vc_4 rfl rfl (Nat.le_of_ble_eq_true rfl) (fun z2 => ?_)
    refine s_if_eq F 27 dX7_drop_18 (by decide) (fun c6 => ?_) (fun c6 => ?_)
    · refine s_aload_n F 0 dX7_drop_27 rfl rfl ?_
      refine s_aload_n F 0 dX7_drop_28 rfl rfl ?_
      refine fg_X7_10 F dX7_drop_29 ?_
      refine s_iload_n F 1 dX7_drop_32 rfl rfl ?_
      refine s_Vi F [.int a1] dX7_drop_33 (fun z hz => c_X5_takeAway hz) wV_X7_106 nk_X5_takeAway (by decide) (by decide) ob_1 vc_4 rfl rfl (Nat.le_of_ble_eq_true rfl) (fun z3 => ?_)
      refine s_Vi F [.int z3.1] dX7_drop_36 (fun z hz => c_X7_unfound hz) wV_X7_80 nk_X7_unfound (by decide) (by decide) ob_0 vc_6 rfl rfl (Nat.le_of_ble_eq_true rfl) (fun z4 => ?_)
      exact s_iret R dX7_drop_39
    · refine s_aload_n F 0 dX7_drop_21 rfl rfl ?_
      refine s_iconst F (nI 1) dX7_drop_22 rfl ?_
      refine s_Vi F [.int (nI 1)] dX7_drop_23 (fun z hz => c_X7_found hz) wV_X7_72 nk_X7_found (by decide) (by decide) ob_0 vc_6 rfl rfl (Nat.le_of_ble_eq_true rfl) (fun z5 => ?_)
      exact s_iret R dX7_drop_26
  · refine s_ldc F dX7_drop_7 m_1_173 ?_
    exact s_iret R dX7_drop_9
/-! X7_feed -/
def F_X7_feed (a1 : Int32) (σ : St) : Option (Int32 × St) := (F_X7_isWithin a1 (nI 0) (nI 255) σ).bind fun z1 => if z1.1 = 0 then (some ((-1000001 : Int32), z1.2)) else ((F_X6_append a1 z1.2).bind fun z2 => if z2.1 = 0 then (some ((-1000003 : Int32), z2.2)) else (some (z2.2.2 1, z2.2)))
set_option maxRecDepth 20000 in
theorem c_X7_feed {G : Gx} {l : Launch} {a1 : Int32} {σ : St} {o : (Int32 × St)} (hF : F_X7_feed a1 σ = some o) : Con G l yX7_feed cX7_feed 2 (some .int) 1 [.ref (ga G 0), .int a1] σ (some (.int o.1)) o.2 := by
  refine Con.of plX7 (Nat.le_of_ble_eq_true rfl) [(0, .ref (ga G 0)), (1, .int a1)] rfl (fun X F R => ?_)
  refine (show Sim G X 2 o (F_X7_feed a1 σ) σ 0 [(0, .ref (ga G 0)), (1, .int a1)] [] from ?_) hF
  unfold F_X7_feed
  refine s_iload_n F 1 dX7_feed_0 rfl rfl ?_
  refine s_iconst F (nI 0) dX7_feed_1 rfl ?_
  refine s_sipush F (nI 255) dX7_feed_2 rfl ?_
  refine s_Si F [.int a1, .int (nI 0), .int (nI 255)] dX7_feed_5 (fun z hz => c_X7_isWithin hz) wS_X7_67 nk_X7_isWithin (by decide) (by decide) rfl rfl (Nat.le_of_ble_eq_true rfl) (fun z1 => ?_)
  refine s_if_ne F 14 dX7_feed_8 (by decide) (fun c4 => ?_) (fun c4 => ?_)
  · refine s_aload_n F 0 dX7_feed_14 rfl rfl ?_
    refine fg_X7_19 F dX7_feed_15 ?_
    refine s_iload_n F 1 dX7_feed_18 rfl rfl ?_
    refine s_Vi F [.int a1] dX7_feed_19 (fun z hz => c_X6_append hz) wV_X7_109 nk_X6_append (by decide) (by decide) ob_2 vc_5 rfl rfl (Nat.le_of_ble_eq_true rfl) (fun z2 => ?_)
    refine s_if_eq F 35 dX7_feed_22 (by decide) (fun c3 => ?_) (fun c3 => ?_)
    · refine s_ldc F dX7_feed_35 m_1_226 ?_
      exact s_iret R dX7_feed_37
    · refine s_aload_n F 0 dX7_feed_25 rfl rfl ?_
      refine fg_X7_19 F dX7_feed_26 ?_
      refine fg_X7_112 F dX7_feed_29 ?_
      refine s_goto F 37 dX7_feed_32 (by decide) ?_
      exact s_iret R dX7_feed_37
  · refine s_ldc F dX7_feed_11 m_1_173 ?_
    exact s_iret R dX7_feed_13
/-! X7_house -/
def F_X7_house (σ : St) : Option (Int32 × St) := (F_X6_readInto σ).bind fun z1 => if z1.1 = 0 then (some ((-1000100 : Int32) - ((setF z1.2 1 (nI 0)).2 3), setF z1.2 1 (nI 0))) else ((F_X4_take 3 7 (setF z1.2 1 (nI 0))).bind fun z2 => (F_X0_forget z2).bind fun z3 => if ix (nI 2) 80 then some (z3.1 4 (nI 2).toNatClampNeg, z3) else none)
set_option maxRecDepth 20000 in
theorem c_X7_house {G : Gx} {l : Launch} {σ : St} {o : (Int32 × St)} (hF : F_X7_house σ = some o) : Con G l yX7_house cX7_house 2 (some .int) 4 [.ref (ga G 0)] σ (some (.int o.1)) o.2 := by
  refine Con.of plX7 (Nat.le_of_ble_eq_true rfl) [(0, .ref (ga G 0))] rfl (fun X F R => ?_)
  refine (show Sim G X 2 o (F_X7_house σ) σ 0 [(0, .ref (ga G 0))] [] from ?_) hF
  unfold F_X7_house
  refine s_aload_n F 0 dX7_house_0 rfl rfl ?_
  refine fg_X7_19 F dX7_house_1 ?_
  refine s_aload_n F 0 dX7_house_4 rfl rfl ?_
  refine fg_X7_30 F dX7_house_5 ?_
  refine s_Vi F [.ref (ga G 6)] dX7_house_8 (fun z hz => c_X6_readInto hz) wV_X7_116 nk_X6_readInto (by decide) (by decide) ob_2 vc_5 rfl rfl (Nat.le_of_ble_eq_true rfl) (fun z1 => ?_)
  refine s_istore_n F [(1, .int z1.1), (0, .ref (ga G 0))] dX7_house_11 rfl (by decide) rfl ?_
  refine s_aload_n F 1 dX7_house_12 rfl rfl ?_
  refine fg_X7_19 F dX7_house_13 ?_
  refine s_iconst F (nI 0) dX7_house_16 rfl ?_
  refine fp_X7_112 F dX7_house_17 ?_
  refine s_iload_n F 0 dX7_house_20 rfl rfl ?_
  refine s_if_ne F 35 dX7_house_21 (by decide) (fun c5 => ?_) (fun c5 => ?_)
  · refine s_aload_n F 1 dX7_house_35 rfl rfl ?_
    refine fg_X7_26 F dX7_house_36 ?_
    refine s_aload_n F 1 dX7_house_39 rfl rfl ?_
    refine fg_X7_30 F dX7_house_40 ?_
    refine fg_X7_124 F nt_6 (c := 7) rfl dX7_house_43 ?_
    refine s_Vv F [.ref (ga G 7)] dX7_house_46 (fun z hz => c_X4_take nt_3 ar_7 hz) wV_X7_127 nk_X4_take (by decide) (by decide) (isNet.obj nt_3) vc_3 rfl rfl (Nat.le_of_ble_eq_true rfl) (fun z2 => ?_)
    refine s_aload_n F 1 dX7_house_49 rfl rfl ?_
    refine fg_X7_36 F dX7_house_50 ?_
    refine s_Vv F [] dX7_house_53 (fun z hz => c_X0_forget hz) wV_X7_131 nk_X0_forget (by decide) (by decide) ob_15 vc_0 rfl rfl (Nat.le_of_ble_eq_true rfl) (fun z3 => ?_)
    refine s_aload_n F 1 dX7_house_56 rfl rfl ?_
    refine fg_X7_26 F dX7_house_57 ?_
    refine fg_X7_124 F nt_3 (c := 4) rfl dX7_house_60 ?_
    refine s_iconst F (nI 2) dX7_house_63 rfl ?_
    refine s_iald F ar_4 dX7_house_64 (fun q4 => ?_)
    exact s_iret R dX7_house_65
  · refine s_ldc F dX7_house_24 m_2_28 ?_
    refine s_aload_n F 1 dX7_house_26 rfl rfl ?_
    refine fg_X7_19 F dX7_house_27 ?_
    refine fg_X7_121 F dX7_house_30 ?_
    refine s_isub F dX7_house_33 ?_
    exact s_iret R dX7_house_34
/-! X7_fault -/
def F_X7_fault (σ : St) : Option (Int32 × St) := some (σ.2 2, σ)
set_option maxRecDepth 20000 in
theorem c_X7_fault {G : Gx} {l : Launch} {σ : St} {o : (Int32 × St)} (hF : F_X7_fault σ = some o) : Con G l yX7_fault cX7_fault 1 (some .int) 0 [.ref (ga G 0)] σ (some (.int o.1)) o.2 := by
  refine Con.of plX7 (Nat.le_of_ble_eq_true rfl) [(0, .ref (ga G 0))] rfl (fun X F R => ?_)
  refine (show Sim G X 1 o (F_X7_fault σ) σ 0 [(0, .ref (ga G 0))] [] from ?_) hF
  unfold F_X7_fault
  refine s_aload_n F 0 dX7_fault_0 rfl rfl ?_
  refine fg_X7_19 F dX7_fault_1 ?_
  refine fg_X7_134 F dX7_fault_4 ?_
  exact s_iret R dX7_fault_7
/-! X7_undo -/
def F_X7_undo (σ : St) : Option (Int32 × St) := if (σ.2 6) = 0 then (some ((-1000002 : Int32), σ)) else ((F_X0_latest σ).bind fun z1 => if (46 ≤ z1.1 ∧ z1.1 < 72) then (F_X4_take 3 z1.1 z1.2).bind fun z3 => some (z3.2 6, z3) else none)
set_option maxRecDepth 20000 in
theorem c_X7_undo {G : Gx} {l : Launch} {σ : St} {o : (Int32 × St)} (hF : F_X7_undo σ = some o) : Con G l yX7_undo cX7_undo 1 (some .int) 2 [.ref (ga G 0)] σ (some (.int o.1)) o.2 := by
  refine Con.of plX7 (Nat.le_of_ble_eq_true rfl) [(0, .ref (ga G 0))] rfl (fun X F R => ?_)
  refine (show Sim G X 1 o (F_X7_undo σ) σ 0 [(0, .ref (ga G 0))] [] from ?_) hF
  unfold F_X7_undo
  refine s_aload_n F 0 dX7_undo_0 rfl rfl ?_
  refine fg_X7_36 F dX7_undo_1 ?_
  refine fg_X7_137 F dX7_undo_4 ?_
  refine s_if_ne F 13 dX7_undo_7 (by decide) (fun c4 => ?_) (fun c4 => ?_)
  · refine s_aload_n F 0 dX7_undo_13 rfl rfl ?_
    refine fg_X7_26 F dX7_undo_14 ?_
    refine s_aload_n F 0 dX7_undo_17 rfl rfl ?_
    refine fg_X7_36 F dX7_undo_18 ?_
    refine s_Va F [] dX7_undo_21 (fun z hz => c_X0_latest hz) wV_X7_141 nk_X0_latest (by decide) (by decide) ob_15 vc_0 rfl rfl (Nat.le_of_ble_eq_true rfl) (fun z1 => ?_)
    refine s_grd (fun q2 => ?_)
    refine s_Vv F [.ref (ga G z1.1)] dX7_undo_24 (fun z hz => c_X4_take nt_3 (isArr.hi q2.1 q2.2) hz) wV_X7_127 nk_X4_take (by decide) (by decide) (isNet.obj nt_3) vc_3 rfl rfl (Nat.le_of_ble_eq_true rfl) (fun z3 => ?_)
    refine s_aload_n F 0 dX7_undo_27 rfl rfl ?_
    refine fg_X7_36 F dX7_undo_28 ?_
    refine fg_X7_137 F dX7_undo_31 ?_
    exact s_iret R dX7_undo_34
  · refine s_ldc F dX7_undo_10 m_2_46 ?_
    exact s_iret R dX7_undo_12
/-! X7_breathe -/
def L_X7_breathe_50 (K : Int32 → St → Option (Int32 × St)) : Nat → Int32 → Int32 → Int32 → St → Option (Int32 × St)
  | 0, _, _, _, _ => none
  | n + 1, a1, a2, a3, σ => if a1 ≤ a3 then (K a2 σ) else ((F_X0_keep σ).bind fun z4 => (F_X4_passBreath 3 z4).bind fun z5 => L_X7_breathe_50 K n a1 z5.1 (a3 + (nI 1)) z5.2)
def F_X7_breathe (a1 : Int32) (σ : St) : Option (Int32 × St) := (F_X4_stands 3 σ).bind fun z1 => if z1.1 = 0 then (some ((-1000002 : Int32), z1.2)) else ((F_X7_isWithin a1 (nI 1) (nI 24) z1.2).bind fun z2 => if z2.1 = 0 then (some ((-1000001 : Int32), z2.2)) else (if ix (nI 4) 80 then if ((z2.2.1 4 (nI 4).toNatClampNeg) + a1) ≤ (nI 999) then (L_X7_breathe_50 (fun a2 σ => some (a2, σ)) fuel a1 (nI 0) (nI 0) z2.2) else (some ((-1000003 : Int32), z2.2)) else none))
set_option maxRecDepth 20000 in
theorem l_X7_breathe_50 {G : Gx} {X : Cx} (F : Fx G X cX7_breathe 4 RX7 3) {o : (Int32 × St)} (R : Ret G X cX7_breathe 4 (some .int) (some (.int o.1)) o.2) {K : Int32 → St → Option (Int32 × St)} (hK : ∀ (a2 : Int32) (σ : St), Sim G X 4 o (K a2 σ) σ 83 [(2, .int a2)] []) : ∀ (n : Nat) (a1 : Int32) (a2 : Int32) (a3 : Int32) (σ : St), Sim G X 4 o (L_X7_breathe_50 K n a1 a2 a3 σ) σ 50 [(0, .ref (ga G 0)), (1, .int a1), (2, .int a2), (3, .int a3)] [] := by
  intro n
  induction n with
  | zero =>
    intro a1 a2 a3 σ
    exact s_none
  | succ n ih =>
    intro a1 a2 a3 σ
    rw [L_X7_breathe_50.eq_2]
    refine s_iload_n F 3 dX7_breathe_50 rfl rfl ?_
    refine s_iload_n F 1 dX7_breathe_51 rfl rfl ?_
    refine s_icmp_ge F 83 dX7_breathe_52 (by decide) (fun c6 => ?_) (fun c6 => ?_)
    · refine s_lv [(2, .int a2)] [2] rfl ?_
      exact hK _ _
    · refine s_aload_n F 0 dX7_breathe_55 rfl rfl ?_
      refine fg_X7_36 F dX7_breathe_56 ?_
      refine s_aload_n F 0 dX7_breathe_59 rfl rfl ?_
      refine fg_X7_26 F dX7_breathe_60 ?_
      refine fg_X7_124 F nt_3 (c := 4) rfl dX7_breathe_63 ?_
      refine s_Vv F [.ref (ga G 4)] dX7_breathe_66 (fun z hz => c_X0_keep hz) wV_X7_149 nk_X0_keep (by decide) (by decide) ob_15 vc_0 rfl rfl (Nat.le_of_ble_eq_true rfl) (fun z4 => ?_)
      refine s_aload_n F 0 dX7_breathe_69 rfl rfl ?_
      refine fg_X7_26 F dX7_breathe_70 ?_
      refine s_Vi F [] dX7_breathe_73 (fun z hz => c_X4_passBreath nt_3 hz) wV_X7_152 nk_X4_passBreath (by decide) (by decide) (isNet.obj nt_3) vc_3 rfl rfl (Nat.le_of_ble_eq_true rfl) (fun z5 => ?_)
      refine s_istore_n F [(2, .int z5.1), (0, .ref (ga G 0)), (1, .int a1), (3, .int a3)] dX7_breathe_76 rfl (by decide) rfl ?_
      refine s_iinc F 3 [(3, .int (a3 + (nI 1))), (2, .int z5.1), (0, .ref (ga G 0)), (1, .int a1)] dX7_breathe_77 rfl rfl (by decide) rfl ?_
      refine s_goto F 50 dX7_breathe_80 (by decide) ?_
      refine s_lv [(0, .ref (ga G 0)), (1, .int a1), (2, .int z5.1), (3, .int (a3 + (nI 1)))] [2, 3, 1, 0] rfl ?_
      exact ih _ _ _ _
set_option maxRecDepth 20000 in
theorem c_X7_breathe {G : Gx} {l : Launch} {a1 : Int32} {σ : St} {o : (Int32 × St)} (hF : F_X7_breathe a1 σ = some o) : Con G l yX7_breathe cX7_breathe 4 (some .int) 3 [.ref (ga G 0), .int a1] σ (some (.int o.1)) o.2 := by
  refine Con.of plX7 (Nat.le_of_ble_eq_true rfl) [(0, .ref (ga G 0)), (1, .int a1)] rfl (fun X F R => ?_)
  refine (show Sim G X 4 o (F_X7_breathe a1 σ) σ 0 [(0, .ref (ga G 0)), (1, .int a1)] [] from ?_) hF
  unfold F_X7_breathe
  refine s_aload_n F 0 dX7_breathe_0 rfl rfl ?_
  refine fg_X7_26 F dX7_breathe_1 ?_
  refine s_Vi F [] dX7_breathe_4 (fun z hz => c_X4_stands nt_3 hz) wV_X7_145 nk_X4_stands (by decide) (by decide) (isNet.obj nt_3) vc_3 rfl rfl (Nat.le_of_ble_eq_true rfl) (fun z1 => ?_)
  refine s_if_ne F 13 dX7_breathe_7 (by decide) (fun c9 => ?_) (fun c9 => ?_)
  · refine s_iload_n F 1 dX7_breathe_13 rfl rfl ?_
    refine s_iconst F (nI 1) dX7_breathe_14 rfl ?_
    refine s_bipush F (nI 24) dX7_breathe_15 rfl ?_
    refine s_Si F [.int a1, .int (nI 1), .int (nI 24)] dX7_breathe_17 (fun z hz => c_X7_isWithin hz) wS_X7_67 nk_X7_isWithin (by decide) (by decide) rfl rfl (Nat.le_of_ble_eq_true rfl) (fun z2 => ?_)
    refine s_if_ne F 26 dX7_breathe_20 (by decide) (fun c8 => ?_) (fun c8 => ?_)
    · refine s_aload_n F 0 dX7_breathe_26 rfl rfl ?_
      refine fg_X7_26 F dX7_breathe_27 ?_
      refine fg_X7_124 F nt_3 (c := 4) rfl dX7_breathe_30 ?_
      refine s_iconst F (nI 4) dX7_breathe_33 rfl ?_
      refine s_iald F ar_4 dX7_breathe_34 (fun q3 => ?_)
      refine s_iload_n F 1 dX7_breathe_35 rfl rfl ?_
      refine s_iadd F dX7_breathe_36 ?_
      refine s_sipush F (nI 999) dX7_breathe_37 rfl ?_
      refine s_icmp_le F 46 dX7_breathe_40 (by decide) (fun c7 => ?_) (fun c7 => ?_)
      · refine s_iconst F (nI 0) dX7_breathe_46 rfl ?_
        refine s_istore_n F [(2, .int (nI 0)), (0, .ref (ga G 0)), (1, .int a1)] dX7_breathe_47 rfl (by decide) rfl ?_
        refine s_iconst F (nI 0) dX7_breathe_48 rfl ?_
        refine s_istore_n F [(3, .int (nI 0)), (2, .int (nI 0)), (0, .ref (ga G 0)), (1, .int a1)] dX7_breathe_49 rfl (by decide) rfl ?_
        refine s_lv [(0, .ref (ga G 0)), (1, .int a1), (2, .int (nI 0)), (3, .int (nI 0))] [2, 3, 1, 0] rfl ?_
        refine l_X7_breathe_50 F R (fun a2 σ => ?_) fuel _ _ _ _
        refine s_iload_n F 0 dX7_breathe_83 rfl rfl ?_
        exact s_iret R dX7_breathe_84
      · refine s_ldc F dX7_breathe_43 m_1_226 ?_
        exact s_iret R dX7_breathe_45
    · refine s_ldc F dX7_breathe_23 m_1_173 ?_
      exact s_iret R dX7_breathe_25
  · refine s_ldc F dX7_breathe_10 m_2_46 ?_
    exact s_iret R dX7_breathe_12
/-! X7_speak -/
def F_X7_speak (a1 : Int32) (a2 : Int32) (a3 : Int32) (σ : St) : Option (Int32 × St) := (F_X4_isHorn 3 a1 σ).bind fun z1 => if z1.1 = 0 then (some ((-1000001 : Int32), z1.2)) else ((F_X7_isWithin a2 (nI 0) (nI 9) z1.2).bind fun z2 => if z2.1 = 0 then (some ((-1000001 : Int32), z2.2)) else ((F_X7_isWithin a3 (nI 1) (nI 99) z2.2).bind fun z3 => if z3.1 = 0 then (some ((-1000001 : Int32), z3.2)) else ((F_X0_keep z3.2).bind fun z4 => (F_X4_letIn 3 a1 a2 a3 z4).bind fun z5 => some (z5.1, z5.2))))
set_option maxRecDepth 20000 in
theorem c_X7_speak {G : Gx} {l : Launch} {a1 : Int32} {a2 : Int32} {a3 : Int32} {σ : St} {o : (Int32 × St)} (hF : F_X7_speak a1 a2 a3 σ = some o) : Con G l yX7_speak cX7_speak 4 (some .int) 2 [.ref (ga G 0), .int a1, .int a2, .int a3] σ (some (.int o.1)) o.2 := by
  refine Con.of plX7 (Nat.le_of_ble_eq_true rfl) [(0, .ref (ga G 0)), (1, .int a1), (2, .int a2), (3, .int a3)] rfl (fun X F R => ?_)
  refine (show Sim G X 4 o (F_X7_speak a1 a2 a3 σ) σ 0 [(0, .ref (ga G 0)), (1, .int a1), (2, .int a2), (3, .int a3)] [] from ?_) hF
  unfold F_X7_speak
  refine s_aload_n F 0 dX7_speak_0 rfl rfl ?_
  refine fg_X7_26 F dX7_speak_1 ?_
  refine s_iload_n F 1 dX7_speak_4 rfl rfl ?_
  refine s_Vi F [.int a1] dX7_speak_5 (fun z hz => c_X4_isHorn nt_3 hz) wV_X7_156 nk_X4_isHorn (by decide) (by decide) (isNet.obj nt_3) vc_3 rfl rfl (Nat.le_of_ble_eq_true rfl) (fun z1 => ?_)
  refine s_if_eq F 31 dX7_speak_8 (by decide) (fun c8 => ?_) (fun c8 => ?_)
  · refine s_ldc F dX7_speak_31 m_1_173 ?_
    exact s_iret R dX7_speak_33
  · refine s_iload_n F 2 dX7_speak_11 rfl rfl ?_
    refine s_iconst F (nI 0) dX7_speak_12 rfl ?_
    refine s_bipush F (nI 9) dX7_speak_13 rfl ?_
    refine s_Si F [.int a2, .int (nI 0), .int (nI 9)] dX7_speak_15 (fun z hz => c_X7_isWithin hz) wS_X7_67 nk_X7_isWithin (by decide) (by decide) rfl rfl (Nat.le_of_ble_eq_true rfl) (fun z2 => ?_)
    refine s_if_eq F 31 dX7_speak_18 (by decide) (fun c7 => ?_) (fun c7 => ?_)
    · refine s_ldc F dX7_speak_31 m_1_173 ?_
      exact s_iret R dX7_speak_33
    · refine s_iload_n F 3 dX7_speak_21 rfl rfl ?_
      refine s_iconst F (nI 1) dX7_speak_22 rfl ?_
      refine s_bipush F (nI 99) dX7_speak_23 rfl ?_
      refine s_Si F [.int a3, .int (nI 1), .int (nI 99)] dX7_speak_25 (fun z hz => c_X7_isWithin hz) wS_X7_67 nk_X7_isWithin (by decide) (by decide) rfl rfl (Nat.le_of_ble_eq_true rfl) (fun z3 => ?_)
      refine s_if_ne F 34 dX7_speak_28 (by decide) (fun c6 => ?_) (fun c6 => ?_)
      · refine s_aload_n F 0 dX7_speak_34 rfl rfl ?_
        refine fg_X7_36 F dX7_speak_35 ?_
        refine s_aload_n F 0 dX7_speak_38 rfl rfl ?_
        refine fg_X7_26 F dX7_speak_39 ?_
        refine fg_X7_124 F nt_3 (c := 4) rfl dX7_speak_42 ?_
        refine s_Vv F [.ref (ga G 4)] dX7_speak_45 (fun z hz => c_X0_keep hz) wV_X7_149 nk_X0_keep (by decide) (by decide) ob_15 vc_0 rfl rfl (Nat.le_of_ble_eq_true rfl) (fun z4 => ?_)
        refine s_aload_n F 0 dX7_speak_48 rfl rfl ?_
        refine fg_X7_26 F dX7_speak_49 ?_
        refine s_iload_n F 1 dX7_speak_52 rfl rfl ?_
        refine s_iload_n F 2 dX7_speak_53 rfl rfl ?_
        refine s_iload_n F 3 dX7_speak_54 rfl rfl ?_
        refine s_Vi F [.int a1, .int a2, .int a3] dX7_speak_55 (fun z hz => c_X4_letIn nt_3 hz) wV_X7_159 nk_X4_letIn (by decide) (by decide) (isNet.obj nt_3) vc_3 rfl rfl (Nat.le_of_ble_eq_true rfl) (fun z5 => ?_)
        exact s_iret R dX7_speak_58
      · refine s_ldc F dX7_speak_31 m_1_173 ?_
        exact s_iret R dX7_speak_33
/-! X7_tap -/
def J_X7_tap_41 (a1 : Int32) (s0 : Int32) (s1 : Int32) (σ : St) : Option (Int32 × St) := if s1 = s0 then (some ((-1000002 : Int32), σ)) else ((F_X0_keep σ).bind fun z4 => if ix (nI 3) 80 then if ix (nI 3) 80 then if ix (nI 3) 80 then some ((setA z4 4 (nI 3).toNatClampNeg ((z4.1 4 (nI 3).toNatClampNeg) ^^^ ((nI 1) <<< (a1 &&& 31)))).1 4 (nI 3).toNatClampNeg, setA z4 4 (nI 3).toNatClampNeg ((z4.1 4 (nI 3).toNatClampNeg) ^^^ ((nI 1) <<< (a1 &&& 31)))) else none else none else none)
def F_X7_tap (a1 : Int32) (a2 : Int32) (σ : St) : Option (Int32 × St) := (F_X4_isPipe 3 a1 σ).bind fun z1 => if z1.1 = 0 then (some ((-1000001 : Int32), z1.2)) else ((F_X7_isWithin a2 (nI 0) (nI 1) z1.2).bind fun z2 => if z2.1 = 0 then (some ((-1000001 : Int32), z2.2)) else ((F_X4_isOpen 3 a1 z2.2).bind fun z3 => if a2 = (nI 1) then (J_X7_tap_41 a1 (nI 1) z3.1 z3.2) else (J_X7_tap_41 a1 (nI 0) z3.1 z3.2)))
set_option maxRecDepth 20000 in
theorem j_X7_tap_41 {G : Gx} {X : Cx} (F : Fx G X cX7_tap 3 RX7 2) {o : (Int32 × St)} (R : Ret G X cX7_tap 3 (some .int) (some (.int o.1)) o.2) (a1 : Int32) (s0 : Int32) (s1 : Int32) (σ : St) : Sim G X 3 o (J_X7_tap_41 a1 s0 s1 σ) σ 41 [(0, .ref (ga G 0)), (1, .int a1)] [.int s0, .int s1] := by
  unfold J_X7_tap_41
  refine s_icmp_ne F 47 dX7_tap_41 (by decide) (fun c8 => ?_) (fun c8 => ?_)
  · refine s_aload_n F 0 dX7_tap_47 rfl rfl ?_
    refine fg_X7_36 F dX7_tap_48 ?_
    refine s_aload_n F 0 dX7_tap_51 rfl rfl ?_
    refine fg_X7_26 F dX7_tap_52 ?_
    refine fg_X7_124 F nt_3 (c := 4) rfl dX7_tap_55 ?_
    refine s_Vv F [.ref (ga G 4)] dX7_tap_58 (fun z hz => c_X0_keep hz) wV_X7_149 nk_X0_keep (by decide) (by decide) ob_15 vc_0 rfl rfl (Nat.le_of_ble_eq_true rfl) (fun z4 => ?_)
    refine s_aload_n F 0 dX7_tap_61 rfl rfl ?_
    refine fg_X7_26 F dX7_tap_62 ?_
    refine fg_X7_124 F nt_3 (c := 4) rfl dX7_tap_65 ?_
    refine s_iconst F (nI 3) dX7_tap_68 rfl ?_
    refine s_dup2 F dX7_tap_69 rfl rfl ?_
    refine s_iald F ar_4 dX7_tap_70 (fun q5 => ?_)
    refine s_iconst F (nI 1) dX7_tap_71 rfl ?_
    refine s_iload_n F 1 dX7_tap_72 rfl rfl ?_
    refine s_ishl F dX7_tap_73 ?_
    refine s_ixor F dX7_tap_74 ?_
    refine s_iast F ar_4 dX7_tap_75 (fun q6 => ?_)
    refine s_aload_n F 0 dX7_tap_76 rfl rfl ?_
    refine fg_X7_26 F dX7_tap_77 ?_
    refine fg_X7_124 F nt_3 (c := 4) rfl dX7_tap_80 ?_
    refine s_iconst F (nI 3) dX7_tap_83 rfl ?_
    refine s_iald F ar_4 dX7_tap_84 (fun q7 => ?_)
    exact s_iret R dX7_tap_85
  · refine s_ldc F dX7_tap_44 m_2_46 ?_
    exact s_iret R dX7_tap_46
set_option maxRecDepth 20000 in
theorem c_X7_tap {G : Gx} {l : Launch} {a1 : Int32} {a2 : Int32} {σ : St} {o : (Int32 × St)} (hF : F_X7_tap a1 a2 σ = some o) : Con G l yX7_tap cX7_tap 3 (some .int) 2 [.ref (ga G 0), .int a1, .int a2] σ (some (.int o.1)) o.2 := by
  refine Con.of plX7 (Nat.le_of_ble_eq_true rfl) [(0, .ref (ga G 0)), (1, .int a1), (2, .int a2)] rfl (fun X F R => ?_)
  refine (show Sim G X 3 o (F_X7_tap a1 a2 σ) σ 0 [(0, .ref (ga G 0)), (1, .int a1), (2, .int a2)] [] from ?_) hF
  unfold F_X7_tap
  refine s_aload_n F 0 dX7_tap_0 rfl rfl ?_
  refine fg_X7_26 F dX7_tap_1 ?_
  refine s_iload_n F 1 dX7_tap_4 rfl rfl ?_
  refine s_Vi F [.int a1] dX7_tap_5 (fun z hz => c_X4_isPipe nt_3 hz) wV_X7_162 nk_X4_isPipe (by decide) (by decide) (isNet.obj nt_3) vc_3 rfl rfl (Nat.le_of_ble_eq_true rfl) (fun z1 => ?_)
  refine s_if_eq F 20 dX7_tap_8 (by decide) (fun c11 => ?_) (fun c11 => ?_)
  · refine s_ldc F dX7_tap_20 m_1_173 ?_
    exact s_iret R dX7_tap_22
  · refine s_iload_n F 2 dX7_tap_11 rfl rfl ?_
    refine s_iconst F (nI 0) dX7_tap_12 rfl ?_
    refine s_iconst F (nI 1) dX7_tap_13 rfl ?_
    refine s_Si F [.int a2, .int (nI 0), .int (nI 1)] dX7_tap_14 (fun z hz => c_X7_isWithin hz) wS_X7_67 nk_X7_isWithin (by decide) (by decide) rfl rfl (Nat.le_of_ble_eq_true rfl) (fun z2 => ?_)
    refine s_if_ne F 23 dX7_tap_17 (by decide) (fun c10 => ?_) (fun c10 => ?_)
    · refine s_aload_n F 0 dX7_tap_23 rfl rfl ?_
      refine fg_X7_26 F dX7_tap_24 ?_
      refine s_iload_n F 1 dX7_tap_27 rfl rfl ?_
      refine s_Vi F [.int a1] dX7_tap_28 (fun z hz => c_X4_isOpen nt_3 hz) wV_X7_165 nk_X4_isOpen (by decide) (by decide) (isNet.obj nt_3) vc_3 rfl rfl (Nat.le_of_ble_eq_true rfl) (fun z3 => ?_)
      refine s_iload_n F 2 dX7_tap_31 rfl rfl ?_
      refine s_iconst F (nI 1) dX7_tap_32 rfl ?_
      refine s_icmp_ne F 40 dX7_tap_33 (by decide) (fun c9 => ?_) (fun c9 => ?_)
      · refine s_iconst F (nI 0) dX7_tap_40 rfl ?_
        refine s_lv [(0, .ref (ga G 0)), (1, .int a1)] [0, 1] rfl ?_
        exact j_X7_tap_41 F R _ _ _ _
      · refine s_iconst F (nI 1) dX7_tap_36 rfl ?_
        refine s_goto F 41 dX7_tap_37 (by decide) ?_
        refine s_lv [(0, .ref (ga G 0)), (1, .int a1)] [0, 1] rfl ?_
        exact j_X7_tap_41 F R _ _ _ _
    · refine s_ldc F dX7_tap_20 m_1_173 ?_
      exact s_iret R dX7_tap_22
/-! X7_dent -/
def F_X7_dent (a1 : Int32) (a2 : Int32) (σ : St) : Option (Int32 × St) := (F_X4_isPipe 3 a1 σ).bind fun z1 => if z1.1 = 0 then (some ((-1000001 : Int32), z1.2)) else ((F_X7_isWithin a2 (nI 0) (nI 9) z1.2).bind fun z2 => if z2.1 = 0 then (some ((-1000001 : Int32), z2.2)) else ((F_X0_keep z2.2).bind fun z3 => if ix ((nI 33) + a1) 80 then if ix ((nI 33) + a1) 80 then some (z3.1 4 ((nI 33) + a1).toNatClampNeg, setA z3 4 ((nI 33) + a1).toNatClampNeg a2) else none else none))
set_option maxRecDepth 20000 in
theorem c_X7_dent {G : Gx} {l : Launch} {a1 : Int32} {a2 : Int32} {σ : St} {o : (Int32 × St)} (hF : F_X7_dent a1 a2 σ = some o) : Con G l yX7_dent cX7_dent 4 (some .int) 2 [.ref (ga G 0), .int a1, .int a2] σ (some (.int o.1)) o.2 := by
  refine Con.of plX7 (Nat.le_of_ble_eq_true rfl) [(0, .ref (ga G 0)), (1, .int a1), (2, .int a2)] rfl (fun X F R => ?_)
  refine (show Sim G X 4 o (F_X7_dent a1 a2 σ) σ 0 [(0, .ref (ga G 0)), (1, .int a1), (2, .int a2)] [] from ?_) hF
  unfold F_X7_dent
  refine s_aload_n F 0 dX7_dent_0 rfl rfl ?_
  refine fg_X7_26 F dX7_dent_1 ?_
  refine s_iload_n F 1 dX7_dent_4 rfl rfl ?_
  refine s_Vi F [.int a1] dX7_dent_5 (fun z hz => c_X4_isPipe nt_3 hz) wV_X7_162 nk_X4_isPipe (by decide) (by decide) (isNet.obj nt_3) vc_3 rfl rfl (Nat.le_of_ble_eq_true rfl) (fun z1 => ?_)
  refine s_if_eq F 21 dX7_dent_8 (by decide) (fun c7 => ?_) (fun c7 => ?_)
  · refine s_ldc F dX7_dent_21 m_1_173 ?_
    exact s_iret R dX7_dent_23
  · refine s_iload_n F 2 dX7_dent_11 rfl rfl ?_
    refine s_iconst F (nI 0) dX7_dent_12 rfl ?_
    refine s_bipush F (nI 9) dX7_dent_13 rfl ?_
    refine s_Si F [.int a2, .int (nI 0), .int (nI 9)] dX7_dent_15 (fun z hz => c_X7_isWithin hz) wS_X7_67 nk_X7_isWithin (by decide) (by decide) rfl rfl (Nat.le_of_ble_eq_true rfl) (fun z2 => ?_)
    refine s_if_ne F 24 dX7_dent_18 (by decide) (fun c6 => ?_) (fun c6 => ?_)
    · refine s_aload_n F 0 dX7_dent_24 rfl rfl ?_
      refine fg_X7_36 F dX7_dent_25 ?_
      refine s_aload_n F 0 dX7_dent_28 rfl rfl ?_
      refine fg_X7_26 F dX7_dent_29 ?_
      refine fg_X7_124 F nt_3 (c := 4) rfl dX7_dent_32 ?_
      refine s_Vv F [.ref (ga G 4)] dX7_dent_35 (fun z hz => c_X0_keep hz) wV_X7_149 nk_X0_keep (by decide) (by decide) ob_15 vc_0 rfl rfl (Nat.le_of_ble_eq_true rfl) (fun z3 => ?_)
      refine s_aload_n F 0 dX7_dent_38 rfl rfl ?_
      refine fg_X7_26 F dX7_dent_39 ?_
      refine fg_X7_124 F nt_3 (c := 4) rfl dX7_dent_42 ?_
      refine s_bipush F (nI 33) dX7_dent_45 rfl ?_
      refine s_iload_n F 1 dX7_dent_47 rfl rfl ?_
      refine s_iadd F dX7_dent_48 ?_
      refine s_iald F ar_4 dX7_dent_49 (fun q4 => ?_)
      refine s_istore_n F [(3, .int (z3.1 4 ((nI 33) + a1).toNatClampNeg)), (0, .ref (ga G 0)), (1, .int a1), (2, .int a2)] dX7_dent_50 rfl (by decide) rfl ?_
      refine s_aload_n F 1 dX7_dent_51 rfl rfl ?_
      refine fg_X7_26 F dX7_dent_52 ?_
      refine fg_X7_124 F nt_3 (c := 4) rfl dX7_dent_55 ?_
      refine s_bipush F (nI 33) dX7_dent_58 rfl ?_
      refine s_iload_n F 2 dX7_dent_60 rfl rfl ?_
      refine s_iadd F dX7_dent_61 ?_
      refine s_iload_n F 3 dX7_dent_62 rfl rfl ?_
      refine s_iast F ar_4 dX7_dent_63 (fun q5 => ?_)
      refine s_iload_n F 0 dX7_dent_64 rfl rfl ?_
      exact s_iret R dX7_dent_65
    · refine s_ldc F dX7_dent_21 m_1_173 ?_
      exact s_iret R dX7_dent_23
/-! X7_hush -/
def F_X7_hush (σ : St) : Option (Int32 × St) := (F_X4_stands 3 σ).bind fun z1 => if z1.1 = 0 then (some ((-1000002 : Int32), z1.2)) else ((F_X0_keep z1.2).bind fun z2 => (F_X4_soundsInAll 3 z2).bind fun z3 => (F_X4_silence 3 z3.2).bind fun z4 => some (z3.1, z4))
set_option maxRecDepth 20000 in
theorem c_X7_hush {G : Gx} {l : Launch} {σ : St} {o : (Int32 × St)} (hF : F_X7_hush σ = some o) : Con G l yX7_hush cX7_hush 2 (some .int) 2 [.ref (ga G 0)] σ (some (.int o.1)) o.2 := by
  refine Con.of plX7 (Nat.le_of_ble_eq_true rfl) [(0, .ref (ga G 0))] rfl (fun X F R => ?_)
  refine (show Sim G X 2 o (F_X7_hush σ) σ 0 [(0, .ref (ga G 0))] [] from ?_) hF
  unfold F_X7_hush
  refine s_aload_n F 0 dX7_hush_0 rfl rfl ?_
  refine fg_X7_26 F dX7_hush_1 ?_
  refine s_Vi F [] dX7_hush_4 (fun z hz => c_X4_stands nt_3 hz) wV_X7_145 nk_X4_stands (by decide) (by decide) (isNet.obj nt_3) vc_3 rfl rfl (Nat.le_of_ble_eq_true rfl) (fun z1 => ?_)
  refine s_if_ne F 13 dX7_hush_7 (by decide) (fun c5 => ?_) (fun c5 => ?_)
  · refine s_aload_n F 0 dX7_hush_13 rfl rfl ?_
    refine fg_X7_36 F dX7_hush_14 ?_
    refine s_aload_n F 0 dX7_hush_17 rfl rfl ?_
    refine fg_X7_26 F dX7_hush_18 ?_
    refine fg_X7_124 F nt_3 (c := 4) rfl dX7_hush_21 ?_
    refine s_Vv F [.ref (ga G 4)] dX7_hush_24 (fun z hz => c_X0_keep hz) wV_X7_149 nk_X0_keep (by decide) (by decide) ob_15 vc_0 rfl rfl (Nat.le_of_ble_eq_true rfl) (fun z2 => ?_)
    refine s_aload_n F 0 dX7_hush_27 rfl rfl ?_
    refine fg_X7_26 F dX7_hush_28 ?_
    refine s_Vi F [] dX7_hush_31 (fun z hz => c_X4_soundsInAll nt_3 hz) wV_X7_168 nk_X4_soundsInAll (by decide) (by decide) (isNet.obj nt_3) vc_3 rfl rfl (Nat.le_of_ble_eq_true rfl) (fun z3 => ?_)
    refine s_istore_n F [(1, .int z3.1), (0, .ref (ga G 0))] dX7_hush_34 rfl (by decide) rfl ?_
    refine s_aload_n F 1 dX7_hush_35 rfl rfl ?_
    refine fg_X7_26 F dX7_hush_36 ?_
    refine s_Vv F [] dX7_hush_39 (fun z hz => c_X4_silence nt_3 hz) wV_X7_171 nk_X4_silence (by decide) (by decide) (isNet.obj nt_3) vc_3 rfl rfl (Nat.le_of_ble_eq_true rfl) (fun z4 => ?_)
    refine s_iload_n F 0 dX7_hush_42 rfl rfl ?_
    exact s_iret R dX7_hush_43
  · refine s_ldc F dX7_hush_10 m_2_46 ?_
    exact s_iret R dX7_hush_12
/-! X7_pipe -/
def F_X7_pipe (a1 : Int32) (a2 : Int32) (σ : St) : Option (Int32 × St) := (F_X4_isPipe 3 a1 σ).bind fun z1 => if z1.1 = 0 then (some ((-1000001 : Int32), z1.2)) else (if a2 = (0 : Int32) then (if ix ((nI 12) + a1) 80 then some (z1.2.1 4 ((nI 12) + a1).toNatClampNeg, z1.2) else none) else (if a2 = (1 : Int32) then (if ix ((nI 19) + a1) 80 then some (z1.2.1 4 ((nI 19) + a1).toNatClampNeg, z1.2) else none) else (if a2 = (2 : Int32) then (if ix ((nI 26) + a1) 80 then some (z1.2.1 4 ((nI 26) + a1).toNatClampNeg, z1.2) else none) else (if a2 = (3 : Int32) then (if ix ((nI 33) + a1) 80 then some (z1.2.1 4 ((nI 33) + a1).toNatClampNeg, z1.2) else none) else (if a2 = (4 : Int32) then ((F_X4_isOpen 3 a1 z1.2).bind fun z11 => if z11.1 = 0 then (some ((nI 0), z11.2)) else (some ((nI 1), z11.2))) else (if a2 = (5 : Int32) then ((F_X4_soundsIn 3 a1 z1.2).bind fun z14 => some (z14.1, z14.2)) else (some ((-1000001 : Int32), z1.2))))))))
set_option maxRecDepth 20000 in
theorem c_X7_pipe {G : Gx} {l : Launch} {a1 : Int32} {a2 : Int32} {σ : St} {o : (Int32 × St)} (hF : F_X7_pipe a1 a2 σ = some o) : Con G l yX7_pipe cX7_pipe 3 (some .int) 1 [.ref (ga G 0), .int a1, .int a2] σ (some (.int o.1)) o.2 := by
  refine Con.of plX7 (Nat.le_of_ble_eq_true rfl) [(0, .ref (ga G 0)), (1, .int a1), (2, .int a2)] rfl (fun X F R => ?_)
  refine (show Sim G X 3 o (F_X7_pipe a1 a2 σ) σ 0 [(0, .ref (ga G 0)), (1, .int a1), (2, .int a2)] [] from ?_) hF
  unfold F_X7_pipe
  refine s_aload_n F 0 dX7_pipe_0 rfl rfl ?_
  refine fg_X7_26 F dX7_pipe_1 ?_
  refine s_iload_n F 1 dX7_pipe_4 rfl rfl ?_
  refine s_Vi F [.int a1] dX7_pipe_5 (fun z hz => c_X4_isPipe nt_3 hz) wV_X7_162 nk_X4_isPipe (by decide) (by decide) (isNet.obj nt_3) vc_3 rfl rfl (Nat.le_of_ble_eq_true rfl) (fun z1 => ?_)
  refine s_if_ne F 14 dX7_pipe_8 (by decide) (fun c15 => ?_) (fun c15 => ?_)
  · refine s_iload_n F 2 dX7_pipe_14 rfl rfl ?_
    refine s_ite (fun c2 => ?_) (fun c2 => ?_)
    · refine s_tin F 52 dX7_pipe_15 (0 : Int32) c2 (by decide) (by decide) rfl (by decide) ?_
      refine s_aload_n F 0 dX7_pipe_52 rfl rfl ?_
      refine fg_X7_26 F dX7_pipe_53 ?_
      refine fg_X7_124 F nt_3 (c := 4) rfl dX7_pipe_56 ?_
      refine s_bipush F (nI 12) dX7_pipe_59 rfl ?_
      refine s_iload_n F 1 dX7_pipe_61 rfl rfl ?_
      refine s_iadd F dX7_pipe_62 ?_
      refine s_iald F ar_4 dX7_pipe_63 (fun q3 => ?_)
      exact s_iret R dX7_pipe_64
    · refine s_ite (fun c4 => ?_) (fun c4 => ?_)
      · refine s_tin F 65 dX7_pipe_15 (1 : Int32) c4 (by decide) (by decide) rfl (by decide) ?_
        refine s_aload_n F 0 dX7_pipe_65 rfl rfl ?_
        refine fg_X7_26 F dX7_pipe_66 ?_
        refine fg_X7_124 F nt_3 (c := 4) rfl dX7_pipe_69 ?_
        refine s_bipush F (nI 19) dX7_pipe_72 rfl ?_
        refine s_iload_n F 1 dX7_pipe_74 rfl rfl ?_
        refine s_iadd F dX7_pipe_75 ?_
        refine s_iald F ar_4 dX7_pipe_76 (fun q5 => ?_)
        exact s_iret R dX7_pipe_77
      · refine s_ite (fun c6 => ?_) (fun c6 => ?_)
        · refine s_tin F 78 dX7_pipe_15 (2 : Int32) c6 (by decide) (by decide) rfl (by decide) ?_
          refine s_aload_n F 0 dX7_pipe_78 rfl rfl ?_
          refine fg_X7_26 F dX7_pipe_79 ?_
          refine fg_X7_124 F nt_3 (c := 4) rfl dX7_pipe_82 ?_
          refine s_bipush F (nI 26) dX7_pipe_85 rfl ?_
          refine s_iload_n F 1 dX7_pipe_87 rfl rfl ?_
          refine s_iadd F dX7_pipe_88 ?_
          refine s_iald F ar_4 dX7_pipe_89 (fun q7 => ?_)
          exact s_iret R dX7_pipe_90
        · refine s_ite (fun c8 => ?_) (fun c8 => ?_)
          · refine s_tin F 91 dX7_pipe_15 (3 : Int32) c8 (by decide) (by decide) rfl (by decide) ?_
            refine s_aload_n F 0 dX7_pipe_91 rfl rfl ?_
            refine fg_X7_26 F dX7_pipe_92 ?_
            refine fg_X7_124 F nt_3 (c := 4) rfl dX7_pipe_95 ?_
            refine s_bipush F (nI 33) dX7_pipe_98 rfl ?_
            refine s_iload_n F 1 dX7_pipe_100 rfl rfl ?_
            refine s_iadd F dX7_pipe_101 ?_
            refine s_iald F ar_4 dX7_pipe_102 (fun q9 => ?_)
            exact s_iret R dX7_pipe_103
          · refine s_ite (fun c10 => ?_) (fun c10 => ?_)
            · refine s_tin F 104 dX7_pipe_15 (4 : Int32) c10 (by decide) (by decide) rfl (by decide) ?_
              refine s_aload_n F 0 dX7_pipe_104 rfl rfl ?_
              refine fg_X7_26 F dX7_pipe_105 ?_
              refine s_iload_n F 1 dX7_pipe_108 rfl rfl ?_
              refine s_Vi F [.int a1] dX7_pipe_109 (fun z hz => c_X4_isOpen nt_3 hz) wV_X7_165 nk_X4_isOpen (by decide) (by decide) (isNet.obj nt_3) vc_3 rfl rfl (Nat.le_of_ble_eq_true rfl) (fun z11 => ?_)
              refine s_if_eq F 119 dX7_pipe_112 (by decide) (fun c12 => ?_) (fun c12 => ?_)
              · refine s_iconst F (nI 0) dX7_pipe_119 rfl ?_
                exact s_iret R dX7_pipe_120
              · refine s_iconst F (nI 1) dX7_pipe_115 rfl ?_
                refine s_goto F 120 dX7_pipe_116 (by decide) ?_
                exact s_iret R dX7_pipe_120
            · refine s_ite (fun c13 => ?_) (fun c13 => ?_)
              · refine s_tin F 121 dX7_pipe_15 (5 : Int32) c13 (by decide) (by decide) rfl (by decide) ?_
                refine s_aload_n F 0 dX7_pipe_121 rfl rfl ?_
                refine fg_X7_26 F dX7_pipe_122 ?_
                refine s_iload_n F 1 dX7_pipe_125 rfl rfl ?_
                refine s_Vi F [.int a1] dX7_pipe_126 (fun z hz => c_X4_soundsIn nt_3 hz) wV_X7_174 nk_X4_soundsIn (by decide) (by decide) (isNet.obj nt_3) vc_3 rfl rfl (Nat.le_of_ble_eq_true rfl) (fun z14 => ?_)
                exact s_iret R dX7_pipe_129
              · refine s_tout F 130 dX7_pipe_15 (sw_out_6 c2 c4 c6 c8 c10 c13) (by decide) ?_
                refine s_ldc F dX7_pipe_130 m_1_173 ?_
                exact s_iret R dX7_pipe_132
  · refine s_ldc F dX7_pipe_11 m_1_173 ?_
    exact s_iret R dX7_pipe_13
/-! X7_inside -/
def F_X7_inside (a1 : Int32) (a2 : Int32) (σ : St) : Option (Int32 × St) := (F_X4_isPipe 3 a1 σ).bind fun z1 => if z1.1 = 0 then (some ((-1000001 : Int32), z1.2)) else (if a2 < 0 then (some ((-1000001 : Int32), z1.2)) else (if ix ((nI 26) + a1) 80 then if a2 < (z1.2.1 4 ((nI 26) + a1).toNatClampNeg) then (if ix (((nI 40) + (a1 * (nI 4))) + a2) 80 then if (z1.2.1 4 (((nI 40) + (a1 * (nI 4))) + a2).toNatClampNeg) = 0 then (some ((-1000000 : Int32), z1.2)) else (some (z1.2.1 4 (((nI 40) + (a1 * (nI 4))) + a2).toNatClampNeg, z1.2)) else none) else (some ((-1000001 : Int32), z1.2)) else none))
set_option maxRecDepth 20000 in
theorem c_X7_inside {G : Gx} {l : Launch} {a1 : Int32} {a2 : Int32} {σ : St} {o : (Int32 × St)} (hF : F_X7_inside a1 a2 σ = some o) : Con G l yX7_inside cX7_inside 4 (some .int) 1 [.ref (ga G 0), .int a1, .int a2] σ (some (.int o.1)) o.2 := by
  refine Con.of plX7 (Nat.le_of_ble_eq_true rfl) [(0, .ref (ga G 0)), (1, .int a1), (2, .int a2)] rfl (fun X F R => ?_)
  refine (show Sim G X 4 o (F_X7_inside a1 a2 σ) σ 0 [(0, .ref (ga G 0)), (1, .int a1), (2, .int a2)] [] from ?_) hF
  unfold F_X7_inside
  refine s_aload_n F 0 dX7_inside_0 rfl rfl ?_
  refine fg_X7_26 F dX7_inside_1 ?_
  refine s_iload_n F 1 dX7_inside_4 rfl rfl ?_
  refine s_Vi F [.int a1] dX7_inside_5 (fun z hz => c_X4_isPipe nt_3 hz) wV_X7_162 nk_X4_isPipe (by decide) (by decide) (isNet.obj nt_3) vc_3 rfl rfl (Nat.le_of_ble_eq_true rfl) (fun z1 => ?_)
  refine s_if_eq F 31 dX7_inside_8 (by decide) (fun c7 => ?_) (fun c7 => ?_)
  · refine s_ldc F dX7_inside_31 m_1_173 ?_
    exact s_iret R dX7_inside_33
  · refine s_iload_n F 2 dX7_inside_11 rfl rfl ?_
    refine s_if_lt F 31 dX7_inside_12 (by decide) (fun c6 => ?_) (fun c6 => ?_)
    · refine s_ldc F dX7_inside_31 m_1_173 ?_
      exact s_iret R dX7_inside_33
    · refine s_iload_n F 2 dX7_inside_15 rfl rfl ?_
      refine s_aload_n F 0 dX7_inside_16 rfl rfl ?_
      refine fg_X7_26 F dX7_inside_17 ?_
      refine fg_X7_124 F nt_3 (c := 4) rfl dX7_inside_20 ?_
      refine s_bipush F (nI 26) dX7_inside_23 rfl ?_
      refine s_iload_n F 1 dX7_inside_25 rfl rfl ?_
      refine s_iadd F dX7_inside_26 ?_
      refine s_iald F ar_4 dX7_inside_27 (fun q2 => ?_)
      refine s_icmp_lt F 34 dX7_inside_28 (by decide) (fun c5 => ?_) (fun c5 => ?_)
      · refine s_aload_n F 0 dX7_inside_34 rfl rfl ?_
        refine fg_X7_26 F dX7_inside_35 ?_
        refine fg_X7_124 F nt_3 (c := 4) rfl dX7_inside_38 ?_
        refine s_bipush F (nI 40) dX7_inside_41 rfl ?_
        refine s_iload_n F 1 dX7_inside_43 rfl rfl ?_
        refine s_iconst F (nI 4) dX7_inside_44 rfl ?_
        refine s_imul F dX7_inside_45 ?_
        refine s_iadd F dX7_inside_46 ?_
        refine s_iload_n F 2 dX7_inside_47 rfl rfl ?_
        refine s_iadd F dX7_inside_48 ?_
        refine s_iald F ar_4 dX7_inside_49 (fun q3 => ?_)
        refine s_istore_n F [(3, .int (z1.2.1 4 (((nI 40) + (a1 * (nI 4))) + a2).toNatClampNeg)), (0, .ref (ga G 0)), (1, .int a1), (2, .int a2)] dX7_inside_50 rfl (by decide) rfl ?_
        refine s_iload_n F 0 dX7_inside_51 rfl rfl ?_
        refine s_if_ne F 60 dX7_inside_52 (by decide) (fun c4 => ?_) (fun c4 => ?_)
        · refine s_iload_n F 0 dX7_inside_60 rfl rfl ?_
          exact s_iret R dX7_inside_61
        · refine s_ldc F dX7_inside_55 m_2_149 ?_
          refine s_goto F 61 dX7_inside_57 (by decide) ?_
          exact s_iret R dX7_inside_61
      · refine s_ldc F dX7_inside_31 m_1_173 ?_
        exact s_iret R dX7_inside_33
/-! X7_wordOrNone -/
def F_X7_wordOrNone (a0 : Int32) (σ : St) : Option (Int32 × St) := if a0 = 0 then (some ((-1000000 : Int32), σ)) else ((F_X4_wordOf a0 σ).bind fun z1 => some (z1.1, z1.2))
set_option maxRecDepth 20000 in
theorem c_X7_wordOrNone {G : Gx} {l : Launch} {a0 : Int32} {σ : St} {o : (Int32 × St)} (hF : F_X7_wordOrNone a0 σ = some o) : Con G l yX7_wordOrNone cX7_wordOrNone 1 (some .int) 1 [.int a0] σ (some (.int o.1)) o.2 := by
  refine Con.of plX7 (Nat.le_of_ble_eq_true rfl) [(0, .int a0)] rfl (fun X F R => ?_)
  refine (show Sim G X 1 o (F_X7_wordOrNone a0 σ) σ 0 [(0, .int a0)] [] from ?_) hF
  unfold F_X7_wordOrNone
  refine s_iload_n F 0 dX7_wordOrNone_0 rfl rfl ?_
  refine s_if_ne F 9 dX7_wordOrNone_1 (by decide) (fun c2 => ?_) (fun c2 => ?_)
  · refine s_iload_n F 0 dX7_wordOrNone_9 rfl rfl ?_
    refine s_Si F [.int a0] dX7_wordOrNone_10 (fun z hz => c_X4_wordOf hz) wS_X7_275 nk_X4_wordOf (by decide) (by decide) rfl rfl (Nat.le_of_ble_eq_true rfl) (fun z1 => ?_)
    exact s_iret R dX7_wordOrNone_13
  · refine s_ldc F dX7_wordOrNone_4 m_2_149 ?_
    refine s_goto F 13 dX7_wordOrNone_6 (by decide) ?_
    exact s_iret R dX7_wordOrNone_13
/-! X7_horn -/
def F_X7_horn (a1 : Int32) (a2 : Int32) (σ : St) : Option (Int32 × St) := (F_X4_isHorn 3 a1 σ).bind fun z1 => if z1.1 = 0 then (some ((-1000001 : Int32), z1.2)) else (if ix ((nI 68) + a1) 80 then if a2 = (0 : Int32) then ((F_X7_wordOrNone (z1.2.1 4 ((nI 68) + a1).toNatClampNeg) z1.2).bind fun z4 => some (z4.1, z4.2)) else (if a2 = (1 : Int32) then ((F_X4_loudnessOf (z1.2.1 4 ((nI 68) + a1).toNatClampNeg) z1.2).bind fun z6 => some (z6.1, z6.2)) else (if a2 = (2 : Int32) then (if (z1.2.1 4 ((nI 68) + a1).toNatClampNeg) = 0 then (some ((-1000000 : Int32), z1.2)) else (if ix ((nI 74) + a1) 80 then some (z1.2.1 4 ((nI 74) + a1).toNatClampNeg, z1.2) else none)) else (if a2 = (3 : Int32) then ((F_X4_pipesWith 3 (nI 12) a1 z1.2).bind fun z11 => some (z11.1, z11.2)) else (if a2 = (4 : Int32) then ((F_X4_pipesWith 3 (nI 19) a1 z1.2).bind fun z13 => some (z13.1, z13.2)) else (some ((-1000001 : Int32), z1.2)))))) else none)
set_option maxRecDepth 20000 in
theorem c_X7_horn {G : Gx} {l : Launch} {a1 : Int32} {a2 : Int32} {σ : St} {o : (Int32 × St)} (hF : F_X7_horn a1 a2 σ = some o) : Con G l yX7_horn cX7_horn 4 (some .int) 2 [.ref (ga G 0), .int a1, .int a2] σ (some (.int o.1)) o.2 := by
  refine Con.of plX7 (Nat.le_of_ble_eq_true rfl) [(0, .ref (ga G 0)), (1, .int a1), (2, .int a2)] rfl (fun X F R => ?_)
  refine (show Sim G X 4 o (F_X7_horn a1 a2 σ) σ 0 [(0, .ref (ga G 0)), (1, .int a1), (2, .int a2)] [] from ?_) hF
  unfold F_X7_horn
  refine s_aload_n F 0 dX7_horn_0 rfl rfl ?_
  refine fg_X7_26 F dX7_horn_1 ?_
  refine s_iload_n F 1 dX7_horn_4 rfl rfl ?_
  refine s_Vi F [.int a1] dX7_horn_5 (fun z hz => c_X4_isHorn nt_3 hz) wV_X7_156 nk_X4_isHorn (by decide) (by decide) (isNet.obj nt_3) vc_3 rfl rfl (Nat.le_of_ble_eq_true rfl) (fun z1 => ?_)
  refine s_if_ne F 14 dX7_horn_8 (by decide) (fun c14 => ?_) (fun c14 => ?_)
  · refine s_aload_n F 0 dX7_horn_14 rfl rfl ?_
    refine fg_X7_26 F dX7_horn_15 ?_
    refine fg_X7_124 F nt_3 (c := 4) rfl dX7_horn_18 ?_
    refine s_bipush F (nI 68) dX7_horn_21 rfl ?_
    refine s_iload_n F 1 dX7_horn_23 rfl rfl ?_
    refine s_iadd F dX7_horn_24 ?_
    refine s_iald F ar_4 dX7_horn_25 (fun q2 => ?_)
    refine s_istore_n F [(3, .int (z1.2.1 4 ((nI 68) + a1).toNatClampNeg)), (0, .ref (ga G 0)), (1, .int a1), (2, .int a2)] dX7_horn_26 rfl (by decide) rfl ?_
    refine s_iload_n F 3 dX7_horn_27 rfl rfl ?_
    refine s_ite (fun c3 => ?_) (fun c3 => ?_)
    · refine s_tin F 64 dX7_horn_28 (0 : Int32) c3 (by decide) (by decide) rfl (by decide) ?_
      refine s_iload_n F 0 dX7_horn_64 rfl rfl ?_
      refine s_Si F [.int (z1.2.1 4 ((nI 68) + a1).toNatClampNeg)] dX7_horn_65 (fun z hz => c_X7_wordOrNone hz) wS_X7_178 nk_X7_wordOrNone (by decide) (by decide) rfl rfl (Nat.le_of_ble_eq_true rfl) (fun z4 => ?_)
      exact s_iret R dX7_horn_68
    · refine s_ite (fun c5 => ?_) (fun c5 => ?_)
      · refine s_tin F 69 dX7_horn_28 (1 : Int32) c5 (by decide) (by decide) rfl (by decide) ?_
        refine s_iload_n F 0 dX7_horn_69 rfl rfl ?_
        refine s_Si F [.int (z1.2.1 4 ((nI 68) + a1).toNatClampNeg)] dX7_horn_70 (fun z hz => c_X4_loudnessOf hz) wS_X7_181 nk_X4_loudnessOf (by decide) (by decide) rfl rfl (Nat.le_of_ble_eq_true rfl) (fun z6 => ?_)
        exact s_iret R dX7_horn_73
      · refine s_ite (fun c7 => ?_) (fun c7 => ?_)
        · refine s_tin F 74 dX7_horn_28 (2 : Int32) c7 (by decide) (by decide) rfl (by decide) ?_
          refine s_iload_n F 0 dX7_horn_74 rfl rfl ?_
          refine s_if_ne F 83 dX7_horn_75 (by decide) (fun c9 => ?_) (fun c9 => ?_)
          · refine s_aload_n F 1 dX7_horn_83 rfl rfl ?_
            refine fg_X7_26 F dX7_horn_84 ?_
            refine fg_X7_124 F nt_3 (c := 4) rfl dX7_horn_87 ?_
            refine s_bipush F (nI 74) dX7_horn_90 rfl ?_
            refine s_iload_n F 2 dX7_horn_92 rfl rfl ?_
            refine s_iadd F dX7_horn_93 ?_
            refine s_iald F ar_4 dX7_horn_94 (fun q8 => ?_)
            exact s_iret R dX7_horn_95
          · refine s_ldc F dX7_horn_78 m_2_149 ?_
            refine s_goto F 95 dX7_horn_80 (by decide) ?_
            exact s_iret R dX7_horn_95
        · refine s_ite (fun c10 => ?_) (fun c10 => ?_)
          · refine s_tin F 96 dX7_horn_28 (3 : Int32) c10 (by decide) (by decide) rfl (by decide) ?_
            refine s_aload_n F 1 dX7_horn_96 rfl rfl ?_
            refine fg_X7_26 F dX7_horn_97 ?_
            refine s_bipush F (nI 12) dX7_horn_100 rfl ?_
            refine s_iload_n F 2 dX7_horn_102 rfl rfl ?_
            refine s_Vi F [.int (nI 12), .int a1] dX7_horn_103 (fun z hz => c_X4_pipesWith nt_3 hz) wV_X7_184 nk_X4_pipesWith (by decide) (by decide) (isNet.obj nt_3) vc_3 rfl rfl (Nat.le_of_ble_eq_true rfl) (fun z11 => ?_)
            exact s_iret R dX7_horn_106
          · refine s_ite (fun c12 => ?_) (fun c12 => ?_)
            · refine s_tin F 107 dX7_horn_28 (4 : Int32) c12 (by decide) (by decide) rfl (by decide) ?_
              refine s_aload_n F 1 dX7_horn_107 rfl rfl ?_
              refine fg_X7_26 F dX7_horn_108 ?_
              refine s_bipush F (nI 19) dX7_horn_111 rfl ?_
              refine s_iload_n F 2 dX7_horn_113 rfl rfl ?_
              refine s_Vi F [.int (nI 19), .int a1] dX7_horn_114 (fun z hz => c_X4_pipesWith nt_3 hz) wV_X7_184 nk_X4_pipesWith (by decide) (by decide) (isNet.obj nt_3) vc_3 rfl rfl (Nat.le_of_ble_eq_true rfl) (fun z13 => ?_)
              exact s_iret R dX7_horn_117
            · refine s_tout F 118 dX7_horn_28 (sw_out_5 c3 c5 c7 c10 c12) (by decide) ?_
              refine s_ldc F dX7_horn_118 m_1_173 ?_
              exact s_iret R dX7_horn_120
  · refine s_ldc F dX7_horn_11 m_1_173 ?_
    exact s_iret R dX7_horn_13
/-! X7_seen -/
def F_X7_seen (σ : St) : Option St := (F_X4_take 9 4 σ).bind fun z1 => some z1
set_option maxRecDepth 20000 in
theorem c_X7_seen {G : Gx} {l : Launch} {σ : St} {o : St} (hF : F_X7_seen σ = some o) : Con G l yX7_seen cX7_seen 1 (some (.object "EarTrumpets$Foresight")) 2 [.ref (ga G 0)] σ (some (.ref (ga G 16))) o := by
  refine Con.of plX7 (Nat.le_of_ble_eq_true rfl) [(0, .ref (ga G 0))] rfl (fun X F R => ?_)
  refine (show Sim G X 1 o (F_X7_seen σ) σ 0 [(0, .ref (ga G 0))] [] from ?_) hF
  unfold F_X7_seen
  refine s_aload_n F 0 dX7_seen_0 rfl rfl ?_
  refine fg_X7_43 F dX7_seen_1 ?_
  refine fg_X7_272 F dX7_seen_4 ?_
  refine s_aload_n F 0 dX7_seen_7 rfl rfl ?_
  refine fg_X7_26 F dX7_seen_8 ?_
  refine fg_X7_124 F nt_3 (c := 4) rfl dX7_seen_11 ?_
  refine s_Vv F [.ref (ga G 4)] dX7_seen_14 (fun z hz => c_X4_take nt_9 ar_4 hz) wV_X7_127 nk_X4_take (by decide) (by decide) (isNet.obj nt_9) vc_3 rfl rfl (Nat.le_of_ble_eq_true rfl) (fun z1 => ?_)
  refine s_aload_n F 0 dX7_seen_17 rfl rfl ?_
  refine fg_X7_43 F dX7_seen_18 ?_
  exact s_aretc R (Or.inl ⟨_, rfl⟩) dX7_seen_21
/-! X7_ahead -/
def F_X7_ahead (a1 : Int32) (a2 : Int32) (a3 : Int32) (σ : St) : Option (Int32 × St) := (F_X4_isHorn 3 a1 σ).bind fun z1 => if z1.1 = 0 then (some ((-1000001 : Int32), z1.2)) else ((F_X7_isWithin a2 (nI 1) (nI 60) z1.2).bind fun z2 => if z2.1 = 0 then (some ((-1000001 : Int32), z2.2)) else ((F_X7_isWithin a3 (nI 0) (nI 1) z2.2).bind fun z3 => if z3.1 = 0 then (some ((-1000001 : Int32), z3.2)) else ((F_X7_seen z3.2).bind fun z4 => (F_X2_soundHeard a1 a2 z4).bind fun z5 => if a3 = 0 then ((F_X7_wordOrNone z5.1 z5.2).bind fun z8 => some (z8.1, z8.2)) else (if z5.1 = 0 then (some ((-1000000 : Int32), z5.2)) else ((F_X4_loudnessOf z5.1 z5.2).bind fun z6 => some (z6.1, z6.2))))))
set_option maxRecDepth 20000 in
theorem c_X7_ahead {G : Gx} {l : Launch} {a1 : Int32} {a2 : Int32} {a3 : Int32} {σ : St} {o : (Int32 × St)} (hF : F_X7_ahead a1 a2 a3 σ = some o) : Con G l yX7_ahead cX7_ahead 5 (some .int) 4 [.ref (ga G 0), .int a1, .int a2, .int a3] σ (some (.int o.1)) o.2 := by
  refine Con.of plX7 (Nat.le_of_ble_eq_true rfl) [(0, .ref (ga G 0)), (1, .int a1), (2, .int a2), (3, .int a3)] rfl (fun X F R => ?_)
  refine (show Sim G X 5 o (F_X7_ahead a1 a2 a3 σ) σ 0 [(0, .ref (ga G 0)), (1, .int a1), (2, .int a2), (3, .int a3)] [] from ?_) hF
  unfold F_X7_ahead
  refine s_aload_n F 0 dX7_ahead_0 rfl rfl ?_
  refine fg_X7_26 F dX7_ahead_1 ?_
  refine s_iload_n F 1 dX7_ahead_4 rfl rfl ?_
  refine s_Vi F [.int a1] dX7_ahead_5 (fun z hz => c_X4_isHorn nt_3 hz) wV_X7_156 nk_X4_isHorn (by decide) (by decide) (isNet.obj nt_3) vc_3 rfl rfl (Nat.le_of_ble_eq_true rfl) (fun z1 => ?_)
  refine s_if_eq F 30 dX7_ahead_8 (by decide) (fun c12 => ?_) (fun c12 => ?_)
  · refine s_ldc F dX7_ahead_30 m_1_173 ?_
    exact s_iret R dX7_ahead_32
  · refine s_iload_n F 2 dX7_ahead_11 rfl rfl ?_
    refine s_iconst F (nI 1) dX7_ahead_12 rfl ?_
    refine s_bipush F (nI 60) dX7_ahead_13 rfl ?_
    refine s_Si F [.int a2, .int (nI 1), .int (nI 60)] dX7_ahead_15 (fun z hz => c_X7_isWithin hz) wS_X7_67 nk_X7_isWithin (by decide) (by decide) rfl rfl (Nat.le_of_ble_eq_true rfl) (fun z2 => ?_)
    refine s_if_eq F 30 dX7_ahead_18 (by decide) (fun c11 => ?_) (fun c11 => ?_)
    · refine s_ldc F dX7_ahead_30 m_1_173 ?_
      exact s_iret R dX7_ahead_32
    · refine s_iload_n F 3 dX7_ahead_21 rfl rfl ?_
      refine s_iconst F (nI 0) dX7_ahead_22 rfl ?_
      refine s_iconst F (nI 1) dX7_ahead_23 rfl ?_
      refine s_Si F [.int a3, .int (nI 0), .int (nI 1)] dX7_ahead_24 (fun z hz => c_X7_isWithin hz) wS_X7_67 nk_X7_isWithin (by decide) (by decide) rfl rfl (Nat.le_of_ble_eq_true rfl) (fun z3 => ?_)
      refine s_if_ne F 33 dX7_ahead_27 (by decide) (fun c10 => ?_) (fun c10 => ?_)
      · refine s_aload_n F 0 dX7_ahead_33 rfl rfl ?_
        refine s_Vc F [] dX7_ahead_34 (fun z hz => c_X7_seen hz) wV_X7_188 nk_X7_seen (by decide) (by decide) ob_0 vc_6 rfl rfl (Nat.le_of_ble_eq_true rfl) (fun z4 => ?_)
        refine s_iload_n F 1 dX7_ahead_37 rfl rfl ?_
        refine s_iload_n F 2 dX7_ahead_38 rfl rfl ?_
        refine s_Vi F [.int a1, .int a2] dX7_ahead_39 (fun z hz => c_X2_soundHeard hz) wV_X7_192 nk_X2_soundHeard (by decide) (by decide) ob_16 vc_2 rfl rfl (Nat.le_of_ble_eq_true rfl) (fun z5 => ?_)
        refine s_istore F [(4, .int z5.1), (0, .ref (ga G 0)), (1, .int a1), (2, .int a2), (3, .int a3)] dX7_ahead_42 (by decide) rfl ?_
        refine s_iload_n F 4 dX7_ahead_44 rfl rfl ?_
        refine s_if_ne F 54 dX7_ahead_45 (by decide) (fun c9 => ?_) (fun c9 => ?_)
        · refine s_iload F 0 dX7_ahead_54 rfl ?_
          refine s_if_ne F 64 dX7_ahead_56 (by decide) (fun c7 => ?_) (fun c7 => ?_)
          · refine s_iload F 0 dX7_ahead_64 rfl ?_
            refine s_Si F [.int z5.1] dX7_ahead_66 (fun z hz => c_X4_loudnessOf hz) wS_X7_181 nk_X4_loudnessOf (by decide) (by decide) rfl rfl (Nat.le_of_ble_eq_true rfl) (fun z6 => ?_)
            exact s_iret R dX7_ahead_69
          · refine s_ldc F dX7_ahead_59 m_2_149 ?_
            refine s_goto F 69 dX7_ahead_61 (by decide) ?_
            exact s_iret R dX7_ahead_69
        · refine s_iload F 0 dX7_ahead_48 rfl ?_
          refine s_Si F [.int z5.1] dX7_ahead_50 (fun z hz => c_X7_wordOrNone hz) wS_X7_178 nk_X7_wordOrNone (by decide) (by decide) rfl rfl (Nat.le_of_ble_eq_true rfl) (fun z8 => ?_)
          exact s_iret R dX7_ahead_53
      · refine s_ldc F dX7_ahead_30 m_1_173 ?_
        exact s_iret R dX7_ahead_32
/-! X7_first -/
def F_X7_first (a1 : Int32) (σ : St) : Option (Int32 × St) := (F_X4_isHorn 3 a1 σ).bind fun z1 => if z1.1 = 0 then (some ((-1000001 : Int32), z1.2)) else ((F_X7_seen z1.2).bind fun z2 => (F_X2_firstHearing a1 (nI 60) z2).bind fun z3 => some (z3.1, z3.2))
set_option maxRecDepth 20000 in
theorem c_X7_first {G : Gx} {l : Launch} {a1 : Int32} {σ : St} {o : (Int32 × St)} (hF : F_X7_first a1 σ = some o) : Con G l yX7_first cX7_first 2 (some .int) 5 [.ref (ga G 0), .int a1] σ (some (.int o.1)) o.2 := by
  refine Con.of plX7 (Nat.le_of_ble_eq_true rfl) [(0, .ref (ga G 0)), (1, .int a1)] rfl (fun X F R => ?_)
  refine (show Sim G X 2 o (F_X7_first a1 σ) σ 0 [(0, .ref (ga G 0)), (1, .int a1)] [] from ?_) hF
  unfold F_X7_first
  refine s_aload_n F 0 dX7_first_0 rfl rfl ?_
  refine fg_X7_26 F dX7_first_1 ?_
  refine s_iload_n F 1 dX7_first_4 rfl rfl ?_
  refine s_Vi F [.int a1] dX7_first_5 (fun z hz => c_X4_isHorn nt_3 hz) wV_X7_156 nk_X4_isHorn (by decide) (by decide) (isNet.obj nt_3) vc_3 rfl rfl (Nat.le_of_ble_eq_true rfl) (fun z1 => ?_)
  refine s_if_ne F 14 dX7_first_8 (by decide) (fun c4 => ?_) (fun c4 => ?_)
  · refine s_aload_n F 0 dX7_first_14 rfl rfl ?_
    refine s_Vc F [] dX7_first_15 (fun z hz => c_X7_seen hz) wV_X7_188 nk_X7_seen (by decide) (by decide) ob_0 vc_6 rfl rfl (Nat.le_of_ble_eq_true rfl) (fun z2 => ?_)
    refine s_iload_n F 1 dX7_first_18 rfl rfl ?_
    refine s_bipush F (nI 60) dX7_first_19 rfl ?_
    refine s_Vi F [.int a1, .int (nI 60)] dX7_first_21 (fun z hz => c_X2_firstHearing hz) wV_X7_195 nk_X2_firstHearing (by decide) (by decide) ob_16 vc_2 rfl rfl (Nat.le_of_ble_eq_true rfl) (fun z3 => ?_)
    exact s_iret R dX7_first_24
  · refine s_ldc F dX7_first_11 m_1_173 ?_
    exact s_iret R dX7_first_13
/-! X7_hearers -/
def F_X7_hearers (a1 : Int32) (σ : St) : Option (Int32 × St) := (F_X4_stands 3 σ).bind fun z1 => if z1.1 = 0 then (some ((-1000002 : Int32), z1.2)) else ((F_X7_isWithin a1 (nI 1) (nI 60) z1.2).bind fun z2 => if z2.1 = 0 then (some ((-1000001 : Int32), z2.2)) else ((F_X7_seen z2.2).bind fun z3 => (F_X2_hornsThatHear a1 z3).bind fun z4 => some (z4.1, z4.2)))
set_option maxRecDepth 20000 in
theorem c_X7_hearers {G : Gx} {l : Launch} {a1 : Int32} {σ : St} {o : (Int32 × St)} (hF : F_X7_hearers a1 σ = some o) : Con G l yX7_hearers cX7_hearers 2 (some .int) 4 [.ref (ga G 0), .int a1] σ (some (.int o.1)) o.2 := by
  refine Con.of plX7 (Nat.le_of_ble_eq_true rfl) [(0, .ref (ga G 0)), (1, .int a1)] rfl (fun X F R => ?_)
  refine (show Sim G X 2 o (F_X7_hearers a1 σ) σ 0 [(0, .ref (ga G 0)), (1, .int a1)] [] from ?_) hF
  unfold F_X7_hearers
  refine s_aload_n F 0 dX7_hearers_0 rfl rfl ?_
  refine fg_X7_26 F dX7_hearers_1 ?_
  refine s_Vi F [] dX7_hearers_4 (fun z hz => c_X4_stands nt_3 hz) wV_X7_145 nk_X4_stands (by decide) (by decide) (isNet.obj nt_3) vc_3 rfl rfl (Nat.le_of_ble_eq_true rfl) (fun z1 => ?_)
  refine s_if_ne F 13 dX7_hearers_7 (by decide) (fun c6 => ?_) (fun c6 => ?_)
  · refine s_iload_n F 1 dX7_hearers_13 rfl rfl ?_
    refine s_iconst F (nI 1) dX7_hearers_14 rfl ?_
    refine s_bipush F (nI 60) dX7_hearers_15 rfl ?_
    refine s_Si F [.int a1, .int (nI 1), .int (nI 60)] dX7_hearers_17 (fun z hz => c_X7_isWithin hz) wS_X7_67 nk_X7_isWithin (by decide) (by decide) rfl rfl (Nat.le_of_ble_eq_true rfl) (fun z2 => ?_)
    refine s_if_eq F 34 dX7_hearers_20 (by decide) (fun c5 => ?_) (fun c5 => ?_)
    · refine s_ldc F dX7_hearers_34 m_1_173 ?_
      exact s_iret R dX7_hearers_36
    · refine s_aload_n F 0 dX7_hearers_23 rfl rfl ?_
      refine s_Vc F [] dX7_hearers_24 (fun z hz => c_X7_seen hz) wV_X7_188 nk_X7_seen (by decide) (by decide) ob_0 vc_6 rfl rfl (Nat.le_of_ble_eq_true rfl) (fun z3 => ?_)
      refine s_iload_n F 1 dX7_hearers_27 rfl rfl ?_
      refine s_Vi F [.int a1] dX7_hearers_28 (fun z hz => c_X2_hornsThatHear hz) wV_X7_198 nk_X2_hornsThatHear (by decide) (by decide) ob_16 vc_2 rfl rfl (Nat.le_of_ble_eq_true rfl) (fun z4 => ?_)
      refine s_goto F 36 dX7_hearers_31 (by decide) ?_
      exact s_iret R dX7_hearers_36
  · refine s_ldc F dX7_hearers_10 m_2_46 ?_
    exact s_iret R dX7_hearers_12
/-! X7_quiet -/
def F_X7_quiet (σ : St) : Option (Int32 × St) := (F_X4_stands 3 σ).bind fun z1 => if z1.1 = 0 then (some ((-1000002 : Int32), z1.2)) else ((F_X7_seen z1.2).bind fun z2 => (F_X2_breathsToSilence (nI 60) z2).bind fun z3 => some (z3.1, z3.2))
set_option maxRecDepth 20000 in
theorem c_X7_quiet {G : Gx} {l : Launch} {σ : St} {o : (Int32 × St)} (hF : F_X7_quiet σ = some o) : Con G l yX7_quiet cX7_quiet 1 (some .int) 4 [.ref (ga G 0)] σ (some (.int o.1)) o.2 := by
  refine Con.of plX7 (Nat.le_of_ble_eq_true rfl) [(0, .ref (ga G 0))] rfl (fun X F R => ?_)
  refine (show Sim G X 1 o (F_X7_quiet σ) σ 0 [(0, .ref (ga G 0))] [] from ?_) hF
  unfold F_X7_quiet
  refine s_aload_n F 0 dX7_quiet_0 rfl rfl ?_
  refine fg_X7_26 F dX7_quiet_1 ?_
  refine s_Vi F [] dX7_quiet_4 (fun z hz => c_X4_stands nt_3 hz) wV_X7_145 nk_X4_stands (by decide) (by decide) (isNet.obj nt_3) vc_3 rfl rfl (Nat.le_of_ble_eq_true rfl) (fun z1 => ?_)
  refine s_if_eq F 22 dX7_quiet_7 (by decide) (fun c4 => ?_) (fun c4 => ?_)
  · refine s_ldc F dX7_quiet_22 m_2_46 ?_
    exact s_iret R dX7_quiet_24
  · refine s_aload_n F 0 dX7_quiet_10 rfl rfl ?_
    refine s_Vc F [] dX7_quiet_11 (fun z hz => c_X7_seen hz) wV_X7_188 nk_X7_seen (by decide) (by decide) ob_0 vc_6 rfl rfl (Nat.le_of_ble_eq_true rfl) (fun z2 => ?_)
    refine s_bipush F (nI 60) dX7_quiet_14 rfl ?_
    refine s_Vi F [.int (nI 60)] dX7_quiet_16 (fun z hz => c_X2_breathsToSilence hz) wV_X7_201 nk_X2_breathsToSilence (by decide) (by decide) ob_16 vc_2 rfl rfl (Nat.le_of_ble_eq_true rfl) (fun z3 => ?_)
    refine s_goto F 24 dX7_quiet_19 (by decide) ?_
    exact s_iret R dX7_quiet_24
/-! X7_sizeOrSet -/
def F_X7_sizeOrSet (a0 : Int32) (a1 : Int32) (σ : St) : Option (Int32 × St) := if a0 = (-1000000 : Int32) then (some (a0, σ)) else (if a1 = (nI 1) then (some (a0, σ)) else ((F_J6_bitCount_0f7a4 a0 σ).bind fun z1 => some (z1.1, z1.2)))
set_option maxRecDepth 20000 in
theorem c_X7_sizeOrSet {G : Gx} {l : Launch} {a0 : Int32} {a1 : Int32} {σ : St} {o : (Int32 × St)} (hF : F_X7_sizeOrSet a0 a1 σ = some o) : Con G l yX7_sizeOrSet cX7_sizeOrSet 2 (some .int) 1 [.int a0, .int a1] σ (some (.int o.1)) o.2 := by
  refine Con.of plX7 (Nat.le_of_ble_eq_true rfl) [(0, .int a0), (1, .int a1)] rfl (fun X F R => ?_)
  refine (show Sim G X 2 o (F_X7_sizeOrSet a0 a1 σ) σ 0 [(0, .int a0), (1, .int a1)] [] from ?_) hF
  unfold F_X7_sizeOrSet
  refine s_iload_n F 0 dX7_sizeOrSet_0 rfl rfl ?_
  refine s_ldc F dX7_sizeOrSet_1 m_2_149 ?_
  refine s_icmp_eq F 11 dX7_sizeOrSet_3 (by decide) (fun c3 => ?_) (fun c3 => ?_)
  · refine s_iload_n F 0 dX7_sizeOrSet_11 rfl rfl ?_
    refine s_goto F 19 dX7_sizeOrSet_12 (by decide) ?_
    exact s_iret R dX7_sizeOrSet_19
  · refine s_iload_n F 1 dX7_sizeOrSet_6 rfl rfl ?_
    refine s_iconst F (nI 1) dX7_sizeOrSet_7 rfl ?_
    refine s_icmp_ne F 15 dX7_sizeOrSet_8 (by decide) (fun c2 => ?_) (fun c2 => ?_)
    · refine s_iload_n F 0 dX7_sizeOrSet_15 rfl rfl ?_
      refine s_Si F [.int a0] dX7_sizeOrSet_16 (fun z hz => c_J6_bitCount_0f7a4 hz) wS_X7_278 nk_J6_bitCount_0f7a4 (by decide) (by decide) rfl rfl (Nat.le_of_ble_eq_true rfl) (fun z1 => ?_)
      exact s_iret R dX7_sizeOrSet_19
    · refine s_iload_n F 0 dX7_sizeOrSet_11 rfl rfl ?_
      refine s_goto F 19 dX7_sizeOrSet_12 (by decide) ?_
      exact s_iret R dX7_sizeOrSet_19
/-! X7_shuts -/
def F_X7_shuts (a1 : Int32) (a2 : Int32) (a3 : Int32) (a4 : Int32) (σ : St) : Option (Int32 × St) := (F_X4_stands 3 σ).bind fun z1 => if z1.1 = 0 then (some ((-1000002 : Int32), z1.2)) else ((F_X4_isHorn 3 a1 z1.2).bind fun z2 => if z2.1 = 0 then (some ((-1000001 : Int32), z2.2)) else ((F_X4_allHorns 3 z2.2).bind fun z3 => (F_X7_isWithin a2 (nI 0) z3.1 z3.2).bind fun z4 => if z4.1 = 0 then (some ((-1000001 : Int32), z4.2)) else ((F_X7_isWithin a3 (nI 1) (nI 30) z4.2).bind fun z5 => if z5.1 = 0 then (some ((-1000001 : Int32), z5.2)) else ((F_X7_isWithin a4 (nI 0) (nI 1) z5.2).bind fun z6 => if z6.1 = 0 then (some ((-1000001 : Int32), z6.2)) else ((F_X7_seen z6.2).bind fun z7 => if ix (nI 3) 80 then (F_X2_fewestTurned (z7.1 4 (nI 3).toNatClampNeg) a1 a2 a3 (nI 0) z7).bind fun z9 => (F_X7_sizeOrSet z9.1 a4 z9.2).bind fun z10 => some (z10.1, z10.2) else none)))))
set_option maxRecDepth 20000 in
theorem c_X7_shuts {G : Gx} {l : Launch} {a1 : Int32} {a2 : Int32} {a3 : Int32} {a4 : Int32} {σ : St} {o : (Int32 × St)} (hF : F_X7_shuts a1 a2 a3 a4 σ = some o) : Con G l yX7_shuts cX7_shuts 5 (some .int) 6 [.ref (ga G 0), .int a1, .int a2, .int a3, .int a4] σ (some (.int o.1)) o.2 := by
  refine Con.of plX7 (Nat.le_of_ble_eq_true rfl) [(0, .ref (ga G 0)), (1, .int a1), (2, .int a2), (3, .int a3), (4, .int a4)] rfl (fun X F R => ?_)
  refine (show Sim G X 5 o (F_X7_shuts a1 a2 a3 a4 σ) σ 0 [(0, .ref (ga G 0)), (1, .int a1), (2, .int a2), (3, .int a3), (4, .int a4)] [] from ?_) hF
  unfold F_X7_shuts
  refine s_aload_n F 0 dX7_shuts_0 rfl rfl ?_
  refine fg_X7_26 F dX7_shuts_1 ?_
  refine s_Vi F [] dX7_shuts_4 (fun z hz => c_X4_stands nt_3 hz) wV_X7_145 nk_X4_stands (by decide) (by decide) (isNet.obj nt_3) vc_3 rfl rfl (Nat.le_of_ble_eq_true rfl) (fun z1 => ?_)
  refine s_if_ne F 13 dX7_shuts_7 (by decide) (fun c15 => ?_) (fun c15 => ?_)
  · refine s_aload_n F 0 dX7_shuts_13 rfl rfl ?_
    refine fg_X7_26 F dX7_shuts_14 ?_
    refine s_iload_n F 1 dX7_shuts_17 rfl rfl ?_
    refine s_Vi F [.int a1] dX7_shuts_18 (fun z hz => c_X4_isHorn nt_3 hz) wV_X7_156 nk_X4_isHorn (by decide) (by decide) (isNet.obj nt_3) vc_3 rfl rfl (Nat.le_of_ble_eq_true rfl) (fun z2 => ?_)
    refine s_if_eq F 59 dX7_shuts_21 (by decide) (fun c14 => ?_) (fun c14 => ?_)
    · refine s_ldc F dX7_shuts_59 m_1_173 ?_
      exact s_iret R dX7_shuts_61
    · refine s_iload_n F 2 dX7_shuts_24 rfl rfl ?_
      refine s_iconst F (nI 0) dX7_shuts_25 rfl ?_
      refine s_aload_n F 0 dX7_shuts_26 rfl rfl ?_
      refine fg_X7_26 F dX7_shuts_27 ?_
      refine s_Vi F [] dX7_shuts_30 (fun z hz => c_X4_allHorns nt_3 hz) wV_X7_204 nk_X4_allHorns (by decide) (by decide) (isNet.obj nt_3) vc_3 rfl rfl (Nat.le_of_ble_eq_true rfl) (fun z3 => ?_)
      refine s_Si F [.int a2, .int (nI 0), .int z3.1] dX7_shuts_33 (fun z hz => c_X7_isWithin hz) wS_X7_67 nk_X7_isWithin (by decide) (by decide) rfl rfl (Nat.le_of_ble_eq_true rfl) (fun z4 => ?_)
      refine s_if_eq F 59 dX7_shuts_36 (by decide) (fun c13 => ?_) (fun c13 => ?_)
      · refine s_ldc F dX7_shuts_59 m_1_173 ?_
        exact s_iret R dX7_shuts_61
      · refine s_iload_n F 3 dX7_shuts_39 rfl rfl ?_
        refine s_iconst F (nI 1) dX7_shuts_40 rfl ?_
        refine s_bipush F (nI 30) dX7_shuts_41 rfl ?_
        refine s_Si F [.int a3, .int (nI 1), .int (nI 30)] dX7_shuts_43 (fun z hz => c_X7_isWithin hz) wS_X7_67 nk_X7_isWithin (by decide) (by decide) rfl rfl (Nat.le_of_ble_eq_true rfl) (fun z5 => ?_)
        refine s_if_eq F 59 dX7_shuts_46 (by decide) (fun c12 => ?_) (fun c12 => ?_)
        · refine s_ldc F dX7_shuts_59 m_1_173 ?_
          exact s_iret R dX7_shuts_61
        · refine s_iload F 4 dX7_shuts_49 rfl ?_
          refine s_iconst F (nI 0) dX7_shuts_51 rfl ?_
          refine s_iconst F (nI 1) dX7_shuts_52 rfl ?_
          refine s_Si F [.int a4, .int (nI 0), .int (nI 1)] dX7_shuts_53 (fun z hz => c_X7_isWithin hz) wS_X7_67 nk_X7_isWithin (by decide) (by decide) rfl rfl (Nat.le_of_ble_eq_true rfl) (fun z6 => ?_)
          refine s_if_ne F 62 dX7_shuts_56 (by decide) (fun c11 => ?_) (fun c11 => ?_)
          · refine s_aload_n F 0 dX7_shuts_62 rfl rfl ?_
            refine s_Vc F [] dX7_shuts_63 (fun z hz => c_X7_seen hz) wV_X7_188 nk_X7_seen (by decide) (by decide) ob_0 vc_6 rfl rfl (Nat.le_of_ble_eq_true rfl) (fun z7 => ?_)
            refine s_aload_n F 0 dX7_shuts_66 rfl rfl ?_
            refine fg_X7_26 F dX7_shuts_67 ?_
            refine fg_X7_124 F nt_3 (c := 4) rfl dX7_shuts_70 ?_
            refine s_iconst F (nI 3) dX7_shuts_73 rfl ?_
            refine s_iald F ar_4 dX7_shuts_74 (fun q8 => ?_)
            refine s_iload_n F 1 dX7_shuts_75 rfl rfl ?_
            refine s_iload_n F 2 dX7_shuts_76 rfl rfl ?_
            refine s_iload_n F 3 dX7_shuts_77 rfl rfl ?_
            refine s_iconst F (nI 0) dX7_shuts_78 rfl ?_
            refine s_Vi F [.int (z7.1 4 (nI 3).toNatClampNeg), .int a1, .int a2, .int a3, .int (nI 0)] dX7_shuts_79 (fun z hz => c_X2_fewestTurned hz) wV_X7_207 nk_X2_fewestTurned (by decide) (by decide) ob_16 vc_2 rfl rfl (Nat.le_of_ble_eq_true rfl) (fun z9 => ?_)
            refine s_iload F 4 dX7_shuts_82 rfl ?_
            refine s_Si F [.int z9.1, .int a4] dX7_shuts_84 (fun z hz => c_X7_sizeOrSet hz) wS_X7_211 nk_X7_sizeOrSet (by decide) (by decide) rfl rfl (Nat.le_of_ble_eq_true rfl) (fun z10 => ?_)
            exact s_iret R dX7_shuts_87
          · refine s_ldc F dX7_shuts_59 m_1_173 ?_
            exact s_iret R dX7_shuts_61
  · refine s_ldc F dX7_shuts_10 m_2_46 ?_
    exact s_iret R dX7_shuts_12
/-! X7_opens -/
def F_X7_opens (a1 : Int32) (a2 : Int32) (a3 : Int32) (a4 : Int32) (σ : St) : Option (Int32 × St) := (F_X4_isHorn 3 a1 σ).bind fun z1 => if z1.1 = 0 then (some ((-1000001 : Int32), z1.2)) else ((F_X4_isHorn 3 a2 z1.2).bind fun z2 => if z2.1 = 0 then (some ((-1000001 : Int32), z2.2)) else ((F_X7_isWithin a3 (nI 1) (nI 30) z2.2).bind fun z3 => if z3.1 = 0 then (some ((-1000001 : Int32), z3.2)) else ((F_X7_isWithin a4 (nI 0) (nI 1) z3.2).bind fun z4 => if z4.1 = 0 then (some ((-1000001 : Int32), z4.2)) else ((F_X4_allPipes 3 z4.2).bind fun z5 => if ix (nI 3) 80 then (F_X7_seen z5.2).bind fun z7 => (F_X2_fewestTurned (z5.1 &&& ((z5.2.1 4 (nI 3).toNatClampNeg) ^^^ (-1 : Int32))) a1 ((nI 1) <<< (a2 &&& 31)) a3 (nI 1) z7).bind fun z8 => (F_X7_sizeOrSet z8.1 a4 z8.2).bind fun z9 => some (z9.1, z9.2) else none))))
set_option maxRecDepth 20000 in
theorem c_X7_opens {G : Gx} {l : Launch} {a1 : Int32} {a2 : Int32} {a3 : Int32} {a4 : Int32} {σ : St} {o : (Int32 × St)} (hF : F_X7_opens a1 a2 a3 a4 σ = some o) : Con G l yX7_opens cX7_opens 6 (some .int) 6 [.ref (ga G 0), .int a1, .int a2, .int a3, .int a4] σ (some (.int o.1)) o.2 := by
  refine Con.of plX7 (Nat.le_of_ble_eq_true rfl) [(0, .ref (ga G 0)), (1, .int a1), (2, .int a2), (3, .int a3), (4, .int a4)] rfl (fun X F R => ?_)
  refine (show Sim G X 6 o (F_X7_opens a1 a2 a3 a4 σ) σ 0 [(0, .ref (ga G 0)), (1, .int a1), (2, .int a2), (3, .int a3), (4, .int a4)] [] from ?_) hF
  unfold F_X7_opens
  refine s_aload_n F 0 dX7_opens_0 rfl rfl ?_
  refine fg_X7_26 F dX7_opens_1 ?_
  refine s_iload_n F 1 dX7_opens_4 rfl rfl ?_
  refine s_Vi F [.int a1] dX7_opens_5 (fun z hz => c_X4_isHorn nt_3 hz) wV_X7_156 nk_X4_isHorn (by decide) (by decide) (isNet.obj nt_3) vc_3 rfl rfl (Nat.le_of_ble_eq_true rfl) (fun z1 => ?_)
  refine s_if_eq F 42 dX7_opens_8 (by decide) (fun c13 => ?_) (fun c13 => ?_)
  · refine s_ldc F dX7_opens_42 m_1_173 ?_
    exact s_iret R dX7_opens_44
  · refine s_aload_n F 0 dX7_opens_11 rfl rfl ?_
    refine fg_X7_26 F dX7_opens_12 ?_
    refine s_iload_n F 2 dX7_opens_15 rfl rfl ?_
    refine s_Vi F [.int a2] dX7_opens_16 (fun z hz => c_X4_isHorn nt_3 hz) wV_X7_156 nk_X4_isHorn (by decide) (by decide) (isNet.obj nt_3) vc_3 rfl rfl (Nat.le_of_ble_eq_true rfl) (fun z2 => ?_)
    refine s_if_eq F 42 dX7_opens_19 (by decide) (fun c12 => ?_) (fun c12 => ?_)
    · refine s_ldc F dX7_opens_42 m_1_173 ?_
      exact s_iret R dX7_opens_44
    · refine s_iload_n F 3 dX7_opens_22 rfl rfl ?_
      refine s_iconst F (nI 1) dX7_opens_23 rfl ?_
      refine s_bipush F (nI 30) dX7_opens_24 rfl ?_
      refine s_Si F [.int a3, .int (nI 1), .int (nI 30)] dX7_opens_26 (fun z hz => c_X7_isWithin hz) wS_X7_67 nk_X7_isWithin (by decide) (by decide) rfl rfl (Nat.le_of_ble_eq_true rfl) (fun z3 => ?_)
      refine s_if_eq F 42 dX7_opens_29 (by decide) (fun c11 => ?_) (fun c11 => ?_)
      · refine s_ldc F dX7_opens_42 m_1_173 ?_
        exact s_iret R dX7_opens_44
      · refine s_iload F 4 dX7_opens_32 rfl ?_
        refine s_iconst F (nI 0) dX7_opens_34 rfl ?_
        refine s_iconst F (nI 1) dX7_opens_35 rfl ?_
        refine s_Si F [.int a4, .int (nI 0), .int (nI 1)] dX7_opens_36 (fun z hz => c_X7_isWithin hz) wS_X7_67 nk_X7_isWithin (by decide) (by decide) rfl rfl (Nat.le_of_ble_eq_true rfl) (fun z4 => ?_)
        refine s_if_ne F 45 dX7_opens_39 (by decide) (fun c10 => ?_) (fun c10 => ?_)
        · refine s_aload_n F 0 dX7_opens_45 rfl rfl ?_
          refine fg_X7_26 F dX7_opens_46 ?_
          refine s_Vi F [] dX7_opens_49 (fun z hz => c_X4_allPipes nt_3 hz) wV_X7_214 nk_X4_allPipes (by decide) (by decide) (isNet.obj nt_3) vc_3 rfl rfl (Nat.le_of_ble_eq_true rfl) (fun z5 => ?_)
          refine s_aload_n F 0 dX7_opens_52 rfl rfl ?_
          refine fg_X7_26 F dX7_opens_53 ?_
          refine fg_X7_124 F nt_3 (c := 4) rfl dX7_opens_56 ?_
          refine s_iconst F (nI 3) dX7_opens_59 rfl ?_
          refine s_iald F ar_4 dX7_opens_60 (fun q6 => ?_)
          refine s_iconst F (-1 : Int32) dX7_opens_61 rfl ?_
          refine s_ixor F dX7_opens_62 ?_
          refine s_iand F dX7_opens_63 ?_
          refine s_istore F [(5, .int (z5.1 &&& ((z5.2.1 4 (nI 3).toNatClampNeg) ^^^ (-1 : Int32)))), (0, .ref (ga G 0)), (1, .int a1), (2, .int a2), (3, .int a3), (4, .int a4)] dX7_opens_64 (by decide) rfl ?_
          refine s_aload_n F 1 dX7_opens_66 rfl rfl ?_
          refine s_Vc F [] dX7_opens_67 (fun z hz => c_X7_seen hz) wV_X7_188 nk_X7_seen (by decide) (by decide) ob_0 vc_6 rfl rfl (Nat.le_of_ble_eq_true rfl) (fun z7 => ?_)
          refine s_iload F 0 dX7_opens_70 rfl ?_
          refine s_iload_n F 2 dX7_opens_72 rfl rfl ?_
          refine s_iconst F (nI 1) dX7_opens_73 rfl ?_
          refine s_iload_n F 3 dX7_opens_74 rfl rfl ?_
          refine s_ishl F dX7_opens_75 ?_
          refine s_iload_n F 4 dX7_opens_76 rfl rfl ?_
          refine s_iconst F (nI 1) dX7_opens_77 rfl ?_
          refine s_Vi F [.int (z5.1 &&& ((z5.2.1 4 (nI 3).toNatClampNeg) ^^^ (-1 : Int32))), .int a1, .int ((nI 1) <<< (a2 &&& 31)), .int a3, .int (nI 1)] dX7_opens_78 (fun z hz => c_X2_fewestTurned hz) wV_X7_207 nk_X2_fewestTurned (by decide) (by decide) ob_16 vc_2 rfl rfl (Nat.le_of_ble_eq_true rfl) (fun z8 => ?_)
          refine s_iload F 5 dX7_opens_81 rfl ?_
          refine s_Si F [.int z8.1, .int a4] dX7_opens_83 (fun z hz => c_X7_sizeOrSet hz) wS_X7_211 nk_X7_sizeOrSet (by decide) (by decide) rfl rfl (Nat.le_of_ble_eq_true rfl) (fun z9 => ?_)
          exact s_iret R dX7_opens_86
        · refine s_ldc F dX7_opens_42 m_1_173 ?_
          exact s_iret R dX7_opens_44
/-! X7_loud -/
def F_X7_loud (a1 : Int32) (a2 : Int32) (a3 : Int32) (σ : St) : Option (Int32 × St) := (F_X4_isHorn 3 a1 σ).bind fun z1 => if z1.1 = 0 then (some ((-1000001 : Int32), z1.2)) else ((F_X4_isHorn 3 a2 z1.2).bind fun z2 => if z2.1 = 0 then (some ((-1000001 : Int32), z2.2)) else ((F_X7_isWithin a3 (nI 1) (nI 30) z2.2).bind fun z3 => if z3.1 = 0 then (some ((-1000001 : Int32), z3.2)) else ((F_X7_seen z3.2).bind fun z4 => (F_X2_leastLoudness a1 a2 a3 z4).bind fun z5 => some (z5.1, z5.2))))
set_option maxRecDepth 20000 in
theorem c_X7_loud {G : Gx} {l : Launch} {a1 : Int32} {a2 : Int32} {a3 : Int32} {σ : St} {o : (Int32 × St)} (hF : F_X7_loud a1 a2 a3 σ = some o) : Con G l yX7_loud cX7_loud 4 (some .int) 5 [.ref (ga G 0), .int a1, .int a2, .int a3] σ (some (.int o.1)) o.2 := by
  refine Con.of plX7 (Nat.le_of_ble_eq_true rfl) [(0, .ref (ga G 0)), (1, .int a1), (2, .int a2), (3, .int a3)] rfl (fun X F R => ?_)
  refine (show Sim G X 4 o (F_X7_loud a1 a2 a3 σ) σ 0 [(0, .ref (ga G 0)), (1, .int a1), (2, .int a2), (3, .int a3)] [] from ?_) hF
  unfold F_X7_loud
  refine s_aload_n F 0 dX7_loud_0 rfl rfl ?_
  refine fg_X7_26 F dX7_loud_1 ?_
  refine s_iload_n F 1 dX7_loud_4 rfl rfl ?_
  refine s_Vi F [.int a1] dX7_loud_5 (fun z hz => c_X4_isHorn nt_3 hz) wV_X7_156 nk_X4_isHorn (by decide) (by decide) (isNet.obj nt_3) vc_3 rfl rfl (Nat.le_of_ble_eq_true rfl) (fun z1 => ?_)
  refine s_if_eq F 32 dX7_loud_8 (by decide) (fun c8 => ?_) (fun c8 => ?_)
  · refine s_ldc F dX7_loud_32 m_1_173 ?_
    exact s_iret R dX7_loud_34
  · refine s_aload_n F 0 dX7_loud_11 rfl rfl ?_
    refine fg_X7_26 F dX7_loud_12 ?_
    refine s_iload_n F 2 dX7_loud_15 rfl rfl ?_
    refine s_Vi F [.int a2] dX7_loud_16 (fun z hz => c_X4_isHorn nt_3 hz) wV_X7_156 nk_X4_isHorn (by decide) (by decide) (isNet.obj nt_3) vc_3 rfl rfl (Nat.le_of_ble_eq_true rfl) (fun z2 => ?_)
    refine s_if_eq F 32 dX7_loud_19 (by decide) (fun c7 => ?_) (fun c7 => ?_)
    · refine s_ldc F dX7_loud_32 m_1_173 ?_
      exact s_iret R dX7_loud_34
    · refine s_iload_n F 3 dX7_loud_22 rfl rfl ?_
      refine s_iconst F (nI 1) dX7_loud_23 rfl ?_
      refine s_bipush F (nI 30) dX7_loud_24 rfl ?_
      refine s_Si F [.int a3, .int (nI 1), .int (nI 30)] dX7_loud_26 (fun z hz => c_X7_isWithin hz) wS_X7_67 nk_X7_isWithin (by decide) (by decide) rfl rfl (Nat.le_of_ble_eq_true rfl) (fun z3 => ?_)
      refine s_if_ne F 35 dX7_loud_29 (by decide) (fun c6 => ?_) (fun c6 => ?_)
      · refine s_aload_n F 0 dX7_loud_35 rfl rfl ?_
        refine s_Vc F [] dX7_loud_36 (fun z hz => c_X7_seen hz) wV_X7_188 nk_X7_seen (by decide) (by decide) ob_0 vc_6 rfl rfl (Nat.le_of_ble_eq_true rfl) (fun z4 => ?_)
        refine s_iload_n F 1 dX7_loud_39 rfl rfl ?_
        refine s_iload_n F 2 dX7_loud_40 rfl rfl ?_
        refine s_iload_n F 3 dX7_loud_41 rfl rfl ?_
        refine s_Vi F [.int a1, .int a2, .int a3] dX7_loud_42 (fun z hz => c_X2_leastLoudness hz) wV_X7_217 nk_X2_leastLoudness (by decide) (by decide) ob_16 vc_2 rfl rfl (Nat.le_of_ble_eq_true rfl) (fun z5 => ?_)
        exact s_iret R dX7_loud_45
      · refine s_ldc F dX7_loud_32 m_1_173 ?_
        exact s_iret R dX7_loud_34
/-! X7_say -/
def F_X7_say (a1 : Int32) (a2 : Int32) (a3 : Int32) (a4 : Int32) (σ : St) : Option (Int32 × St) := (F_X4_isHorn 3 a1 σ).bind fun z1 => if z1.1 = 0 then (some ((-1000001 : Int32), z1.2)) else ((F_X4_isHorn 3 a2 z1.2).bind fun z2 => if z2.1 = 0 then (some ((-1000001 : Int32), z2.2)) else ((F_X7_isWithin a3 (nI 0) (nI 9) z2.2).bind fun z3 => if z3.1 = 0 then (some ((-1000001 : Int32), z3.2)) else ((F_X7_isWithin a4 (nI 1) (nI 30) z3.2).bind fun z4 => if z4.1 = 0 then (some ((-1000001 : Int32), z4.2)) else ((F_X7_seen z4.2).bind fun z5 => (F_X2_wordsToSay a1 a2 a3 a4 z5).bind fun z6 => some (z6.1, z6.2)))))
set_option maxRecDepth 20000 in
theorem c_X7_say {G : Gx} {l : Launch} {a1 : Int32} {a2 : Int32} {a3 : Int32} {a4 : Int32} {σ : St} {o : (Int32 × St)} (hF : F_X7_say a1 a2 a3 a4 σ = some o) : Con G l yX7_say cX7_say 5 (some .int) 5 [.ref (ga G 0), .int a1, .int a2, .int a3, .int a4] σ (some (.int o.1)) o.2 := by
  refine Con.of plX7 (Nat.le_of_ble_eq_true rfl) [(0, .ref (ga G 0)), (1, .int a1), (2, .int a2), (3, .int a3), (4, .int a4)] rfl (fun X F R => ?_)
  refine (show Sim G X 5 o (F_X7_say a1 a2 a3 a4 σ) σ 0 [(0, .ref (ga G 0)), (1, .int a1), (2, .int a2), (3, .int a3), (4, .int a4)] [] from ?_) hF
  unfold F_X7_say
  refine s_aload_n F 0 dX7_say_0 rfl rfl ?_
  refine fg_X7_26 F dX7_say_1 ?_
  refine s_iload_n F 1 dX7_say_4 rfl rfl ?_
  refine s_Vi F [.int a1] dX7_say_5 (fun z hz => c_X4_isHorn nt_3 hz) wV_X7_156 nk_X4_isHorn (by decide) (by decide) (isNet.obj nt_3) vc_3 rfl rfl (Nat.le_of_ble_eq_true rfl) (fun z1 => ?_)
  refine s_if_eq F 43 dX7_say_8 (by decide) (fun c10 => ?_) (fun c10 => ?_)
  · refine s_ldc F dX7_say_43 m_1_173 ?_
    exact s_iret R dX7_say_45
  · refine s_aload_n F 0 dX7_say_11 rfl rfl ?_
    refine fg_X7_26 F dX7_say_12 ?_
    refine s_iload_n F 2 dX7_say_15 rfl rfl ?_
    refine s_Vi F [.int a2] dX7_say_16 (fun z hz => c_X4_isHorn nt_3 hz) wV_X7_156 nk_X4_isHorn (by decide) (by decide) (isNet.obj nt_3) vc_3 rfl rfl (Nat.le_of_ble_eq_true rfl) (fun z2 => ?_)
    refine s_if_eq F 43 dX7_say_19 (by decide) (fun c9 => ?_) (fun c9 => ?_)
    · refine s_ldc F dX7_say_43 m_1_173 ?_
      exact s_iret R dX7_say_45
    · refine s_iload_n F 3 dX7_say_22 rfl rfl ?_
      refine s_iconst F (nI 0) dX7_say_23 rfl ?_
      refine s_bipush F (nI 9) dX7_say_24 rfl ?_
      refine s_Si F [.int a3, .int (nI 0), .int (nI 9)] dX7_say_26 (fun z hz => c_X7_isWithin hz) wS_X7_67 nk_X7_isWithin (by decide) (by decide) rfl rfl (Nat.le_of_ble_eq_true rfl) (fun z3 => ?_)
      refine s_if_eq F 43 dX7_say_29 (by decide) (fun c8 => ?_) (fun c8 => ?_)
      · refine s_ldc F dX7_say_43 m_1_173 ?_
        exact s_iret R dX7_say_45
      · refine s_iload F 4 dX7_say_32 rfl ?_
        refine s_iconst F (nI 1) dX7_say_34 rfl ?_
        refine s_bipush F (nI 30) dX7_say_35 rfl ?_
        refine s_Si F [.int a4, .int (nI 1), .int (nI 30)] dX7_say_37 (fun z hz => c_X7_isWithin hz) wS_X7_67 nk_X7_isWithin (by decide) (by decide) rfl rfl (Nat.le_of_ble_eq_true rfl) (fun z4 => ?_)
        refine s_if_ne F 46 dX7_say_40 (by decide) (fun c7 => ?_) (fun c7 => ?_)
        · refine s_aload_n F 0 dX7_say_46 rfl rfl ?_
          refine s_Vc F [] dX7_say_47 (fun z hz => c_X7_seen hz) wV_X7_188 nk_X7_seen (by decide) (by decide) ob_0 vc_6 rfl rfl (Nat.le_of_ble_eq_true rfl) (fun z5 => ?_)
          refine s_iload_n F 1 dX7_say_50 rfl rfl ?_
          refine s_iload_n F 2 dX7_say_51 rfl rfl ?_
          refine s_iload_n F 3 dX7_say_52 rfl rfl ?_
          refine s_iload F 4 dX7_say_53 rfl ?_
          refine s_Vi F [.int a1, .int a2, .int a3, .int a4] dX7_say_55 (fun z hz => c_X2_wordsToSay hz) wV_X7_220 nk_X2_wordsToSay (by decide) (by decide) ob_16 vc_2 rfl rfl (Nat.le_of_ble_eq_true rfl) (fun z6 => ?_)
          exact s_iret R dX7_say_58
        · refine s_ldc F dX7_say_43 m_1_173 ?_
          exact s_iret R dX7_say_45
/-! X7_round -/
def F_X7_round (a1 : Int32) (σ : St) : Option (Int32 × St) := (F_X4_isHorn 3 a1 σ).bind fun z1 => if z1.1 = 0 then (some ((-1000001 : Int32), z1.2)) else ((F_X7_seen z1.2).bind fun z2 => (F_X2_breathsRound a1 (nI 60) z2).bind fun z3 => some (z3.1, z3.2))
set_option maxRecDepth 20000 in
theorem c_X7_round {G : Gx} {l : Launch} {a1 : Int32} {σ : St} {o : (Int32 × St)} (hF : F_X7_round a1 σ = some o) : Con G l yX7_round cX7_round 2 (some .int) 5 [.ref (ga G 0), .int a1] σ (some (.int o.1)) o.2 := by
  refine Con.of plX7 (Nat.le_of_ble_eq_true rfl) [(0, .ref (ga G 0)), (1, .int a1)] rfl (fun X F R => ?_)
  refine (show Sim G X 2 o (F_X7_round a1 σ) σ 0 [(0, .ref (ga G 0)), (1, .int a1)] [] from ?_) hF
  unfold F_X7_round
  refine s_aload_n F 0 dX7_round_0 rfl rfl ?_
  refine fg_X7_26 F dX7_round_1 ?_
  refine s_iload_n F 1 dX7_round_4 rfl rfl ?_
  refine s_Vi F [.int a1] dX7_round_5 (fun z hz => c_X4_isHorn nt_3 hz) wV_X7_156 nk_X4_isHorn (by decide) (by decide) (isNet.obj nt_3) vc_3 rfl rfl (Nat.le_of_ble_eq_true rfl) (fun z1 => ?_)
  refine s_if_eq F 24 dX7_round_8 (by decide) (fun c4 => ?_) (fun c4 => ?_)
  · refine s_ldc F dX7_round_24 m_1_173 ?_
    exact s_iret R dX7_round_26
  · refine s_aload_n F 0 dX7_round_11 rfl rfl ?_
    refine s_Vc F [] dX7_round_12 (fun z hz => c_X7_seen hz) wV_X7_188 nk_X7_seen (by decide) (by decide) ob_0 vc_6 rfl rfl (Nat.le_of_ble_eq_true rfl) (fun z2 => ?_)
    refine s_iload_n F 1 dX7_round_15 rfl rfl ?_
    refine s_bipush F (nI 60) dX7_round_16 rfl ?_
    refine s_Vi F [.int a1, .int (nI 60)] dX7_round_18 (fun z hz => c_X2_breathsRound hz) wV_X7_224 nk_X2_breathsRound (by decide) (by decide) ob_16 vc_2 rfl rfl (Nat.le_of_ble_eq_true rfl) (fun z3 => ?_)
    refine s_goto F 26 dX7_round_21 (by decide) ?_
    exact s_iret R dX7_round_26
/-! X7_way -/
def F_X7_way (a1 : Int32) (a2 : Int32) (σ : St) : Option (Int32 × St) := (F_X4_isHorn 3 a1 σ).bind fun z1 => if z1.1 = 0 then (some ((-1000001 : Int32), z1.2)) else ((F_X4_isHorn 3 a2 z1.2).bind fun z2 => if z2.1 = 0 then (some ((-1000001 : Int32), z2.2)) else ((F_X7_seen z2.2).bind fun z3 => (F_X2_fewestPipes a1 a2 z3).bind fun z4 => some (z4.1, z4.2)))
set_option maxRecDepth 20000 in
theorem c_X7_way {G : Gx} {l : Launch} {a1 : Int32} {a2 : Int32} {σ : St} {o : (Int32 × St)} (hF : F_X7_way a1 a2 σ = some o) : Con G l yX7_way cX7_way 3 (some .int) 3 [.ref (ga G 0), .int a1, .int a2] σ (some (.int o.1)) o.2 := by
  refine Con.of plX7 (Nat.le_of_ble_eq_true rfl) [(0, .ref (ga G 0)), (1, .int a1), (2, .int a2)] rfl (fun X F R => ?_)
  refine (show Sim G X 3 o (F_X7_way a1 a2 σ) σ 0 [(0, .ref (ga G 0)), (1, .int a1), (2, .int a2)] [] from ?_) hF
  unfold F_X7_way
  refine s_aload_n F 0 dX7_way_0 rfl rfl ?_
  refine fg_X7_26 F dX7_way_1 ?_
  refine s_iload_n F 1 dX7_way_4 rfl rfl ?_
  refine s_Vi F [.int a1] dX7_way_5 (fun z hz => c_X4_isHorn nt_3 hz) wV_X7_156 nk_X4_isHorn (by decide) (by decide) (isNet.obj nt_3) vc_3 rfl rfl (Nat.le_of_ble_eq_true rfl) (fun z1 => ?_)
  refine s_if_eq F 22 dX7_way_8 (by decide) (fun c6 => ?_) (fun c6 => ?_)
  · refine s_ldc F dX7_way_22 m_1_173 ?_
    exact s_iret R dX7_way_24
  · refine s_aload_n F 0 dX7_way_11 rfl rfl ?_
    refine fg_X7_26 F dX7_way_12 ?_
    refine s_iload_n F 2 dX7_way_15 rfl rfl ?_
    refine s_Vi F [.int a2] dX7_way_16 (fun z hz => c_X4_isHorn nt_3 hz) wV_X7_156 nk_X4_isHorn (by decide) (by decide) (isNet.obj nt_3) vc_3 rfl rfl (Nat.le_of_ble_eq_true rfl) (fun z2 => ?_)
    refine s_if_ne F 25 dX7_way_19 (by decide) (fun c5 => ?_) (fun c5 => ?_)
    · refine s_aload_n F 0 dX7_way_25 rfl rfl ?_
      refine s_Vc F [] dX7_way_26 (fun z hz => c_X7_seen hz) wV_X7_188 nk_X7_seen (by decide) (by decide) ob_0 vc_6 rfl rfl (Nat.le_of_ble_eq_true rfl) (fun z3 => ?_)
      refine s_iload_n F 1 dX7_way_29 rfl rfl ?_
      refine s_iload_n F 2 dX7_way_30 rfl rfl ?_
      refine s_Vi F [.int a1, .int a2] dX7_way_31 (fun z hz => c_X2_fewestPipes hz) wV_X7_227 nk_X2_fewestPipes (by decide) (by decide) ob_16 vc_2 rfl rfl (Nat.le_of_ble_eq_true rfl) (fun z4 => ?_)
      exact s_iret R dX7_way_34
    · refine s_ldc F dX7_way_22 m_1_173 ?_
      exact s_iret R dX7_way_24
/-! X7_who -/
def F_X7_who (a1 : Int32) (a2 : Int32) (a3 : Int32) (a4 : Int32) (a5 : Int32) (a6 : Int32) (σ : St) : Option (Int32 × St) := (F_X4_isPipe 3 a1 σ).bind fun z1 => if z1.1 = 0 then (some ((-1000001 : Int32), z1.2)) else ((F_X7_isWithin a2 (nI 0) (nI 2) z1.2).bind fun z2 => if z2.1 = 0 then (some ((-1000001 : Int32), z2.2)) else ((F_X4_isHorn 3 a3 z2.2).bind fun z3 => if z3.1 = 0 then (some ((-1000001 : Int32), z3.2)) else ((F_X5_isRow a4 z3.2).bind fun z4 => if z4.1 = 0 then (some ((-1000001 : Int32), z4.2)) else ((F_X7_isWithin a6 (nI 1) (nI 12) z4.2).bind fun z5 => if z5.1 = 0 then (some ((-1000001 : Int32), z5.2)) else ((F_X5_isMissing a4 z5.2).bind fun z6 => if z6.1 = 0 then ((F_X5_hasStretch a4 a5 a6 z6.2).bind fun z7 => if z7.1 = 0 then ((F_X7_found (nI 2) z7.2).bind fun z12 => some (z12.1, z12.2)) else ((F_X7_seen z7.2).bind fun z8 => if ix a4 8 then (F_X2_whatFits a1 a2 a3 (38 + a4.toNatClampNeg) a5 a6 z8).bind fun z10 => (F_X7_unfound z10.1 z10.2).bind fun z11 => some (z11.1, z11.2) else none)) else ((F_X7_found (nI 1) z6.2).bind fun z14 => some (z14.1, z14.2)))))))
set_option maxRecDepth 20000 in
theorem c_X7_who {G : Gx} {l : Launch} {a1 : Int32} {a2 : Int32} {a3 : Int32} {a4 : Int32} {a5 : Int32} {a6 : Int32} {σ : St} {o : (Int32 × St)} (hF : F_X7_who a1 a2 a3 a4 a5 a6 σ = some o) : Con G l yX7_who cX7_who 7 (some .int) 5 [.ref (ga G 0), .int a1, .int a2, .int a3, .int a4, .int a5, .int a6] σ (some (.int o.1)) o.2 := by
  refine Con.of plX7 (Nat.le_of_ble_eq_true rfl) [(0, .ref (ga G 0)), (1, .int a1), (2, .int a2), (3, .int a3), (4, .int a4), (5, .int a5), (6, .int a6)] rfl (fun X F R => ?_)
  refine (show Sim G X 7 o (F_X7_who a1 a2 a3 a4 a5 a6 σ) σ 0 [(0, .ref (ga G 0)), (1, .int a1), (2, .int a2), (3, .int a3), (4, .int a4), (5, .int a5), (6, .int a6)] [] from ?_) hF
  unfold F_X7_who
  refine s_aload_n F 0 dX7_who_0 rfl rfl ?_
  refine fg_X7_26 F dX7_who_1 ?_
  refine s_iload_n F 1 dX7_who_4 rfl rfl ?_
  refine s_Vi F [.int a1] dX7_who_5 (fun z hz => c_X4_isPipe nt_3 hz) wV_X7_162 nk_X4_isPipe (by decide) (by decide) (isNet.obj nt_3) vc_3 rfl rfl (Nat.le_of_ble_eq_true rfl) (fun z1 => ?_)
  refine s_if_eq F 50 dX7_who_8 (by decide) (fun c20 => ?_) (fun c20 => ?_)
  · refine s_ldc F dX7_who_50 m_1_173 ?_
    exact s_iret R dX7_who_52
  · refine s_iload_n F 2 dX7_who_11 rfl rfl ?_
    refine s_iconst F (nI 0) dX7_who_12 rfl ?_
    refine s_iconst F (nI 2) dX7_who_13 rfl ?_
    refine s_Si F [.int a2, .int (nI 0), .int (nI 2)] dX7_who_14 (fun z hz => c_X7_isWithin hz) wS_X7_67 nk_X7_isWithin (by decide) (by decide) rfl rfl (Nat.le_of_ble_eq_true rfl) (fun z2 => ?_)
    refine s_if_eq F 50 dX7_who_17 (by decide) (fun c19 => ?_) (fun c19 => ?_)
    · refine s_ldc F dX7_who_50 m_1_173 ?_
      exact s_iret R dX7_who_52
    · refine s_aload_n F 0 dX7_who_20 rfl rfl ?_
      refine fg_X7_26 F dX7_who_21 ?_
      refine s_iload_n F 3 dX7_who_24 rfl rfl ?_
      refine s_Vi F [.int a3] dX7_who_25 (fun z hz => c_X4_isHorn nt_3 hz) wV_X7_156 nk_X4_isHorn (by decide) (by decide) (isNet.obj nt_3) vc_3 rfl rfl (Nat.le_of_ble_eq_true rfl) (fun z3 => ?_)
      refine s_if_eq F 50 dX7_who_28 (by decide) (fun c18 => ?_) (fun c18 => ?_)
      · refine s_ldc F dX7_who_50 m_1_173 ?_
        exact s_iret R dX7_who_52
      · refine s_iload F 4 dX7_who_31 rfl ?_
        refine s_Si F [.int a4] dX7_who_33 (fun z hz => c_X5_isRow hz) wS_X7_63 nk_X5_isRow (by decide) (by decide) rfl rfl (Nat.le_of_ble_eq_true rfl) (fun z4 => ?_)
        refine s_if_eq F 50 dX7_who_36 (by decide) (fun c17 => ?_) (fun c17 => ?_)
        · refine s_ldc F dX7_who_50 m_1_173 ?_
          exact s_iret R dX7_who_52
        · refine s_iload F 6 dX7_who_39 rfl ?_
          refine s_iconst F (nI 1) dX7_who_41 rfl ?_
          refine s_bipush F (nI 12) dX7_who_42 rfl ?_
          refine s_Si F [.int a6, .int (nI 1), .int (nI 12)] dX7_who_44 (fun z hz => c_X7_isWithin hz) wS_X7_67 nk_X7_isWithin (by decide) (by decide) rfl rfl (Nat.le_of_ble_eq_true rfl) (fun z5 => ?_)
          refine s_if_ne F 53 dX7_who_47 (by decide) (fun c16 => ?_) (fun c16 => ?_)
          · refine s_aload_n F 0 dX7_who_53 rfl rfl ?_
            refine fg_X7_10 F dX7_who_54 ?_
            refine s_iload F 4 dX7_who_57 rfl ?_
            refine s_Vi F [.int a4] dX7_who_59 (fun z hz => c_X5_isMissing hz) wV_X7_83 nk_X5_isMissing (by decide) (by decide) ob_1 vc_4 rfl rfl (Nat.le_of_ble_eq_true rfl) (fun z6 => ?_)
            refine s_if_eq F 71 dX7_who_62 (by decide) (fun c15 => ?_) (fun c15 => ?_)
            · refine s_aload_n F 0 dX7_who_71 rfl rfl ?_
              refine fg_X7_10 F dX7_who_72 ?_
              refine s_iload F 4 dX7_who_75 rfl ?_
              refine s_iload F 5 dX7_who_77 rfl ?_
              refine s_iload F 6 dX7_who_79 rfl ?_
              refine s_Vi F [.int a4, .int a5, .int a6] dX7_who_81 (fun z hz => c_X5_hasStretch hz) wV_X7_86 nk_X5_hasStretch (by decide) (by decide) ob_1 vc_4 rfl rfl (Nat.le_of_ble_eq_true rfl) (fun z7 => ?_)
              refine s_if_ne F 93 dX7_who_84 (by decide) (fun c13 => ?_) (fun c13 => ?_)
              · refine s_aload_n F 0 dX7_who_93 rfl rfl ?_
                refine s_aload_n F 0 dX7_who_94 rfl rfl ?_
                refine s_Vc F [] dX7_who_95 (fun z hz => c_X7_seen hz) wV_X7_188 nk_X7_seen (by decide) (by decide) ob_0 vc_6 rfl rfl (Nat.le_of_ble_eq_true rfl) (fun z8 => ?_)
                refine s_iload_n F 1 dX7_who_98 rfl rfl ?_
                refine s_iload_n F 2 dX7_who_99 rfl rfl ?_
                refine s_iload_n F 3 dX7_who_100 rfl rfl ?_
                refine s_aload_n F 0 dX7_who_101 rfl rfl ?_
                refine fg_X7_10 F dX7_who_102 ?_
                refine fg_X7_97 F dX7_who_105 ?_
                refine s_iload F 4 dX7_who_108 rfl ?_
                refine s_aald F (by decide) rfl dX7_who_110 (fun q9 => ?_)
                refine s_iload F 5 dX7_who_111 rfl ?_
                refine s_iload F 6 dX7_who_113 rfl ?_
                refine s_Vi F [.int a1, .int a2, .int a3, .ref (ga G (38 + a4.toNatClampNeg)), .int a5, .int a6] dX7_who_115 (fun z hz => c_X2_whatFits (isArr.items (ix_lt q9)) hz) wV_X7_230 nk_X2_whatFits (by decide) (by decide) ob_16 vc_2 rfl rfl (Nat.le_of_ble_eq_true rfl) (fun z10 => ?_)
                refine s_Vi F [.int z10.1] dX7_who_118 (fun z hz => c_X7_unfound hz) wV_X7_80 nk_X7_unfound (by decide) (by decide) ob_0 vc_6 rfl rfl (Nat.le_of_ble_eq_true rfl) (fun z11 => ?_)
                exact s_iret R dX7_who_121
              · refine s_aload_n F 0 dX7_who_87 rfl rfl ?_
                refine s_iconst F (nI 2) dX7_who_88 rfl ?_
                refine s_Vi F [.int (nI 2)] dX7_who_89 (fun z hz => c_X7_found hz) wV_X7_72 nk_X7_found (by decide) (by decide) ob_0 vc_6 rfl rfl (Nat.le_of_ble_eq_true rfl) (fun z12 => ?_)
                exact s_iret R dX7_who_92
            · refine s_aload_n F 0 dX7_who_65 rfl rfl ?_
              refine s_iconst F (nI 1) dX7_who_66 rfl ?_
              refine s_Vi F [.int (nI 1)] dX7_who_67 (fun z hz => c_X7_found hz) wV_X7_72 nk_X7_found (by decide) (by decide) ob_0 vc_6 rfl rfl (Nat.le_of_ble_eq_true rfl) (fun z14 => ?_)
              exact s_iret R dX7_who_70
          · refine s_ldc F dX7_who_50 m_1_173 ?_
            exact s_iret R dX7_who_52
/-! X7_spoke -/
def F_X7_spoke (a1 : Int32) (a2 : Int32) (a3 : Int32) (a4 : Int32) (a5 : Int32) (σ : St) : Option (Int32 × St) := (F_X4_isHorn 3 a1 σ).bind fun z1 => if z1.1 = 0 then (some ((-1000001 : Int32), z1.2)) else ((F_X7_isWithin a2 (nI 0) (nI 9) z1.2).bind fun z2 => if z2.1 = 0 then (some ((-1000001 : Int32), z2.2)) else ((F_X5_isRow a3 z2.2).bind fun z3 => if z3.1 = 0 then (some ((-1000001 : Int32), z3.2)) else ((F_X7_isWithin a5 (nI 1) (nI 12) z3.2).bind fun z4 => if z4.1 = 0 then (some ((-1000001 : Int32), z4.2)) else ((F_X5_isMissing a3 z4.2).bind fun z5 => if z5.1 = 0 then ((F_X5_hasStretch a3 a4 a5 z5.2).bind fun z6 => if z6.1 = 0 then ((F_X7_found (nI 2) z6.2).bind fun z11 => some (z11.1, z11.2)) else ((F_X7_seen z6.2).bind fun z7 => if ix a3 8 then (F_X2_hornsSpokenAt a1 a2 (38 + a3.toNatClampNeg) a4 a5 z7).bind fun z9 => (F_X7_unfound z9.1 z9.2).bind fun z10 => some (z10.1, z10.2) else none)) else ((F_X7_found (nI 1) z5.2).bind fun z13 => some (z13.1, z13.2))))))
set_option maxRecDepth 20000 in
theorem c_X7_spoke {G : Gx} {l : Launch} {a1 : Int32} {a2 : Int32} {a3 : Int32} {a4 : Int32} {a5 : Int32} {σ : St} {o : (Int32 × St)} (hF : F_X7_spoke a1 a2 a3 a4 a5 σ = some o) : Con G l yX7_spoke cX7_spoke 6 (some .int) 5 [.ref (ga G 0), .int a1, .int a2, .int a3, .int a4, .int a5] σ (some (.int o.1)) o.2 := by
  refine Con.of plX7 (Nat.le_of_ble_eq_true rfl) [(0, .ref (ga G 0)), (1, .int a1), (2, .int a2), (3, .int a3), (4, .int a4), (5, .int a5)] rfl (fun X F R => ?_)
  refine (show Sim G X 6 o (F_X7_spoke a1 a2 a3 a4 a5 σ) σ 0 [(0, .ref (ga G 0)), (1, .int a1), (2, .int a2), (3, .int a3), (4, .int a4), (5, .int a5)] [] from ?_) hF
  unfold F_X7_spoke
  refine s_aload_n F 0 dX7_spoke_0 rfl rfl ?_
  refine fg_X7_26 F dX7_spoke_1 ?_
  refine s_iload_n F 1 dX7_spoke_4 rfl rfl ?_
  refine s_Vi F [.int a1] dX7_spoke_5 (fun z hz => c_X4_isHorn nt_3 hz) wV_X7_156 nk_X4_isHorn (by decide) (by decide) (isNet.obj nt_3) vc_3 rfl rfl (Nat.le_of_ble_eq_true rfl) (fun z1 => ?_)
  refine s_if_eq F 39 dX7_spoke_8 (by decide) (fun c18 => ?_) (fun c18 => ?_)
  · refine s_ldc F dX7_spoke_39 m_1_173 ?_
    exact s_iret R dX7_spoke_41
  · refine s_iload_n F 2 dX7_spoke_11 rfl rfl ?_
    refine s_iconst F (nI 0) dX7_spoke_12 rfl ?_
    refine s_bipush F (nI 9) dX7_spoke_13 rfl ?_
    refine s_Si F [.int a2, .int (nI 0), .int (nI 9)] dX7_spoke_15 (fun z hz => c_X7_isWithin hz) wS_X7_67 nk_X7_isWithin (by decide) (by decide) rfl rfl (Nat.le_of_ble_eq_true rfl) (fun z2 => ?_)
    refine s_if_eq F 39 dX7_spoke_18 (by decide) (fun c17 => ?_) (fun c17 => ?_)
    · refine s_ldc F dX7_spoke_39 m_1_173 ?_
      exact s_iret R dX7_spoke_41
    · refine s_iload_n F 3 dX7_spoke_21 rfl rfl ?_
      refine s_Si F [.int a3] dX7_spoke_22 (fun z hz => c_X5_isRow hz) wS_X7_63 nk_X5_isRow (by decide) (by decide) rfl rfl (Nat.le_of_ble_eq_true rfl) (fun z3 => ?_)
      refine s_if_eq F 39 dX7_spoke_25 (by decide) (fun c16 => ?_) (fun c16 => ?_)
      · refine s_ldc F dX7_spoke_39 m_1_173 ?_
        exact s_iret R dX7_spoke_41
      · refine s_iload F 5 dX7_spoke_28 rfl ?_
        refine s_iconst F (nI 1) dX7_spoke_30 rfl ?_
        refine s_bipush F (nI 12) dX7_spoke_31 rfl ?_
        refine s_Si F [.int a5, .int (nI 1), .int (nI 12)] dX7_spoke_33 (fun z hz => c_X7_isWithin hz) wS_X7_67 nk_X7_isWithin (by decide) (by decide) rfl rfl (Nat.le_of_ble_eq_true rfl) (fun z4 => ?_)
        refine s_if_ne F 42 dX7_spoke_36 (by decide) (fun c15 => ?_) (fun c15 => ?_)
        · refine s_aload_n F 0 dX7_spoke_42 rfl rfl ?_
          refine fg_X7_10 F dX7_spoke_43 ?_
          refine s_iload_n F 3 dX7_spoke_46 rfl rfl ?_
          refine s_Vi F [.int a3] dX7_spoke_47 (fun z hz => c_X5_isMissing hz) wV_X7_83 nk_X5_isMissing (by decide) (by decide) ob_1 vc_4 rfl rfl (Nat.le_of_ble_eq_true rfl) (fun z5 => ?_)
          refine s_if_eq F 59 dX7_spoke_50 (by decide) (fun c14 => ?_) (fun c14 => ?_)
          · refine s_aload_n F 0 dX7_spoke_59 rfl rfl ?_
            refine fg_X7_10 F dX7_spoke_60 ?_
            refine s_iload_n F 3 dX7_spoke_63 rfl rfl ?_
            refine s_iload F 4 dX7_spoke_64 rfl ?_
            refine s_iload F 5 dX7_spoke_66 rfl ?_
            refine s_Vi F [.int a3, .int a4, .int a5] dX7_spoke_68 (fun z hz => c_X5_hasStretch hz) wV_X7_86 nk_X5_hasStretch (by decide) (by decide) ob_1 vc_4 rfl rfl (Nat.le_of_ble_eq_true rfl) (fun z6 => ?_)
            refine s_if_ne F 80 dX7_spoke_71 (by decide) (fun c12 => ?_) (fun c12 => ?_)
            · refine s_aload_n F 0 dX7_spoke_80 rfl rfl ?_
              refine s_aload_n F 0 dX7_spoke_81 rfl rfl ?_
              refine s_Vc F [] dX7_spoke_82 (fun z hz => c_X7_seen hz) wV_X7_188 nk_X7_seen (by decide) (by decide) ob_0 vc_6 rfl rfl (Nat.le_of_ble_eq_true rfl) (fun z7 => ?_)
              refine s_iload_n F 1 dX7_spoke_85 rfl rfl ?_
              refine s_iload_n F 2 dX7_spoke_86 rfl rfl ?_
              refine s_aload_n F 0 dX7_spoke_87 rfl rfl ?_
              refine fg_X7_10 F dX7_spoke_88 ?_
              refine fg_X7_97 F dX7_spoke_91 ?_
              refine s_iload_n F 3 dX7_spoke_94 rfl rfl ?_
              refine s_aald F (by decide) rfl dX7_spoke_95 (fun q8 => ?_)
              refine s_iload F 4 dX7_spoke_96 rfl ?_
              refine s_iload F 5 dX7_spoke_98 rfl ?_
              refine s_Vi F [.int a1, .int a2, .ref (ga G (38 + a3.toNatClampNeg)), .int a4, .int a5] dX7_spoke_100 (fun z hz => c_X2_hornsSpokenAt (isArr.items (ix_lt q8)) hz) wV_X7_234 nk_X2_hornsSpokenAt (by decide) (by decide) ob_16 vc_2 rfl rfl (Nat.le_of_ble_eq_true rfl) (fun z9 => ?_)
              refine s_Vi F [.int z9.1] dX7_spoke_103 (fun z hz => c_X7_unfound hz) wV_X7_80 nk_X7_unfound (by decide) (by decide) ob_0 vc_6 rfl rfl (Nat.le_of_ble_eq_true rfl) (fun z10 => ?_)
              exact s_iret R dX7_spoke_106
            · refine s_aload_n F 0 dX7_spoke_74 rfl rfl ?_
              refine s_iconst F (nI 2) dX7_spoke_75 rfl ?_
              refine s_Vi F [.int (nI 2)] dX7_spoke_76 (fun z hz => c_X7_found hz) wV_X7_72 nk_X7_found (by decide) (by decide) ob_0 vc_6 rfl rfl (Nat.le_of_ble_eq_true rfl) (fun z11 => ?_)
              exact s_iret R dX7_spoke_79
          · refine s_aload_n F 0 dX7_spoke_53 rfl rfl ?_
            refine s_iconst F (nI 1) dX7_spoke_54 rfl ?_
            refine s_Vi F [.int (nI 1)] dX7_spoke_55 (fun z hz => c_X7_found hz) wV_X7_72 nk_X7_found (by decide) (by decide) ob_0 vc_6 rfl rfl (Nat.le_of_ble_eq_true rfl) (fun z13 => ?_)
            exact s_iret R dX7_spoke_58
        · refine s_ldc F dX7_spoke_39 m_1_173 ?_
          exact s_iret R dX7_spoke_41
/-! X7_cold -/
def F_X7_cold (a1 : Int32) (σ : St) : Option (Int32 × St) := (F_X4_stands 3 σ).bind fun z1 => if z1.1 = 0 then (some ((-1000002 : Int32), z1.2)) else ((F_X7_isWithin a1 (nI 1) (nI 60) z1.2).bind fun z2 => if z2.1 = 0 then (some ((-1000001 : Int32), z2.2)) else ((F_X7_seen z2.2).bind fun z3 => (F_X2_coldPipes a1 z3).bind fun z4 => some (z4.1, z4.2)))
set_option maxRecDepth 20000 in
theorem c_X7_cold {G : Gx} {l : Launch} {a1 : Int32} {σ : St} {o : (Int32 × St)} (hF : F_X7_cold a1 σ = some o) : Con G l yX7_cold cX7_cold 2 (some .int) 4 [.ref (ga G 0), .int a1] σ (some (.int o.1)) o.2 := by
  refine Con.of plX7 (Nat.le_of_ble_eq_true rfl) [(0, .ref (ga G 0)), (1, .int a1)] rfl (fun X F R => ?_)
  refine (show Sim G X 2 o (F_X7_cold a1 σ) σ 0 [(0, .ref (ga G 0)), (1, .int a1)] [] from ?_) hF
  unfold F_X7_cold
  refine s_aload_n F 0 dX7_cold_0 rfl rfl ?_
  refine fg_X7_26 F dX7_cold_1 ?_
  refine s_Vi F [] dX7_cold_4 (fun z hz => c_X4_stands nt_3 hz) wV_X7_145 nk_X4_stands (by decide) (by decide) (isNet.obj nt_3) vc_3 rfl rfl (Nat.le_of_ble_eq_true rfl) (fun z1 => ?_)
  refine s_if_ne F 13 dX7_cold_7 (by decide) (fun c6 => ?_) (fun c6 => ?_)
  · refine s_iload_n F 1 dX7_cold_13 rfl rfl ?_
    refine s_iconst F (nI 1) dX7_cold_14 rfl ?_
    refine s_bipush F (nI 60) dX7_cold_15 rfl ?_
    refine s_Si F [.int a1, .int (nI 1), .int (nI 60)] dX7_cold_17 (fun z hz => c_X7_isWithin hz) wS_X7_67 nk_X7_isWithin (by decide) (by decide) rfl rfl (Nat.le_of_ble_eq_true rfl) (fun z2 => ?_)
    refine s_if_eq F 34 dX7_cold_20 (by decide) (fun c5 => ?_) (fun c5 => ?_)
    · refine s_ldc F dX7_cold_34 m_1_173 ?_
      exact s_iret R dX7_cold_36
    · refine s_aload_n F 0 dX7_cold_23 rfl rfl ?_
      refine s_Vc F [] dX7_cold_24 (fun z hz => c_X7_seen hz) wV_X7_188 nk_X7_seen (by decide) (by decide) ob_0 vc_6 rfl rfl (Nat.le_of_ble_eq_true rfl) (fun z3 => ?_)
      refine s_iload_n F 1 dX7_cold_27 rfl rfl ?_
      refine s_Vi F [.int a1] dX7_cold_28 (fun z hz => c_X2_coldPipes hz) wV_X7_238 nk_X2_coldPipes (by decide) (by decide) ob_16 vc_2 rfl rfl (Nat.le_of_ble_eq_true rfl) (fun z4 => ?_)
      refine s_goto F 36 dX7_cold_31 (by decide) ?_
      exact s_iret R dX7_cold_36
  · refine s_ldc F dX7_cold_10 m_2_46 ?_
    exact s_iret R dX7_cold_12
/-! X7_stuck -/
def J_X7_stuck_62 (s0 : Int32) (s1 : Int32) (s2 : Int32) (s3 : Int32) (σ : St) : Option (Int64 × St) := (F_X2_likelihood s3 s2 s1 s0 σ).bind fun z6 => some (z6.1, z6.2)
def F_X7_stuck (a1 : Int32) (a2 : Int32) (a3 : Int32) (a4 : Int32) (σ : St) : Option (Int64 × St) := (F_X4_isHorn 3 a1 σ).bind fun z1 => if z1.1 = 0 then (some ((-1000001 : Int64), z1.2)) else ((F_X7_isWithin a2 (nI 1) (nI 30) z1.2).bind fun z2 => if z2.1 = 0 then (some ((-1000001 : Int64), z2.2)) else ((F_X7_isWithin a3 (nI 0) (nI 10) z2.2).bind fun z3 => if z3.1 = 0 then (some ((-1000001 : Int64), z3.2)) else ((F_X7_isWithin a4 (nI 0) (nI 1) z3.2).bind fun z4 => if z4.1 = 0 then (some ((-1000001 : Int64), z4.2)) else ((F_X7_seen z4.2).bind fun z5 => if a4 = 0 then (J_X7_stuck_62 (nI 1) a3 a2 a1 z5) else (J_X7_stuck_62 (nI 0) a3 a2 a1 z5)))))
set_option maxRecDepth 20000 in
theorem j_X7_stuck_62 {G : Gx} {X : Cx} (F : Fx G X cX7_stuck 5 RX7 6) {o : (Int64 × St)} (R : Ret G X cX7_stuck 5 (some .long) (some (.long o.1)) o.2) (s0 : Int32) (s1 : Int32) (s2 : Int32) (s3 : Int32) (σ : St) : Sim G X 5 o (J_X7_stuck_62 s0 s1 s2 s3 σ) σ 62 [] [.int s0, .int s1, .int s2, .int s3, .ref (ga G 16)] := by
  unfold J_X7_stuck_62
  refine s_Vl F [.int s3, .int s2, .int s1, .int s0] dX7_stuck_62 (fun z hz => c_X2_likelihood hz) wV_X7_243 nk_X2_likelihood (by decide) (by decide) ob_16 vc_2 rfl rfl (Nat.le_of_ble_eq_true rfl) (fun z6 => ?_)
  exact s_lret R dX7_stuck_65
set_option maxRecDepth 20000 in
theorem c_X7_stuck {G : Gx} {l : Launch} {a1 : Int32} {a2 : Int32} {a3 : Int32} {a4 : Int32} {σ : St} {o : (Int64 × St)} (hF : F_X7_stuck a1 a2 a3 a4 σ = some o) : Con G l yX7_stuck cX7_stuck 5 (some .long) 6 [.ref (ga G 0), .int a1, .int a2, .int a3, .int a4] σ (some (.long o.1)) o.2 := by
  refine Con.of plX7 (Nat.le_of_ble_eq_true rfl) [(0, .ref (ga G 0)), (1, .int a1), (2, .int a2), (3, .int a3), (4, .int a4)] rfl (fun X F R => ?_)
  refine (show Sim G X 5 o (F_X7_stuck a1 a2 a3 a4 σ) σ 0 [(0, .ref (ga G 0)), (1, .int a1), (2, .int a2), (3, .int a3), (4, .int a4)] [] from ?_) hF
  unfold F_X7_stuck
  refine s_aload_n F 0 dX7_stuck_0 rfl rfl ?_
  refine fg_X7_26 F dX7_stuck_1 ?_
  refine s_iload_n F 1 dX7_stuck_4 rfl rfl ?_
  refine s_Vi F [.int a1] dX7_stuck_5 (fun z hz => c_X4_isHorn nt_3 hz) wV_X7_156 nk_X4_isHorn (by decide) (by decide) (isNet.obj nt_3) vc_3 rfl rfl (Nat.le_of_ble_eq_true rfl) (fun z1 => ?_)
  refine s_if_eq F 41 dX7_stuck_8 (by decide) (fun c11 => ?_) (fun c11 => ?_)
  · refine s_ldc2 F dX7_stuck_41 m_3_94 ?_
    exact s_lret R dX7_stuck_44
  · refine s_iload_n F 2 dX7_stuck_11 rfl rfl ?_
    refine s_iconst F (nI 1) dX7_stuck_12 rfl ?_
    refine s_bipush F (nI 30) dX7_stuck_13 rfl ?_
    refine s_Si F [.int a2, .int (nI 1), .int (nI 30)] dX7_stuck_15 (fun z hz => c_X7_isWithin hz) wS_X7_67 nk_X7_isWithin (by decide) (by decide) rfl rfl (Nat.le_of_ble_eq_true rfl) (fun z2 => ?_)
    refine s_if_eq F 41 dX7_stuck_18 (by decide) (fun c10 => ?_) (fun c10 => ?_)
    · refine s_ldc2 F dX7_stuck_41 m_3_94 ?_
      exact s_lret R dX7_stuck_44
    · refine s_iload_n F 3 dX7_stuck_21 rfl rfl ?_
      refine s_iconst F (nI 0) dX7_stuck_22 rfl ?_
      refine s_bipush F (nI 10) dX7_stuck_23 rfl ?_
      refine s_Si F [.int a3, .int (nI 0), .int (nI 10)] dX7_stuck_25 (fun z hz => c_X7_isWithin hz) wS_X7_67 nk_X7_isWithin (by decide) (by decide) rfl rfl (Nat.le_of_ble_eq_true rfl) (fun z3 => ?_)
      refine s_if_eq F 41 dX7_stuck_28 (by decide) (fun c9 => ?_) (fun c9 => ?_)
      · refine s_ldc2 F dX7_stuck_41 m_3_94 ?_
        exact s_lret R dX7_stuck_44
      · refine s_iload F 4 dX7_stuck_31 rfl ?_
        refine s_iconst F (nI 0) dX7_stuck_33 rfl ?_
        refine s_iconst F (nI 1) dX7_stuck_34 rfl ?_
        refine s_Si F [.int a4, .int (nI 0), .int (nI 1)] dX7_stuck_35 (fun z hz => c_X7_isWithin hz) wS_X7_67 nk_X7_isWithin (by decide) (by decide) rfl rfl (Nat.le_of_ble_eq_true rfl) (fun z4 => ?_)
        refine s_if_ne F 45 dX7_stuck_38 (by decide) (fun c8 => ?_) (fun c8 => ?_)
        · refine s_aload_n F 0 dX7_stuck_45 rfl rfl ?_
          refine s_Vc F [] dX7_stuck_46 (fun z hz => c_X7_seen hz) wV_X7_188 nk_X7_seen (by decide) (by decide) ob_0 vc_6 rfl rfl (Nat.le_of_ble_eq_true rfl) (fun z5 => ?_)
          refine s_iload_n F 1 dX7_stuck_49 rfl rfl ?_
          refine s_iload_n F 2 dX7_stuck_50 rfl rfl ?_
          refine s_iload_n F 3 dX7_stuck_51 rfl rfl ?_
          refine s_iload F 4 dX7_stuck_52 rfl ?_
          refine s_if_ne F 61 dX7_stuck_54 (by decide) (fun c7 => ?_) (fun c7 => ?_)
          · refine s_iconst F (nI 0) dX7_stuck_61 rfl ?_
            refine s_lv [] [] rfl ?_
            exact j_X7_stuck_62 F R _ _ _ _ _
          · refine s_iconst F (nI 1) dX7_stuck_57 rfl ?_
            refine s_goto F 62 dX7_stuck_58 (by decide) ?_
            refine s_lv [] [] rfl ?_
            exact j_X7_stuck_62 F R _ _ _ _ _
        · refine s_ldc2 F dX7_stuck_41 m_3_94 ?_
          exact s_lret R dX7_stuck_44
/-! X7_drawn -/
def J_X7_drawn_60 (s0 : Int32) (s1 : Int32) (s2 : Int32) (σ : St) : Option (Int32 × St) := (F_X2_sitting s2 s1 s0 σ).bind fun z6 => some (z6.1, z6.2)
def F_X7_drawn (a1 : Int32) (a2 : Int32) (a3 : Int32) (σ : St) : Option (Int32 × St) := (F_X4_stands 3 σ).bind fun z1 => if z1.1 = 0 then (some ((-1000002 : Int32), z1.2)) else ((F_X7_isWithin a1 (nI 0) (nI 60) z1.2).bind fun z2 => if z2.1 = 0 then (some ((-1000001 : Int32), z2.2)) else ((F_X7_isWithin a2 (nI 1) (nI 999999) z2.2).bind fun z3 => if z3.1 = 0 then (some ((-1000001 : Int32), z3.2)) else ((F_X7_isWithin a3 (nI 0) (nI 1) z3.2).bind fun z4 => if z4.1 = 0 then (some ((-1000001 : Int32), z4.2)) else ((F_X7_seen z4.2).bind fun z5 => if a3 = 0 then (J_X7_drawn_60 (nI 1) a2 a1 z5) else (J_X7_drawn_60 (nI 0) a2 a1 z5)))))
set_option maxRecDepth 20000 in
theorem j_X7_drawn_60 {G : Gx} {X : Cx} (F : Fx G X cX7_drawn 4 RX7 4) {o : (Int32 × St)} (R : Ret G X cX7_drawn 4 (some .int) (some (.int o.1)) o.2) (s0 : Int32) (s1 : Int32) (s2 : Int32) (σ : St) : Sim G X 4 o (J_X7_drawn_60 s0 s1 s2 σ) σ 60 [] [.int s0, .int s1, .int s2, .ref (ga G 16)] := by
  unfold J_X7_drawn_60
  refine s_Vi F [.int s2, .int s1, .int s0] dX7_drawn_60 (fun z hz => c_X2_sitting hz) wV_X7_248 nk_X2_sitting (by decide) (by decide) ob_16 vc_2 rfl rfl (Nat.le_of_ble_eq_true rfl) (fun z6 => ?_)
  exact s_iret R dX7_drawn_63
set_option maxRecDepth 20000 in
theorem c_X7_drawn {G : Gx} {l : Launch} {a1 : Int32} {a2 : Int32} {a3 : Int32} {σ : St} {o : (Int32 × St)} (hF : F_X7_drawn a1 a2 a3 σ = some o) : Con G l yX7_drawn cX7_drawn 4 (some .int) 4 [.ref (ga G 0), .int a1, .int a2, .int a3] σ (some (.int o.1)) o.2 := by
  refine Con.of plX7 (Nat.le_of_ble_eq_true rfl) [(0, .ref (ga G 0)), (1, .int a1), (2, .int a2), (3, .int a3)] rfl (fun X F R => ?_)
  refine (show Sim G X 4 o (F_X7_drawn a1 a2 a3 σ) σ 0 [(0, .ref (ga G 0)), (1, .int a1), (2, .int a2), (3, .int a3)] [] from ?_) hF
  unfold F_X7_drawn
  refine s_aload_n F 0 dX7_drawn_0 rfl rfl ?_
  refine fg_X7_26 F dX7_drawn_1 ?_
  refine s_Vi F [] dX7_drawn_4 (fun z hz => c_X4_stands nt_3 hz) wV_X7_145 nk_X4_stands (by decide) (by decide) (isNet.obj nt_3) vc_3 rfl rfl (Nat.le_of_ble_eq_true rfl) (fun z1 => ?_)
  refine s_if_ne F 13 dX7_drawn_7 (by decide) (fun c11 => ?_) (fun c11 => ?_)
  · refine s_iload_n F 1 dX7_drawn_13 rfl rfl ?_
    refine s_iconst F (nI 0) dX7_drawn_14 rfl ?_
    refine s_bipush F (nI 60) dX7_drawn_15 rfl ?_
    refine s_Si F [.int a1, .int (nI 0), .int (nI 60)] dX7_drawn_17 (fun z hz => c_X7_isWithin hz) wS_X7_67 nk_X7_isWithin (by decide) (by decide) rfl rfl (Nat.le_of_ble_eq_true rfl) (fun z2 => ?_)
    refine s_if_eq F 42 dX7_drawn_20 (by decide) (fun c10 => ?_) (fun c10 => ?_)
    · refine s_ldc F dX7_drawn_42 m_1_173 ?_
      exact s_iret R dX7_drawn_44
    · refine s_iload_n F 2 dX7_drawn_23 rfl rfl ?_
      refine s_iconst F (nI 1) dX7_drawn_24 rfl ?_
      refine s_ldc F dX7_drawn_25 m_3_113 ?_
      refine s_Si F [.int a2, .int (nI 1), .int (nI 999999)] dX7_drawn_27 (fun z hz => c_X7_isWithin hz) wS_X7_67 nk_X7_isWithin (by decide) (by decide) rfl rfl (Nat.le_of_ble_eq_true rfl) (fun z3 => ?_)
      refine s_if_eq F 42 dX7_drawn_30 (by decide) (fun c9 => ?_) (fun c9 => ?_)
      · refine s_ldc F dX7_drawn_42 m_1_173 ?_
        exact s_iret R dX7_drawn_44
      · refine s_iload_n F 3 dX7_drawn_33 rfl rfl ?_
        refine s_iconst F (nI 0) dX7_drawn_34 rfl ?_
        refine s_iconst F (nI 1) dX7_drawn_35 rfl ?_
        refine s_Si F [.int a3, .int (nI 0), .int (nI 1)] dX7_drawn_36 (fun z hz => c_X7_isWithin hz) wS_X7_67 nk_X7_isWithin (by decide) (by decide) rfl rfl (Nat.le_of_ble_eq_true rfl) (fun z4 => ?_)
        refine s_if_ne F 45 dX7_drawn_39 (by decide) (fun c8 => ?_) (fun c8 => ?_)
        · refine s_aload_n F 0 dX7_drawn_45 rfl rfl ?_
          refine s_Vc F [] dX7_drawn_46 (fun z hz => c_X7_seen hz) wV_X7_188 nk_X7_seen (by decide) (by decide) ob_0 vc_6 rfl rfl (Nat.le_of_ble_eq_true rfl) (fun z5 => ?_)
          refine s_iload_n F 1 dX7_drawn_49 rfl rfl ?_
          refine s_iload_n F 2 dX7_drawn_50 rfl rfl ?_
          refine s_iload_n F 3 dX7_drawn_51 rfl rfl ?_
          refine s_if_ne F 59 dX7_drawn_52 (by decide) (fun c7 => ?_) (fun c7 => ?_)
          · refine s_iconst F (nI 0) dX7_drawn_59 rfl ?_
            refine s_lv [] [] rfl ?_
            exact j_X7_drawn_60 F R _ _ _ _
          · refine s_iconst F (nI 1) dX7_drawn_55 rfl ?_
            refine s_goto F 60 dX7_drawn_56 (by decide) ?_
            refine s_lv [] [] rfl ?_
            exact j_X7_drawn_60 F R _ _ _ _
        · refine s_ldc F dX7_drawn_42 m_1_173 ?_
          exact s_iret R dX7_drawn_44
  · refine s_ldc F dX7_drawn_10 m_2_46 ?_
    exact s_iret R dX7_drawn_12
/-! X7_image -/
def F_X7_image (a1 : Int32) (σ : St) : Option (Int32 × St) := (F_X7_isWithin a1 (nI 0) (nI 1) σ).bind fun z1 => if z1.1 = 0 then (some ((-1000001 : Int32), z1.2)) else ((F_X4_stands 3 z1.2).bind fun z2 => if z2.1 = 0 then (some ((-1000002 : Int32), z2.2)) else (if ix a1 2 then if (¬ (nI 0) < 0 ∧ ¬ (nI 0) < 0 ∧ ¬ (nI 80) < 0 ∧ (nI 0).toNatClampNeg + (nI 80).toNatClampNeg ≤ 80 ∧ (nI 0).toNatClampNeg + (nI 80).toNatClampNeg ≤ 80) then some ((nI 1), cpyA z2.2 4 (nI 0).toNatClampNeg (70 + a1.toNatClampNeg) (nI 0).toNatClampNeg (nI 80).toNatClampNeg) else none else none))
set_option maxRecDepth 20000 in
theorem c_X7_image {G : Gx} {l : Launch} {a1 : Int32} {σ : St} {o : (Int32 × St)} (hF : F_X7_image a1 σ = some o) : Con G l yX7_image cX7_image 2 (some .int) 1 [.ref (ga G 0), .int a1] σ (some (.int o.1)) o.2 := by
  refine Con.of plX7 (Nat.le_of_ble_eq_true rfl) [(0, .ref (ga G 0)), (1, .int a1)] rfl (fun X F R => ?_)
  refine (show Sim G X 2 o (F_X7_image a1 σ) σ 0 [(0, .ref (ga G 0)), (1, .int a1)] [] from ?_) hF
  unfold F_X7_image
  refine s_iload_n F 1 dX7_image_0 rfl rfl ?_
  refine s_iconst F (nI 0) dX7_image_1 rfl ?_
  refine s_iconst F (nI 1) dX7_image_2 rfl ?_
  refine s_Si F [.int a1, .int (nI 0), .int (nI 1)] dX7_image_3 (fun z hz => c_X7_isWithin hz) wS_X7_67 nk_X7_isWithin (by decide) (by decide) rfl rfl (Nat.le_of_ble_eq_true rfl) (fun z1 => ?_)
  refine s_if_ne F 12 dX7_image_6 (by decide) (fun c6 => ?_) (fun c6 => ?_)
  · refine s_aload_n F 0 dX7_image_12 rfl rfl ?_
    refine fg_X7_26 F dX7_image_13 ?_
    refine s_Vi F [] dX7_image_16 (fun z hz => c_X4_stands nt_3 hz) wV_X7_145 nk_X4_stands (by decide) (by decide) (isNet.obj nt_3) vc_3 rfl rfl (Nat.le_of_ble_eq_true rfl) (fun z2 => ?_)
    refine s_if_ne F 25 dX7_image_19 (by decide) (fun c5 => ?_) (fun c5 => ?_)
    · refine s_aload_n F 0 dX7_image_25 rfl rfl ?_
      refine fg_X7_26 F dX7_image_26 ?_
      refine fg_X7_124 F nt_3 (c := 4) rfl dX7_image_29 ?_
      refine s_iconst F (nI 0) dX7_image_32 rfl ?_
      refine s_aload_n F 0 dX7_image_33 rfl rfl ?_
      refine fg_X7_56 F dX7_image_34 ?_
      refine s_iload_n F 1 dX7_image_37 rfl rfl ?_
      refine s_aald F (by decide) rfl dX7_image_38 (fun q3 => ?_)
      refine s_iconst F (nI 0) dX7_image_39 rfl ?_
      refine s_bipush F (nI 80) dX7_image_40 rfl ?_
      refine s_copy F ar_4 (isArr.hi (by omega) (by have := ix_lt q3; omega)) dX7_image_42 (by decide) (Nat.le_of_ble_eq_true rfl) wc_X7_100 (fun q4 => ?_)
      refine s_iconst F (nI 1) dX7_image_45 rfl ?_
      exact s_iret R dX7_image_46
    · refine s_ldc F dX7_image_22 m_2_46 ?_
      exact s_iret R dX7_image_24
  · refine s_ldc F dX7_image_9 m_1_173 ?_
    exact s_iret R dX7_image_11
/-! X7_restore -/
def F_X7_restore (a1 : Int32) (σ : St) : Option (Int32 × St) := (F_X7_isWithin a1 (nI 0) (nI 1) σ).bind fun z1 => if z1.1 = 0 then (some ((-1000001 : Int32), z1.2)) else (if ix a1 2 then if ix (nI 0) 80 then if (z1.2.1 (70 + a1.toNatClampNeg) (nI 0).toNatClampNeg) = 0 then (some ((-1000002 : Int32), z1.2)) else (if ix a1 2 then (F_X4_take 3 (70 + a1.toNatClampNeg) z1.2).bind fun z5 => (F_X0_forget z5).bind fun z6 => some ((nI 1), z6) else none) else none else none)
set_option maxRecDepth 20000 in
theorem c_X7_restore {G : Gx} {l : Launch} {a1 : Int32} {σ : St} {o : (Int32 × St)} (hF : F_X7_restore a1 σ = some o) : Con G l yX7_restore cX7_restore 2 (some .int) 2 [.ref (ga G 0), .int a1] σ (some (.int o.1)) o.2 := by
  refine Con.of plX7 (Nat.le_of_ble_eq_true rfl) [(0, .ref (ga G 0)), (1, .int a1)] rfl (fun X F R => ?_)
  refine (show Sim G X 2 o (F_X7_restore a1 σ) σ 0 [(0, .ref (ga G 0)), (1, .int a1)] [] from ?_) hF
  unfold F_X7_restore
  refine s_iload_n F 1 dX7_restore_0 rfl rfl ?_
  refine s_iconst F (nI 0) dX7_restore_1 rfl ?_
  refine s_iconst F (nI 1) dX7_restore_2 rfl ?_
  refine s_Si F [.int a1, .int (nI 0), .int (nI 1)] dX7_restore_3 (fun z hz => c_X7_isWithin hz) wS_X7_67 nk_X7_isWithin (by decide) (by decide) rfl rfl (Nat.le_of_ble_eq_true rfl) (fun z1 => ?_)
  refine s_if_ne F 12 dX7_restore_6 (by decide) (fun c8 => ?_) (fun c8 => ?_)
  · refine s_aload_n F 0 dX7_restore_12 rfl rfl ?_
    refine fg_X7_56 F dX7_restore_13 ?_
    refine s_iload_n F 1 dX7_restore_16 rfl rfl ?_
    refine s_aald F (by decide) rfl dX7_restore_17 (fun q2 => ?_)
    refine s_iconst F (nI 0) dX7_restore_18 rfl ?_
    refine s_iald F (isArr.hi (by omega) (by have := ix_lt q2; omega)) dX7_restore_19 (fun q3 => ?_)
    refine s_if_ne F 26 dX7_restore_20 (by decide) (fun c7 => ?_) (fun c7 => ?_)
    · refine s_aload_n F 0 dX7_restore_26 rfl rfl ?_
      refine fg_X7_26 F dX7_restore_27 ?_
      refine s_aload_n F 0 dX7_restore_30 rfl rfl ?_
      refine fg_X7_56 F dX7_restore_31 ?_
      refine s_iload_n F 1 dX7_restore_34 rfl rfl ?_
      refine s_aald F (by decide) rfl dX7_restore_35 (fun q4 => ?_)
      refine s_Vv F [.ref (ga G (70 + a1.toNatClampNeg))] dX7_restore_36 (fun z hz => c_X4_take nt_3 (isArr.hi (by omega) (by have := ix_lt q4; omega)) hz) wV_X7_127 nk_X4_take (by decide) (by decide) (isNet.obj nt_3) vc_3 rfl rfl (Nat.le_of_ble_eq_true rfl) (fun z5 => ?_)
      refine s_aload_n F 0 dX7_restore_39 rfl rfl ?_
      refine fg_X7_36 F dX7_restore_40 ?_
      refine s_Vv F [] dX7_restore_43 (fun z hz => c_X0_forget hz) wV_X7_131 nk_X0_forget (by decide) (by decide) ob_15 vc_0 rfl rfl (Nat.le_of_ble_eq_true rfl) (fun z6 => ?_)
      refine s_iconst F (nI 1) dX7_restore_46 rfl ?_
      exact s_iret R dX7_restore_47
    · refine s_ldc F dX7_restore_23 m_2_46 ?_
      exact s_iret R dX7_restore_25
  · refine s_ldc F dX7_restore_9 m_1_173 ?_
    exact s_iret R dX7_restore_11
/-! X7_kind -/
def F_X7_kind (a1 : Int32) (σ : St) : Option (Int32 × St) := (F_X4_isPipe 3 a1 σ).bind fun z1 => if z1.1 = 0 then (some ((-1000001 : Int32), z1.2)) else (if ix ((nI 5) + a1) 80 then some (z1.2.1 4 ((nI 5) + a1).toNatClampNeg, z1.2) else none)
set_option maxRecDepth 20000 in
theorem c_X7_kind {G : Gx} {l : Launch} {a1 : Int32} {σ : St} {o : (Int32 × St)} (hF : F_X7_kind a1 σ = some o) : Con G l yX7_kind cX7_kind 2 (some .int) 1 [.ref (ga G 0), .int a1] σ (some (.int o.1)) o.2 := by
  refine Con.of plX7 (Nat.le_of_ble_eq_true rfl) [(0, .ref (ga G 0)), (1, .int a1)] rfl (fun X F R => ?_)
  refine (show Sim G X 2 o (F_X7_kind a1 σ) σ 0 [(0, .ref (ga G 0)), (1, .int a1)] [] from ?_) hF
  unfold F_X7_kind
  refine s_aload_n F 0 dX7_kind_0 rfl rfl ?_
  refine fg_X7_26 F dX7_kind_1 ?_
  refine s_iload_n F 1 dX7_kind_4 rfl rfl ?_
  refine s_Vi F [.int a1] dX7_kind_5 (fun z hz => c_X4_isPipe nt_3 hz) wV_X7_162 nk_X4_isPipe (by decide) (by decide) (isNet.obj nt_3) vc_3 rfl rfl (Nat.le_of_ble_eq_true rfl) (fun z1 => ?_)
  refine s_if_eq F 25 dX7_kind_8 (by decide) (fun c3 => ?_) (fun c3 => ?_)
  · refine s_ldc F dX7_kind_25 m_1_173 ?_
    exact s_iret R dX7_kind_27
  · refine s_aload_n F 0 dX7_kind_11 rfl rfl ?_
    refine fg_X7_26 F dX7_kind_12 ?_
    refine fg_X7_124 F nt_3 (c := 4) rfl dX7_kind_15 ?_
    refine s_iconst F (nI 5) dX7_kind_18 rfl ?_
    refine s_iload_n F 1 dX7_kind_19 rfl rfl ?_
    refine s_iadd F dX7_kind_20 ?_
    refine s_iald F ar_4 dX7_kind_21 (fun q2 => ?_)
    refine s_goto F 27 dX7_kind_22 (by decide) ?_
    exact s_iret R dX7_kind_27
/-! X7_as -/
def F_X7_as (a1 : Int32) (a2 : Int32) (σ : St) : Option (Int32 × St) := (F_X4_isPipe 3 a1 σ).bind fun z1 => if z1.1 = 0 then (some ((-1000001 : Int32), z1.2)) else ((F_X7_isWithin a2 (nI 0) (nI 5) z1.2).bind fun z2 => if z2.1 = 0 then (some ((-1000001 : Int32), z2.2)) else (if ix ((nI 5) + a1) 80 then (F_X3_isOne (z2.2.1 4 ((nI 5) + a1).toNatClampNeg) a2 z2.2).bind fun z4 => if z4.1 = 0 then ((F_X7_found (nI 3) z4.2).bind fun z6 => some (z6.1, z6.2)) else ((F_X7_unfound a1 z4.2).bind fun z5 => some (z5.1, z5.2)) else none))
set_option maxRecDepth 20000 in
theorem c_X7_as {G : Gx} {l : Launch} {a1 : Int32} {a2 : Int32} {σ : St} {o : (Int32 × St)} (hF : F_X7_as a1 a2 σ = some o) : Con G l yX7_as cX7_as 3 (some .int) 1 [.ref (ga G 0), .int a1, .int a2] σ (some (.int o.1)) o.2 := by
  refine Con.of plX7 (Nat.le_of_ble_eq_true rfl) [(0, .ref (ga G 0)), (1, .int a1), (2, .int a2)] rfl (fun X F R => ?_)
  refine (show Sim G X 3 o (F_X7_as a1 a2 σ) σ 0 [(0, .ref (ga G 0)), (1, .int a1), (2, .int a2)] [] from ?_) hF
  unfold F_X7_as
  refine s_aload_n F 0 dX7_as_0 rfl rfl ?_
  refine fg_X7_26 F dX7_as_1 ?_
  refine s_iload_n F 1 dX7_as_4 rfl rfl ?_
  refine s_Vi F [.int a1] dX7_as_5 (fun z hz => c_X4_isPipe nt_3 hz) wV_X7_162 nk_X4_isPipe (by decide) (by decide) (isNet.obj nt_3) vc_3 rfl rfl (Nat.le_of_ble_eq_true rfl) (fun z1 => ?_)
  refine s_if_eq F 20 dX7_as_8 (by decide) (fun c9 => ?_) (fun c9 => ?_)
  · refine s_ldc F dX7_as_20 m_1_173 ?_
    exact s_iret R dX7_as_22
  · refine s_iload_n F 2 dX7_as_11 rfl rfl ?_
    refine s_iconst F (nI 0) dX7_as_12 rfl ?_
    refine s_iconst F (nI 5) dX7_as_13 rfl ?_
    refine s_Si F [.int a2, .int (nI 0), .int (nI 5)] dX7_as_14 (fun z hz => c_X7_isWithin hz) wS_X7_67 nk_X7_isWithin (by decide) (by decide) rfl rfl (Nat.le_of_ble_eq_true rfl) (fun z2 => ?_)
    refine s_if_ne F 23 dX7_as_17 (by decide) (fun c8 => ?_) (fun c8 => ?_)
    · refine s_aload_n F 0 dX7_as_23 rfl rfl ?_
      refine fg_X7_26 F dX7_as_24 ?_
      refine fg_X7_124 F nt_3 (c := 4) rfl dX7_as_27 ?_
      refine s_iconst F (nI 5) dX7_as_30 rfl ?_
      refine s_iload_n F 1 dX7_as_31 rfl rfl ?_
      refine s_iadd F dX7_as_32 ?_
      refine s_iald F ar_4 dX7_as_33 (fun q3 => ?_)
      refine s_iload_n F 2 dX7_as_34 rfl rfl ?_
      refine s_Si F [.int (z2.2.1 4 ((nI 5) + a1).toNatClampNeg), .int a2] dX7_as_35 (fun z hz => c_X3_isOne hz) wS_X7_254 nk_X3_isOne (by decide) (by decide) rfl rfl (Nat.le_of_ble_eq_true rfl) (fun z4 => ?_)
      refine s_if_ne F 47 dX7_as_38 (by decide) (fun c7 => ?_) (fun c7 => ?_)
      · refine s_aload_n F 0 dX7_as_47 rfl rfl ?_
        refine s_iload_n F 1 dX7_as_48 rfl rfl ?_
        refine s_Vi F [.int a1] dX7_as_49 (fun z hz => c_X7_unfound hz) wV_X7_80 nk_X7_unfound (by decide) (by decide) ob_0 vc_6 rfl rfl (Nat.le_of_ble_eq_true rfl) (fun z5 => ?_)
        exact s_iret R dX7_as_52
      · refine s_aload_n F 0 dX7_as_41 rfl rfl ?_
        refine s_iconst F (nI 3) dX7_as_42 rfl ?_
        refine s_Vi F [.int (nI 3)] dX7_as_43 (fun z hz => c_X7_found hz) wV_X7_72 nk_X7_found (by decide) (by decide) ob_0 vc_6 rfl rfl (Nat.le_of_ble_eq_true rfl) (fun z6 => ?_)
        exact s_iret R dX7_as_46
    · refine s_ldc F dX7_as_20 m_1_173 ?_
      exact s_iret R dX7_as_22
/-! X7_trace -/
def F_X7_trace (a1 : Int32) (σ : St) : Option (Int32 × St) := if a1 < 0 then (some ((-1000000 : Int32), σ)) else (if (σ.2 7) ≤ a1 then (some ((-1000000 : Int32), σ)) else (if ix a1 16 then some (σ.1 24 a1.toNatClampNeg, σ) else none))
set_option maxRecDepth 20000 in
theorem c_X7_trace {G : Gx} {l : Launch} {a1 : Int32} {σ : St} {o : (Int32 × St)} (hF : F_X7_trace a1 σ = some o) : Con G l yX7_trace cX7_trace 2 (some .int) 0 [.ref (ga G 0), .int a1] σ (some (.int o.1)) o.2 := by
  refine Con.of plX7 (Nat.le_of_ble_eq_true rfl) [(0, .ref (ga G 0)), (1, .int a1)] rfl (fun X F R => ?_)
  refine (show Sim G X 2 o (F_X7_trace a1 σ) σ 0 [(0, .ref (ga G 0)), (1, .int a1)] [] from ?_) hF
  unfold F_X7_trace
  refine s_iload_n F 1 dX7_trace_0 rfl rfl ?_
  refine s_if_lt F 27 dX7_trace_1 (by decide) (fun c3 => ?_) (fun c3 => ?_)
  · refine s_ldc F dX7_trace_27 m_2_149 ?_
    exact s_iret R dX7_trace_29
  · refine s_iload_n F 1 dX7_trace_4 rfl rfl ?_
    refine s_aload_n F 0 dX7_trace_5 rfl rfl ?_
    refine fg_X7_50 F dX7_trace_6 ?_
    refine fg_X7_262 F dX7_trace_9 ?_
    refine s_icmp_ge F 27 dX7_trace_12 (by decide) (fun c2 => ?_) (fun c2 => ?_)
    · refine s_ldc F dX7_trace_27 m_2_149 ?_
      exact s_iret R dX7_trace_29
    · refine s_aload_n F 0 dX7_trace_15 rfl rfl ?_
      refine fg_X7_50 F dX7_trace_16 ?_
      refine fg_X7_265 F dX7_trace_19 ?_
      refine s_iload_n F 1 dX7_trace_22 rfl rfl ?_
      refine s_iald F ar_24 dX7_trace_23 (fun q1 => ?_)
      refine s_goto F 29 dX7_trace_24 (by decide) ?_
      exact s_iret R dX7_trace_29
/-! X7_count -/
def F_X7_count (a1 : Int32) (σ : St) : Option (Int32 × St) := if a1 = (0 : Int32) then ((F_X5_howMany σ).bind fun z2 => some (z2.1, z2.2)) else (if a1 = (1 : Int32) then (if ix (nI 0) 80 then some (σ.1 4 (nI 0).toNatClampNeg, σ) else none) else (if a1 = (2 : Int32) then (if ix (nI 2) 80 then some (σ.1 4 (nI 2).toNatClampNeg, σ) else none) else (if a1 = (3 : Int32) then (if ix (nI 4) 80 then some (σ.1 4 (nI 4).toNatClampNeg, σ) else none) else (if a1 = (4 : Int32) then (if ix (nI 3) 80 then some (σ.1 4 (nI 3).toNatClampNeg, σ) else none) else (if a1 = (5 : Int32) then ((F_X4_soundsInAll 3 σ).bind fun z12 => some (z12.1, z12.2)) else (if a1 = (6 : Int32) then (some (σ.2 6, σ)) else (if a1 = (7 : Int32) then (some (σ.2 1, σ)) else (some ((-1000001 : Int32), σ)))))))))
set_option maxRecDepth 20000 in
theorem c_X7_count {G : Gx} {l : Launch} {a1 : Int32} {σ : St} {o : (Int32 × St)} (hF : F_X7_count a1 σ = some o) : Con G l yX7_count cX7_count 2 (some .int) 2 [.ref (ga G 0), .int a1] σ (some (.int o.1)) o.2 := by
  refine Con.of plX7 (Nat.le_of_ble_eq_true rfl) [(0, .ref (ga G 0)), (1, .int a1)] rfl (fun X F R => ?_)
  refine (show Sim G X 2 o (F_X7_count a1 σ) σ 0 [(0, .ref (ga G 0)), (1, .int a1)] [] from ?_) hF
  unfold F_X7_count
  refine s_iload_n F 1 dX7_count_0 rfl rfl ?_
  refine s_ite (fun c1 => ?_) (fun c1 => ?_)
  · refine s_tin F 48 dX7_count_1 (0 : Int32) c1 (by decide) (by decide) rfl (by decide) ?_
    refine s_aload_n F 0 dX7_count_48 rfl rfl ?_
    refine fg_X7_10 F dX7_count_49 ?_
    refine s_Vi F [] dX7_count_52 (fun z hz => c_X5_howMany hz) wV_X7_268 nk_X5_howMany (by decide) (by decide) ob_1 vc_4 rfl rfl (Nat.le_of_ble_eq_true rfl) (fun z2 => ?_)
    exact s_iret R dX7_count_55
  · refine s_ite (fun c3 => ?_) (fun c3 => ?_)
    · refine s_tin F 56 dX7_count_1 (1 : Int32) c3 (by decide) (by decide) rfl (by decide) ?_
      refine s_aload_n F 0 dX7_count_56 rfl rfl ?_
      refine fg_X7_26 F dX7_count_57 ?_
      refine fg_X7_124 F nt_3 (c := 4) rfl dX7_count_60 ?_
      refine s_iconst F (nI 0) dX7_count_63 rfl ?_
      refine s_iald F ar_4 dX7_count_64 (fun q4 => ?_)
      exact s_iret R dX7_count_65
    · refine s_ite (fun c5 => ?_) (fun c5 => ?_)
      · refine s_tin F 66 dX7_count_1 (2 : Int32) c5 (by decide) (by decide) rfl (by decide) ?_
        refine s_aload_n F 0 dX7_count_66 rfl rfl ?_
        refine fg_X7_26 F dX7_count_67 ?_
        refine fg_X7_124 F nt_3 (c := 4) rfl dX7_count_70 ?_
        refine s_iconst F (nI 2) dX7_count_73 rfl ?_
        refine s_iald F ar_4 dX7_count_74 (fun q6 => ?_)
        exact s_iret R dX7_count_75
      · refine s_ite (fun c7 => ?_) (fun c7 => ?_)
        · refine s_tin F 76 dX7_count_1 (3 : Int32) c7 (by decide) (by decide) rfl (by decide) ?_
          refine s_aload_n F 0 dX7_count_76 rfl rfl ?_
          refine fg_X7_26 F dX7_count_77 ?_
          refine fg_X7_124 F nt_3 (c := 4) rfl dX7_count_80 ?_
          refine s_iconst F (nI 4) dX7_count_83 rfl ?_
          refine s_iald F ar_4 dX7_count_84 (fun q8 => ?_)
          exact s_iret R dX7_count_85
        · refine s_ite (fun c9 => ?_) (fun c9 => ?_)
          · refine s_tin F 86 dX7_count_1 (4 : Int32) c9 (by decide) (by decide) rfl (by decide) ?_
            refine s_aload_n F 0 dX7_count_86 rfl rfl ?_
            refine fg_X7_26 F dX7_count_87 ?_
            refine fg_X7_124 F nt_3 (c := 4) rfl dX7_count_90 ?_
            refine s_iconst F (nI 3) dX7_count_93 rfl ?_
            refine s_iald F ar_4 dX7_count_94 (fun q10 => ?_)
            exact s_iret R dX7_count_95
          · refine s_ite (fun c11 => ?_) (fun c11 => ?_)
            · refine s_tin F 96 dX7_count_1 (5 : Int32) c11 (by decide) (by decide) rfl (by decide) ?_
              refine s_aload_n F 0 dX7_count_96 rfl rfl ?_
              refine fg_X7_26 F dX7_count_97 ?_
              refine s_Vi F [] dX7_count_100 (fun z hz => c_X4_soundsInAll nt_3 hz) wV_X7_168 nk_X4_soundsInAll (by decide) (by decide) (isNet.obj nt_3) vc_3 rfl rfl (Nat.le_of_ble_eq_true rfl) (fun z12 => ?_)
              exact s_iret R dX7_count_103
            · refine s_ite (fun c13 => ?_) (fun c13 => ?_)
              · refine s_tin F 104 dX7_count_1 (6 : Int32) c13 (by decide) (by decide) rfl (by decide) ?_
                refine s_aload_n F 0 dX7_count_104 rfl rfl ?_
                refine fg_X7_36 F dX7_count_105 ?_
                refine fg_X7_137 F dX7_count_108 ?_
                exact s_iret R dX7_count_111
              · refine s_ite (fun c14 => ?_) (fun c14 => ?_)
                · refine s_tin F 112 dX7_count_1 (7 : Int32) c14 (by decide) (by decide) rfl (by decide) ?_
                  refine s_aload_n F 0 dX7_count_112 rfl rfl ?_
                  refine fg_X7_19 F dX7_count_113 ?_
                  refine fg_X7_112 F dX7_count_116 ?_
                  exact s_iret R dX7_count_119
                · refine s_tout F 120 dX7_count_1 (sw_out_8 c1 c3 c5 c7 c9 c11 c13 c14) (by decide) ?_
                  refine s_ldc F dX7_count_120 m_1_173 ?_
                  exact s_iret R dX7_count_122
/-! X7_status -/
def F_X7_status (σ : St) : Option (Int32 × St) := some (σ.2 0, σ)
set_option maxRecDepth 20000 in
theorem c_X7_status {G : Gx} {l : Launch} {σ : St} {o : (Int32 × St)} (hF : F_X7_status σ = some o) : Con G l yX7_status cX7_status 1 (some .int) 0 [.ref (ga G 0)] σ (some (.int o.1)) o.2 := by
  refine Con.of plX7 (Nat.le_of_ble_eq_true rfl) [(0, .ref (ga G 0))] rfl (fun X F R => ?_)
  refine (show Sim G X 1 o (F_X7_status σ) σ 0 [(0, .ref (ga G 0))] [] from ?_) hF
  unfold F_X7_status
  refine s_aload_n F 0 dX7_status_0 rfl rfl ?_
  refine fg_X7_59 F dX7_status_1 ?_
  exact s_iret R dX7_status_4
end
