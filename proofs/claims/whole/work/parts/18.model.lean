noncomputable section
/-! X8_in -/
def F_X8_in (a0 : Int64) (a2 : Int64) (a4 : Int64) (σ : St) : Option (Int32 × St) := if (lg_cmp a0 a2) < 0 then (some ((nI 0), σ)) else (if 0 < (lg_cmp a0 a4) then (some ((nI 0), σ)) else (some ((nI 1), σ)))
set_option maxRecDepth 20000 in
theorem c_X8_in {G : Gx} {l : Launch} {a0 : Int64} {a2 : Int64} {a4 : Int64} {σ : St} {o : (Int32 × St)} (hF : F_X8_in a0 a2 a4 σ = some o) : Con G l yX8_in cX8_in 6 (some .boolean) 0 [.long a0, .long a2, .long a4] σ (some (.int o.1)) o.2 := by
  refine Con.of plX8 (Nat.le_of_ble_eq_true rfl) [(0, .long a0), (2, .long a2), (4, .long a4)] rfl (fun X F R => ?_)
  refine (show Sim G X 6 o (F_X8_in a0 a2 a4 σ) σ 0 [(0, .long a0), (2, .long a2), (4, .long a4)] [] from ?_) hF
  unfold F_X8_in
  refine s_lload_n F 0 dX8_in_0 rfl rfl ?_
  refine s_lload_n F 1 dX8_in_1 rfl rfl ?_
  refine s_lcmp F dX8_in_2 ?_
  refine s_if_lt F 17 dX8_in_3 (by decide) (fun c2 => ?_) (fun c2 => ?_)
  · refine s_iconst F (nI 0) dX8_in_17 rfl ?_
    exact s_zret R dX8_in_18 rfl
  · refine s_lload_n F 0 dX8_in_6 rfl rfl ?_
    refine s_lload F 2 dX8_in_7 rfl ?_
    refine s_lcmp F dX8_in_9 ?_
    refine s_if_gt F 17 dX8_in_10 (by decide) (fun c1 => ?_) (fun c1 => ?_)
    · refine s_iconst F (nI 0) dX8_in_17 rfl ?_
      exact s_zret R dX8_in_18 rfl
    · refine s_iconst F (nI 1) dX8_in_13 rfl ?_
      refine s_goto F 18 dX8_in_14 (by decide) ?_
      exact s_zret R dX8_in_18 rfl
/-! X8_finding -/
def F_X8_finding (a1 : Int32) (σ : St) : Option (Int32 × St) := some ((-1000010 : Int32) - a1, setF σ 9 a1)
set_option maxRecDepth 20000 in
theorem c_X8_finding {G : Gx} {l : Launch} {a1 : Int32} {σ : St} {o : (Int32 × St)} (hF : F_X8_finding a1 σ = some o) : Con G l yX8_finding cX8_finding 2 (some .int) 0 [.ref (ga G 25), .int a1] σ (some (.int o.1)) o.2 := by
  refine Con.of plX8 (Nat.le_of_ble_eq_true rfl) [(0, .ref (ga G 25)), (1, .int a1)] rfl (fun X F R => ?_)
  refine (show Sim G X 2 o (F_X8_finding a1 σ) σ 0 [(0, .ref (ga G 25)), (1, .int a1)] [] from ?_) hF
  unfold F_X8_finding
  refine s_aload_n F 0 dX8_finding_0 rfl rfl ?_
  refine s_iload_n F 1 dX8_finding_1 rfl rfl ?_
  refine fp_X8_51 F dX8_finding_2 ?_
  refine s_ldc F dX8_finding_5 m_4_46 ?_
  refine s_iload_n F 1 dX8_finding_7 rfl rfl ?_
  refine s_isub F dX8_finding_8 ?_
  exact s_iret R dX8_finding_9
/-! X8_isRow -/
def F_X8_isRow (a0 : Int32) (σ : St) : Option (Int32 × St) := (F_X8_in a0.toInt64 (lN 0) (lN 7) σ).bind fun z1 => if (z1.1 = 0 ∨ z1.1 = 1) then some (z1.1, z1.2) else none
set_option maxRecDepth 20000 in
theorem c_X8_isRow {G : Gx} {l : Launch} {a0 : Int32} {σ : St} {o : (Int32 × St)} (hF : F_X8_isRow a0 σ = some o) : Con G l yX8_isRow cX8_isRow 1 (some .boolean) 1 [.int a0] σ (some (.int o.1)) o.2 := by
  refine Con.of plX8 (Nat.le_of_ble_eq_true rfl) [(0, .int a0)] rfl (fun X F R => ?_)
  refine (show Sim G X 1 o (F_X8_isRow a0 σ) σ 0 [(0, .int a0)] [] from ?_) hF
  unfold F_X8_isRow
  refine s_iload_n F 0 dX8_isRow_0 rfl rfl ?_
  refine s_i2l F dX8_isRow_1 ?_
  refine s_lconst F (lN 0) dX8_isRow_2 rfl ?_
  refine s_ldc2 F dX8_isRow_3 m_4_36 ?_
  refine s_Si F [.long a0.toInt64, .long (lN 0), .long (lN 7)] dX8_isRow_6 (fun z hz => c_X8_in hz) wS_X8_57 nk_X8_in (by decide) (by decide) rfl rfl (Nat.le_of_ble_eq_true rfl) (fun z1 => ?_)
  exact s_zretg R dX8_isRow_9
/-! X8_row -/
def L_X8_row_65 (K : Int32 → St → Option (Int32 × St)) : Nat → Int32 → Int32 → Int32 → St → Option (Int32 × St)
  | 0, _, _, _, _ => none
  | n + 1, a1, a3, a4, σ => if (nI 40) ≤ a4 then (K a3 σ) else (if ix (((nI 40) * a1) + a4) 320 then L_X8_row_65 K n a1 a3 (a4 + (nI 1)) (setA σ 28 (((nI 40) * a1) + a4).toNatClampNeg (nI 0)) else none)
def F_X8_row (a1 : Int32) (a2 : Int32) (a3 : Int32) (σ : St) : Option (Int32 × St) := (F_X8_isRow a1 (setF σ 8 (nI 0))).bind fun z1 => if z1.1 = 0 then (some ((-1000001 : Int32), z1.2)) else ((F_X8_in a2.toInt64 (lN 0) (lN 2) z1.2).bind fun z2 => if z2.1 = 0 then (some ((-1000001 : Int32), z2.2)) else (if a3 ≤ (nI 40) then (if 0 ≤ a3 then (if ix a1 8 then if ix a1 8 then L_X8_row_65 (fun a3 σ => some (a3, σ)) fuel a1 a3 (nI 0) (setA (setA (setF z2.2 9 (nI 0)) 26 a1.toNatClampNeg a2) 27 a1.toNatClampNeg a3) else none else none) else ((F_X8_finding (nI 4) (setF z2.2 9 (nI 0))).bind fun z7 => some (z7.1, z7.2))) else (some ((-1000001 : Int32), z2.2))))
set_option maxRecDepth 20000 in
theorem l_X8_row_65 {G : Gx} {X : Cx} (F : Fx G X cX8_row 5 RX8 2) {o : (Int32 × St)} (R : Ret G X cX8_row 5 (some .int) (some (.int o.1)) o.2) {K : Int32 → St → Option (Int32 × St)} (hK : ∀ (a3 : Int32) (σ : St), Sim G X 5 o (K a3 σ) σ 91 [(3, .int a3)] []) : ∀ (n : Nat) (a1 : Int32) (a3 : Int32) (a4 : Int32) (σ : St), Sim G X 5 o (L_X8_row_65 K n a1 a3 a4 σ) σ 65 [(0, .ref (ga G 25)), (1, .int a1), (3, .int a3), (4, .int a4)] [] := by
  intro n
  induction n with
  | zero =>
    intro a1 a3 a4 σ
    exact s_none
  | succ n ih =>
    intro a1 a3 a4 σ
    rw [L_X8_row_65.eq_2]
    refine s_iload F 3 dX8_row_65 rfl ?_
    refine s_bipush F (nI 40) dX8_row_67 rfl ?_
    refine s_icmp_ge F 91 dX8_row_69 (by decide) (fun c6 => ?_) (fun c6 => ?_)
    · refine s_lv [(3, .int a3)] [2] rfl ?_
      exact hK _ _
    · refine s_aload_n F 0 dX8_row_72 rfl rfl ?_
      refine fg_X8_16 F dX8_row_73 ?_
      refine s_bipush F (nI 40) dX8_row_76 rfl ?_
      refine s_iload_n F 1 dX8_row_78 rfl rfl ?_
      refine s_imul F dX8_row_79 ?_
      refine s_iload F 3 dX8_row_80 rfl ?_
      refine s_iadd F dX8_row_82 ?_
      refine s_iconst F (nI 0) dX8_row_83 rfl ?_
      refine s_iast F ar_28 dX8_row_84 (fun q5 => ?_)
      refine s_iinc F 3 [(4, .int (a4 + (nI 1))), (0, .ref (ga G 25)), (1, .int a1), (3, .int a3)] dX8_row_85 rfl rfl (by decide) rfl ?_
      refine s_goto F 65 dX8_row_88 (by decide) ?_
      refine s_lv [(0, .ref (ga G 25)), (1, .int a1), (3, .int a3), (4, .int (a4 + (nI 1)))] [1, 2, 3, 0] rfl ?_
      exact ih _ _ _ _
set_option maxRecDepth 20000 in
theorem c_X8_row {G : Gx} {l : Launch} {a1 : Int32} {a2 : Int32} {a3 : Int32} {σ : St} {o : (Int32 × St)} (hF : F_X8_row a1 a2 a3 σ = some o) : Con G l yX8_row cX8_row 5 (some .int) 2 [.ref (ga G 25), .int a1, .int a2, .int a3] σ (some (.int o.1)) o.2 := by
  refine Con.of plX8 (Nat.le_of_ble_eq_true rfl) [(0, .ref (ga G 25)), (1, .int a1), (2, .int a2), (3, .int a3)] rfl (fun X F R => ?_)
  refine (show Sim G X 5 o (F_X8_row a1 a2 a3 σ) σ 0 [(0, .ref (ga G 25)), (1, .int a1), (2, .int a2), (3, .int a3)] [] from ?_) hF
  unfold F_X8_row
  refine s_aload_n F 0 dX8_row_0 rfl rfl ?_
  refine s_iconst F (nI 0) dX8_row_1 rfl ?_
  refine fp_X8_47 F dX8_row_2 ?_
  refine s_iload_n F 1 dX8_row_5 rfl rfl ?_
  refine s_Si F [.int a1] dX8_row_6 (fun z hz => c_X8_isRow hz) wS_X8_61 nk_X8_isRow (by decide) (by decide) rfl rfl (Nat.le_of_ble_eq_true rfl) (fun z1 => ?_)
  refine s_if_eq F 30 dX8_row_9 (by decide) (fun c11 => ?_) (fun c11 => ?_)
  · refine s_ldc F dX8_row_30 m_4_41 ?_
    exact s_iret R dX8_row_32
  · refine s_iload_n F 2 dX8_row_12 rfl rfl ?_
    refine s_i2l F dX8_row_13 ?_
    refine s_lconst F (lN 0) dX8_row_14 rfl ?_
    refine s_ldc2 F dX8_row_15 m_4_40 ?_
    refine s_Si F [.long a2.toInt64, .long (lN 0), .long (lN 2)] dX8_row_18 (fun z hz => c_X8_in hz) wS_X8_57 nk_X8_in (by decide) (by decide) rfl rfl (Nat.le_of_ble_eq_true rfl) (fun z2 => ?_)
    refine s_if_eq F 30 dX8_row_21 (by decide) (fun c10 => ?_) (fun c10 => ?_)
    · refine s_ldc F dX8_row_30 m_4_41 ?_
      exact s_iret R dX8_row_32
    · refine s_iload_n F 3 dX8_row_24 rfl rfl ?_
      refine s_bipush F (nI 40) dX8_row_25 rfl ?_
      refine s_icmp_le F 33 dX8_row_27 (by decide) (fun c9 => ?_) (fun c9 => ?_)
      · refine s_aload_n F 0 dX8_row_33 rfl rfl ?_
        refine s_iconst F (nI 0) dX8_row_34 rfl ?_
        refine fp_X8_51 F dX8_row_35 ?_
        refine s_iload_n F 3 dX8_row_38 rfl rfl ?_
        refine s_if_ge F 48 dX8_row_39 (by decide) (fun c8 => ?_) (fun c8 => ?_)
        · refine s_aload_n F 0 dX8_row_48 rfl rfl ?_
          refine fg_X8_7 F dX8_row_49 ?_
          refine s_iload_n F 1 dX8_row_52 rfl rfl ?_
          refine s_iload_n F 2 dX8_row_53 rfl rfl ?_
          refine s_iast F ar_26 dX8_row_54 (fun q3 => ?_)
          refine s_aload_n F 0 dX8_row_55 rfl rfl ?_
          refine fg_X8_13 F dX8_row_56 ?_
          refine s_iload_n F 1 dX8_row_59 rfl rfl ?_
          refine s_iload_n F 3 dX8_row_60 rfl rfl ?_
          refine s_iast F ar_27 dX8_row_61 (fun q4 => ?_)
          refine s_iconst F (nI 0) dX8_row_62 rfl ?_
          refine s_istore F [(4, .int (nI 0)), (0, .ref (ga G 25)), (1, .int a1), (2, .int a2), (3, .int a3)] dX8_row_63 (by decide) rfl ?_
          refine s_lv [(0, .ref (ga G 25)), (1, .int a1), (3, .int a3), (4, .int (nI 0))] [1, 2, 4, 0] rfl ?_
          refine l_X8_row_65 F R (fun a3 σ => ?_) fuel _ _ _ _
          refine s_iload_n F 0 dX8_row_91 rfl rfl ?_
          exact s_iret R dX8_row_92
        · refine s_aload_n F 0 dX8_row_42 rfl rfl ?_
          refine s_iconst F (nI 4) dX8_row_43 rfl ?_
          refine s_Vi F [.int (nI 4)] dX8_row_44 (fun z hz => c_X8_finding hz) wV_X8_68 nk_X8_finding (by decide) (by decide) ob_25 vc_7 rfl rfl (Nat.le_of_ble_eq_true rfl) (fun z7 => ?_)
          exact s_iret R dX8_row_47
      · refine s_ldc F dX8_row_30 m_4_41 ?_
        exact s_iret R dX8_row_32
/-! X8_set -/
def J_X8_set_99 (a1 : Int32) (a2 : Int32) (s0 : Int32) (s1 : Int32) (σ : St) : Option (Int32 × St) := if ix s1 320 then if ix (((nI 40) * a1) + a2) 320 then some ((setA σ 28 s1.toNatClampNeg s0).1 28 (((nI 40) * a1) + a2).toNatClampNeg, setA σ 28 s1.toNatClampNeg s0) else none else none
def F_X8_set (a1 : Int32) (a2 : Int32) (a3 : Int32) (σ : St) : Option (Int32 × St) := (F_X8_isRow a1 (setF σ 8 (nI 0))).bind fun z1 => if z1.1 = 0 then (some ((-1000001 : Int32), z1.2)) else (if ix a1 8 then if 0 ≤ ((setF z1.2 9 (nI 0)).1 26 a1.toNatClampNeg) then (if ix a1 8 then (F_X8_in a2.toInt64 (lN 0) (((setF z1.2 9 (nI 0)).1 27 a1.toNatClampNeg) - (nI 1)).toInt64 (setF z1.2 9 (nI 0))).bind fun z4 => if z4.1 = 0 then ((F_X8_finding (nI 2) z4.2).bind fun z11 => some (z11.1, z11.2)) else (if ix a1 8 then if (z4.2.1 26 a1.toNatClampNeg) = 0 then (J_X8_set_99 a1 a2 a3.toInt8.toInt32 (((nI 40) * a1) + a2) z4.2) else (if ix a1 8 then if (z4.2.1 26 a1.toNatClampNeg) = (nI 1) then (J_X8_set_99 a1 a2 a3.toInt16.toInt32 (((nI 40) * a1) + a2) z4.2) else (J_X8_set_99 a1 a2 a3 (((nI 40) * a1) + a2) z4.2) else none) else none) else none) else ((F_X8_finding (nI 1) (setF z1.2 9 (nI 0))).bind fun z13 => some (z13.1, z13.2)) else none)
set_option maxRecDepth 20000 in
theorem j_X8_set_99 {G : Gx} {X : Cx} (F : Fx G X cX8_set 4 RX8 2) {o : (Int32 × St)} (R : Ret G X cX8_set 4 (some .int) (some (.int o.1)) o.2) (a1 : Int32) (a2 : Int32) (s0 : Int32) (s1 : Int32) (σ : St) : Sim G X 4 o (J_X8_set_99 a1 a2 s0 s1 σ) σ 99 [(0, .ref (ga G 25)), (1, .int a1), (2, .int a2)] [.int s0, .int s1, .ref (ga G 28)] := by
  unfold J_X8_set_99
  refine s_iast F ar_28 dX8_set_99 (fun q7 => ?_)
  refine s_aload_n F 0 dX8_set_100 rfl rfl ?_
  refine fg_X8_16 F dX8_set_101 ?_
  refine s_bipush F (nI 40) dX8_set_104 rfl ?_
  refine s_iload_n F 1 dX8_set_106 rfl rfl ?_
  refine s_imul F dX8_set_107 ?_
  refine s_iload_n F 2 dX8_set_108 rfl rfl ?_
  refine s_iadd F dX8_set_109 ?_
  refine s_iald F ar_28 dX8_set_110 (fun q8 => ?_)
  exact s_iret R dX8_set_111
set_option maxRecDepth 20000 in
theorem c_X8_set {G : Gx} {l : Launch} {a1 : Int32} {a2 : Int32} {a3 : Int32} {σ : St} {o : (Int32 × St)} (hF : F_X8_set a1 a2 a3 σ = some o) : Con G l yX8_set cX8_set 4 (some .int) 2 [.ref (ga G 25), .int a1, .int a2, .int a3] σ (some (.int o.1)) o.2 := by
  refine Con.of plX8 (Nat.le_of_ble_eq_true rfl) [(0, .ref (ga G 25)), (1, .int a1), (2, .int a2), (3, .int a3)] rfl (fun X F R => ?_)
  refine (show Sim G X 4 o (F_X8_set a1 a2 a3 σ) σ 0 [(0, .ref (ga G 25)), (1, .int a1), (2, .int a2), (3, .int a3)] [] from ?_) hF
  unfold F_X8_set
  refine s_aload_n F 0 dX8_set_0 rfl rfl ?_
  refine s_iconst F (nI 0) dX8_set_1 rfl ?_
  refine fp_X8_47 F dX8_set_2 ?_
  refine s_iload_n F 1 dX8_set_5 rfl rfl ?_
  refine s_Si F [.int a1] dX8_set_6 (fun z hz => c_X8_isRow hz) wS_X8_61 nk_X8_isRow (by decide) (by decide) rfl rfl (Nat.le_of_ble_eq_true rfl) (fun z1 => ?_)
  refine s_if_ne F 15 dX8_set_9 (by decide) (fun c15 => ?_) (fun c15 => ?_)
  · refine s_aload_n F 0 dX8_set_15 rfl rfl ?_
    refine s_iconst F (nI 0) dX8_set_16 rfl ?_
    refine fp_X8_51 F dX8_set_17 ?_
    refine s_aload_n F 0 dX8_set_20 rfl rfl ?_
    refine fg_X8_7 F dX8_set_21 ?_
    refine s_iload_n F 1 dX8_set_24 rfl rfl ?_
    refine s_iald F ar_26 dX8_set_25 (fun q2 => ?_)
    refine s_if_ge F 35 dX8_set_26 (by decide) (fun c14 => ?_) (fun c14 => ?_)
    · refine s_iload_n F 2 dX8_set_35 rfl rfl ?_
      refine s_i2l F dX8_set_36 ?_
      refine s_lconst F (lN 0) dX8_set_37 rfl ?_
      refine s_aload_n F 0 dX8_set_38 rfl rfl ?_
      refine fg_X8_13 F dX8_set_39 ?_
      refine s_iload_n F 1 dX8_set_42 rfl rfl ?_
      refine s_iald F ar_27 dX8_set_43 (fun q3 => ?_)
      refine s_iconst F (nI 1) dX8_set_44 rfl ?_
      refine s_isub F dX8_set_45 ?_
      refine s_i2l F dX8_set_46 ?_
      refine s_Si F [.long a2.toInt64, .long (lN 0), .long (((setF z1.2 9 (nI 0)).1 27 a1.toNatClampNeg) - (nI 1)).toInt64] dX8_set_47 (fun z hz => c_X8_in hz) wS_X8_57 nk_X8_in (by decide) (by decide) rfl rfl (Nat.le_of_ble_eq_true rfl) (fun z4 => ?_)
      refine s_if_ne F 59 dX8_set_50 (by decide) (fun c12 => ?_) (fun c12 => ?_)
      · refine s_aload_n F 0 dX8_set_59 rfl rfl ?_
        refine fg_X8_16 F dX8_set_60 ?_
        refine s_bipush F (nI 40) dX8_set_63 rfl ?_
        refine s_iload_n F 1 dX8_set_65 rfl rfl ?_
        refine s_imul F dX8_set_66 ?_
        refine s_iload_n F 2 dX8_set_67 rfl rfl ?_
        refine s_iadd F dX8_set_68 ?_
        refine s_aload_n F 0 dX8_set_69 rfl rfl ?_
        refine fg_X8_7 F dX8_set_70 ?_
        refine s_iload_n F 1 dX8_set_73 rfl rfl ?_
        refine s_iald F ar_26 dX8_set_74 (fun q5 => ?_)
        refine s_if_ne F 83 dX8_set_75 (by decide) (fun c10 => ?_) (fun c10 => ?_)
        · refine s_aload_n F 0 dX8_set_83 rfl rfl ?_
          refine fg_X8_7 F dX8_set_84 ?_
          refine s_iload_n F 1 dX8_set_87 rfl rfl ?_
          refine s_iald F ar_26 dX8_set_88 (fun q6 => ?_)
          refine s_iconst F (nI 1) dX8_set_89 rfl ?_
          refine s_icmp_ne F 98 dX8_set_90 (by decide) (fun c9 => ?_) (fun c9 => ?_)
          · refine s_iload_n F 3 dX8_set_98 rfl rfl ?_
            refine s_lv [(0, .ref (ga G 25)), (1, .int a1), (2, .int a2)] [0, 1, 2] rfl ?_
            exact j_X8_set_99 F R _ _ _ _ _
          · refine s_iload_n F 3 dX8_set_93 rfl rfl ?_
            refine s_i2s F dX8_set_94 ?_
            refine s_goto F 99 dX8_set_95 (by decide) ?_
            refine s_lv [(0, .ref (ga G 25)), (1, .int a1), (2, .int a2)] [0, 1, 2] rfl ?_
            exact j_X8_set_99 F R _ _ _ _ _
        · refine s_iload_n F 3 dX8_set_78 rfl rfl ?_
          refine s_i2b F dX8_set_79 ?_
          refine s_goto F 99 dX8_set_80 (by decide) ?_
          refine s_lv [(0, .ref (ga G 25)), (1, .int a1), (2, .int a2)] [0, 1, 2] rfl ?_
          exact j_X8_set_99 F R _ _ _ _ _
      · refine s_aload_n F 0 dX8_set_53 rfl rfl ?_
        refine s_iconst F (nI 2) dX8_set_54 rfl ?_
        refine s_Vi F [.int (nI 2)] dX8_set_55 (fun z hz => c_X8_finding hz) wV_X8_68 nk_X8_finding (by decide) (by decide) ob_25 vc_7 rfl rfl (Nat.le_of_ble_eq_true rfl) (fun z11 => ?_)
        exact s_iret R dX8_set_58
    · refine s_aload_n F 0 dX8_set_29 rfl rfl ?_
      refine s_iconst F (nI 1) dX8_set_30 rfl ?_
      refine s_Vi F [.int (nI 1)] dX8_set_31 (fun z hz => c_X8_finding hz) wV_X8_68 nk_X8_finding (by decide) (by decide) ob_25 vc_7 rfl rfl (Nat.le_of_ble_eq_true rfl) (fun z13 => ?_)
      exact s_iret R dX8_set_34
  · refine s_ldc F dX8_set_12 m_4_41 ?_
    exact s_iret R dX8_set_14
/-! X8_copy -/
def J_X8_copy_45 (σ : St) : Option (Int32 × St) := (F_X8_finding (nI 1) σ).bind fun z4 => some (z4.1, z4.2)
def J_X8_copy_121 (σ : St) : Option (Int32 × St) := (F_X8_finding (nI 2) σ).bind fun z8 => some (z8.1, z8.2)
def J_X8_copy_167 (K143 : Int32 → Int32 → Int32 → Int32 → Int32 → Int32 → Int32 → St → Option (Int32 × St)) (a1 : Int32) (a2 : Int32) (a3 : Int32) (a4 : Int32) (a5 : Int32) (a6 : Int32) (a7 : Int32) (s0 : Int32) (σ : St) : Option (Int32 × St) := if ix ((((nI 40) * a1) + a2) + s0) 320 then if ix ((((nI 40) * a3) + a4) + s0) 320 then K143 a1 a2 a3 a4 a5 a6 (a7 + (nI 1)) (setA σ 28 ((((nI 40) * a3) + a4) + s0).toNatClampNeg (σ.1 28 ((((nI 40) * a1) + a2) + s0).toNatClampNeg)) else none else none
def L_X8_copy_143 (K : Int32 → St → Option (Int32 × St)) : Nat → Int32 → Int32 → Int32 → Int32 → Int32 → Int32 → Int32 → St → Option (Int32 × St)
  | 0, _, _, _, _, _, _, _, _ => none
  | n + 1, a1, a2, a3, a4, a5, a6, a7, σ => if a5 ≤ a7 then (K a5 σ) else (if a6 = 0 then (J_X8_copy_167 (fun a1 a2 a3 a4 a5 a6 a7 σ => L_X8_copy_143 K n a1 a2 a3 a4 a5 a6 a7 σ) a1 a2 a3 a4 a5 a6 a7 ((a5 - (nI 1)) - a7) σ) else (J_X8_copy_167 (fun a1 a2 a3 a4 a5 a6 a7 σ => L_X8_copy_143 K n a1 a2 a3 a4 a5 a6 a7 σ) a1 a2 a3 a4 a5 a6 a7 a7 σ))
def F_X8_copy (a1 : Int32) (a2 : Int32) (a3 : Int32) (a4 : Int32) (a5 : Int32) (σ : St) : Option (Int32 × St) := (F_X8_isRow a1 (setF σ 8 (nI 0))).bind fun z1 => if z1.1 = 0 then (some ((-1000001 : Int32), z1.2)) else ((F_X8_isRow a3 z1.2).bind fun z2 => if z2.1 = 0 then (some ((-1000001 : Int32), z2.2)) else (if ix a1 8 then if ((setF z2.2 9 (nI 0)).1 26 a1.toNatClampNeg) < 0 then (J_X8_copy_45 (setF z2.2 9 (nI 0))) else (if ix a3 8 then if 0 ≤ ((setF z2.2 9 (nI 0)).1 26 a3.toNatClampNeg) then (if ix a1 8 then if ix a3 8 then if ((setF z2.2 9 (nI 0)).1 26 a1.toNatClampNeg) = ((setF z2.2 9 (nI 0)).1 26 a3.toNatClampNeg) then (if a2 < 0 then (J_X8_copy_121 (setF z2.2 9 (nI 0))) else (if a4 < 0 then (J_X8_copy_121 (setF z2.2 9 (nI 0))) else (if a5 < 0 then (J_X8_copy_121 (setF z2.2 9 (nI 0))) else (if ix a1 8 then if 0 < (lg_cmp (a2.toInt64 + a5.toInt64) ((setF z2.2 9 (nI 0)).1 27 a1.toNatClampNeg).toInt64) then (J_X8_copy_121 (setF z2.2 9 (nI 0))) else (if ix a3 8 then if (lg_cmp (a4.toInt64 + a5.toInt64) ((setF z2.2 9 (nI 0)).1 27 a3.toNatClampNeg).toInt64) ≤ 0 then (if a2 < a4 then (L_X8_copy_143 (fun a5 σ => some (a5, σ)) fuel a1 a2 a3 a4 a5 (nI 0) (nI 0) (setF z2.2 9 (nI 0))) else (L_X8_copy_143 (fun a5 σ => some (a5, σ)) fuel a1 a2 a3 a4 a5 (nI 1) (nI 0) (setF z2.2 9 (nI 0)))) else (J_X8_copy_121 (setF z2.2 9 (nI 0))) else none) else none)))) else ((F_X8_finding (nI 5) (setF z2.2 9 (nI 0))).bind fun z21 => some (z21.1, z21.2)) else none else none) else (J_X8_copy_45 (setF z2.2 9 (nI 0))) else none) else none))
set_option maxRecDepth 20000 in
theorem j_X8_copy_45 {G : Gx} {X : Cx} (F : Fx G X cX8_copy 9 RX8 2) {o : (Int32 × St)} (R : Ret G X cX8_copy 9 (some .int) (some (.int o.1)) o.2) (σ : St) : Sim G X 9 o (J_X8_copy_45 σ) σ 45 [(0, .ref (ga G 25))] [] := by
  unfold J_X8_copy_45
  refine s_aload_n F 0 dX8_copy_45 rfl rfl ?_
  refine s_iconst F (nI 1) dX8_copy_46 rfl ?_
  refine s_Vi F [.int (nI 1)] dX8_copy_47 (fun z hz => c_X8_finding hz) wV_X8_68 nk_X8_finding (by decide) (by decide) ob_25 vc_7 rfl rfl (Nat.le_of_ble_eq_true rfl) (fun z4 => ?_)
  exact s_iret R dX8_copy_50
set_option maxRecDepth 20000 in
theorem j_X8_copy_121 {G : Gx} {X : Cx} (F : Fx G X cX8_copy 9 RX8 2) {o : (Int32 × St)} (R : Ret G X cX8_copy 9 (some .int) (some (.int o.1)) o.2) (σ : St) : Sim G X 9 o (J_X8_copy_121 σ) σ 121 [(0, .ref (ga G 25))] [] := by
  unfold J_X8_copy_121
  refine s_aload_n F 0 dX8_copy_121 rfl rfl ?_
  refine s_iconst F (nI 2) dX8_copy_122 rfl ?_
  refine s_Vi F [.int (nI 2)] dX8_copy_123 (fun z hz => c_X8_finding hz) wV_X8_68 nk_X8_finding (by decide) (by decide) ob_25 vc_7 rfl rfl (Nat.le_of_ble_eq_true rfl) (fun z8 => ?_)
  exact s_iret R dX8_copy_126
set_option maxRecDepth 20000 in
theorem j_X8_copy_167 {G : Gx} {X : Cx} (F : Fx G X cX8_copy 9 RX8 2) {o : (Int32 × St)} (R : Ret G X cX8_copy 9 (some .int) (some (.int o.1)) o.2) {K143 : Int32 → Int32 → Int32 → Int32 → Int32 → Int32 → Int32 → St → Option (Int32 × St)} (hK143 : ∀ (a1 : Int32) (a2 : Int32) (a3 : Int32) (a4 : Int32) (a5 : Int32) (a6 : Int32) (a7 : Int32) (σ : St), Sim G X 9 o (K143 a1 a2 a3 a4 a5 a6 a7 σ) σ 143 [(0, .ref (ga G 25)), (1, .int a1), (2, .int a2), (3, .int a3), (4, .int a4), (5, .int a5), (6, .int a6), (7, .int a7)] []) (a1 : Int32) (a2 : Int32) (a3 : Int32) (a4 : Int32) (a5 : Int32) (a6 : Int32) (a7 : Int32) (s0 : Int32) (σ : St) : Sim G X 9 o (J_X8_copy_167 K143 a1 a2 a3 a4 a5 a6 a7 s0 σ) σ 167 [(0, .ref (ga G 25)), (1, .int a1), (2, .int a2), (3, .int a3), (4, .int a4), (5, .int a5), (6, .int a6), (7, .int a7)] [.int s0] := by
  unfold J_X8_copy_167
  refine s_istore F [(8, .int s0), (0, .ref (ga G 25)), (1, .int a1), (2, .int a2), (3, .int a3), (4, .int a4), (5, .int a5), (6, .int a6), (7, .int a7)] dX8_copy_167 (by decide) rfl ?_
  refine s_aload_n F 1 dX8_copy_169 rfl rfl ?_
  refine fg_X8_16 F dX8_copy_170 ?_
  refine s_bipush F (nI 40) dX8_copy_173 rfl ?_
  refine s_iload_n F 4 dX8_copy_175 rfl rfl ?_
  refine s_imul F dX8_copy_176 ?_
  refine s_iload F 5 dX8_copy_177 rfl ?_
  refine s_iadd F dX8_copy_179 ?_
  refine s_iload F 0 dX8_copy_180 rfl ?_
  refine s_iadd F dX8_copy_182 ?_
  refine s_aload_n F 1 dX8_copy_183 rfl rfl ?_
  refine fg_X8_16 F dX8_copy_184 ?_
  refine s_bipush F (nI 40) dX8_copy_187 rfl ?_
  refine s_iload_n F 2 dX8_copy_189 rfl rfl ?_
  refine s_imul F dX8_copy_190 ?_
  refine s_iload_n F 3 dX8_copy_191 rfl rfl ?_
  refine s_iadd F dX8_copy_192 ?_
  refine s_iload F 0 dX8_copy_193 rfl ?_
  refine s_iadd F dX8_copy_195 ?_
  refine s_iald F ar_28 dX8_copy_196 (fun q11 => ?_)
  refine s_iast F ar_28 dX8_copy_197 (fun q12 => ?_)
  refine s_iinc F 8 [(7, .int (a7 + (nI 1))), (8, .int s0), (0, .ref (ga G 25)), (1, .int a1), (2, .int a2), (3, .int a3), (4, .int a4), (5, .int a5), (6, .int a6)] dX8_copy_198 rfl rfl (by decide) rfl ?_
  refine s_goto F 143 dX8_copy_201 (by decide) ?_
  refine s_lv [(0, .ref (ga G 25)), (1, .int a1), (2, .int a2), (3, .int a3), (4, .int a4), (5, .int a5), (6, .int a6), (7, .int (a7 + (nI 1)))] [2, 3, 4, 5, 6, 7, 8, 0] rfl ?_
  exact hK143 _ _ _ _ _ _ _ _
set_option maxRecDepth 20000 in
theorem l_X8_copy_143 {G : Gx} {X : Cx} (F : Fx G X cX8_copy 9 RX8 2) {o : (Int32 × St)} (R : Ret G X cX8_copy 9 (some .int) (some (.int o.1)) o.2) {K : Int32 → St → Option (Int32 × St)} (hK : ∀ (a5 : Int32) (σ : St), Sim G X 9 o (K a5 σ) σ 204 [(5, .int a5)] []) : ∀ (n : Nat) (a1 : Int32) (a2 : Int32) (a3 : Int32) (a4 : Int32) (a5 : Int32) (a6 : Int32) (a7 : Int32) (σ : St), Sim G X 9 o (L_X8_copy_143 K n a1 a2 a3 a4 a5 a6 a7 σ) σ 143 [(0, .ref (ga G 25)), (1, .int a1), (2, .int a2), (3, .int a3), (4, .int a4), (5, .int a5), (6, .int a6), (7, .int a7)] [] := by
  intro n
  induction n with
  | zero =>
    intro a1 a2 a3 a4 a5 a6 a7 σ
    exact s_none
  | succ n ih =>
    intro a1 a2 a3 a4 a5 a6 a7 σ
    rw [L_X8_copy_143.eq_2]
    refine s_iload F 7 dX8_copy_143 rfl ?_
    refine s_iload F 5 dX8_copy_145 rfl ?_
    refine s_icmp_ge F 204 dX8_copy_147 (by decide) (fun c14 => ?_) (fun c14 => ?_)
    · refine s_lv [(5, .int a5)] [5] rfl ?_
      exact hK _ _
    · refine s_iload F 6 dX8_copy_150 rfl ?_
      refine s_if_eq F 160 dX8_copy_152 (by decide) (fun c13 => ?_) (fun c13 => ?_)
      · refine s_iload F 5 dX8_copy_160 rfl ?_
        refine s_iconst F (nI 1) dX8_copy_162 rfl ?_
        refine s_isub F dX8_copy_163 ?_
        refine s_iload F 7 dX8_copy_164 rfl ?_
        refine s_isub F dX8_copy_166 ?_
        exact j_X8_copy_167 F R (by
              intro a1 a2 a3 a4 a5 a6 a7 σ
              exact ih _ _ _ _ _ _ _ _) _ _ _ _ _ _ _ _ _
      · refine s_iload F 7 dX8_copy_155 rfl ?_
        refine s_goto F 167 dX8_copy_157 (by decide) ?_
        exact j_X8_copy_167 F R (by
              intro a1 a2 a3 a4 a5 a6 a7 σ
              exact ih _ _ _ _ _ _ _ _) _ _ _ _ _ _ _ _ _
set_option maxRecDepth 20000 in
theorem c_X8_copy {G : Gx} {l : Launch} {a1 : Int32} {a2 : Int32} {a3 : Int32} {a4 : Int32} {a5 : Int32} {σ : St} {o : (Int32 × St)} (hF : F_X8_copy a1 a2 a3 a4 a5 σ = some o) : Con G l yX8_copy cX8_copy 9 (some .int) 2 [.ref (ga G 25), .int a1, .int a2, .int a3, .int a4, .int a5] σ (some (.int o.1)) o.2 := by
  refine Con.of plX8 (Nat.le_of_ble_eq_true rfl) [(0, .ref (ga G 25)), (1, .int a1), (2, .int a2), (3, .int a3), (4, .int a4), (5, .int a5)] rfl (fun X F R => ?_)
  refine (show Sim G X 9 o (F_X8_copy a1 a2 a3 a4 a5 σ) σ 0 [(0, .ref (ga G 25)), (1, .int a1), (2, .int a2), (3, .int a3), (4, .int a4), (5, .int a5)] [] from ?_) hF
  unfold F_X8_copy
  refine s_aload_n F 0 dX8_copy_0 rfl rfl ?_
  refine s_iconst F (nI 0) dX8_copy_1 rfl ?_
  refine fp_X8_47 F dX8_copy_2 ?_
  refine s_iload_n F 1 dX8_copy_5 rfl rfl ?_
  refine s_Si F [.int a1] dX8_copy_6 (fun z hz => c_X8_isRow hz) wS_X8_61 nk_X8_isRow (by decide) (by decide) rfl rfl (Nat.le_of_ble_eq_true rfl) (fun z1 => ?_)
  refine s_if_eq F 19 dX8_copy_9 (by decide) (fun c26 => ?_) (fun c26 => ?_)
  · refine s_ldc F dX8_copy_19 m_4_41 ?_
    exact s_iret R dX8_copy_21
  · refine s_iload_n F 3 dX8_copy_12 rfl rfl ?_
    refine s_Si F [.int a3] dX8_copy_13 (fun z hz => c_X8_isRow hz) wS_X8_61 nk_X8_isRow (by decide) (by decide) rfl rfl (Nat.le_of_ble_eq_true rfl) (fun z2 => ?_)
    refine s_if_ne F 22 dX8_copy_16 (by decide) (fun c25 => ?_) (fun c25 => ?_)
    · refine s_aload_n F 0 dX8_copy_22 rfl rfl ?_
      refine s_iconst F (nI 0) dX8_copy_23 rfl ?_
      refine fp_X8_51 F dX8_copy_24 ?_
      refine s_aload_n F 0 dX8_copy_27 rfl rfl ?_
      refine fg_X8_7 F dX8_copy_28 ?_
      refine s_iload_n F 1 dX8_copy_31 rfl rfl ?_
      refine s_iald F ar_26 dX8_copy_32 (fun q3 => ?_)
      refine s_if_lt F 45 dX8_copy_33 (by decide) (fun c24 => ?_) (fun c24 => ?_)
      · refine s_lv [(0, .ref (ga G 25))] [0] rfl ?_
        exact j_X8_copy_45 F R _
      · refine s_aload_n F 0 dX8_copy_36 rfl rfl ?_
        refine fg_X8_7 F dX8_copy_37 ?_
        refine s_iload_n F 3 dX8_copy_40 rfl rfl ?_
        refine s_iald F ar_26 dX8_copy_41 (fun q5 => ?_)
        refine s_if_ge F 51 dX8_copy_42 (by decide) (fun c23 => ?_) (fun c23 => ?_)
        · refine s_aload_n F 0 dX8_copy_51 rfl rfl ?_
          refine fg_X8_7 F dX8_copy_52 ?_
          refine s_iload_n F 1 dX8_copy_55 rfl rfl ?_
          refine s_iald F ar_26 dX8_copy_56 (fun q6 => ?_)
          refine s_aload_n F 0 dX8_copy_57 rfl rfl ?_
          refine fg_X8_7 F dX8_copy_58 ?_
          refine s_iload_n F 3 dX8_copy_61 rfl rfl ?_
          refine s_iald F ar_26 dX8_copy_62 (fun q7 => ?_)
          refine s_icmp_eq F 72 dX8_copy_63 (by decide) (fun c22 => ?_) (fun c22 => ?_)
          · refine s_iload_n F 2 dX8_copy_72 rfl rfl ?_
            refine s_if_lt F 121 dX8_copy_73 (by decide) (fun c20 => ?_) (fun c20 => ?_)
            · refine s_lv [(0, .ref (ga G 25))] [0] rfl ?_
              exact j_X8_copy_121 F R _
            · refine s_iload F 4 dX8_copy_76 rfl ?_
              refine s_if_lt F 121 dX8_copy_78 (by decide) (fun c19 => ?_) (fun c19 => ?_)
              · refine s_lv [(0, .ref (ga G 25))] [0] rfl ?_
                exact j_X8_copy_121 F R _
              · refine s_iload F 5 dX8_copy_81 rfl ?_
                refine s_if_lt F 121 dX8_copy_83 (by decide) (fun c18 => ?_) (fun c18 => ?_)
                · refine s_lv [(0, .ref (ga G 25))] [0] rfl ?_
                  exact j_X8_copy_121 F R _
                · refine s_iload_n F 2 dX8_copy_86 rfl rfl ?_
                  refine s_i2l F dX8_copy_87 ?_
                  refine s_iload F 5 dX8_copy_88 rfl ?_
                  refine s_i2l F dX8_copy_90 ?_
                  refine s_ladd F dX8_copy_91 ?_
                  refine s_aload_n F 0 dX8_copy_92 rfl rfl ?_
                  refine fg_X8_13 F dX8_copy_93 ?_
                  refine s_iload_n F 1 dX8_copy_96 rfl rfl ?_
                  refine s_iald F ar_27 dX8_copy_97 (fun q9 => ?_)
                  refine s_i2l F dX8_copy_98 ?_
                  refine s_lcmp F dX8_copy_99 ?_
                  refine s_if_gt F 121 dX8_copy_100 (by decide) (fun c17 => ?_) (fun c17 => ?_)
                  · refine s_lv [(0, .ref (ga G 25))] [0] rfl ?_
                    exact j_X8_copy_121 F R _
                  · refine s_iload F 4 dX8_copy_103 rfl ?_
                    refine s_i2l F dX8_copy_105 ?_
                    refine s_iload F 5 dX8_copy_106 rfl ?_
                    refine s_i2l F dX8_copy_108 ?_
                    refine s_ladd F dX8_copy_109 ?_
                    refine s_aload_n F 0 dX8_copy_110 rfl rfl ?_
                    refine fg_X8_13 F dX8_copy_111 ?_
                    refine s_iload_n F 3 dX8_copy_114 rfl rfl ?_
                    refine s_iald F ar_27 dX8_copy_115 (fun q10 => ?_)
                    refine s_i2l F dX8_copy_116 ?_
                    refine s_lcmp F dX8_copy_117 ?_
                    refine s_if_le F 127 dX8_copy_118 (by decide) (fun c16 => ?_) (fun c16 => ?_)
                    · refine s_iload_n F 2 dX8_copy_127 rfl rfl ?_
                      refine s_iload F 4 dX8_copy_128 rfl ?_
                      refine s_icmp_lt F 137 dX8_copy_130 (by decide) (fun c15 => ?_) (fun c15 => ?_)
                      · refine s_iconst F (nI 0) dX8_copy_137 rfl ?_
                        refine s_istore F [(6, .int (nI 0)), (0, .ref (ga G 25)), (1, .int a1), (2, .int a2), (3, .int a3), (4, .int a4), (5, .int a5)] dX8_copy_138 (by decide) rfl ?_
                        refine s_iconst F (nI 0) dX8_copy_140 rfl ?_
                        refine s_istore F [(7, .int (nI 0)), (6, .int (nI 0)), (0, .ref (ga G 25)), (1, .int a1), (2, .int a2), (3, .int a3), (4, .int a4), (5, .int a5)] dX8_copy_141 (by decide) rfl ?_
                        refine s_lv [(0, .ref (ga G 25)), (1, .int a1), (2, .int a2), (3, .int a3), (4, .int a4), (5, .int a5), (6, .int (nI 0)), (7, .int (nI 0))] [2, 3, 4, 5, 6, 7, 1, 0] rfl ?_
                        refine l_X8_copy_143 F R (fun a5 σ => ?_) fuel _ _ _ _ _ _ _ _
                        refine s_iload F 0 dX8_copy_204 rfl ?_
                        exact s_iret R dX8_copy_206
                      · refine s_iconst F (nI 1) dX8_copy_133 rfl ?_
                        refine s_goto F 138 dX8_copy_134 (by decide) ?_
                        refine s_istore F [(6, .int (nI 1)), (0, .ref (ga G 25)), (1, .int a1), (2, .int a2), (3, .int a3), (4, .int a4), (5, .int a5)] dX8_copy_138 (by decide) rfl ?_
                        refine s_iconst F (nI 0) dX8_copy_140 rfl ?_
                        refine s_istore F [(7, .int (nI 0)), (6, .int (nI 1)), (0, .ref (ga G 25)), (1, .int a1), (2, .int a2), (3, .int a3), (4, .int a4), (5, .int a5)] dX8_copy_141 (by decide) rfl ?_
                        refine s_lv [(0, .ref (ga G 25)), (1, .int a1), (2, .int a2), (3, .int a3), (4, .int a4), (5, .int a5), (6, .int (nI 1)), (7, .int (nI 0))] [2, 3, 4, 5, 6, 7, 1, 0] rfl ?_
                        refine l_X8_copy_143 F R (fun a5 σ => ?_) fuel _ _ _ _ _ _ _ _
                        refine s_iload F 0 dX8_copy_204 rfl ?_
                        exact s_iret R dX8_copy_206
                    · refine s_lv [(0, .ref (ga G 25))] [0] rfl ?_
                      exact j_X8_copy_121 F R _
          · refine s_aload_n F 0 dX8_copy_66 rfl rfl ?_
            refine s_iconst F (nI 5) dX8_copy_67 rfl ?_
            refine s_Vi F [.int (nI 5)] dX8_copy_68 (fun z hz => c_X8_finding hz) wV_X8_68 nk_X8_finding (by decide) (by decide) ob_25 vc_7 rfl rfl (Nat.le_of_ble_eq_true rfl) (fun z21 => ?_)
            exact s_iret R dX8_copy_71
        · refine s_lv [(0, .ref (ga G 25))] [0] rfl ?_
          exact j_X8_copy_45 F R _
    · refine s_ldc F dX8_copy_19 m_4_41 ?_
      exact s_iret R dX8_copy_21
/-! X8_drop -/
def F_X8_drop (a1 : Int32) (σ : St) : Option (Int32 × St) := (F_X8_isRow a1 (setF σ 8 (nI 0))).bind fun z1 => if z1.1 = 0 then (some ((-1000001 : Int32), z1.2)) else (if ix a1 8 then if 0 ≤ ((setF z1.2 9 (nI 0)).1 26 a1.toNatClampNeg) then (if ix a1 8 then if ix a1 8 then some ((setA (setF z1.2 9 (nI 0)) 26 a1.toNatClampNeg (-1 : Int32)).1 27 a1.toNatClampNeg, setA (setF z1.2 9 (nI 0)) 26 a1.toNatClampNeg (-1 : Int32)) else none else none) else ((F_X8_finding (nI 1) (setF z1.2 9 (nI 0))).bind fun z5 => some (z5.1, z5.2)) else none)
set_option maxRecDepth 20000 in
theorem c_X8_drop {G : Gx} {l : Launch} {a1 : Int32} {σ : St} {o : (Int32 × St)} (hF : F_X8_drop a1 σ = some o) : Con G l yX8_drop cX8_drop 2 (some .int) 2 [.ref (ga G 25), .int a1] σ (some (.int o.1)) o.2 := by
  refine Con.of plX8 (Nat.le_of_ble_eq_true rfl) [(0, .ref (ga G 25)), (1, .int a1)] rfl (fun X F R => ?_)
  refine (show Sim G X 2 o (F_X8_drop a1 σ) σ 0 [(0, .ref (ga G 25)), (1, .int a1)] [] from ?_) hF
  unfold F_X8_drop
  refine s_aload_n F 0 dX8_drop_0 rfl rfl ?_
  refine s_iconst F (nI 0) dX8_drop_1 rfl ?_
  refine fp_X8_47 F dX8_drop_2 ?_
  refine s_iload_n F 1 dX8_drop_5 rfl rfl ?_
  refine s_Si F [.int a1] dX8_drop_6 (fun z hz => c_X8_isRow hz) wS_X8_61 nk_X8_isRow (by decide) (by decide) rfl rfl (Nat.le_of_ble_eq_true rfl) (fun z1 => ?_)
  refine s_if_ne F 15 dX8_drop_9 (by decide) (fun c7 => ?_) (fun c7 => ?_)
  · refine s_aload_n F 0 dX8_drop_15 rfl rfl ?_
    refine s_iconst F (nI 0) dX8_drop_16 rfl ?_
    refine fp_X8_51 F dX8_drop_17 ?_
    refine s_aload_n F 0 dX8_drop_20 rfl rfl ?_
    refine fg_X8_7 F dX8_drop_21 ?_
    refine s_iload_n F 1 dX8_drop_24 rfl rfl ?_
    refine s_iald F ar_26 dX8_drop_25 (fun q2 => ?_)
    refine s_if_ge F 35 dX8_drop_26 (by decide) (fun c6 => ?_) (fun c6 => ?_)
    · refine s_aload_n F 0 dX8_drop_35 rfl rfl ?_
      refine fg_X8_7 F dX8_drop_36 ?_
      refine s_iload_n F 1 dX8_drop_39 rfl rfl ?_
      refine s_iconst F (-1 : Int32) dX8_drop_40 rfl ?_
      refine s_iast F ar_26 dX8_drop_41 (fun q3 => ?_)
      refine s_aload_n F 0 dX8_drop_42 rfl rfl ?_
      refine fg_X8_13 F dX8_drop_43 ?_
      refine s_iload_n F 1 dX8_drop_46 rfl rfl ?_
      refine s_iald F ar_27 dX8_drop_47 (fun q4 => ?_)
      exact s_iret R dX8_drop_48
    · refine s_aload_n F 0 dX8_drop_29 rfl rfl ?_
      refine s_iconst F (nI 1) dX8_drop_30 rfl ?_
      refine s_Vi F [.int (nI 1)] dX8_drop_31 (fun z hz => c_X8_finding hz) wV_X8_68 nk_X8_finding (by decide) (by decide) ob_25 vc_7 rfl rfl (Nat.le_of_ble_eq_true rfl) (fun z5 => ?_)
      exact s_iret R dX8_drop_34
  · refine s_ldc F dX8_drop_12 m_4_41 ?_
    exact s_iret R dX8_drop_14
/-! X8_feed -/
def F_X8_feed (a1 : Int32) (σ : St) : Option (Int32 × St) := (F_X8_in a1.toInt64 (lN 0) (lN 255) (setF σ 8 (nI 0))).bind fun z1 => if z1.1 = 0 then (some ((-1000001 : Int32), z1.2)) else (if (z1.2.2 11) = (nI 120) then (some ((-1000003 : Int32), z1.2)) else (if ix (z1.2.2 11) 120 then some ((setF (setA z1.2 33 (z1.2.2 11).toNatClampNeg a1) 11 (((setA z1.2 33 (z1.2.2 11).toNatClampNeg a1).2 11) + (nI 1))).2 11, setF (setA z1.2 33 (z1.2.2 11).toNatClampNeg a1) 11 (((setA z1.2 33 (z1.2.2 11).toNatClampNeg a1).2 11) + (nI 1))) else none))
set_option maxRecDepth 20000 in
theorem c_X8_feed {G : Gx} {l : Launch} {a1 : Int32} {σ : St} {o : (Int32 × St)} (hF : F_X8_feed a1 σ = some o) : Con G l yX8_feed cX8_feed 2 (some .int) 1 [.ref (ga G 25), .int a1] σ (some (.int o.1)) o.2 := by
  refine Con.of plX8 (Nat.le_of_ble_eq_true rfl) [(0, .ref (ga G 25)), (1, .int a1)] rfl (fun X F R => ?_)
  refine (show Sim G X 2 o (F_X8_feed a1 σ) σ 0 [(0, .ref (ga G 25)), (1, .int a1)] [] from ?_) hF
  unfold F_X8_feed
  refine s_aload_n F 0 dX8_feed_0 rfl rfl ?_
  refine s_iconst F (nI 0) dX8_feed_1 rfl ?_
  refine fp_X8_47 F dX8_feed_2 ?_
  refine s_iload_n F 1 dX8_feed_5 rfl rfl ?_
  refine s_i2l F dX8_feed_6 ?_
  refine s_lconst F (lN 0) dX8_feed_7 rfl ?_
  refine s_ldc2 F dX8_feed_8 m_4_63 ?_
  refine s_Si F [.long a1.toInt64, .long (lN 0), .long (lN 255)] dX8_feed_11 (fun z hz => c_X8_in hz) wS_X8_57 nk_X8_in (by decide) (by decide) rfl rfl (Nat.le_of_ble_eq_true rfl) (fun z1 => ?_)
  refine s_if_ne F 20 dX8_feed_14 (by decide) (fun c4 => ?_) (fun c4 => ?_)
  · refine s_aload_n F 0 dX8_feed_20 rfl rfl ?_
    refine fg_X8_74 F dX8_feed_21 ?_
    refine s_bipush F (nI 120) dX8_feed_24 rfl ?_
    refine s_icmp_ne F 32 dX8_feed_26 (by decide) (fun c3 => ?_) (fun c3 => ?_)
    · refine s_aload_n F 0 dX8_feed_32 rfl rfl ?_
      refine fg_X8_31 F dX8_feed_33 ?_
      refine s_aload_n F 0 dX8_feed_36 rfl rfl ?_
      refine fg_X8_74 F dX8_feed_37 ?_
      refine s_iload_n F 1 dX8_feed_40 rfl rfl ?_
      refine s_iast F ar_33 dX8_feed_41 (fun q2 => ?_)
      refine s_aload_n F 0 dX8_feed_42 rfl rfl ?_
      refine s_dup F dX8_feed_43 rfl ?_
      refine fg_X8_74 F dX8_feed_44 ?_
      refine s_iconst F (nI 1) dX8_feed_47 rfl ?_
      refine s_iadd F dX8_feed_48 ?_
      refine fp_X8_74 F dX8_feed_49 ?_
      refine s_aload_n F 0 dX8_feed_52 rfl rfl ?_
      refine fg_X8_74 F dX8_feed_53 ?_
      exact s_iret R dX8_feed_56
    · refine s_ldc F dX8_feed_29 m_4_64 ?_
      exact s_iret R dX8_feed_31
  · refine s_ldc F dX8_feed_17 m_4_41 ?_
    exact s_iret R dX8_feed_19
/-! X8_bad -/
def F_X8_bad (a1 : Int32) (σ : St) : Option St := if (σ.2 16) = 0 then (some (setF (setF σ 16 a1) 17 ((setF σ 16 a1).2 13))) else (some σ)
set_option maxRecDepth 20000 in
theorem c_X8_bad {G : Gx} {l : Launch} {a1 : Int32} {σ : St} {o : St} (hF : F_X8_bad a1 σ = some o) : Con G l yX8_bad cX8_bad 2 none 0 [.ref (ga G 25), .int a1] σ none o := by
  refine Con.of plX8 (Nat.le_of_ble_eq_true rfl) [(0, .ref (ga G 25)), (1, .int a1)] rfl (fun X F R => ?_)
  refine (show Sim G X 2 o (F_X8_bad a1 σ) σ 0 [(0, .ref (ga G 25)), (1, .int a1)] [] from ?_) hF
  unfold F_X8_bad
  refine s_aload_n F 0 dX8_bad_0 rfl rfl ?_
  refine fg_X8_78 F dX8_bad_1 ?_
  refine s_if_ne F 20 dX8_bad_4 (by decide) (fun c1 => ?_) (fun c1 => ?_)
  · exact s_vret R dX8_bad_20
  · refine s_aload_n F 0 dX8_bad_7 rfl rfl ?_
    refine s_iload_n F 1 dX8_bad_8 rfl rfl ?_
    refine fp_X8_78 F dX8_bad_9 ?_
    refine s_aload_n F 0 dX8_bad_12 rfl rfl ?_
    refine s_aload_n F 0 dX8_bad_13 rfl rfl ?_
    refine fg_X8_81 F dX8_bad_14 ?_
    refine fp_X8_84 F dX8_bad_17 ?_
    exact s_vret R dX8_bad_20
/-! X8_nextToken -/
def J_X8_nextToken_239 (K165 : St → Option St) (s0 : Int32) (σ : St) : Option St := K165 (setF (setF σ 15 s0) 12 (((setF σ 15 s0).2 12) + (nI 1)))
def L_X8_nextToken_165 (K : St → Option St) : Nat → St → Option St
  | 0, _ => none
  | n + 1, σ => if (σ.2 11) ≤ (σ.2 12) then (K σ) else (if ix (σ.2 12) 120 then (F_X8_in (σ.1 33 (σ.2 12).toNatClampNeg).toInt64 (lN 48) (lN 57) σ).bind fun z4 => if z4.1 = 0 then (K z4.2) else (if (nI 2) ≤ ((z4.2.2 12) - (z4.2.2 13)) then (J_X8_nextToken_239 (fun σ => L_X8_nextToken_165 K n σ) (z4.2.2 15) z4.2) else (if ix (z4.2.2 12) 120 then J_X8_nextToken_239 (fun σ => L_X8_nextToken_165 K n σ) ((((nI 10) * (z4.2.2 15)) + (z4.2.1 33 (z4.2.2 12).toNatClampNeg)) - (nI 48)) z4.2 else none)) else none)
def J_X8_nextToken_142 (s0 : Int32) (s1 : Int32) (σ : St) : Option St := if ((setF σ 12 (s1 + s0)).2 14) = (nI 3) then (L_X8_nextToken_165 (fun σ => if ((σ.2 12) - (σ.2 13)) ≤ (nI 2) then (some (setF σ 14 (nI 3))) else (some (setF σ 14 (nI 0)))) fuel (setF (setF σ 12 (s1 + s0)) 15 (((setF σ 12 (s1 + s0)).2 15) - (nI 48)))) else (some (setF σ 12 (s1 + s0)))
def J_X8_nextToken_118 (s0 : Int32) (σ : St) : Option St := if ((setF σ 14 s0).2 11) ≤ ((setF σ 14 s0).2 12) then (J_X8_nextToken_142 (nI 0) ((setF σ 14 s0).2 12) (setF σ 14 s0)) else (J_X8_nextToken_142 (nI 1) ((setF σ 14 s0).2 12) (setF σ 14 s0))
def J_X8_nextToken_113 (σ : St) : Option St := J_X8_nextToken_118 (nI 4) σ
def J_X8_nextToken_34 (s0 : Int32) (σ : St) : Option St := if ((setF σ 15 s0).2 12) = ((setF σ 15 s0).2 11) then (J_X8_nextToken_118 (nI 1) (setF σ 15 s0)) else ((F_X8_in ((setF σ 15 s0).2 15).toInt64 (lN 97) (lN 122) (setF σ 15 s0)).bind fun z1 => if z1.1 = 0 then ((F_X8_in (z1.2.2 15).toInt64 (lN 48) (lN 57) z1.2).bind fun z2 => if z2.1 = 0 then (if (z2.2.2 15) = (nI 44) then (J_X8_nextToken_113 z2.2) else (if (z2.2.2 15) = (nI 59) then (J_X8_nextToken_113 z2.2) else (J_X8_nextToken_118 (nI 0) z2.2))) else (J_X8_nextToken_118 (nI 3) z2.2)) else (J_X8_nextToken_118 (nI 2) z1.2))
def F_X8_nextToken (σ : St) : Option St := if ((setF σ 13 (σ.2 12)).2 11) ≤ ((setF σ 13 (σ.2 12)).2 12) then (J_X8_nextToken_34 (-1000000 : Int32) (setF σ 13 (σ.2 12))) else (if ix ((setF σ 13 (σ.2 12)).2 12) 120 then J_X8_nextToken_34 ((setF σ 13 (σ.2 12)).1 33 ((setF σ 13 (σ.2 12)).2 12).toNatClampNeg) (setF σ 13 (σ.2 12)) else none)
set_option maxRecDepth 20000 in
theorem j_X8_nextToken_239 {G : Gx} {X : Cx} (F : Fx G X cX8_nextToken 1 RX8 1) {o : St} (R : Ret G X cX8_nextToken 1 none none o) {K165 : St → Option St} (hK165 : ∀ (σ : St), Sim G X 1 o (K165 σ) σ 165 [(0, .ref (ga G 25))] []) (s0 : Int32) (σ : St) : Sim G X 1 o (J_X8_nextToken_239 K165 s0 σ) σ 239 [(0, .ref (ga G 25))] [.int s0, .ref (ga G 25)] := by
  unfold J_X8_nextToken_239
  refine fp_X8_91 F dX8_nextToken_239 ?_
  refine s_aload_n F 0 dX8_nextToken_242 rfl rfl ?_
  refine s_dup F dX8_nextToken_243 rfl ?_
  refine fg_X8_87 F dX8_nextToken_244 ?_
  refine s_iconst F (nI 1) dX8_nextToken_247 rfl ?_
  refine s_iadd F dX8_nextToken_248 ?_
  refine fp_X8_87 F dX8_nextToken_249 ?_
  refine s_goto F 165 dX8_nextToken_252 (by decide) ?_
  exact hK165 _
set_option maxRecDepth 20000 in
theorem l_X8_nextToken_165 {G : Gx} {X : Cx} (F : Fx G X cX8_nextToken 1 RX8 1) {o : St} (R : Ret G X cX8_nextToken 1 none none o) {K : St → Option St} (hK : ∀ (σ : St), Sim G X 1 o (K σ) σ 255 [(0, .ref (ga G 25))] []) : ∀ (n : Nat) (σ : St), Sim G X 1 o (L_X8_nextToken_165 K n σ) σ 165 [(0, .ref (ga G 25))] [] := by
  intro n
  induction n with
  | zero =>
    intro σ
    exact s_none
  | succ n ih =>
    intro σ
    rw [L_X8_nextToken_165.eq_2]
    refine s_aload_n F 0 dX8_nextToken_165 rfl rfl ?_
    refine fg_X8_87 F dX8_nextToken_166 ?_
    refine s_aload_n F 0 dX8_nextToken_169 rfl rfl ?_
    refine fg_X8_74 F dX8_nextToken_170 ?_
    refine s_icmp_ge F 255 dX8_nextToken_173 (by decide) (fun c8 => ?_) (fun c8 => ?_)
    · exact hK _
    · refine s_aload_n F 0 dX8_nextToken_176 rfl rfl ?_
      refine fg_X8_31 F dX8_nextToken_177 ?_
      refine s_aload_n F 0 dX8_nextToken_180 rfl rfl ?_
      refine fg_X8_87 F dX8_nextToken_181 ?_
      refine s_iald F ar_33 dX8_nextToken_184 (fun q3 => ?_)
      refine s_i2l F dX8_nextToken_185 ?_
      refine s_ldc2 F dX8_nextToken_186 m_4_84 ?_
      refine s_ldc2 F dX8_nextToken_189 m_4_85 ?_
      refine s_Si F [.long (σ.1 33 (σ.2 12).toNatClampNeg).toInt64, .long (lN 48), .long (lN 57)] dX8_nextToken_192 (fun z hz => c_X8_in hz) wS_X8_57 nk_X8_in (by decide) (by decide) rfl rfl (Nat.le_of_ble_eq_true rfl) (fun z4 => ?_)
      refine s_if_eq F 255 dX8_nextToken_195 (by decide) (fun c7 => ?_) (fun c7 => ?_)
      · exact hK _
      · refine s_aload_n F 0 dX8_nextToken_198 rfl rfl ?_
        refine s_aload_n F 0 dX8_nextToken_199 rfl rfl ?_
        refine fg_X8_87 F dX8_nextToken_200 ?_
        refine s_aload_n F 0 dX8_nextToken_203 rfl rfl ?_
        refine fg_X8_81 F dX8_nextToken_204 ?_
        refine s_isub F dX8_nextToken_207 ?_
        refine s_iconst F (nI 2) dX8_nextToken_208 rfl ?_
        refine s_icmp_ge F 235 dX8_nextToken_209 (by decide) (fun c6 => ?_) (fun c6 => ?_)
        · refine s_aload_n F 0 dX8_nextToken_235 rfl rfl ?_
          refine fg_X8_91 F dX8_nextToken_236 ?_
          exact j_X8_nextToken_239 F R (by
                intro σ
                exact ih _) _ _
        · refine s_bipush F (nI 10) dX8_nextToken_212 rfl ?_
          refine s_aload_n F 0 dX8_nextToken_214 rfl rfl ?_
          refine fg_X8_91 F dX8_nextToken_215 ?_
          refine s_imul F dX8_nextToken_218 ?_
          refine s_aload_n F 0 dX8_nextToken_219 rfl rfl ?_
          refine fg_X8_31 F dX8_nextToken_220 ?_
          refine s_aload_n F 0 dX8_nextToken_223 rfl rfl ?_
          refine fg_X8_87 F dX8_nextToken_224 ?_
          refine s_iald F ar_33 dX8_nextToken_227 (fun q5 => ?_)
          refine s_iadd F dX8_nextToken_228 ?_
          refine s_bipush F (nI 48) dX8_nextToken_229 rfl ?_
          refine s_isub F dX8_nextToken_231 ?_
          refine s_goto F 239 dX8_nextToken_232 (by decide) ?_
          exact j_X8_nextToken_239 F R (by
                intro σ
                exact ih _) _ _
set_option maxRecDepth 20000 in
theorem j_X8_nextToken_142 {G : Gx} {X : Cx} (F : Fx G X cX8_nextToken 1 RX8 1) {o : St} (R : Ret G X cX8_nextToken 1 none none o) (s0 : Int32) (s1 : Int32) (σ : St) : Sim G X 1 o (J_X8_nextToken_142 s0 s1 σ) σ 142 [(0, .ref (ga G 25))] [.int s0, .int s1, .ref (ga G 25)] := by
  unfold J_X8_nextToken_142
  refine s_iadd F dX8_nextToken_142 ?_
  refine fp_X8_87 F dX8_nextToken_143 ?_
  refine s_aload_n F 0 dX8_nextToken_146 rfl rfl ?_
  refine fg_X8_102 F dX8_nextToken_147 ?_
  refine s_iconst F (nI 3) dX8_nextToken_150 rfl ?_
  refine s_icmp_ne F 277 dX8_nextToken_151 (by decide) (fun c10 => ?_) (fun c10 => ?_)
  · exact s_vret R dX8_nextToken_277
  · refine s_aload_n F 0 dX8_nextToken_154 rfl rfl ?_
    refine s_dup F dX8_nextToken_155 rfl ?_
    refine fg_X8_91 F dX8_nextToken_156 ?_
    refine s_bipush F (nI 48) dX8_nextToken_159 rfl ?_
    refine s_isub F dX8_nextToken_161 ?_
    refine fp_X8_91 F dX8_nextToken_162 ?_
    refine l_X8_nextToken_165 F R (fun σ => ?_) fuel _
    refine s_aload_n F 0 dX8_nextToken_255 rfl rfl ?_
    refine s_aload_n F 0 dX8_nextToken_256 rfl rfl ?_
    refine fg_X8_87 F dX8_nextToken_257 ?_
    refine s_aload_n F 0 dX8_nextToken_260 rfl rfl ?_
    refine fg_X8_81 F dX8_nextToken_261 ?_
    refine s_isub F dX8_nextToken_264 ?_
    refine s_iconst F (nI 2) dX8_nextToken_265 rfl ?_
    refine s_icmp_le F 273 dX8_nextToken_266 (by decide) (fun c9 => ?_) (fun c9 => ?_)
    · refine s_iconst F (nI 3) dX8_nextToken_273 rfl ?_
      refine fp_X8_102 F dX8_nextToken_274 ?_
      exact s_vret R dX8_nextToken_277
    · refine s_iconst F (nI 0) dX8_nextToken_269 rfl ?_
      refine s_goto F 274 dX8_nextToken_270 (by decide) ?_
      refine fp_X8_102 F dX8_nextToken_274 ?_
      exact s_vret R dX8_nextToken_277
set_option maxRecDepth 20000 in
theorem j_X8_nextToken_118 {G : Gx} {X : Cx} (F : Fx G X cX8_nextToken 1 RX8 1) {o : St} (R : Ret G X cX8_nextToken 1 none none o) (s0 : Int32) (σ : St) : Sim G X 1 o (J_X8_nextToken_118 s0 σ) σ 118 [(0, .ref (ga G 25))] [.int s0, .ref (ga G 25)] := by
  unfold J_X8_nextToken_118
  refine fp_X8_102 F dX8_nextToken_118 ?_
  refine s_aload_n F 0 dX8_nextToken_121 rfl rfl ?_
  refine s_dup F dX8_nextToken_122 rfl ?_
  refine fg_X8_87 F dX8_nextToken_123 ?_
  refine s_aload_n F 0 dX8_nextToken_126 rfl rfl ?_
  refine fg_X8_87 F dX8_nextToken_127 ?_
  refine s_aload_n F 0 dX8_nextToken_130 rfl rfl ?_
  refine fg_X8_74 F dX8_nextToken_131 ?_
  refine s_icmp_ge F 141 dX8_nextToken_134 (by decide) (fun c11 => ?_) (fun c11 => ?_)
  · refine s_iconst F (nI 0) dX8_nextToken_141 rfl ?_
    exact j_X8_nextToken_142 F R _ _ _
  · refine s_iconst F (nI 1) dX8_nextToken_137 rfl ?_
    refine s_goto F 142 dX8_nextToken_138 (by decide) ?_
    exact j_X8_nextToken_142 F R _ _ _
set_option maxRecDepth 20000 in
theorem j_X8_nextToken_113 {G : Gx} {X : Cx} (F : Fx G X cX8_nextToken 1 RX8 1) {o : St} (R : Ret G X cX8_nextToken 1 none none o) (σ : St) : Sim G X 1 o (J_X8_nextToken_113 σ) σ 113 [(0, .ref (ga G 25))] [.ref (ga G 25)] := by
  unfold J_X8_nextToken_113
  refine s_iconst F (nI 4) dX8_nextToken_113 rfl ?_
  refine s_goto F 118 dX8_nextToken_114 (by decide) ?_
  exact j_X8_nextToken_118 F R _ _
set_option maxRecDepth 20000 in
theorem j_X8_nextToken_34 {G : Gx} {X : Cx} (F : Fx G X cX8_nextToken 1 RX8 1) {o : St} (R : Ret G X cX8_nextToken 1 none none o) (s0 : Int32) (σ : St) : Sim G X 1 o (J_X8_nextToken_34 s0 σ) σ 34 [(0, .ref (ga G 25))] [.int s0, .ref (ga G 25)] := by
  unfold J_X8_nextToken_34
  refine fp_X8_91 F dX8_nextToken_34 ?_
  refine s_aload_n F 0 dX8_nextToken_37 rfl rfl ?_
  refine s_aload_n F 0 dX8_nextToken_38 rfl rfl ?_
  refine fg_X8_87 F dX8_nextToken_39 ?_
  refine s_aload_n F 0 dX8_nextToken_42 rfl rfl ?_
  refine fg_X8_74 F dX8_nextToken_43 ?_
  refine s_icmp_ne F 53 dX8_nextToken_46 (by decide) (fun c16 => ?_) (fun c16 => ?_)
  · refine s_aload_n F 0 dX8_nextToken_53 rfl rfl ?_
    refine fg_X8_91 F dX8_nextToken_54 ?_
    refine s_i2l F dX8_nextToken_57 ?_
    refine s_ldc2 F dX8_nextToken_58 m_4_82 ?_
    refine s_ldc2 F dX8_nextToken_61 m_4_83 ?_
    refine s_Si F [.long ((setF σ 15 s0).2 15).toInt64, .long (lN 97), .long (lN 122)] dX8_nextToken_64 (fun z hz => c_X8_in hz) wS_X8_57 nk_X8_in (by decide) (by decide) rfl rfl (Nat.le_of_ble_eq_true rfl) (fun z1 => ?_)
    refine s_if_eq F 74 dX8_nextToken_67 (by decide) (fun c15 => ?_) (fun c15 => ?_)
    · refine s_aload_n F 0 dX8_nextToken_74 rfl rfl ?_
      refine fg_X8_91 F dX8_nextToken_75 ?_
      refine s_i2l F dX8_nextToken_78 ?_
      refine s_ldc2 F dX8_nextToken_79 m_4_84 ?_
      refine s_ldc2 F dX8_nextToken_82 m_4_85 ?_
      refine s_Si F [.long (z1.2.2 15).toInt64, .long (lN 48), .long (lN 57)] dX8_nextToken_85 (fun z hz => c_X8_in hz) wS_X8_57 nk_X8_in (by decide) (by decide) rfl rfl (Nat.le_of_ble_eq_true rfl) (fun z2 => ?_)
      refine s_if_eq F 95 dX8_nextToken_88 (by decide) (fun c14 => ?_) (fun c14 => ?_)
      · refine s_aload_n F 0 dX8_nextToken_95 rfl rfl ?_
        refine fg_X8_91 F dX8_nextToken_96 ?_
        refine s_bipush F (nI 44) dX8_nextToken_99 rfl ?_
        refine s_icmp_eq F 113 dX8_nextToken_101 (by decide) (fun c13 => ?_) (fun c13 => ?_)
        · exact j_X8_nextToken_113 F R _
        · refine s_aload_n F 0 dX8_nextToken_104 rfl rfl ?_
          refine fg_X8_91 F dX8_nextToken_105 ?_
          refine s_bipush F (nI 59) dX8_nextToken_108 rfl ?_
          refine s_icmp_ne F 117 dX8_nextToken_110 (by decide) (fun c12 => ?_) (fun c12 => ?_)
          · refine s_iconst F (nI 0) dX8_nextToken_117 rfl ?_
            exact j_X8_nextToken_118 F R _ _
          · exact j_X8_nextToken_113 F R _
      · refine s_iconst F (nI 3) dX8_nextToken_91 rfl ?_
        refine s_goto F 118 dX8_nextToken_92 (by decide) ?_
        exact j_X8_nextToken_118 F R _ _
    · refine s_iconst F (nI 2) dX8_nextToken_70 rfl ?_
      refine s_goto F 118 dX8_nextToken_71 (by decide) ?_
      exact j_X8_nextToken_118 F R _ _
  · refine s_iconst F (nI 1) dX8_nextToken_49 rfl ?_
    refine s_goto F 118 dX8_nextToken_50 (by decide) ?_
    exact j_X8_nextToken_118 F R _ _
set_option maxRecDepth 20000 in
theorem c_X8_nextToken {G : Gx} {l : Launch} {σ : St} {o : St} (hF : F_X8_nextToken σ = some o) : Con G l yX8_nextToken cX8_nextToken 1 none 1 [.ref (ga G 25)] σ none o := by
  refine Con.of plX8 (Nat.le_of_ble_eq_true rfl) [(0, .ref (ga G 25))] rfl (fun X F R => ?_)
  refine (show Sim G X 1 o (F_X8_nextToken σ) σ 0 [(0, .ref (ga G 25))] [] from ?_) hF
  unfold F_X8_nextToken
  refine s_aload_n F 0 dX8_nextToken_0 rfl rfl ?_
  refine s_aload_n F 0 dX8_nextToken_1 rfl rfl ?_
  refine fg_X8_87 F dX8_nextToken_2 ?_
  refine fp_X8_81 F dX8_nextToken_5 ?_
  refine s_aload_n F 0 dX8_nextToken_8 rfl rfl ?_
  refine s_aload_n F 0 dX8_nextToken_9 rfl rfl ?_
  refine fg_X8_87 F dX8_nextToken_10 ?_
  refine s_aload_n F 0 dX8_nextToken_13 rfl rfl ?_
  refine fg_X8_74 F dX8_nextToken_14 ?_
  refine s_icmp_ge F 32 dX8_nextToken_17 (by decide) (fun c18 => ?_) (fun c18 => ?_)
  · refine s_ldc F dX8_nextToken_32 m_4_81 ?_
    exact j_X8_nextToken_34 F R _ _
  · refine s_aload_n F 0 dX8_nextToken_20 rfl rfl ?_
    refine fg_X8_31 F dX8_nextToken_21 ?_
    refine s_aload_n F 0 dX8_nextToken_24 rfl rfl ?_
    refine fg_X8_87 F dX8_nextToken_25 ?_
    refine s_iald F ar_33 dX8_nextToken_28 (fun q17 => ?_)
    refine s_goto F 34 dX8_nextToken_29 (by decide) ?_
    exact j_X8_nextToken_34 F R _ _
/-! X8_must -/
def J_X8_must_9 (σ : St) : Option St := if (σ.2 16) = 0 then ((F_X8_nextToken σ).bind fun z1 => some z1) else (some σ)
def F_X8_must (a1 : Int32) (σ : St) : Option St := if a1 = 0 then ((F_X8_bad (nI 1) σ).bind fun z3 => J_X8_must_9 z3) else (J_X8_must_9 σ)
set_option maxRecDepth 20000 in
theorem j_X8_must_9 {G : Gx} {X : Cx} (F : Fx G X cX8_must 2 RX8 2) {o : St} (R : Ret G X cX8_must 2 none none o) (σ : St) : Sim G X 2 o (J_X8_must_9 σ) σ 9 [(0, .ref (ga G 25))] [] := by
  unfold J_X8_must_9
  refine s_aload_n F 0 dX8_must_9 rfl rfl ?_
  refine fg_X8_78 F dX8_must_10 ?_
  refine s_if_ne F 20 dX8_must_13 (by decide) (fun c2 => ?_) (fun c2 => ?_)
  · exact s_vret R dX8_must_20
  · refine s_aload_n F 0 dX8_must_16 rfl rfl ?_
    refine s_Vv F [] dX8_must_17 (fun z hz => c_X8_nextToken hz) wV_X8_109 nk_X8_nextToken (by decide) (by decide) ob_25 vc_7 rfl rfl (Nat.le_of_ble_eq_true rfl) (fun z1 => ?_)
    exact s_vret R dX8_must_20
set_option maxRecDepth 20000 in
theorem c_X8_must {G : Gx} {l : Launch} {a1 : Int32} {σ : St} {o : St} (hF : F_X8_must a1 σ = some o) : Con G l yX8_must cX8_must 2 none 2 [.ref (ga G 25), .int a1] σ none o := by
  refine Con.of plX8 (Nat.le_of_ble_eq_true rfl) [(0, .ref (ga G 25)), (1, .int a1)] rfl (fun X F R => ?_)
  refine (show Sim G X 2 o (F_X8_must a1 σ) σ 0 [(0, .ref (ga G 25)), (1, .int a1)] [] from ?_) hF
  unfold F_X8_must
  refine s_iload_n F 1 dX8_must_0 rfl rfl ?_
  refine s_if_ne F 9 dX8_must_1 (by decide) (fun c4 => ?_) (fun c4 => ?_)
  · refine s_lv [(0, .ref (ga G 25))] [0] rfl ?_
    exact j_X8_must_9 F R _
  · refine s_aload_n F 0 dX8_must_4 rfl rfl ?_
    refine s_iconst F (nI 1) dX8_must_5 rfl ?_
    refine s_Vv F [.int (nI 1)] dX8_must_6 (fun z hz => c_X8_bad hz) wV_X8_105 nk_X8_bad (by decide) (by decide) ob_25 vc_7 rfl rfl (Nat.le_of_ble_eq_true rfl) (fun z3 => ?_)
    refine s_lv [(0, .ref (ga G 25))] [0] rfl ?_
    exact j_X8_must_9 F R _
/-! X8_isLetter -/
def F_X8_isLetter (a1 : Int32) (σ : St) : Option (Int32 × St) := if (σ.2 16) = 0 then (if (σ.2 14) = (nI 2) then (if (σ.2 15) = a1 then (some ((nI 1), σ)) else (some ((nI 0), σ))) else (some ((nI 0), σ))) else (some ((nI 0), σ))
set_option maxRecDepth 20000 in
theorem c_X8_isLetter {G : Gx} {l : Launch} {a1 : Int32} {σ : St} {o : (Int32 × St)} (hF : F_X8_isLetter a1 σ = some o) : Con G l yX8_isLetter cX8_isLetter 2 (some .boolean) 0 [.ref (ga G 25), .int a1] σ (some (.int o.1)) o.2 := by
  refine Con.of plX8 (Nat.le_of_ble_eq_true rfl) [(0, .ref (ga G 25)), (1, .int a1)] rfl (fun X F R => ?_)
  refine (show Sim G X 2 o (F_X8_isLetter a1 σ) σ 0 [(0, .ref (ga G 25)), (1, .int a1)] [] from ?_) hF
  unfold F_X8_isLetter
  refine s_aload_n F 0 dX8_isLetter_0 rfl rfl ?_
  refine fg_X8_78 F dX8_isLetter_1 ?_
  refine s_if_ne F 27 dX8_isLetter_4 (by decide) (fun c3 => ?_) (fun c3 => ?_)
  · refine s_iconst F (nI 0) dX8_isLetter_27 rfl ?_
    exact s_zret R dX8_isLetter_28 rfl
  · refine s_aload_n F 0 dX8_isLetter_7 rfl rfl ?_
    refine fg_X8_102 F dX8_isLetter_8 ?_
    refine s_iconst F (nI 2) dX8_isLetter_11 rfl ?_
    refine s_icmp_ne F 27 dX8_isLetter_12 (by decide) (fun c2 => ?_) (fun c2 => ?_)
    · refine s_iconst F (nI 0) dX8_isLetter_27 rfl ?_
      exact s_zret R dX8_isLetter_28 rfl
    · refine s_aload_n F 0 dX8_isLetter_15 rfl rfl ?_
      refine fg_X8_91 F dX8_isLetter_16 ?_
      refine s_iload_n F 1 dX8_isLetter_19 rfl rfl ?_
      refine s_icmp_ne F 27 dX8_isLetter_20 (by decide) (fun c1 => ?_) (fun c1 => ?_)
      · refine s_iconst F (nI 0) dX8_isLetter_27 rfl ?_
        exact s_zret R dX8_isLetter_28 rfl
      · refine s_iconst F (nI 1) dX8_isLetter_23 rfl ?_
        refine s_goto F 28 dX8_isLetter_24 (by decide) ?_
        exact s_zret R dX8_isLetter_28 rfl
/-! X8_number -/
def J_X8_number_62 (s0 : Int32) (σ : St) : Option (Int32 × St) := (F_X8_must (nI 1) σ).bind fun z1 => some (s0, z1)
def J_X8_number_47 (a1 : Int32) (σ : St) : Option (Int32 × St) := if (σ.2 16) = 0 then (J_X8_number_62 (σ.2 15) σ) else (J_X8_number_62 a1 σ)
def J_X8_number_20 (a1 : Int32) (a2 : Int32) (σ : St) : Option (Int32 × St) := if (σ.2 16) = 0 then ((F_X8_in (σ.2 15).toInt64 a1.toInt64 a2.toInt64 σ).bind fun z3 => if z3.1 = 0 then ((F_X8_bad (nI 2) z3.2).bind fun z4 => J_X8_number_47 a1 z4) else (J_X8_number_47 a1 z3.2)) else (J_X8_number_47 a1 σ)
def F_X8_number (a1 : Int32) (a2 : Int32) (σ : St) : Option (Int32 × St) := if (σ.2 16) = 0 then (if (σ.2 14) = (nI 3) then (J_X8_number_20 a1 a2 σ) else ((F_X8_bad (nI 1) σ).bind fun z7 => J_X8_number_20 a1 a2 z7)) else (J_X8_number_20 a1 a2 σ)
set_option maxRecDepth 20000 in
theorem j_X8_number_62 {G : Gx} {X : Cx} (F : Fx G X cX8_number 4 RX8 3) {o : (Int32 × St)} (R : Ret G X cX8_number 4 (some .int) (some (.int o.1)) o.2) (s0 : Int32) (σ : St) : Sim G X 4 o (J_X8_number_62 s0 σ) σ 62 [(0, .ref (ga G 25))] [.int s0] := by
  unfold J_X8_number_62
  refine s_istore_n F [(3, .int s0), (0, .ref (ga G 25))] dX8_number_62 rfl (by decide) rfl ?_
  refine s_aload_n F 1 dX8_number_63 rfl rfl ?_
  refine s_iconst F (nI 1) dX8_number_64 rfl ?_
  refine s_Vv F [.int (nI 1)] dX8_number_65 (fun z hz => c_X8_must hz) wV_X8_112 nk_X8_must (by decide) (by decide) ob_25 vc_7 rfl rfl (Nat.le_of_ble_eq_true rfl) (fun z1 => ?_)
  refine s_iload_n F 0 dX8_number_68 rfl rfl ?_
  exact s_iret R dX8_number_69
set_option maxRecDepth 20000 in
theorem j_X8_number_47 {G : Gx} {X : Cx} (F : Fx G X cX8_number 4 RX8 3) {o : (Int32 × St)} (R : Ret G X cX8_number 4 (some .int) (some (.int o.1)) o.2) (a1 : Int32) (σ : St) : Sim G X 4 o (J_X8_number_47 a1 σ) σ 47 [(0, .ref (ga G 25)), (1, .int a1)] [] := by
  unfold J_X8_number_47
  refine s_aload_n F 0 dX8_number_47 rfl rfl ?_
  refine fg_X8_78 F dX8_number_48 ?_
  refine s_if_ne F 61 dX8_number_51 (by decide) (fun c2 => ?_) (fun c2 => ?_)
  · refine s_iload_n F 1 dX8_number_61 rfl rfl ?_
    refine s_lv [(0, .ref (ga G 25))] [0] rfl ?_
    exact j_X8_number_62 F R _ _
  · refine s_aload_n F 0 dX8_number_54 rfl rfl ?_
    refine fg_X8_91 F dX8_number_55 ?_
    refine s_goto F 62 dX8_number_58 (by decide) ?_
    refine s_lv [(0, .ref (ga G 25))] [0] rfl ?_
    exact j_X8_number_62 F R _ _
set_option maxRecDepth 20000 in
theorem j_X8_number_20 {G : Gx} {X : Cx} (F : Fx G X cX8_number 4 RX8 3) {o : (Int32 × St)} (R : Ret G X cX8_number 4 (some .int) (some (.int o.1)) o.2) (a1 : Int32) (a2 : Int32) (σ : St) : Sim G X 4 o (J_X8_number_20 a1 a2 σ) σ 20 [(0, .ref (ga G 25)), (1, .int a1), (2, .int a2)] [] := by
  unfold J_X8_number_20
  refine s_aload_n F 0 dX8_number_20 rfl rfl ?_
  refine fg_X8_78 F dX8_number_21 ?_
  refine s_if_ne F 47 dX8_number_24 (by decide) (fun c6 => ?_) (fun c6 => ?_)
  · refine s_lv [(0, .ref (ga G 25)), (1, .int a1)] [0, 1] rfl ?_
    exact j_X8_number_47 F R _ _
  · refine s_aload_n F 0 dX8_number_27 rfl rfl ?_
    refine fg_X8_91 F dX8_number_28 ?_
    refine s_i2l F dX8_number_31 ?_
    refine s_iload_n F 1 dX8_number_32 rfl rfl ?_
    refine s_i2l F dX8_number_33 ?_
    refine s_iload_n F 2 dX8_number_34 rfl rfl ?_
    refine s_i2l F dX8_number_35 ?_
    refine s_Si F [.long (σ.2 15).toInt64, .long a1.toInt64, .long a2.toInt64] dX8_number_36 (fun z hz => c_X8_in hz) wS_X8_57 nk_X8_in (by decide) (by decide) rfl rfl (Nat.le_of_ble_eq_true rfl) (fun z3 => ?_)
    refine s_if_ne F 47 dX8_number_39 (by decide) (fun c5 => ?_) (fun c5 => ?_)
    · refine s_lv [(0, .ref (ga G 25)), (1, .int a1)] [0, 1] rfl ?_
      exact j_X8_number_47 F R _ _
    · refine s_aload_n F 0 dX8_number_42 rfl rfl ?_
      refine s_iconst F (nI 2) dX8_number_43 rfl ?_
      refine s_Vv F [.int (nI 2)] dX8_number_44 (fun z hz => c_X8_bad hz) wV_X8_105 nk_X8_bad (by decide) (by decide) ob_25 vc_7 rfl rfl (Nat.le_of_ble_eq_true rfl) (fun z4 => ?_)
      refine s_lv [(0, .ref (ga G 25)), (1, .int a1)] [0, 1] rfl ?_
      exact j_X8_number_47 F R _ _
set_option maxRecDepth 20000 in
theorem c_X8_number {G : Gx} {l : Launch} {a1 : Int32} {a2 : Int32} {σ : St} {o : (Int32 × St)} (hF : F_X8_number a1 a2 σ = some o) : Con G l yX8_number cX8_number 4 (some .int) 3 [.ref (ga G 25), .int a1, .int a2] σ (some (.int o.1)) o.2 := by
  refine Con.of plX8 (Nat.le_of_ble_eq_true rfl) [(0, .ref (ga G 25)), (1, .int a1), (2, .int a2)] rfl (fun X F R => ?_)
  refine (show Sim G X 4 o (F_X8_number a1 a2 σ) σ 0 [(0, .ref (ga G 25)), (1, .int a1), (2, .int a2)] [] from ?_) hF
  unfold F_X8_number
  refine s_aload_n F 0 dX8_number_0 rfl rfl ?_
  refine fg_X8_78 F dX8_number_1 ?_
  refine s_if_ne F 20 dX8_number_4 (by decide) (fun c9 => ?_) (fun c9 => ?_)
  · exact j_X8_number_20 F R _ _ _
  · refine s_aload_n F 0 dX8_number_7 rfl rfl ?_
    refine fg_X8_102 F dX8_number_8 ?_
    refine s_iconst F (nI 3) dX8_number_11 rfl ?_
    refine s_icmp_eq F 20 dX8_number_12 (by decide) (fun c8 => ?_) (fun c8 => ?_)
    · exact j_X8_number_20 F R _ _ _
    · refine s_aload_n F 0 dX8_number_15 rfl rfl ?_
      refine s_iconst F (nI 1) dX8_number_16 rfl ?_
      refine s_Vv F [.int (nI 1)] dX8_number_17 (fun z hz => c_X8_bad hz) wV_X8_105 nk_X8_bad (by decide) (by decide) ob_25 vc_7 rfl rfl (Nat.le_of_ble_eq_true rfl) (fun z7 => ?_)
      exact j_X8_number_20 F R _ _ _
/-! X8_mustSign -/
def J_X8_mustSign_22 (s0 : Int32) (σ : St) : Option St := (F_X8_must s0 σ).bind fun z1 => some z1
def J_X8_mustSign_21 (σ : St) : Option St := J_X8_mustSign_22 (nI 0) σ
def F_X8_mustSign (a1 : Int32) (σ : St) : Option St := if (σ.2 14) = (nI 4) then (if (σ.2 15) = a1 then (J_X8_mustSign_22 (nI 1) σ) else (J_X8_mustSign_21 σ)) else (J_X8_mustSign_21 σ)
set_option maxRecDepth 20000 in
theorem j_X8_mustSign_22 {G : Gx} {X : Cx} (F : Fx G X cX8_mustSign 2 RX8 3) {o : St} (R : Ret G X cX8_mustSign 2 none none o) (s0 : Int32) (σ : St) : Sim G X 2 o (J_X8_mustSign_22 s0 σ) σ 22 [] [.int s0, .ref (ga G 25)] := by
  unfold J_X8_mustSign_22
  refine s_Vv F [.int s0] dX8_mustSign_22 (fun z hz => c_X8_must hz) wV_X8_112 nk_X8_must (by decide) (by decide) ob_25 vc_7 rfl rfl (Nat.le_of_ble_eq_true rfl) (fun z1 => ?_)
  exact s_vret R dX8_mustSign_25
set_option maxRecDepth 20000 in
theorem j_X8_mustSign_21 {G : Gx} {X : Cx} (F : Fx G X cX8_mustSign 2 RX8 3) {o : St} (R : Ret G X cX8_mustSign 2 none none o) (σ : St) : Sim G X 2 o (J_X8_mustSign_21 σ) σ 21 [] [.ref (ga G 25)] := by
  unfold J_X8_mustSign_21
  refine s_iconst F (nI 0) dX8_mustSign_21 rfl ?_
  exact j_X8_mustSign_22 F R _ _
set_option maxRecDepth 20000 in
theorem c_X8_mustSign {G : Gx} {l : Launch} {a1 : Int32} {σ : St} {o : St} (hF : F_X8_mustSign a1 σ = some o) : Con G l yX8_mustSign cX8_mustSign 2 none 3 [.ref (ga G 25), .int a1] σ none o := by
  refine Con.of plX8 (Nat.le_of_ble_eq_true rfl) [(0, .ref (ga G 25)), (1, .int a1)] rfl (fun X F R => ?_)
  refine (show Sim G X 2 o (F_X8_mustSign a1 σ) σ 0 [(0, .ref (ga G 25)), (1, .int a1)] [] from ?_) hF
  unfold F_X8_mustSign
  refine s_aload_n F 0 dX8_mustSign_0 rfl rfl ?_
  refine s_aload_n F 0 dX8_mustSign_1 rfl rfl ?_
  refine fg_X8_102 F dX8_mustSign_2 ?_
  refine s_iconst F (nI 4) dX8_mustSign_5 rfl ?_
  refine s_icmp_ne F 21 dX8_mustSign_6 (by decide) (fun c3 => ?_) (fun c3 => ?_)
  · refine s_lv [] [] rfl ?_
    exact j_X8_mustSign_21 F R _
  · refine s_aload_n F 0 dX8_mustSign_9 rfl rfl ?_
    refine fg_X8_91 F dX8_mustSign_10 ?_
    refine s_iload_n F 1 dX8_mustSign_13 rfl rfl ?_
    refine s_icmp_ne F 21 dX8_mustSign_14 (by decide) (fun c2 => ?_) (fun c2 => ?_)
    · refine s_lv [] [] rfl ?_
      exact j_X8_mustSign_21 F R _
    · refine s_iconst F (nI 1) dX8_mustSign_17 rfl ?_
      refine s_goto F 22 dX8_mustSign_18 (by decide) ?_
      refine s_lv [] [] rfl ?_
      exact j_X8_mustSign_22 F R _ _
/-! X8_begin -/
def F_X8_begin (σ : St) : Option St := (F_X8_nextToken (setF (setF σ 12 (nI 0)) 16 (nI 0))).bind fun z1 => some z1
set_option maxRecDepth 20000 in
theorem c_X8_begin {G : Gx} {l : Launch} {σ : St} {o : St} (hF : F_X8_begin σ = some o) : Con G l yX8_begin cX8_begin 1 none 2 [.ref (ga G 25)] σ none o := by
  refine Con.of plX8 (Nat.le_of_ble_eq_true rfl) [(0, .ref (ga G 25))] rfl (fun X F R => ?_)
  refine (show Sim G X 1 o (F_X8_begin σ) σ 0 [(0, .ref (ga G 25))] [] from ?_) hF
  unfold F_X8_begin
  refine s_aload_n F 0 dX8_begin_0 rfl rfl ?_
  refine s_iconst F (nI 0) dX8_begin_1 rfl ?_
  refine fp_X8_87 F dX8_begin_2 ?_
  refine s_aload_n F 0 dX8_begin_5 rfl rfl ?_
  refine s_iconst F (nI 0) dX8_begin_6 rfl ?_
  refine fp_X8_78 F dX8_begin_7 ?_
  refine s_aload_n F 0 dX8_begin_10 rfl rfl ?_
  refine s_Vv F [] dX8_begin_11 (fun z hz => c_X8_nextToken hz) wV_X8_109 nk_X8_nextToken (by decide) (by decide) ob_25 vc_7 rfl rfl (Nat.le_of_ble_eq_true rfl) (fun z1 => ?_)
  exact s_vret R dX8_begin_14
/-! X8_failed -/
def J_X8_failed_44 (s0 : Int32) (σ : St) : Option (Int32 × St) := if ((setF σ 18 s0).2 16) ≤ 0 then (some ((nI 0), setF σ 18 s0)) else (some ((nI 1), setF σ 18 s0))
def J_X8_failed_20 (σ : St) : Option (Int32 × St) := if ((setF σ 11 (nI 0)).2 16) ≤ 0 then (J_X8_failed_44 ((setF σ 11 (nI 0)).2 18) (setF σ 11 (nI 0))) else (J_X8_failed_44 ((setF σ 11 (nI 0)).2 16) (setF σ 11 (nI 0)))
def F_X8_failed (σ : St) : Option (Int32 × St) := if (σ.2 16) = 0 then (if (σ.2 14) = (nI 1) then (J_X8_failed_20 σ) else ((F_X8_bad (nI 1) σ).bind fun z3 => J_X8_failed_20 z3)) else (J_X8_failed_20 σ)
set_option maxRecDepth 20000 in
theorem j_X8_failed_44 {G : Gx} {X : Cx} (F : Fx G X cX8_failed 1 RX8 1) {o : (Int32 × St)} (R : Ret G X cX8_failed 1 (some .boolean) (some (.int o.1)) o.2) (s0 : Int32) (σ : St) : Sim G X 1 o (J_X8_failed_44 s0 σ) σ 44 [(0, .ref (ga G 25))] [.int s0, .ref (ga G 25)] := by
  unfold J_X8_failed_44
  refine fp_X8_116 F dX8_failed_44 ?_
  refine s_aload_n F 0 dX8_failed_47 rfl rfl ?_
  refine fg_X8_78 F dX8_failed_48 ?_
  refine s_if_le F 58 dX8_failed_51 (by decide) (fun c1 => ?_) (fun c1 => ?_)
  · refine s_iconst F (nI 0) dX8_failed_58 rfl ?_
    exact s_zret R dX8_failed_59 rfl
  · refine s_iconst F (nI 1) dX8_failed_54 rfl ?_
    refine s_goto F 59 dX8_failed_55 (by decide) ?_
    exact s_zret R dX8_failed_59 rfl
set_option maxRecDepth 20000 in
theorem j_X8_failed_20 {G : Gx} {X : Cx} (F : Fx G X cX8_failed 1 RX8 1) {o : (Int32 × St)} (R : Ret G X cX8_failed 1 (some .boolean) (some (.int o.1)) o.2) (σ : St) : Sim G X 1 o (J_X8_failed_20 σ) σ 20 [(0, .ref (ga G 25))] [] := by
  unfold J_X8_failed_20
  refine s_aload_n F 0 dX8_failed_20 rfl rfl ?_
  refine s_iconst F (nI 0) dX8_failed_21 rfl ?_
  refine fp_X8_74 F dX8_failed_22 ?_
  refine s_aload_n F 0 dX8_failed_25 rfl rfl ?_
  refine s_aload_n F 0 dX8_failed_26 rfl rfl ?_
  refine fg_X8_78 F dX8_failed_27 ?_
  refine s_if_le F 40 dX8_failed_30 (by decide) (fun c2 => ?_) (fun c2 => ?_)
  · refine s_aload_n F 0 dX8_failed_40 rfl rfl ?_
    refine fg_X8_116 F dX8_failed_41 ?_
    exact j_X8_failed_44 F R _ _
  · refine s_aload_n F 0 dX8_failed_33 rfl rfl ?_
    refine fg_X8_78 F dX8_failed_34 ?_
    refine s_goto F 44 dX8_failed_37 (by decide) ?_
    exact j_X8_failed_44 F R _ _
set_option maxRecDepth 20000 in
theorem c_X8_failed {G : Gx} {l : Launch} {σ : St} {o : (Int32 × St)} (hF : F_X8_failed σ = some o) : Con G l yX8_failed cX8_failed 1 (some .boolean) 1 [.ref (ga G 25)] σ (some (.int o.1)) o.2 := by
  refine Con.of plX8 (Nat.le_of_ble_eq_true rfl) [(0, .ref (ga G 25))] rfl (fun X F R => ?_)
  refine (show Sim G X 1 o (F_X8_failed σ) σ 0 [(0, .ref (ga G 25))] [] from ?_) hF
  unfold F_X8_failed
  refine s_aload_n F 0 dX8_failed_0 rfl rfl ?_
  refine fg_X8_78 F dX8_failed_1 ?_
  refine s_if_ne F 20 dX8_failed_4 (by decide) (fun c5 => ?_) (fun c5 => ?_)
  · exact j_X8_failed_20 F R _
  · refine s_aload_n F 0 dX8_failed_7 rfl rfl ?_
    refine fg_X8_102 F dX8_failed_8 ?_
    refine s_iconst F (nI 1) dX8_failed_11 rfl ?_
    refine s_icmp_eq F 20 dX8_failed_12 (by decide) (fun c4 => ?_) (fun c4 => ?_)
    · exact j_X8_failed_20 F R _
    · refine s_aload_n F 0 dX8_failed_15 rfl rfl ?_
      refine s_iconst F (nI 1) dX8_failed_16 rfl ?_
      refine s_Vv F [.int (nI 1)] dX8_failed_17 (fun z hz => c_X8_bad hz) wV_X8_105 nk_X8_bad (by decide) (by decide) ob_25 vc_7 rfl rfl (Nat.le_of_ble_eq_true rfl) (fun z3 => ?_)
      exact j_X8_failed_20 F R _
/-! X8_fault -/
def F_X8_fault (σ : St) : Option (Int32 × St) := some ((setF σ 8 (nI 0)).2 18, setF σ 8 (nI 0))
set_option maxRecDepth 20000 in
theorem c_X8_fault {G : Gx} {l : Launch} {σ : St} {o : (Int32 × St)} (hF : F_X8_fault σ = some o) : Con G l yX8_fault cX8_fault 1 (some .int) 0 [.ref (ga G 25)] σ (some (.int o.1)) o.2 := by
  refine Con.of plX8 (Nat.le_of_ble_eq_true rfl) [(0, .ref (ga G 25))] rfl (fun X F R => ?_)
  refine (show Sim G X 1 o (F_X8_fault σ) σ 0 [(0, .ref (ga G 25))] [] from ?_) hF
  unfold F_X8_fault
  refine s_aload_n F 0 dX8_fault_0 rfl rfl ?_
  refine s_iconst F (nI 0) dX8_fault_1 rfl ?_
  refine fp_X8_47 F dX8_fault_2 ?_
  refine s_aload_n F 0 dX8_fault_5 rfl rfl ?_
  refine fg_X8_116 F dX8_fault_6 ?_
  exact s_iret R dX8_fault_9
/-! X8_kindBy -/
def F_X8_kindBy (a0 : Int32) (σ : St) : Option (Int32 × St) := if a0 = (nI 98) then (some ((nI 1), σ)) else (if a0 = (nI 100) then (some ((nI 2), σ)) else (if a0 = (nI 110) then (some ((nI 3), σ)) else (if a0 = (nI 108) then (some ((nI 4), σ)) else (if a0 = (nI 111) then (some ((nI 5), σ)) else (some ((-1000000 : Int32), σ))))))
set_option maxRecDepth 20000 in
theorem c_X8_kindBy {G : Gx} {l : Launch} {a0 : Int32} {σ : St} {o : (Int32 × St)} (hF : F_X8_kindBy a0 σ = some o) : Con G l yX8_kindBy cX8_kindBy 1 (some .int) 0 [.int a0] σ (some (.int o.1)) o.2 := by
  refine Con.of plX8 (Nat.le_of_ble_eq_true rfl) [(0, .int a0)] rfl (fun X F R => ?_)
  refine (show Sim G X 1 o (F_X8_kindBy a0 σ) σ 0 [(0, .int a0)] [] from ?_) hF
  unfold F_X8_kindBy
  refine s_iload_n F 0 dX8_kindBy_0 rfl rfl ?_
  refine s_bipush F (nI 98) dX8_kindBy_1 rfl ?_
  refine s_icmp_ne F 10 dX8_kindBy_3 (by decide) (fun c5 => ?_) (fun c5 => ?_)
  · refine s_iload_n F 0 dX8_kindBy_10 rfl rfl ?_
    refine s_bipush F (nI 100) dX8_kindBy_11 rfl ?_
    refine s_icmp_ne F 20 dX8_kindBy_13 (by decide) (fun c4 => ?_) (fun c4 => ?_)
    · refine s_iload_n F 0 dX8_kindBy_20 rfl rfl ?_
      refine s_bipush F (nI 110) dX8_kindBy_21 rfl ?_
      refine s_icmp_ne F 30 dX8_kindBy_23 (by decide) (fun c3 => ?_) (fun c3 => ?_)
      · refine s_iload_n F 0 dX8_kindBy_30 rfl rfl ?_
        refine s_bipush F (nI 108) dX8_kindBy_31 rfl ?_
        refine s_icmp_ne F 40 dX8_kindBy_33 (by decide) (fun c2 => ?_) (fun c2 => ?_)
        · refine s_iload_n F 0 dX8_kindBy_40 rfl rfl ?_
          refine s_bipush F (nI 111) dX8_kindBy_41 rfl ?_
          refine s_icmp_ne F 50 dX8_kindBy_43 (by decide) (fun c1 => ?_) (fun c1 => ?_)
          · refine s_ldc F dX8_kindBy_50 m_4_81 ?_
            exact s_iret R dX8_kindBy_52
          · refine s_iconst F (nI 5) dX8_kindBy_46 rfl ?_
            refine s_goto F 52 dX8_kindBy_47 (by decide) ?_
            exact s_iret R dX8_kindBy_52
        · refine s_iconst F (nI 4) dX8_kindBy_36 rfl ?_
          refine s_goto F 52 dX8_kindBy_37 (by decide) ?_
          exact s_iret R dX8_kindBy_52
      · refine s_iconst F (nI 3) dX8_kindBy_26 rfl ?_
        refine s_goto F 52 dX8_kindBy_27 (by decide) ?_
        exact s_iret R dX8_kindBy_52
    · refine s_iconst F (nI 2) dX8_kindBy_16 rfl ?_
      refine s_goto F 52 dX8_kindBy_17 (by decide) ?_
      exact s_iret R dX8_kindBy_52
  · refine s_iconst F (nI 1) dX8_kindBy_6 rfl ?_
    refine s_goto F 52 dX8_kindBy_7 (by decide) ?_
    exact s_iret R dX8_kindBy_52
/-! X8_isSort -/
def F_X8_isSort (σ : St) : Option (Int32 × St) := if (σ.2 16) = 0 then (if (σ.2 14) = (nI 2) then ((F_X8_kindBy (σ.2 15) σ).bind fun z1 => if z1.1 = (-1000000 : Int32) then (some ((nI 0), z1.2)) else (some ((nI 1), z1.2))) else (some ((nI 0), σ))) else (some ((nI 0), σ))
set_option maxRecDepth 20000 in
theorem c_X8_isSort {G : Gx} {l : Launch} {σ : St} {o : (Int32 × St)} (hF : F_X8_isSort σ = some o) : Con G l yX8_isSort cX8_isSort 1 (some .boolean) 1 [.ref (ga G 25)] σ (some (.int o.1)) o.2 := by
  refine Con.of plX8 (Nat.le_of_ble_eq_true rfl) [(0, .ref (ga G 25))] rfl (fun X F R => ?_)
  refine (show Sim G X 1 o (F_X8_isSort σ) σ 0 [(0, .ref (ga G 25))] [] from ?_) hF
  unfold F_X8_isSort
  refine s_aload_n F 0 dX8_isSort_0 rfl rfl ?_
  refine fg_X8_78 F dX8_isSort_1 ?_
  refine s_if_ne F 31 dX8_isSort_4 (by decide) (fun c4 => ?_) (fun c4 => ?_)
  · refine s_iconst F (nI 0) dX8_isSort_31 rfl ?_
    exact s_zret R dX8_isSort_32 rfl
  · refine s_aload_n F 0 dX8_isSort_7 rfl rfl ?_
    refine fg_X8_102 F dX8_isSort_8 ?_
    refine s_iconst F (nI 2) dX8_isSort_11 rfl ?_
    refine s_icmp_ne F 31 dX8_isSort_12 (by decide) (fun c3 => ?_) (fun c3 => ?_)
    · refine s_iconst F (nI 0) dX8_isSort_31 rfl ?_
      exact s_zret R dX8_isSort_32 rfl
    · refine s_aload_n F 0 dX8_isSort_15 rfl rfl ?_
      refine fg_X8_91 F dX8_isSort_16 ?_
      refine s_Si F [.int (σ.2 15)] dX8_isSort_19 (fun z hz => c_X8_kindBy hz) wS_X8_119 nk_X8_kindBy (by decide) (by decide) rfl rfl (Nat.le_of_ble_eq_true rfl) (fun z1 => ?_)
      refine s_ldc F dX8_isSort_22 m_4_81 ?_
      refine s_icmp_eq F 31 dX8_isSort_24 (by decide) (fun c2 => ?_) (fun c2 => ?_)
      · refine s_iconst F (nI 0) dX8_isSort_31 rfl ?_
        exact s_zret R dX8_isSort_32 rfl
      · refine s_iconst F (nI 1) dX8_isSort_27 rfl ?_
        refine s_goto F 32 dX8_isSort_28 (by decide) ?_
        exact s_zret R dX8_isSort_32 rfl
/-! X8_readPipe -/
def J_X8_readPipe_77 (a1 : Int32) (a2 : Int32) (σ : St) : Option St := if ix (nI 0) 80 then (F_X8_number (nI 0) ((σ.1 30 (nI 0).toNatClampNeg) - (nI 1)) σ).bind fun z8 => (F_X8_mustSign (nI 44) z8.2).bind fun z9 => (F_X8_number (nI 1) (nI 4) z9).bind fun z10 => (F_X8_mustSign (nI 44) z10.2).bind fun z11 => (F_X8_number (nI 0) (nI 9) z11).bind fun z12 => (F_X8_mustSign (nI 59) z12.2).bind fun z13 => if (z13.2 16) = 0 then (if ix (nI 2) 80 then if ix ((nI 17) + ((nI 9) * (z13.1 30 (nI 2).toNatClampNeg))) 80 then if ix (((nI 17) + ((nI 9) * (z13.1 30 (nI 2).toNatClampNeg))) + (nI 1)) 80 then if ix (((nI 17) + ((nI 9) * (z13.1 30 (nI 2).toNatClampNeg))) + (nI 2)) 80 then if ix (((nI 17) + ((nI 9) * (z13.1 30 (nI 2).toNatClampNeg))) + (nI 3)) 80 then if ix (((nI 17) + ((nI 9) * (z13.1 30 (nI 2).toNatClampNeg))) + (nI 4)) 80 then if ix (nI 4) 80 then if ix (nI 2) 80 then if ix (nI 4) 80 then if ix (nI 2) 80 then if ix (nI 2) 80 then some (setA (setA (setA (setA (setA (setA (setA z13 30 ((nI 17) + ((nI 9) * (z13.1 30 (nI 2).toNatClampNeg))).toNatClampNeg a1) 30 (((nI 17) + ((nI 9) * (z13.1 30 (nI 2).toNatClampNeg))) + (nI 1)).toNatClampNeg a2) 30 (((nI 17) + ((nI 9) * (z13.1 30 (nI 2).toNatClampNeg))) + (nI 2)).toNatClampNeg z8.1) 30 (((nI 17) + ((nI 9) * (z13.1 30 (nI 2).toNatClampNeg))) + (nI 3)).toNatClampNeg z10.1) 30 (((nI 17) + ((nI 9) * (z13.1 30 (nI 2).toNatClampNeg))) + (nI 4)).toNatClampNeg z12.1) 30 (nI 4).toNatClampNeg (((setA (setA (setA (setA (setA z13 30 ((nI 17) + ((nI 9) * (z13.1 30 (nI 2).toNatClampNeg))).toNatClampNeg a1) 30 (((nI 17) + ((nI 9) * (z13.1 30 (nI 2).toNatClampNeg))) + (nI 1)).toNatClampNeg a2) 30 (((nI 17) + ((nI 9) * (z13.1 30 (nI 2).toNatClampNeg))) + (nI 2)).toNatClampNeg z8.1) 30 (((nI 17) + ((nI 9) * (z13.1 30 (nI 2).toNatClampNeg))) + (nI 3)).toNatClampNeg z10.1) 30 (((nI 17) + ((nI 9) * (z13.1 30 (nI 2).toNatClampNeg))) + (nI 4)).toNatClampNeg z12.1).1 30 (nI 4).toNatClampNeg) ||| ((nI 1) <<< (((setA (setA (setA (setA (setA z13 30 ((nI 17) + ((nI 9) * (z13.1 30 (nI 2).toNatClampNeg))).toNatClampNeg a1) 30 (((nI 17) + ((nI 9) * (z13.1 30 (nI 2).toNatClampNeg))) + (nI 1)).toNatClampNeg a2) 30 (((nI 17) + ((nI 9) * (z13.1 30 (nI 2).toNatClampNeg))) + (nI 2)).toNatClampNeg z8.1) 30 (((nI 17) + ((nI 9) * (z13.1 30 (nI 2).toNatClampNeg))) + (nI 3)).toNatClampNeg z10.1) 30 (((nI 17) + ((nI 9) * (z13.1 30 (nI 2).toNatClampNeg))) + (nI 4)).toNatClampNeg z12.1).1 30 (nI 2).toNatClampNeg) &&& 31)))) 30 (nI 2).toNatClampNeg (((setA (setA (setA (setA (setA (setA z13 30 ((nI 17) + ((nI 9) * (z13.1 30 (nI 2).toNatClampNeg))).toNatClampNeg a1) 30 (((nI 17) + ((nI 9) * (z13.1 30 (nI 2).toNatClampNeg))) + (nI 1)).toNatClampNeg a2) 30 (((nI 17) + ((nI 9) * (z13.1 30 (nI 2).toNatClampNeg))) + (nI 2)).toNatClampNeg z8.1) 30 (((nI 17) + ((nI 9) * (z13.1 30 (nI 2).toNatClampNeg))) + (nI 3)).toNatClampNeg z10.1) 30 (((nI 17) + ((nI 9) * (z13.1 30 (nI 2).toNatClampNeg))) + (nI 4)).toNatClampNeg z12.1) 30 (nI 4).toNatClampNeg (((setA (setA (setA (setA (setA z13 30 ((nI 17) + ((nI 9) * (z13.1 30 (nI 2).toNatClampNeg))).toNatClampNeg a1) 30 (((nI 17) + ((nI 9) * (z13.1 30 (nI 2).toNatClampNeg))) + (nI 1)).toNatClampNeg a2) 30 (((nI 17) + ((nI 9) * (z13.1 30 (nI 2).toNatClampNeg))) + (nI 2)).toNatClampNeg z8.1) 30 (((nI 17) + ((nI 9) * (z13.1 30 (nI 2).toNatClampNeg))) + (nI 3)).toNatClampNeg z10.1) 30 (((nI 17) + ((nI 9) * (z13.1 30 (nI 2).toNatClampNeg))) + (nI 4)).toNatClampNeg z12.1).1 30 (nI 4).toNatClampNeg) ||| ((nI 1) <<< (((setA (setA (setA (setA (setA z13 30 ((nI 17) + ((nI 9) * (z13.1 30 (nI 2).toNatClampNeg))).toNatClampNeg a1) 30 (((nI 17) + ((nI 9) * (z13.1 30 (nI 2).toNatClampNeg))) + (nI 1)).toNatClampNeg a2) 30 (((nI 17) + ((nI 9) * (z13.1 30 (nI 2).toNatClampNeg))) + (nI 2)).toNatClampNeg z8.1) 30 (((nI 17) + ((nI 9) * (z13.1 30 (nI 2).toNatClampNeg))) + (nI 3)).toNatClampNeg z10.1) 30 (((nI 17) + ((nI 9) * (z13.1 30 (nI 2).toNatClampNeg))) + (nI 4)).toNatClampNeg z12.1).1 30 (nI 2).toNatClampNeg) &&& 31)))).1 30 (nI 2).toNatClampNeg) + (nI 1))) else none else none else none else none else none else none else none else none else none else none else none) else (some z13) else none
def J_X8_readPipe_24 (a1 : Int32) (σ : St) : Option St := (F_X8_must (nI 1) σ).bind fun z3 => if ix (nI 0) 80 then (F_X8_number (nI 0) ((z3.1 30 (nI 0).toNatClampNeg) - (nI 1)) z3).bind fun z5 => (F_X8_mustSign (nI 44) z5.2).bind fun z6 => if (z6.2 16) = 0 then (if (z6.2 14) = (nI 3) then (if (z6.2 15) = z5.1 then ((F_X8_bad (nI 2) z6).bind fun z26 => J_X8_readPipe_77 a1 z5.1 z26) else (J_X8_readPipe_77 a1 z5.1 z6)) else (J_X8_readPipe_77 a1 z5.1 z6)) else (J_X8_readPipe_77 a1 z5.1 z6) else none
def F_X8_readPipe (σ : St) : Option St := (F_X8_kindBy (σ.2 15) σ).bind fun z1 => if ix (nI 2) 80 then if (z1.2.1 30 (nI 2).toNatClampNeg) = (nI 7) then ((F_X8_bad (nI 3) z1.2).bind fun z30 => J_X8_readPipe_24 z1.1 z30) else (J_X8_readPipe_24 z1.1 z1.2) else none
set_option maxRecDepth 20000 in
theorem j_X8_readPipe_77 {G : Gx} {X : Cx} (F : Fx G X cX8_readPipe 7 RX8 4) {o : St} (R : Ret G X cX8_readPipe 7 none none o) (a1 : Int32) (a2 : Int32) (σ : St) : Sim G X 7 o (J_X8_readPipe_77 a1 a2 σ) σ 77 [(0, .ref (ga G 25)), (1, .int a1), (2, .int a2)] [] := by
  unfold J_X8_readPipe_77
  refine s_aload_n F 0 dX8_readPipe_77 rfl rfl ?_
  refine s_iconst F (nI 0) dX8_readPipe_78 rfl ?_
  refine s_aload_n F 0 dX8_readPipe_79 rfl rfl ?_
  refine fg_X8_22 F dX8_readPipe_80 ?_
  refine s_iconst F (nI 0) dX8_readPipe_83 rfl ?_
  refine s_iald F ar_30 dX8_readPipe_84 (fun q7 => ?_)
  refine s_iconst F (nI 1) dX8_readPipe_85 rfl ?_
  refine s_isub F dX8_readPipe_86 ?_
  refine s_Vi F [.int (nI 0), .int ((σ.1 30 (nI 0).toNatClampNeg) - (nI 1))] dX8_readPipe_87 (fun z hz => c_X8_number hz) wV_X8_122 nk_X8_number (by decide) (by decide) ob_25 vc_7 rfl rfl (Nat.le_of_ble_eq_true rfl) (fun z8 => ?_)
  refine s_istore_n F [(3, .int z8.1), (0, .ref (ga G 25)), (1, .int a1), (2, .int a2)] dX8_readPipe_90 rfl (by decide) rfl ?_
  refine s_aload_n F 1 dX8_readPipe_91 rfl rfl ?_
  refine s_bipush F (nI 44) dX8_readPipe_92 rfl ?_
  refine s_Vv F [.int (nI 44)] dX8_readPipe_94 (fun z hz => c_X8_mustSign hz) wV_X8_126 nk_X8_mustSign (by decide) (by decide) ob_25 vc_7 rfl rfl (Nat.le_of_ble_eq_true rfl) (fun z9 => ?_)
  refine s_aload_n F 1 dX8_readPipe_97 rfl rfl ?_
  refine s_iconst F (nI 1) dX8_readPipe_98 rfl ?_
  refine s_iconst F (nI 4) dX8_readPipe_99 rfl ?_
  refine s_Vi F [.int (nI 1), .int (nI 4)] dX8_readPipe_100 (fun z hz => c_X8_number hz) wV_X8_122 nk_X8_number (by decide) (by decide) ob_25 vc_7 rfl rfl (Nat.le_of_ble_eq_true rfl) (fun z10 => ?_)
  refine s_istore F [(4, .int z10.1), (3, .int z8.1), (0, .ref (ga G 25)), (1, .int a1), (2, .int a2)] dX8_readPipe_103 (by decide) rfl ?_
  refine s_aload_n F 2 dX8_readPipe_105 rfl rfl ?_
  refine s_bipush F (nI 44) dX8_readPipe_106 rfl ?_
  refine s_Vv F [.int (nI 44)] dX8_readPipe_108 (fun z hz => c_X8_mustSign hz) wV_X8_126 nk_X8_mustSign (by decide) (by decide) ob_25 vc_7 rfl rfl (Nat.le_of_ble_eq_true rfl) (fun z11 => ?_)
  refine s_aload_n F 2 dX8_readPipe_111 rfl rfl ?_
  refine s_iconst F (nI 0) dX8_readPipe_112 rfl ?_
  refine s_bipush F (nI 9) dX8_readPipe_113 rfl ?_
  refine s_Vi F [.int (nI 0), .int (nI 9)] dX8_readPipe_115 (fun z hz => c_X8_number hz) wV_X8_122 nk_X8_number (by decide) (by decide) ob_25 vc_7 rfl rfl (Nat.le_of_ble_eq_true rfl) (fun z12 => ?_)
  refine s_istore F [(5, .int z12.1), (4, .int z10.1), (3, .int z8.1), (0, .ref (ga G 25)), (1, .int a1), (2, .int a2)] dX8_readPipe_118 (by decide) rfl ?_
  refine s_aload_n F 3 dX8_readPipe_120 rfl rfl ?_
  refine s_bipush F (nI 59) dX8_readPipe_121 rfl ?_
  refine s_Vv F [.int (nI 59)] dX8_readPipe_123 (fun z hz => c_X8_mustSign hz) wV_X8_126 nk_X8_mustSign (by decide) (by decide) ob_25 vc_7 rfl rfl (Nat.le_of_ble_eq_true rfl) (fun z13 => ?_)
  refine s_aload_n F 3 dX8_readPipe_126 rfl rfl ?_
  refine fg_X8_78 F dX8_readPipe_127 ?_
  refine s_if_ne F 224 dX8_readPipe_130 (by decide) (fun c25 => ?_) (fun c25 => ?_)
  · exact s_vret R dX8_readPipe_224
  · refine s_bipush F (nI 17) dX8_readPipe_133 rfl ?_
    refine s_bipush F (nI 9) dX8_readPipe_135 rfl ?_
    refine s_aload_n F 3 dX8_readPipe_137 rfl rfl ?_
    refine fg_X8_22 F dX8_readPipe_138 ?_
    refine s_iconst F (nI 2) dX8_readPipe_141 rfl ?_
    refine s_iald F ar_30 dX8_readPipe_142 (fun q14 => ?_)
    refine s_imul F dX8_readPipe_143 ?_
    refine s_iadd F dX8_readPipe_144 ?_
    refine s_istore F [(6, .int ((nI 17) + ((nI 9) * (z13.1 30 (nI 2).toNatClampNeg)))), (5, .int z12.1), (4, .int z10.1), (3, .int z8.1), (0, .ref (ga G 25)), (1, .int a1), (2, .int a2)] dX8_readPipe_145 (by decide) rfl ?_
    refine s_aload_n F 4 dX8_readPipe_147 rfl rfl ?_
    refine fg_X8_22 F dX8_readPipe_148 ?_
    refine s_iload F 0 dX8_readPipe_151 rfl ?_
    refine s_iload_n F 5 dX8_readPipe_153 rfl rfl ?_
    refine s_iast F ar_30 dX8_readPipe_154 (fun q15 => ?_)
    refine s_aload_n F 4 dX8_readPipe_155 rfl rfl ?_
    refine fg_X8_22 F dX8_readPipe_156 ?_
    refine s_iload F 0 dX8_readPipe_159 rfl ?_
    refine s_iconst F (nI 1) dX8_readPipe_161 rfl ?_
    refine s_iadd F dX8_readPipe_162 ?_
    refine s_iload_n F 6 dX8_readPipe_163 rfl rfl ?_
    refine s_iast F ar_30 dX8_readPipe_164 (fun q16 => ?_)
    refine s_aload_n F 4 dX8_readPipe_165 rfl rfl ?_
    refine fg_X8_22 F dX8_readPipe_166 ?_
    refine s_iload F 0 dX8_readPipe_169 rfl ?_
    refine s_iconst F (nI 2) dX8_readPipe_171 rfl ?_
    refine s_iadd F dX8_readPipe_172 ?_
    refine s_iload_n F 3 dX8_readPipe_173 rfl rfl ?_
    refine s_iast F ar_30 dX8_readPipe_174 (fun q17 => ?_)
    refine s_aload_n F 4 dX8_readPipe_175 rfl rfl ?_
    refine fg_X8_22 F dX8_readPipe_176 ?_
    refine s_iload F 0 dX8_readPipe_179 rfl ?_
    refine s_iconst F (nI 3) dX8_readPipe_181 rfl ?_
    refine s_iadd F dX8_readPipe_182 ?_
    refine s_iload F 2 dX8_readPipe_183 rfl ?_
    refine s_iast F ar_30 dX8_readPipe_185 (fun q18 => ?_)
    refine s_aload_n F 4 dX8_readPipe_186 rfl rfl ?_
    refine fg_X8_22 F dX8_readPipe_187 ?_
    refine s_iload F 0 dX8_readPipe_190 rfl ?_
    refine s_iconst F (nI 4) dX8_readPipe_192 rfl ?_
    refine s_iadd F dX8_readPipe_193 ?_
    refine s_iload F 1 dX8_readPipe_194 rfl ?_
    refine s_iast F ar_30 dX8_readPipe_196 (fun q19 => ?_)
    refine s_aload_n F 4 dX8_readPipe_197 rfl rfl ?_
    refine fg_X8_22 F dX8_readPipe_198 ?_
    refine s_iconst F (nI 4) dX8_readPipe_201 rfl ?_
    refine s_dup2 F dX8_readPipe_202 rfl rfl ?_
    refine s_iald F ar_30 dX8_readPipe_203 (fun q20 => ?_)
    refine s_iconst F (nI 1) dX8_readPipe_204 rfl ?_
    refine s_aload_n F 4 dX8_readPipe_205 rfl rfl ?_
    refine fg_X8_22 F dX8_readPipe_206 ?_
    refine s_iconst F (nI 2) dX8_readPipe_209 rfl ?_
    refine s_iald F ar_30 dX8_readPipe_210 (fun q21 => ?_)
    refine s_ishl F dX8_readPipe_211 ?_
    refine s_ior F dX8_readPipe_212 ?_
    refine s_iast F ar_30 dX8_readPipe_213 (fun q22 => ?_)
    refine s_aload_n F 4 dX8_readPipe_214 rfl rfl ?_
    refine fg_X8_22 F dX8_readPipe_215 ?_
    refine s_iconst F (nI 2) dX8_readPipe_218 rfl ?_
    refine s_dup2 F dX8_readPipe_219 rfl rfl ?_
    refine s_iald F ar_30 dX8_readPipe_220 (fun q23 => ?_)
    refine s_iconst F (nI 1) dX8_readPipe_221 rfl ?_
    refine s_iadd F dX8_readPipe_222 ?_
    refine s_iast F ar_30 dX8_readPipe_223 (fun q24 => ?_)
    exact s_vret R dX8_readPipe_224
set_option maxRecDepth 20000 in
theorem j_X8_readPipe_24 {G : Gx} {X : Cx} (F : Fx G X cX8_readPipe 7 RX8 4) {o : St} (R : Ret G X cX8_readPipe 7 none none o) (a1 : Int32) (σ : St) : Sim G X 7 o (J_X8_readPipe_24 a1 σ) σ 24 [(0, .ref (ga G 25)), (1, .int a1)] [] := by
  unfold J_X8_readPipe_24
  refine s_aload_n F 0 dX8_readPipe_24 rfl rfl ?_
  refine s_iconst F (nI 1) dX8_readPipe_25 rfl ?_
  refine s_Vv F [.int (nI 1)] dX8_readPipe_26 (fun z hz => c_X8_must hz) wV_X8_112 nk_X8_must (by decide) (by decide) ob_25 vc_7 rfl rfl (Nat.le_of_ble_eq_true rfl) (fun z3 => ?_)
  refine s_aload_n F 0 dX8_readPipe_29 rfl rfl ?_
  refine s_iconst F (nI 0) dX8_readPipe_30 rfl ?_
  refine s_aload_n F 0 dX8_readPipe_31 rfl rfl ?_
  refine fg_X8_22 F dX8_readPipe_32 ?_
  refine s_iconst F (nI 0) dX8_readPipe_35 rfl ?_
  refine s_iald F ar_30 dX8_readPipe_36 (fun q4 => ?_)
  refine s_iconst F (nI 1) dX8_readPipe_37 rfl ?_
  refine s_isub F dX8_readPipe_38 ?_
  refine s_Vi F [.int (nI 0), .int ((z3.1 30 (nI 0).toNatClampNeg) - (nI 1))] dX8_readPipe_39 (fun z hz => c_X8_number hz) wV_X8_122 nk_X8_number (by decide) (by decide) ob_25 vc_7 rfl rfl (Nat.le_of_ble_eq_true rfl) (fun z5 => ?_)
  refine s_istore_n F [(2, .int z5.1), (0, .ref (ga G 25)), (1, .int a1)] dX8_readPipe_42 rfl (by decide) rfl ?_
  refine s_aload_n F 1 dX8_readPipe_43 rfl rfl ?_
  refine s_bipush F (nI 44) dX8_readPipe_44 rfl ?_
  refine s_Vv F [.int (nI 44)] dX8_readPipe_46 (fun z hz => c_X8_mustSign hz) wV_X8_126 nk_X8_mustSign (by decide) (by decide) ob_25 vc_7 rfl rfl (Nat.le_of_ble_eq_true rfl) (fun z6 => ?_)
  refine s_aload_n F 1 dX8_readPipe_49 rfl rfl ?_
  refine fg_X8_78 F dX8_readPipe_50 ?_
  refine s_if_ne F 77 dX8_readPipe_53 (by decide) (fun c29 => ?_) (fun c29 => ?_)
  · refine s_lv [(0, .ref (ga G 25)), (1, .int a1), (2, .int z5.1)] [1, 2, 0] rfl ?_
    exact j_X8_readPipe_77 F R _ _ _
  · refine s_aload_n F 1 dX8_readPipe_56 rfl rfl ?_
    refine fg_X8_102 F dX8_readPipe_57 ?_
    refine s_iconst F (nI 3) dX8_readPipe_60 rfl ?_
    refine s_icmp_ne F 77 dX8_readPipe_61 (by decide) (fun c28 => ?_) (fun c28 => ?_)
    · refine s_lv [(0, .ref (ga G 25)), (1, .int a1), (2, .int z5.1)] [1, 2, 0] rfl ?_
      exact j_X8_readPipe_77 F R _ _ _
    · refine s_aload_n F 1 dX8_readPipe_64 rfl rfl ?_
      refine fg_X8_91 F dX8_readPipe_65 ?_
      refine s_iload_n F 0 dX8_readPipe_68 rfl rfl ?_
      refine s_icmp_ne F 77 dX8_readPipe_69 (by decide) (fun c27 => ?_) (fun c27 => ?_)
      · refine s_lv [(0, .ref (ga G 25)), (1, .int a1), (2, .int z5.1)] [1, 2, 0] rfl ?_
        exact j_X8_readPipe_77 F R _ _ _
      · refine s_aload_n F 1 dX8_readPipe_72 rfl rfl ?_
        refine s_iconst F (nI 2) dX8_readPipe_73 rfl ?_
        refine s_Vv F [.int (nI 2)] dX8_readPipe_74 (fun z hz => c_X8_bad hz) wV_X8_105 nk_X8_bad (by decide) (by decide) ob_25 vc_7 rfl rfl (Nat.le_of_ble_eq_true rfl) (fun z26 => ?_)
        refine s_lv [(0, .ref (ga G 25)), (1, .int a1), (2, .int z5.1)] [1, 2, 0] rfl ?_
        exact j_X8_readPipe_77 F R _ _ _
set_option maxRecDepth 20000 in
theorem c_X8_readPipe {G : Gx} {l : Launch} {σ : St} {o : St} (hF : F_X8_readPipe σ = some o) : Con G l yX8_readPipe cX8_readPipe 7 none 4 [.ref (ga G 25)] σ none o := by
  refine Con.of plX8 (Nat.le_of_ble_eq_true rfl) [(0, .ref (ga G 25))] rfl (fun X F R => ?_)
  refine (show Sim G X 7 o (F_X8_readPipe σ) σ 0 [(0, .ref (ga G 25))] [] from ?_) hF
  unfold F_X8_readPipe
  refine s_aload_n F 0 dX8_readPipe_0 rfl rfl ?_
  refine fg_X8_91 F dX8_readPipe_1 ?_
  refine s_Si F [.int (σ.2 15)] dX8_readPipe_4 (fun z hz => c_X8_kindBy hz) wS_X8_119 nk_X8_kindBy (by decide) (by decide) rfl rfl (Nat.le_of_ble_eq_true rfl) (fun z1 => ?_)
  refine s_istore_n F [(1, .int z1.1), (0, .ref (ga G 25))] dX8_readPipe_7 rfl (by decide) rfl ?_
  refine s_aload_n F 1 dX8_readPipe_8 rfl rfl ?_
  refine fg_X8_22 F dX8_readPipe_9 ?_
  refine s_iconst F (nI 2) dX8_readPipe_12 rfl ?_
  refine s_iald F ar_30 dX8_readPipe_13 (fun q2 => ?_)
  refine s_bipush F (nI 7) dX8_readPipe_14 rfl ?_
  refine s_icmp_ne F 24 dX8_readPipe_16 (by decide) (fun c31 => ?_) (fun c31 => ?_)
  · refine s_lv [(0, .ref (ga G 25)), (1, .int z1.1)] [1, 0] rfl ?_
    exact j_X8_readPipe_24 F R _ _
  · refine s_aload_n F 1 dX8_readPipe_19 rfl rfl ?_
    refine s_iconst F (nI 3) dX8_readPipe_20 rfl ?_
    refine s_Vv F [.int (nI 3)] dX8_readPipe_21 (fun z hz => c_X8_bad hz) wV_X8_105 nk_X8_bad (by decide) (by decide) ob_25 vc_7 rfl rfl (Nat.le_of_ble_eq_true rfl) (fun z30 => ?_)
    refine s_lv [(0, .ref (ga G 25)), (1, .int z1.1)] [1, 0] rfl ?_
    exact j_X8_readPipe_24 F R _ _
/-! X8_house -/
def L_X8_house_11 (K : St → Option (Int32 × St)) : Nat → Int32 → St → Option (Int32 × St)
  | 0, _, _ => none
  | n + 1, a1, σ => if (nI 80) ≤ a1 then (K σ) else (if ix a1 80 then L_X8_house_11 K n (a1 + (nI 1)) (setA σ 30 a1.toNatClampNeg (nI 0)) else none)
def L_X8_house_90 (K : St → Option (Int32 × St)) : Nat → St → Option (Int32 × St)
  | 0, _ => none
  | n + 1, σ => (F_X8_isSort σ).bind fun z13 => if z13.1 = 0 then (K z13.2) else ((F_X8_readPipe z13.2).bind fun z14 => L_X8_house_90 K n z14)
def L_X8_house_126 (K : St → Option (Int32 × St)) : Nat → Int32 → St → Option (Int32 × St)
  | 0, _, _ => none
  | n + 1, a1, σ => if (nI 80) ≤ a1 then (K σ) else (if ix a1 80 then if ix a1 80 then L_X8_house_126 K n (a1 + (nI 1)) (setA σ 29 a1.toNatClampNeg (σ.1 30 a1.toNatClampNeg)) else none else none)
def F_X8_house (σ : St) : Option (Int32 × St) := (F_X8_begin (setF σ 8 (nI 0))).bind fun z1 => L_X8_house_11 (fun σ => (F_X8_isLetter (nI 109) σ).bind fun z4 => (F_X8_must z4.1 z4.2).bind fun z5 => (F_X8_number (nI 2) (nI 6) z5).bind fun z6 => if ix (nI 0) 80 then (F_X8_mustSign (nI 44) (setA z6.2 30 (nI 0).toNatClampNeg z6.1)).bind fun z8 => (F_X8_number (nI 0) (nI 9) z8).bind fun z9 => if ix (nI 1) 80 then (F_X8_mustSign (nI 59) (setA z9.2 30 (nI 1).toNatClampNeg z9.1)).bind fun z11 => (F_X8_isSort z11).bind fun z12 => if z12.1 = 0 then ((F_X8_bad (nI 1) z12.2).bind fun z22 => L_X8_house_90 (fun σ => (F_X8_failed σ).bind fun z23 => if z23.1 = 0 then (L_X8_house_126 (fun σ => if ix (nI 2) 80 then some (σ.1 29 (nI 2).toNatClampNeg, σ) else none) fuel (nI 0) (setF z23.2 10 (nI 0))) else (some ((-1000100 : Int32) - (z23.2.2 17), z23.2))) fuel z22) else (L_X8_house_90 (fun σ => (F_X8_failed σ).bind fun z16 => if z16.1 = 0 then (L_X8_house_126 (fun σ => if ix (nI 2) 80 then some (σ.1 29 (nI 2).toNatClampNeg, σ) else none) fuel (nI 0) (setF z16.2 10 (nI 0))) else (some ((-1000100 : Int32) - (z16.2.2 17), z16.2))) fuel z12.2) else none else none) fuel (nI 0) z1
set_option maxRecDepth 20000 in
theorem l_X8_house_11 {G : Gx} {X : Cx} (F : Fx G X cX8_house 2 RX8 5) {o : (Int32 × St)} (R : Ret G X cX8_house 2 (some .int) (some (.int o.1)) o.2) {K : St → Option (Int32 × St)} (hK : ∀ (σ : St), Sim G X 2 o (K σ) σ 30 [(0, .ref (ga G 25))] []) : ∀ (n : Nat) (a1 : Int32) (σ : St), Sim G X 2 o (L_X8_house_11 K n a1 σ) σ 11 [(0, .ref (ga G 25)), (1, .int a1)] [] := by
  intro n
  induction n with
  | zero =>
    intro a1 σ
    exact s_none
  | succ n ih =>
    intro a1 σ
    rw [L_X8_house_11.eq_2]
    refine s_iload_n F 1 dX8_house_11 rfl rfl ?_
    refine s_bipush F (nI 80) dX8_house_12 rfl ?_
    refine s_icmp_ge F 30 dX8_house_14 (by decide) (fun c3 => ?_) (fun c3 => ?_)
    · refine s_lv [(0, .ref (ga G 25))] [0] rfl ?_
      exact hK _
    · refine s_aload_n F 0 dX8_house_17 rfl rfl ?_
      refine fg_X8_22 F dX8_house_18 ?_
      refine s_iload_n F 1 dX8_house_21 rfl rfl ?_
      refine s_iconst F (nI 0) dX8_house_22 rfl ?_
      refine s_iast F ar_30 dX8_house_23 (fun q2 => ?_)
      refine s_iinc F 1 [(1, .int (a1 + (nI 1))), (0, .ref (ga G 25))] dX8_house_24 rfl rfl (by decide) rfl ?_
      refine s_goto F 11 dX8_house_27 (by decide) ?_
      refine s_lv [(0, .ref (ga G 25)), (1, .int (a1 + (nI 1)))] [1, 0] rfl ?_
      exact ih _ _
set_option maxRecDepth 20000 in
theorem l_X8_house_90 {G : Gx} {X : Cx} (F : Fx G X cX8_house 2 RX8 5) {o : (Int32 × St)} (R : Ret G X cX8_house 2 (some .int) (some (.int o.1)) o.2) {K : St → Option (Int32 × St)} (hK : ∀ (σ : St), Sim G X 2 o (K σ) σ 104 [(0, .ref (ga G 25))] []) : ∀ (n : Nat) (σ : St), Sim G X 2 o (L_X8_house_90 K n σ) σ 90 [(0, .ref (ga G 25))] [] := by
  intro n
  induction n with
  | zero =>
    intro σ
    exact s_none
  | succ n ih =>
    intro σ
    rw [L_X8_house_90.eq_2]
    refine s_aload_n F 0 dX8_house_90 rfl rfl ?_
    refine s_Vi F [] dX8_house_91 (fun z hz => c_X8_isSort hz) wV_X8_135 nk_X8_isSort (by decide) (by decide) ob_25 vc_7 rfl rfl (Nat.le_of_ble_eq_true rfl) (fun z13 => ?_)
    refine s_if_eq F 104 dX8_house_94 (by decide) (fun c15 => ?_) (fun c15 => ?_)
    · exact hK _
    · refine s_aload_n F 0 dX8_house_97 rfl rfl ?_
      refine s_Vv F [] dX8_house_98 (fun z hz => c_X8_readPipe hz) wV_X8_139 nk_X8_readPipe (by decide) (by decide) ob_25 vc_7 rfl rfl (Nat.le_of_ble_eq_true rfl) (fun z14 => ?_)
      refine s_goto F 90 dX8_house_101 (by decide) ?_
      exact ih _
set_option maxRecDepth 20000 in
theorem l_X8_house_126 {G : Gx} {X : Cx} (F : Fx G X cX8_house 2 RX8 5) {o : (Int32 × St)} (R : Ret G X cX8_house 2 (some .int) (some (.int o.1)) o.2) {K : St → Option (Int32 × St)} (hK : ∀ (σ : St), Sim G X 2 o (K σ) σ 150 [(0, .ref (ga G 25))] []) : ∀ (n : Nat) (a1 : Int32) (σ : St), Sim G X 2 o (L_X8_house_126 K n a1 σ) σ 126 [(0, .ref (ga G 25)), (1, .int a1)] [] := by
  intro n
  induction n with
  | zero =>
    intro a1 σ
    exact s_none
  | succ n ih =>
    intro a1 σ
    rw [L_X8_house_126.eq_2]
    refine s_iload_n F 1 dX8_house_126 rfl rfl ?_
    refine s_bipush F (nI 80) dX8_house_127 rfl ?_
    refine s_icmp_ge F 150 dX8_house_129 (by decide) (fun c19 => ?_) (fun c19 => ?_)
    · refine s_lv [(0, .ref (ga G 25))] [0] rfl ?_
      exact hK _
    · refine s_aload_n F 0 dX8_house_132 rfl rfl ?_
      refine fg_X8_19 F dX8_house_133 ?_
      refine s_iload_n F 1 dX8_house_136 rfl rfl ?_
      refine s_aload_n F 0 dX8_house_137 rfl rfl ?_
      refine fg_X8_22 F dX8_house_138 ?_
      refine s_iload_n F 1 dX8_house_141 rfl rfl ?_
      refine s_iald F ar_30 dX8_house_142 (fun q17 => ?_)
      refine s_iast F ar_29 dX8_house_143 (fun q18 => ?_)
      refine s_iinc F 1 [(1, .int (a1 + (nI 1))), (0, .ref (ga G 25))] dX8_house_144 rfl rfl (by decide) rfl ?_
      refine s_goto F 126 dX8_house_147 (by decide) ?_
      refine s_lv [(0, .ref (ga G 25)), (1, .int (a1 + (nI 1)))] [1, 0] rfl ?_
      exact ih _ _
set_option maxRecDepth 20000 in
theorem c_X8_house {G : Gx} {l : Launch} {σ : St} {o : (Int32 × St)} (hF : F_X8_house σ = some o) : Con G l yX8_house cX8_house 2 (some .int) 5 [.ref (ga G 25)] σ (some (.int o.1)) o.2 := by
  refine Con.of plX8 (Nat.le_of_ble_eq_true rfl) [(0, .ref (ga G 25))] rfl (fun X F R => ?_)
  refine (show Sim G X 2 o (F_X8_house σ) σ 0 [(0, .ref (ga G 25))] [] from ?_) hF
  unfold F_X8_house
  refine s_aload_n F 0 dX8_house_0 rfl rfl ?_
  refine s_iconst F (nI 0) dX8_house_1 rfl ?_
  refine fp_X8_47 F dX8_house_2 ?_
  refine s_aload_n F 0 dX8_house_5 rfl rfl ?_
  refine s_Vv F [] dX8_house_6 (fun z hz => c_X8_begin hz) wV_X8_129 nk_X8_begin (by decide) (by decide) ob_25 vc_7 rfl rfl (Nat.le_of_ble_eq_true rfl) (fun z1 => ?_)
  refine s_iconst F (nI 0) dX8_house_9 rfl ?_
  refine s_istore_n F [(1, .int (nI 0)), (0, .ref (ga G 25))] dX8_house_10 rfl (by decide) rfl ?_
  refine s_lv [(0, .ref (ga G 25)), (1, .int (nI 0))] [1, 0] rfl ?_
  refine l_X8_house_11 F R (fun σ => ?_) fuel _ _
  refine s_aload_n F 0 dX8_house_30 rfl rfl ?_
  refine s_aload_n F 0 dX8_house_31 rfl rfl ?_
  refine s_bipush F (nI 109) dX8_house_32 rfl ?_
  refine s_Vi F [.int (nI 109)] dX8_house_34 (fun z hz => c_X8_isLetter hz) wV_X8_132 nk_X8_isLetter (by decide) (by decide) ob_25 vc_7 rfl rfl (Nat.le_of_ble_eq_true rfl) (fun z4 => ?_)
  refine s_Vv F [.int z4.1] dX8_house_37 (fun z hz => c_X8_must hz) wV_X8_112 nk_X8_must (by decide) (by decide) ob_25 vc_7 rfl rfl (Nat.le_of_ble_eq_true rfl) (fun z5 => ?_)
  refine s_aload_n F 0 dX8_house_40 rfl rfl ?_
  refine fg_X8_22 F dX8_house_41 ?_
  refine s_iconst F (nI 0) dX8_house_44 rfl ?_
  refine s_aload_n F 0 dX8_house_45 rfl rfl ?_
  refine s_iconst F (nI 2) dX8_house_46 rfl ?_
  refine s_bipush F (nI 6) dX8_house_47 rfl ?_
  refine s_Vi F [.int (nI 2), .int (nI 6)] dX8_house_49 (fun z hz => c_X8_number hz) wV_X8_122 nk_X8_number (by decide) (by decide) ob_25 vc_7 rfl rfl (Nat.le_of_ble_eq_true rfl) (fun z6 => ?_)
  refine s_iast F ar_30 dX8_house_52 (fun q7 => ?_)
  refine s_aload_n F 0 dX8_house_53 rfl rfl ?_
  refine s_bipush F (nI 44) dX8_house_54 rfl ?_
  refine s_Vv F [.int (nI 44)] dX8_house_56 (fun z hz => c_X8_mustSign hz) wV_X8_126 nk_X8_mustSign (by decide) (by decide) ob_25 vc_7 rfl rfl (Nat.le_of_ble_eq_true rfl) (fun z8 => ?_)
  refine s_aload_n F 0 dX8_house_59 rfl rfl ?_
  refine fg_X8_22 F dX8_house_60 ?_
  refine s_iconst F (nI 1) dX8_house_63 rfl ?_
  refine s_aload_n F 0 dX8_house_64 rfl rfl ?_
  refine s_iconst F (nI 0) dX8_house_65 rfl ?_
  refine s_bipush F (nI 9) dX8_house_66 rfl ?_
  refine s_Vi F [.int (nI 0), .int (nI 9)] dX8_house_68 (fun z hz => c_X8_number hz) wV_X8_122 nk_X8_number (by decide) (by decide) ob_25 vc_7 rfl rfl (Nat.le_of_ble_eq_true rfl) (fun z9 => ?_)
  refine s_iast F ar_30 dX8_house_71 (fun q10 => ?_)
  refine s_aload_n F 0 dX8_house_72 rfl rfl ?_
  refine s_bipush F (nI 59) dX8_house_73 rfl ?_
  refine s_Vv F [.int (nI 59)] dX8_house_75 (fun z hz => c_X8_mustSign hz) wV_X8_126 nk_X8_mustSign (by decide) (by decide) ob_25 vc_7 rfl rfl (Nat.le_of_ble_eq_true rfl) (fun z11 => ?_)
  refine s_aload_n F 0 dX8_house_78 rfl rfl ?_
  refine s_Vi F [] dX8_house_79 (fun z hz => c_X8_isSort hz) wV_X8_135 nk_X8_isSort (by decide) (by decide) ob_25 vc_7 rfl rfl (Nat.le_of_ble_eq_true rfl) (fun z12 => ?_)
  refine s_if_ne F 90 dX8_house_82 (by decide) (fun c26 => ?_) (fun c26 => ?_)
  · refine l_X8_house_90 F R (fun σ => ?_) fuel _
    refine s_aload_n F 0 dX8_house_104 rfl rfl ?_
    refine s_Vi F [] dX8_house_105 (fun z hz => c_X8_failed hz) wV_X8_142 nk_X8_failed (by decide) (by decide) ob_25 vc_7 rfl rfl (Nat.le_of_ble_eq_true rfl) (fun z16 => ?_)
    refine s_if_eq F 119 dX8_house_108 (by decide) (fun c21 => ?_) (fun c21 => ?_)
    · refine s_aload_n F 0 dX8_house_119 rfl rfl ?_
      refine s_iconst F (nI 0) dX8_house_120 rfl ?_
      refine fp_X8_146 F dX8_house_121 ?_
      refine s_iconst F (nI 0) dX8_house_124 rfl ?_
      refine s_istore_n F [(1, .int (nI 0)), (0, .ref (ga G 25))] dX8_house_125 rfl (by decide) rfl ?_
      refine s_lv [(0, .ref (ga G 25)), (1, .int (nI 0))] [1, 0] rfl ?_
      refine l_X8_house_126 F R (fun σ => ?_) fuel _ _
      refine s_aload_n F 0 dX8_house_150 rfl rfl ?_
      refine fg_X8_19 F dX8_house_151 ?_
      refine s_iconst F (nI 2) dX8_house_154 rfl ?_
      refine s_iald F ar_29 dX8_house_155 (fun q20 => ?_)
      exact s_iret R dX8_house_156
    · refine s_ldc F dX8_house_111 m_4_121 ?_
      refine s_aload_n F 0 dX8_house_113 rfl rfl ?_
      refine fg_X8_84 F dX8_house_114 ?_
      refine s_isub F dX8_house_117 ?_
      exact s_iret R dX8_house_118
  · refine s_aload_n F 0 dX8_house_85 rfl rfl ?_
    refine s_iconst F (nI 1) dX8_house_86 rfl ?_
    refine s_Vv F [.int (nI 1)] dX8_house_87 (fun z hz => c_X8_bad hz) wV_X8_105 nk_X8_bad (by decide) (by decide) ob_25 vc_7 rfl rfl (Nat.le_of_ble_eq_true rfl) (fun z22 => ?_)
    refine l_X8_house_90 F R (fun σ => ?_) fuel _
    refine s_aload_n F 0 dX8_house_104 rfl rfl ?_
    refine s_Vi F [] dX8_house_105 (fun z hz => c_X8_failed hz) wV_X8_142 nk_X8_failed (by decide) (by decide) ob_25 vc_7 rfl rfl (Nat.le_of_ble_eq_true rfl) (fun z23 => ?_)
    refine s_if_eq F 119 dX8_house_108 (by decide) (fun c25 => ?_) (fun c25 => ?_)
    · refine s_aload_n F 0 dX8_house_119 rfl rfl ?_
      refine s_iconst F (nI 0) dX8_house_120 rfl ?_
      refine fp_X8_146 F dX8_house_121 ?_
      refine s_iconst F (nI 0) dX8_house_124 rfl ?_
      refine s_istore_n F [(1, .int (nI 0)), (0, .ref (ga G 25))] dX8_house_125 rfl (by decide) rfl ?_
      refine s_lv [(0, .ref (ga G 25)), (1, .int (nI 0))] [1, 0] rfl ?_
      refine l_X8_house_126 F R (fun σ => ?_) fuel _ _
      refine s_aload_n F 0 dX8_house_150 rfl rfl ?_
      refine fg_X8_19 F dX8_house_151 ?_
      refine s_iconst F (nI 2) dX8_house_154 rfl ?_
      refine s_iald F ar_29 dX8_house_155 (fun q24 => ?_)
      exact s_iret R dX8_house_156
    · refine s_ldc F dX8_house_111 m_4_121 ?_
      refine s_aload_n F 0 dX8_house_113 rfl rfl ?_
      refine fg_X8_84 F dX8_house_114 ?_
      refine s_isub F dX8_house_117 ?_
      exact s_iret R dX8_house_118
/-! X8_isThere -/
def F_X8_isThere (σ : St) : Option (Int32 × St) := if ix (nI 0) 80 then if (σ.1 29 (nI 0).toNatClampNeg) ≤ 0 then (some ((nI 0), σ)) else (some ((nI 1), σ)) else none
set_option maxRecDepth 20000 in
theorem c_X8_isThere {G : Gx} {l : Launch} {σ : St} {o : (Int32 × St)} (hF : F_X8_isThere σ = some o) : Con G l yX8_isThere cX8_isThere 1 (some .boolean) 0 [.ref (ga G 25)] σ (some (.int o.1)) o.2 := by
  refine Con.of plX8 (Nat.le_of_ble_eq_true rfl) [(0, .ref (ga G 25))] rfl (fun X F R => ?_)
  refine (show Sim G X 1 o (F_X8_isThere σ) σ 0 [(0, .ref (ga G 25))] [] from ?_) hF
  unfold F_X8_isThere
  refine s_aload_n F 0 dX8_isThere_0 rfl rfl ?_
  refine fg_X8_19 F dX8_isThere_1 ?_
  refine s_iconst F (nI 0) dX8_isThere_4 rfl ?_
  refine s_iald F ar_29 dX8_isThere_5 (fun q1 => ?_)
  refine s_if_le F 13 dX8_isThere_6 (by decide) (fun c2 => ?_) (fun c2 => ?_)
  · refine s_iconst F (nI 0) dX8_isThere_13 rfl ?_
    exact s_zret R dX8_isThere_14 rfl
  · refine s_iconst F (nI 1) dX8_isThere_9 rfl ?_
    refine s_goto F 14 dX8_isThere_10 (by decide) ?_
    exact s_zret R dX8_isThere_14 rfl
/-! X8_isPipe -/
def F_X8_isPipe (a1 : Int32) (σ : St) : Option (Int32 × St) := if ix (nI 2) 80 then (F_X8_in a1.toInt64 (lN 0) ((σ.1 29 (nI 2).toNatClampNeg) - (nI 1)).toInt64 σ).bind fun z2 => if (z2.1 = 0 ∨ z2.1 = 1) then some (z2.1, z2.2) else none else none
set_option maxRecDepth 20000 in
theorem c_X8_isPipe {G : Gx} {l : Launch} {a1 : Int32} {σ : St} {o : (Int32 × St)} (hF : F_X8_isPipe a1 σ = some o) : Con G l yX8_isPipe cX8_isPipe 2 (some .boolean) 1 [.ref (ga G 25), .int a1] σ (some (.int o.1)) o.2 := by
  refine Con.of plX8 (Nat.le_of_ble_eq_true rfl) [(0, .ref (ga G 25)), (1, .int a1)] rfl (fun X F R => ?_)
  refine (show Sim G X 2 o (F_X8_isPipe a1 σ) σ 0 [(0, .ref (ga G 25)), (1, .int a1)] [] from ?_) hF
  unfold F_X8_isPipe
  refine s_iload_n F 1 dX8_isPipe_0 rfl rfl ?_
  refine s_i2l F dX8_isPipe_1 ?_
  refine s_lconst F (lN 0) dX8_isPipe_2 rfl ?_
  refine s_aload_n F 0 dX8_isPipe_3 rfl rfl ?_
  refine fg_X8_19 F dX8_isPipe_4 ?_
  refine s_iconst F (nI 2) dX8_isPipe_7 rfl ?_
  refine s_iald F ar_29 dX8_isPipe_8 (fun q1 => ?_)
  refine s_iconst F (nI 1) dX8_isPipe_9 rfl ?_
  refine s_isub F dX8_isPipe_10 ?_
  refine s_i2l F dX8_isPipe_11 ?_
  refine s_Si F [.long a1.toInt64, .long (lN 0), .long ((σ.1 29 (nI 2).toNatClampNeg) - (nI 1)).toInt64] dX8_isPipe_12 (fun z hz => c_X8_in hz) wS_X8_57 nk_X8_in (by decide) (by decide) rfl rfl (Nat.le_of_ble_eq_true rfl) (fun z2 => ?_)
  exact s_zretg R dX8_isPipe_15
/-! X8_isHorn -/
def F_X8_isHorn (a1 : Int32) (σ : St) : Option (Int32 × St) := if ix (nI 0) 80 then (F_X8_in a1.toInt64 (lN 0) ((σ.1 29 (nI 0).toNatClampNeg) - (nI 1)).toInt64 σ).bind fun z2 => if (z2.1 = 0 ∨ z2.1 = 1) then some (z2.1, z2.2) else none else none
set_option maxRecDepth 20000 in
theorem c_X8_isHorn {G : Gx} {l : Launch} {a1 : Int32} {σ : St} {o : (Int32 × St)} (hF : F_X8_isHorn a1 σ = some o) : Con G l yX8_isHorn cX8_isHorn 2 (some .boolean) 1 [.ref (ga G 25), .int a1] σ (some (.int o.1)) o.2 := by
  refine Con.of plX8 (Nat.le_of_ble_eq_true rfl) [(0, .ref (ga G 25)), (1, .int a1)] rfl (fun X F R => ?_)
  refine (show Sim G X 2 o (F_X8_isHorn a1 σ) σ 0 [(0, .ref (ga G 25)), (1, .int a1)] [] from ?_) hF
  unfold F_X8_isHorn
  refine s_iload_n F 1 dX8_isHorn_0 rfl rfl ?_
  refine s_i2l F dX8_isHorn_1 ?_
  refine s_lconst F (lN 0) dX8_isHorn_2 rfl ?_
  refine s_aload_n F 0 dX8_isHorn_3 rfl rfl ?_
  refine fg_X8_19 F dX8_isHorn_4 ?_
  refine s_iconst F (nI 0) dX8_isHorn_7 rfl ?_
  refine s_iald F ar_29 dX8_isHorn_8 (fun q1 => ?_)
  refine s_iconst F (nI 1) dX8_isHorn_9 rfl ?_
  refine s_isub F dX8_isHorn_10 ?_
  refine s_i2l F dX8_isHorn_11 ?_
  refine s_Si F [.long a1.toInt64, .long (lN 0), .long ((σ.1 29 (nI 0).toNatClampNeg) - (nI 1)).toInt64] dX8_isHorn_12 (fun z hz => c_X8_in hz) wS_X8_57 nk_X8_in (by decide) (by decide) rfl rfl (Nat.le_of_ble_eq_true rfl) (fun z2 => ?_)
  exact s_zretg R dX8_isHorn_15
/-! X8_areHorns -/
def F_X8_areHorns (a1 : Int32) (σ : St) : Option (Int32 × St) := if ix (nI 0) 80 then (F_X8_in a1.toInt64 (lN 0) (((nI 1) <<< ((σ.1 29 (nI 0).toNatClampNeg) &&& 31)) - (nI 1)).toInt64 σ).bind fun z2 => if (z2.1 = 0 ∨ z2.1 = 1) then some (z2.1, z2.2) else none else none
set_option maxRecDepth 20000 in
theorem c_X8_areHorns {G : Gx} {l : Launch} {a1 : Int32} {σ : St} {o : (Int32 × St)} (hF : F_X8_areHorns a1 σ = some o) : Con G l yX8_areHorns cX8_areHorns 2 (some .boolean) 1 [.ref (ga G 25), .int a1] σ (some (.int o.1)) o.2 := by
  refine Con.of plX8 (Nat.le_of_ble_eq_true rfl) [(0, .ref (ga G 25)), (1, .int a1)] rfl (fun X F R => ?_)
  refine (show Sim G X 2 o (F_X8_areHorns a1 σ) σ 0 [(0, .ref (ga G 25)), (1, .int a1)] [] from ?_) hF
  unfold F_X8_areHorns
  refine s_iload_n F 1 dX8_areHorns_0 rfl rfl ?_
  refine s_i2l F dX8_areHorns_1 ?_
  refine s_lconst F (lN 0) dX8_areHorns_2 rfl ?_
  refine s_iconst F (nI 1) dX8_areHorns_3 rfl ?_
  refine s_aload_n F 0 dX8_areHorns_4 rfl rfl ?_
  refine fg_X8_19 F dX8_areHorns_5 ?_
  refine s_iconst F (nI 0) dX8_areHorns_8 rfl ?_
  refine s_iald F ar_29 dX8_areHorns_9 (fun q1 => ?_)
  refine s_ishl F dX8_areHorns_10 ?_
  refine s_iconst F (nI 1) dX8_areHorns_11 rfl ?_
  refine s_isub F dX8_areHorns_12 ?_
  refine s_i2l F dX8_areHorns_13 ?_
  refine s_Si F [.long a1.toInt64, .long (lN 0), .long (((nI 1) <<< ((σ.1 29 (nI 0).toNatClampNeg) &&& 31)) - (nI 1)).toInt64] dX8_areHorns_14 (fun z hz => c_X8_in hz) wS_X8_57 nk_X8_in (by decide) (by decide) rfl rfl (Nat.le_of_ble_eq_true rfl) (fun z2 => ?_)
  exact s_zretg R dX8_areHorns_17
/-! X8_bits -/
def L_X8_bits_4 (K : Int32 → St → Option (Int32 × St)) : Nat → Int32 → Int32 → Int32 → St → Option (Int32 × St)
  | 0, _, _, _, _ => none
  | n + 1, a0, a1, a2, σ => if (nI 7) ≤ a2 then (K a1 σ) else (L_X8_bits_4 K n a0 (a1 + ((a0 >>> (a2 &&& 31)) &&& (nI 1))) (a2 + (nI 1)) σ)
def F_X8_bits (a0 : Int32) (σ : St) : Option (Int32 × St) := L_X8_bits_4 (fun a1 σ => some (a1, σ)) fuel a0 (nI 0) (nI 0) σ
set_option maxRecDepth 20000 in
theorem l_X8_bits_4 {G : Gx} {X : Cx} (F : Fx G X cX8_bits 3 RX8 0) {o : (Int32 × St)} (R : Ret G X cX8_bits 3 (some .int) (some (.int o.1)) o.2) {K : Int32 → St → Option (Int32 × St)} (hK : ∀ (a1 : Int32) (σ : St), Sim G X 3 o (K a1 σ) σ 24 [(1, .int a1)] []) : ∀ (n : Nat) (a0 : Int32) (a1 : Int32) (a2 : Int32) (σ : St), Sim G X 3 o (L_X8_bits_4 K n a0 a1 a2 σ) σ 4 [(0, .int a0), (1, .int a1), (2, .int a2)] [] := by
  intro n
  induction n with
  | zero =>
    intro a0 a1 a2 σ
    exact s_none
  | succ n ih =>
    intro a0 a1 a2 σ
    rw [L_X8_bits_4.eq_2]
    refine s_iload_n F 2 dX8_bits_4 rfl rfl ?_
    refine s_bipush F (nI 7) dX8_bits_5 rfl ?_
    refine s_icmp_ge F 24 dX8_bits_7 (by decide) (fun c1 => ?_) (fun c1 => ?_)
    · refine s_lv [(1, .int a1)] [1] rfl ?_
      exact hK _ _
    · refine s_iload_n F 1 dX8_bits_10 rfl rfl ?_
      refine s_iload_n F 0 dX8_bits_11 rfl rfl ?_
      refine s_iload_n F 2 dX8_bits_12 rfl rfl ?_
      refine s_ishr F dX8_bits_13 ?_
      refine s_iconst F (nI 1) dX8_bits_14 rfl ?_
      refine s_iand F dX8_bits_15 ?_
      refine s_iadd F dX8_bits_16 ?_
      refine s_istore_n F [(1, .int (a1 + ((a0 >>> (a2 &&& 31)) &&& (nI 1)))), (0, .int a0), (2, .int a2)] dX8_bits_17 rfl (by decide) rfl ?_
      refine s_iinc F 2 [(2, .int (a2 + (nI 1))), (1, .int (a1 + ((a0 >>> (a2 &&& 31)) &&& (nI 1)))), (0, .int a0)] dX8_bits_18 rfl rfl (by decide) rfl ?_
      refine s_goto F 4 dX8_bits_21 (by decide) ?_
      refine s_lv [(0, .int a0), (1, .int (a1 + ((a0 >>> (a2 &&& 31)) &&& (nI 1)))), (2, .int (a2 + (nI 1)))] [2, 1, 0] rfl ?_
      exact ih _ _ _ _
set_option maxRecDepth 20000 in
theorem c_X8_bits {G : Gx} {l : Launch} {a0 : Int32} {σ : St} {o : (Int32 × St)} (hF : F_X8_bits a0 σ = some o) : Con G l yX8_bits cX8_bits 3 (some .int) 0 [.int a0] σ (some (.int o.1)) o.2 := by
  refine Con.of plX8 (Nat.le_of_ble_eq_true rfl) [(0, .int a0)] rfl (fun X F R => ?_)
  refine (show Sim G X 3 o (F_X8_bits a0 σ) σ 0 [(0, .int a0)] [] from ?_) hF
  unfold F_X8_bits
  refine s_iconst F (nI 0) dX8_bits_0 rfl ?_
  refine s_istore_n F [(1, .int (nI 0)), (0, .int a0)] dX8_bits_1 rfl (by decide) rfl ?_
  refine s_iconst F (nI 0) dX8_bits_2 rfl ?_
  refine s_istore_n F [(2, .int (nI 0)), (1, .int (nI 0)), (0, .int a0)] dX8_bits_3 rfl (by decide) rfl ?_
  refine s_lv [(0, .int a0), (1, .int (nI 0)), (2, .int (nI 0))] [2, 1, 0] rfl ?_
  refine l_X8_bits_4 F R (fun a1 σ => ?_) fuel _ _ _ _
  refine s_iload_n F 0 dX8_bits_24 rfl rfl ?_
  exact s_iret R dX8_bits_25
/-! X8_has -/
def F_X8_has (a0 : Int32) (a1 : Int32) (σ : St) : Option (Int32 × St) := if ((a0 >>> (a1 &&& 31)) &&& (nI 1)) = (nI 1) then (some ((nI 1), σ)) else (some ((nI 0), σ))
set_option maxRecDepth 20000 in
theorem c_X8_has {G : Gx} {l : Launch} {a0 : Int32} {a1 : Int32} {σ : St} {o : (Int32 × St)} (hF : F_X8_has a0 a1 σ = some o) : Con G l yX8_has cX8_has 2 (some .boolean) 0 [.int a0, .int a1] σ (some (.int o.1)) o.2 := by
  refine Con.of plX8 (Nat.le_of_ble_eq_true rfl) [(0, .int a0), (1, .int a1)] rfl (fun X F R => ?_)
  refine (show Sim G X 2 o (F_X8_has a0 a1 σ) σ 0 [(0, .int a0), (1, .int a1)] [] from ?_) hF
  unfold F_X8_has
  refine s_iload_n F 0 dX8_has_0 rfl rfl ?_
  refine s_iload_n F 1 dX8_has_1 rfl rfl ?_
  refine s_ishr F dX8_has_2 ?_
  refine s_iconst F (nI 1) dX8_has_3 rfl ?_
  refine s_iand F dX8_has_4 ?_
  refine s_iconst F (nI 1) dX8_has_5 rfl ?_
  refine s_icmp_ne F 13 dX8_has_6 (by decide) (fun c1 => ?_) (fun c1 => ?_)
  · refine s_iconst F (nI 0) dX8_has_13 rfl ?_
    exact s_zret R dX8_has_14 rfl
  · refine s_iconst F (nI 1) dX8_has_9 rfl ?_
    refine s_goto F 14 dX8_has_10 (by decide) ?_
    exact s_zret R dX8_has_14 rfl
/-! X8_of -/
def F_X8_of (k : Nat) (a1 : Int32) (a2 : Int32) (σ : St) : Option (Int32 × St) := if ix (((nI 17) + ((nI 9) * a1)) + a2) 80 then some (σ.1 k (((nI 17) + ((nI 9) * a1)) + a2).toNatClampNeg, σ) else none
set_option maxRecDepth 20000 in
theorem c_X8_of {G : Gx} {l : Launch} {k : Nat} {a1 : Int32} {a2 : Int32} (hk : isArr k 80) {σ : St} {o : (Int32 × St)} (hF : F_X8_of k a1 a2 σ = some o) : Con G l yX8_of cX8_of 3 (some .int) 0 [.ref (ga G k), .int a1, .int a2] σ (some (.int o.1)) o.2 := by
  refine Con.of plX8 (Nat.le_of_ble_eq_true rfl) [(0, .ref (ga G k)), (1, .int a1), (2, .int a2)] rfl (fun X F R => ?_)
  refine (show Sim G X 3 o (F_X8_of k a1 a2 σ) σ 0 [(0, .ref (ga G k)), (1, .int a1), (2, .int a2)] [] from ?_) hF
  unfold F_X8_of
  refine s_aload_n F 0 dX8_of_0 rfl rfl ?_
  refine s_bipush F (nI 17) dX8_of_1 rfl ?_
  refine s_bipush F (nI 9) dX8_of_3 rfl ?_
  refine s_iload_n F 1 dX8_of_5 rfl rfl ?_
  refine s_imul F dX8_of_6 ?_
  refine s_iadd F dX8_of_7 ?_
  refine s_iload_n F 2 dX8_of_8 rfl rfl ?_
  refine s_iadd F dX8_of_9 ?_
  refine s_iald F hk dX8_of_10 (fun q1 => ?_)
  exact s_iret R dX8_of_11
/-! X8_out -/
def J_X8_out_107 (k : Nat) (a5 : Int32) (s0 : Int32) (σ : St) : Option (Int32 × St) := if 0 < s0 then (some (((nI 100) * a5) + s0, σ)) else (some ((nI 0), σ))
def J_X8_out_64 (k : Nat) (a2 : Int32) (a3 : Int32) (a4 : Int32) (s0 : Int32) (σ : St) : Option (Int32 × St) := if a3 < (nI 4) then (if a3 = (nI 3) then (if ix (nI 1) 80 then J_X8_out_107 k s0 (((a2 - a2 / (nI 100) * (nI 100)) - (σ.1 k (nI 1).toNatClampNeg)) - a4) σ else none) else (if ix (nI 1) 80 then J_X8_out_107 k s0 ((a2 - a2 / (nI 100) * (nI 100)) - (σ.1 k (nI 1).toNatClampNeg)) σ else none)) else (J_X8_out_107 k s0 ((a2 - a2 / (nI 100) * (nI 100)) / (nI 2)) σ)
def J_X8_out_47 (k : Nat) (a2 : Int32) (a3 : Int32) (a4 : Int32) (σ : St) : Option (Int32 × St) := J_X8_out_64 k a2 a3 a4 (((a2 / (nI 100)) + a4) - ((a2 / (nI 100)) + a4) / (nI 10) * (nI 10)) σ
def F_X8_out (k : Nat) (a1 : Int32) (σ : St) : Option (Int32 × St) := (F_X8_of k a1 (nI 3) σ).bind fun z1 => (F_X8_of k a1 (((nI 5) + z1.1) - (nI 1)) z1.2).bind fun z2 => if z2.1 = 0 then (some ((nI 0), z2.2)) else ((F_X8_of k a1 (nI 0) z2.2).bind fun z3 => (F_X8_of k a1 (nI 4) z3.2).bind fun z4 => if z3.1 = (nI 2) then (J_X8_out_47 k z2.1 z3.1 z4.1 z4.2) else (if z3.1 = (nI 5) then (J_X8_out_47 k z2.1 z3.1 z4.1 z4.2) else (J_X8_out_64 k z2.1 z3.1 z4.1 (z2.1 / (nI 100)) z4.2)))
set_option maxRecDepth 20000 in
theorem j_X8_out_107 {G : Gx} {X : Cx} (F : Fx G X cX8_out 7 RX8 1) {o : (Int32 × St)} (R : Ret G X cX8_out 7 (some .int) (some (.int o.1)) o.2) {k : Nat} (hk : isArr k 80) (a5 : Int32) (s0 : Int32) (σ : St) : Sim G X 7 o (J_X8_out_107 k a5 s0 σ) σ 107 [(5, .int a5)] [.int s0] := by
  unfold J_X8_out_107
  refine s_istore F [(6, .int s0), (5, .int a5)] dX8_out_107 (by decide) rfl ?_
  refine s_iload F 0 dX8_out_109 rfl ?_
  refine s_if_gt F 118 dX8_out_111 (by decide) (fun c6 => ?_) (fun c6 => ?_)
  · refine s_bipush F (nI 100) dX8_out_118 rfl ?_
    refine s_iload F 1 dX8_out_120 rfl ?_
    refine s_imul F dX8_out_122 ?_
    refine s_iload F 0 dX8_out_123 rfl ?_
    refine s_iadd F dX8_out_125 ?_
    exact s_iret R dX8_out_126
  · refine s_iconst F (nI 0) dX8_out_114 rfl ?_
    refine s_goto F 126 dX8_out_115 (by decide) ?_
    exact s_iret R dX8_out_126
set_option maxRecDepth 20000 in
theorem j_X8_out_64 {G : Gx} {X : Cx} (F : Fx G X cX8_out 7 RX8 1) {o : (Int32 × St)} (R : Ret G X cX8_out 7 (some .int) (some (.int o.1)) o.2) {k : Nat} (hk : isArr k 80) (a2 : Int32) (a3 : Int32) (a4 : Int32) (s0 : Int32) (σ : St) : Sim G X 7 o (J_X8_out_64 k a2 a3 a4 s0 σ) σ 64 [(0, .ref (ga G k)), (2, .int a2), (3, .int a3), (4, .int a4)] [.int s0] := by
  unfold J_X8_out_64
  refine s_istore F [(5, .int s0), (0, .ref (ga G k)), (2, .int a2), (3, .int a3), (4, .int a4)] dX8_out_64 (by decide) rfl ?_
  refine s_iload_n F 2 dX8_out_66 rfl rfl ?_
  refine s_bipush F (nI 100) dX8_out_67 rfl ?_
  refine s_iremc F dX8_out_69 (by decide) ?_
  refine s_istore F [(6, .int (a2 - a2 / (nI 100) * (nI 100))), (5, .int s0), (0, .ref (ga G k)), (2, .int a2), (3, .int a3), (4, .int a4)] dX8_out_70 (by decide) rfl ?_
  refine s_iload_n F 4 dX8_out_72 rfl rfl ?_
  refine s_iconst F (nI 4) dX8_out_73 rfl ?_
  refine s_icmp_lt F 84 dX8_out_74 (by decide) (fun c9 => ?_) (fun c9 => ?_)
  · refine s_iload_n F 4 dX8_out_84 rfl rfl ?_
    refine s_iconst F (nI 3) dX8_out_85 rfl ?_
    refine s_icmp_ne F 101 dX8_out_86 (by decide) (fun c8 => ?_) (fun c8 => ?_)
    · refine s_iload F 0 dX8_out_101 rfl ?_
      refine s_aload_n F 2 dX8_out_103 rfl rfl ?_
      refine s_iconst F (nI 1) dX8_out_104 rfl ?_
      refine s_iald F hk dX8_out_105 (fun q5 => ?_)
      refine s_isub F dX8_out_106 ?_
      refine s_lv [(5, .int s0)] [1] rfl ?_
      exact j_X8_out_107 F R hk _ _ _
    · refine s_iload F 0 dX8_out_89 rfl ?_
      refine s_aload_n F 2 dX8_out_91 rfl rfl ?_
      refine s_iconst F (nI 1) dX8_out_92 rfl ?_
      refine s_iald F hk dX8_out_93 (fun q7 => ?_)
      refine s_isub F dX8_out_94 ?_
      refine s_iload F 5 dX8_out_95 rfl ?_
      refine s_isub F dX8_out_97 ?_
      refine s_goto F 107 dX8_out_98 (by decide) ?_
      refine s_lv [(5, .int s0)] [1] rfl ?_
      exact j_X8_out_107 F R hk _ _ _
  · refine s_iload F 0 dX8_out_77 rfl ?_
    refine s_iconst F (nI 2) dX8_out_79 rfl ?_
    refine s_idivc F dX8_out_80 (by decide) ?_
    refine s_goto F 107 dX8_out_81 (by decide) ?_
    refine s_lv [(5, .int s0)] [1] rfl ?_
    exact j_X8_out_107 F R hk _ _ _
set_option maxRecDepth 20000 in
theorem j_X8_out_47 {G : Gx} {X : Cx} (F : Fx G X cX8_out 7 RX8 1) {o : (Int32 × St)} (R : Ret G X cX8_out 7 (some .int) (some (.int o.1)) o.2) {k : Nat} (hk : isArr k 80) (a2 : Int32) (a3 : Int32) (a4 : Int32) (σ : St) : Sim G X 7 o (J_X8_out_47 k a2 a3 a4 σ) σ 47 [(0, .ref (ga G k)), (2, .int a2), (3, .int a3), (4, .int a4)] [] := by
  unfold J_X8_out_47
  refine s_iload_n F 1 dX8_out_47 rfl rfl ?_
  refine s_bipush F (nI 100) dX8_out_48 rfl ?_
  refine s_idivc F dX8_out_50 (by decide) ?_
  refine s_iload F 3 dX8_out_51 rfl ?_
  refine s_iadd F dX8_out_53 ?_
  refine s_bipush F (nI 10) dX8_out_54 rfl ?_
  refine s_iremc F dX8_out_56 (by decide) ?_
  refine s_goto F 64 dX8_out_57 (by decide) ?_
  exact j_X8_out_64 F R hk _ _ _ _ _
set_option maxRecDepth 20000 in
theorem c_X8_out {G : Gx} {l : Launch} {k : Nat} {a1 : Int32} (hk : isArr k 80) {σ : St} {o : (Int32 × St)} (hF : F_X8_out k a1 σ = some o) : Con G l yX8_out cX8_out 7 (some .int) 1 [.ref (ga G k), .int a1] σ (some (.int o.1)) o.2 := by
  refine Con.of plX8 (Nat.le_of_ble_eq_true rfl) [(0, .ref (ga G k)), (1, .int a1)] rfl (fun X F R => ?_)
  refine (show Sim G X 7 o (F_X8_out k a1 σ) σ 0 [(0, .ref (ga G k)), (1, .int a1)] [] from ?_) hF
  unfold F_X8_out
  refine s_aload_n F 0 dX8_out_0 rfl rfl ?_
  refine s_iload_n F 1 dX8_out_1 rfl rfl ?_
  refine s_iconst F (nI 5) dX8_out_2 rfl ?_
  refine s_aload_n F 0 dX8_out_3 rfl rfl ?_
  refine s_iload_n F 1 dX8_out_4 rfl rfl ?_
  refine s_iconst F (nI 3) dX8_out_5 rfl ?_
  refine s_Si F [.ref (ga G k), .int a1, .int (nI 3)] dX8_out_6 (fun z hz => c_X8_of hk hz) wS_X8_149 nk_X8_of (by decide) (by decide) rfl rfl (Nat.le_of_ble_eq_true rfl) (fun z1 => ?_)
  refine s_iadd F dX8_out_9 ?_
  refine s_iconst F (nI 1) dX8_out_10 rfl ?_
  refine s_isub F dX8_out_11 ?_
  refine s_Si F [.ref (ga G k), .int a1, .int (((nI 5) + z1.1) - (nI 1))] dX8_out_12 (fun z hz => c_X8_of hk hz) wS_X8_149 nk_X8_of (by decide) (by decide) rfl rfl (Nat.le_of_ble_eq_true rfl) (fun z2 => ?_)
  refine s_istore_n F [(2, .int z2.1), (0, .ref (ga G k)), (1, .int a1)] dX8_out_15 rfl (by decide) rfl ?_
  refine s_iload_n F 0 dX8_out_16 rfl rfl ?_
  refine s_if_ne F 22 dX8_out_17 (by decide) (fun c12 => ?_) (fun c12 => ?_)
  · refine s_aload_n F 1 dX8_out_22 rfl rfl ?_
    refine s_iload_n F 2 dX8_out_23 rfl rfl ?_
    refine s_iconst F (nI 0) dX8_out_24 rfl ?_
    refine s_Si F [.ref (ga G k), .int a1, .int (nI 0)] dX8_out_25 (fun z hz => c_X8_of hk hz) wS_X8_149 nk_X8_of (by decide) (by decide) rfl rfl (Nat.le_of_ble_eq_true rfl) (fun z3 => ?_)
    refine s_istore_n F [(3, .int z3.1), (2, .int z2.1), (0, .ref (ga G k)), (1, .int a1)] dX8_out_28 rfl (by decide) rfl ?_
    refine s_aload_n F 2 dX8_out_29 rfl rfl ?_
    refine s_iload_n F 3 dX8_out_30 rfl rfl ?_
    refine s_iconst F (nI 4) dX8_out_31 rfl ?_
    refine s_Si F [.ref (ga G k), .int a1, .int (nI 4)] dX8_out_32 (fun z hz => c_X8_of hk hz) wS_X8_149 nk_X8_of (by decide) (by decide) rfl rfl (Nat.le_of_ble_eq_true rfl) (fun z4 => ?_)
    refine s_istore F [(4, .int z4.1), (3, .int z3.1), (2, .int z2.1), (0, .ref (ga G k)), (1, .int a1)] dX8_out_35 (by decide) rfl ?_
    refine s_iload_n F 1 dX8_out_37 rfl rfl ?_
    refine s_iconst F (nI 2) dX8_out_38 rfl ?_
    refine s_icmp_eq F 47 dX8_out_39 (by decide) (fun c11 => ?_) (fun c11 => ?_)
    · refine s_lv [(0, .ref (ga G k)), (2, .int z2.1), (3, .int z3.1), (4, .int z4.1)] [3, 2, 1, 0] rfl ?_
      exact j_X8_out_47 F R hk _ _ _ _
    · refine s_iload_n F 1 dX8_out_42 rfl rfl ?_
      refine s_iconst F (nI 5) dX8_out_43 rfl ?_
      refine s_icmp_ne F 60 dX8_out_44 (by decide) (fun c10 => ?_) (fun c10 => ?_)
      · refine s_iload_n F 2 dX8_out_60 rfl rfl ?_
        refine s_bipush F (nI 100) dX8_out_61 rfl ?_
        refine s_idivc F dX8_out_63 (by decide) ?_
        refine s_lv [(0, .ref (ga G k)), (2, .int z2.1), (3, .int z3.1), (4, .int z4.1)] [3, 2, 1, 0] rfl ?_
        exact j_X8_out_64 F R hk _ _ _ _ _
      · refine s_lv [(0, .ref (ga G k)), (2, .int z2.1), (3, .int z3.1), (4, .int z4.1)] [3, 2, 1, 0] rfl ?_
        exact j_X8_out_47 F R hk _ _ _ _
  · refine s_iconst F (nI 0) dX8_out_20 rfl ?_
    exact s_iret R dX8_out_21
/-! X8_breath -/
def J_X8_breath_50 (k : Nat) (K21 : Int32 → Int32 → Int32 → St → Option (Int32 × St)) (a2 : Int32) (a3 : Int32) (a4 : Int32) (s0 : Int32) (σ : St) : Option (Int32 × St) := if ix a3 6 then if (s0 - s0 / (nI 100) * (nI 100)) ≤ ((σ.1 34 a3.toNatClampNeg) - (σ.1 34 a3.toNatClampNeg) / (nI 100) * (nI 100)) then (if ix a3 6 then if ix a3 6 then K21 a2 a3 (a4 + (nI 1)) (setA σ 34 a3.toNatClampNeg (σ.1 34 a3.toNatClampNeg)) else none else none) else (if ix a3 6 then K21 a2 a3 (a4 + (nI 1)) (setA σ 34 a3.toNatClampNeg s0) else none) else none
def L_X8_breath_21 (k : Nat) (K : Int32 → Int32 → St → Option (Int32 × St)) : Nat → Int32 → Int32 → Int32 → St → Option (Int32 × St)
  | 0, _, _, _, _ => none
  | n + 1, a2, a3, a4, σ => if ix (nI 2) 80 then if (σ.1 k (nI 2).toNatClampNeg) ≤ a4 then (K a2 a3 σ) else ((F_X8_of k a4 (nI 2) σ).bind fun z4 => if z4.1 = a3 then ((F_X8_out k a4 z4.2).bind fun z10 => J_X8_breath_50 k (fun a2 a3 a4 σ => L_X8_breath_21 k K n a2 a3 a4 σ) a2 a3 a4 z10.1 z10.2) else (J_X8_breath_50 k (fun a2 a3 a4 σ => L_X8_breath_21 k K n a2 a3 a4 σ) a2 a3 a4 (nI 0) z4.2)) else none
def L_X8_breath_4 (k : Nat) (K : Int32 → St → Option (Int32 × St)) : Nat → Int32 → Int32 → St → Option (Int32 × St)
  | 0, _, _, _ => none
  | n + 1, a2, a3, σ => if ix (nI 0) 80 then if (σ.1 k (nI 0).toNatClampNeg) ≤ a3 then (K a2 σ) else (if ix a3 6 then L_X8_breath_21 k (fun a2 a3 σ => if ix a3 6 then if (σ.1 34 a3.toNatClampNeg) ≤ 0 then (L_X8_breath_4 k K n a2 (a3 + (nI 1)) σ) else (if ix a3 6 then if ix ((nI 5) + ((nI 2) * a3)) 80 then if ix (nI 3) 80 then if ix (((nI 5) + ((nI 2) * a3)) + (nI 1)) 80 then L_X8_breath_4 k K n (a2 ||| ((nI 1) <<< (a3 &&& 31))) (a3 + (nI 1)) (setA (setA σ k ((nI 5) + ((nI 2) * a3)).toNatClampNeg (σ.1 34 a3.toNatClampNeg)) k (((nI 5) + ((nI 2) * a3)) + (nI 1)).toNatClampNeg ((setA σ k ((nI 5) + ((nI 2) * a3)).toNatClampNeg (σ.1 34 a3.toNatClampNeg)).1 k (nI 3).toNatClampNeg)) else none else none else none else none) else none) fuel a2 a3 (nI 0) (setA σ 34 a3.toNatClampNeg (nI 0)) else none) else none
def L_X8_breath_168 (k : Nat) (K : Int32 → Int32 → Int32 → St → Option (Int32 × St)) : Nat → Int32 → Int32 → Int32 → Int32 → St → Option (Int32 × St)
  | 0, _, _, _, _, _ => none
  | n + 1, a2, a3, a4, a5, σ => if a5 ≤ 0 then (K a2 a3 a4 σ) else (if ix ((a4 + a5) - (nI 1)) 80 then if ix (a4 + a5) 80 then L_X8_breath_168 k K n a2 a3 a4 (a5 + (-1 : Int32)) (setA σ k (a4 + a5).toNatClampNeg (σ.1 k ((a4 + a5) - (nI 1)).toNatClampNeg)) else none else none)
def L_X8_breath_140 (k : Nat) (K : Int32 → St → Option (Int32 × St)) : Nat → Int32 → Int32 → St → Option (Int32 × St)
  | 0, _, _, _ => none
  | n + 1, a2, a3, σ => if ix (nI 2) 80 then if (σ.1 k (nI 2).toNatClampNeg) ≤ a3 then (K a2 σ) else ((F_X8_of k a3 (nI 3) σ).bind fun z21 => L_X8_breath_168 k (fun a2 a3 a4 σ => if ix (nI 4) 80 then (F_X8_has (σ.1 k (nI 4).toNatClampNeg) a3 σ).bind fun z26 => if z26.1 = 0 then (if ix a4 80 then L_X8_breath_140 k K n a2 (a3 + (nI 1)) (setA z26.2 k a4.toNatClampNeg (nI 0)) else none) else ((F_X8_of k a3 (nI 1) z26.2).bind fun z28 => if ix z28.1 6 then if ix a4 80 then L_X8_breath_140 k K n a2 (a3 + (nI 1)) (setA z28.2 k a4.toNatClampNeg (z28.2.1 34 z28.1.toNatClampNeg)) else none else none) else none) fuel a2 a3 (((nI 17) + ((nI 9) * a3)) + (nI 5)) (z21.1 - (nI 1)) z21.2) else none
def F_X8_breath (k : Nat) (σ : St) : Option (Int32 × St) := L_X8_breath_4 k (fun a2 σ => L_X8_breath_140 k (fun a2 σ => if ix (nI 3) 80 then if ix (nI 3) 80 then some (a2, setA σ k (nI 3).toNatClampNeg ((σ.1 k (nI 3).toNatClampNeg) + (nI 1))) else none else none) fuel a2 (nI 0) σ) fuel (nI 0) (nI 0) σ
set_option maxRecDepth 20000 in
theorem j_X8_breath_50 {G : Gx} {X : Cx} (F : Fx G X cX8_breath 6 RX8 2) {o : (Int32 × St)} (R : Ret G X cX8_breath 6 (some .int) (some (.int o.1)) o.2) {k : Nat} (hk : isArr k 80) {K21 : Int32 → Int32 → Int32 → St → Option (Int32 × St)} (hK21 : ∀ (a2 : Int32) (a3 : Int32) (a4 : Int32) (σ : St), Sim G X 6 o (K21 a2 a3 a4 σ) σ 21 [(0, .ref (ga G 25)), (1, .ref (ga G k)), (2, .int a2), (3, .int a3), (4, .int a4)] []) (a2 : Int32) (a3 : Int32) (a4 : Int32) (s0 : Int32) (σ : St) : Sim G X 6 o (J_X8_breath_50 k K21 a2 a3 a4 s0 σ) σ 50 [(0, .ref (ga G 25)), (1, .ref (ga G k)), (2, .int a2), (3, .int a3), (4, .int a4)] [.int s0] := by
  unfold J_X8_breath_50
  refine s_istore F [(5, .int s0), (0, .ref (ga G 25)), (1, .ref (ga G k)), (2, .int a2), (3, .int a3), (4, .int a4)] dX8_breath_50 (by decide) rfl ?_
  refine s_aload_n F 1 dX8_breath_52 rfl rfl ?_
  refine fg_X8_34 F dX8_breath_53 ?_
  refine s_iload_n F 4 dX8_breath_56 rfl rfl ?_
  refine s_iload F 0 dX8_breath_57 rfl ?_
  refine s_bipush F (nI 100) dX8_breath_59 rfl ?_
  refine s_iremc F dX8_breath_61 (by decide) ?_
  refine s_aload_n F 1 dX8_breath_62 rfl rfl ?_
  refine fg_X8_34 F dX8_breath_63 ?_
  refine s_iload_n F 4 dX8_breath_66 rfl rfl ?_
  refine s_iald F ar_34 dX8_breath_67 (fun q5 => ?_)
  refine s_bipush F (nI 100) dX8_breath_68 rfl ?_
  refine s_iremc F dX8_breath_70 (by decide) ?_
  refine s_icmp_le F 79 dX8_breath_71 (by decide) (fun c9 => ?_) (fun c9 => ?_)
  · refine s_aload_n F 1 dX8_breath_79 rfl rfl ?_
    refine fg_X8_34 F dX8_breath_80 ?_
    refine s_iload_n F 4 dX8_breath_83 rfl rfl ?_
    refine s_iald F ar_34 dX8_breath_84 (fun q6 => ?_)
    refine s_iast F ar_34 dX8_breath_85 (fun q7 => ?_)
    refine s_iinc F 5 [(4, .int (a4 + (nI 1))), (5, .int s0), (0, .ref (ga G 25)), (1, .ref (ga G k)), (2, .int a2), (3, .int a3)] dX8_breath_86 rfl rfl (by decide) rfl ?_
    refine s_goto F 21 dX8_breath_89 (by decide) ?_
    refine s_lv [(0, .ref (ga G 25)), (1, .ref (ga G k)), (2, .int a2), (3, .int a3), (4, .int (a4 + (nI 1)))] [2, 3, 4, 5, 0] rfl ?_
    exact hK21 _ _ _ _
  · refine s_iload F 0 dX8_breath_74 rfl ?_
    refine s_goto F 85 dX8_breath_76 (by decide) ?_
    refine s_iast F ar_34 dX8_breath_85 (fun q8 => ?_)
    refine s_iinc F 5 [(4, .int (a4 + (nI 1))), (5, .int s0), (0, .ref (ga G 25)), (1, .ref (ga G k)), (2, .int a2), (3, .int a3)] dX8_breath_86 rfl rfl (by decide) rfl ?_
    refine s_goto F 21 dX8_breath_89 (by decide) ?_
    refine s_lv [(0, .ref (ga G 25)), (1, .ref (ga G k)), (2, .int a2), (3, .int a3), (4, .int (a4 + (nI 1)))] [2, 3, 4, 5, 0] rfl ?_
    exact hK21 _ _ _ _
set_option maxRecDepth 20000 in
theorem l_X8_breath_21 {G : Gx} {X : Cx} (F : Fx G X cX8_breath 6 RX8 2) {o : (Int32 × St)} (R : Ret G X cX8_breath 6 (some .int) (some (.int o.1)) o.2) {k : Nat} (hk : isArr k 80) {K : Int32 → Int32 → St → Option (Int32 × St)} (hK : ∀ (a2 : Int32) (a3 : Int32) (σ : St), Sim G X 6 o (K a2 a3 σ) σ 92 [(0, .ref (ga G 25)), (1, .ref (ga G k)), (2, .int a2), (3, .int a3)] []) : ∀ (n : Nat) (a2 : Int32) (a3 : Int32) (a4 : Int32) (σ : St), Sim G X 6 o (L_X8_breath_21 k K n a2 a3 a4 σ) σ 21 [(0, .ref (ga G 25)), (1, .ref (ga G k)), (2, .int a2), (3, .int a3), (4, .int a4)] [] := by
  intro n
  induction n with
  | zero =>
    intro a2 a3 a4 σ
    exact s_none
  | succ n ih =>
    intro a2 a3 a4 σ
    rw [L_X8_breath_21.eq_2]
    refine s_iload F 4 dX8_breath_21 rfl ?_
    refine s_aload_n F 1 dX8_breath_23 rfl rfl ?_
    refine s_iconst F (nI 2) dX8_breath_24 rfl ?_
    refine s_iald F hk dX8_breath_25 (fun q3 => ?_)
    refine s_icmp_ge F 92 dX8_breath_26 (by decide) (fun c12 => ?_) (fun c12 => ?_)
    · refine s_lv [(0, .ref (ga G 25)), (1, .ref (ga G k)), (2, .int a2), (3, .int a3)] [0, 1, 2, 3] rfl ?_
      exact hK _ _ _
    · refine s_aload_n F 1 dX8_breath_29 rfl rfl ?_
      refine s_iload F 4 dX8_breath_30 rfl ?_
      refine s_iconst F (nI 2) dX8_breath_32 rfl ?_
      refine s_Si F [.ref (ga G k), .int a4, .int (nI 2)] dX8_breath_33 (fun z hz => c_X8_of hk hz) wS_X8_149 nk_X8_of (by decide) (by decide) rfl rfl (Nat.le_of_ble_eq_true rfl) (fun z4 => ?_)
      refine s_iload_n F 3 dX8_breath_36 rfl rfl ?_
      refine s_icmp_ne F 49 dX8_breath_37 (by decide) (fun c11 => ?_) (fun c11 => ?_)
      · refine s_iconst F (nI 0) dX8_breath_49 rfl ?_
        exact j_X8_breath_50 F R hk (by
              intro a2 a3 a4 σ
              exact ih _ _ _ _) _ _ _ _ _
      · refine s_aload_n F 1 dX8_breath_40 rfl rfl ?_
        refine s_iload F 4 dX8_breath_41 rfl ?_
        refine s_Si F [.ref (ga G k), .int a4] dX8_breath_43 (fun z hz => c_X8_out hk hz) wS_X8_153 nk_X8_out (by decide) (by decide) rfl rfl (Nat.le_of_ble_eq_true rfl) (fun z10 => ?_)
        refine s_goto F 50 dX8_breath_46 (by decide) ?_
        exact j_X8_breath_50 F R hk (by
              intro a2 a3 a4 σ
              exact ih _ _ _ _) _ _ _ _ _
set_option maxRecDepth 20000 in
theorem l_X8_breath_4 {G : Gx} {X : Cx} (F : Fx G X cX8_breath 6 RX8 2) {o : (Int32 × St)} (R : Ret G X cX8_breath 6 (some .int) (some (.int o.1)) o.2) {k : Nat} (hk : isArr k 80) {K : Int32 → St → Option (Int32 × St)} (hK : ∀ (a2 : Int32) (σ : St), Sim G X 6 o (K a2 σ) σ 138 [(0, .ref (ga G 25)), (1, .ref (ga G k)), (2, .int a2)] []) : ∀ (n : Nat) (a2 : Int32) (a3 : Int32) (σ : St), Sim G X 6 o (L_X8_breath_4 k K n a2 a3 σ) σ 4 [(0, .ref (ga G 25)), (1, .ref (ga G k)), (2, .int a2), (3, .int a3)] [] := by
  intro n
  induction n with
  | zero =>
    intro a2 a3 σ
    exact s_none
  | succ n ih =>
    intro a2 a3 σ
    rw [L_X8_breath_4.eq_2]
    refine s_iload_n F 3 dX8_breath_4 rfl rfl ?_
    refine s_aload_n F 1 dX8_breath_5 rfl rfl ?_
    refine s_iconst F (nI 0) dX8_breath_6 rfl ?_
    refine s_iald F hk dX8_breath_7 (fun q1 => ?_)
    refine s_icmp_ge F 138 dX8_breath_8 (by decide) (fun c19 => ?_) (fun c19 => ?_)
    · refine s_lv [(0, .ref (ga G 25)), (1, .ref (ga G k)), (2, .int a2)] [0, 1, 2] rfl ?_
      exact hK _ _
    · refine s_aload_n F 0 dX8_breath_11 rfl rfl ?_
      refine fg_X8_34 F dX8_breath_12 ?_
      refine s_iload_n F 3 dX8_breath_15 rfl rfl ?_
      refine s_iconst F (nI 0) dX8_breath_16 rfl ?_
      refine s_iast F ar_34 dX8_breath_17 (fun q2 => ?_)
      refine s_iconst F (nI 0) dX8_breath_18 rfl ?_
      refine s_istore F [(4, .int (nI 0)), (0, .ref (ga G 25)), (1, .ref (ga G k)), (2, .int a2), (3, .int a3)] dX8_breath_19 (by decide) rfl ?_
      refine s_lv [(0, .ref (ga G 25)), (1, .ref (ga G k)), (2, .int a2), (3, .int a3), (4, .int (nI 0))] [1, 2, 3, 4, 0] rfl ?_
      refine l_X8_breath_21 F R hk (fun a2 a3 σ => ?_) fuel _ _ _ _
      refine s_aload_n F 0 dX8_breath_92 rfl rfl ?_
      refine fg_X8_34 F dX8_breath_93 ?_
      refine s_iload_n F 3 dX8_breath_96 rfl rfl ?_
      refine s_iald F ar_34 dX8_breath_97 (fun q13 => ?_)
      refine s_if_le F 132 dX8_breath_98 (by decide) (fun c18 => ?_) (fun c18 => ?_)
      · refine s_iinc F 3 [(3, .int (a3 + (nI 1))), (0, .ref (ga G 25)), (1, .ref (ga G k)), (2, .int a2)] dX8_breath_132 rfl rfl (by decide) rfl ?_
        refine s_goto F 4 dX8_breath_135 (by decide) ?_
        refine s_lv [(0, .ref (ga G 25)), (1, .ref (ga G k)), (2, .int a2), (3, .int (a3 + (nI 1)))] [1, 2, 3, 0] rfl ?_
        exact ih _ _ _
      · refine s_iload_n F 2 dX8_breath_101 rfl rfl ?_
        refine s_iconst F (nI 1) dX8_breath_102 rfl ?_
        refine s_iload_n F 3 dX8_breath_103 rfl rfl ?_
        refine s_ishl F dX8_breath_104 ?_
        refine s_ior F dX8_breath_105 ?_
        refine s_istore_n F [(2, .int (a2 ||| ((nI 1) <<< (a3 &&& 31)))), (0, .ref (ga G 25)), (1, .ref (ga G k)), (3, .int a3)] dX8_breath_106 rfl (by decide) rfl ?_
        refine s_aload_n F 2 dX8_breath_107 rfl rfl ?_
        refine s_iconst F (nI 5) dX8_breath_108 rfl ?_
        refine s_iconst F (nI 2) dX8_breath_109 rfl ?_
        refine s_iload_n F 3 dX8_breath_110 rfl rfl ?_
        refine s_imul F dX8_breath_111 ?_
        refine s_iadd F dX8_breath_112 ?_
        refine s_aload_n F 1 dX8_breath_113 rfl rfl ?_
        refine fg_X8_34 F dX8_breath_114 ?_
        refine s_iload_n F 3 dX8_breath_117 rfl rfl ?_
        refine s_iald F ar_34 dX8_breath_118 (fun q14 => ?_)
        refine s_iast F hk dX8_breath_119 (fun q15 => ?_)
        refine s_aload_n F 2 dX8_breath_120 rfl rfl ?_
        refine s_iconst F (nI 5) dX8_breath_121 rfl ?_
        refine s_iconst F (nI 2) dX8_breath_122 rfl ?_
        refine s_iload_n F 3 dX8_breath_123 rfl rfl ?_
        refine s_imul F dX8_breath_124 ?_
        refine s_iadd F dX8_breath_125 ?_
        refine s_iconst F (nI 1) dX8_breath_126 rfl ?_
        refine s_iadd F dX8_breath_127 ?_
        refine s_aload_n F 2 dX8_breath_128 rfl rfl ?_
        refine s_iconst F (nI 3) dX8_breath_129 rfl ?_
        refine s_iald F hk dX8_breath_130 (fun q16 => ?_)
        refine s_iast F hk dX8_breath_131 (fun q17 => ?_)
        refine s_iinc F 3 [(3, .int (a3 + (nI 1))), (2, .int (a2 ||| ((nI 1) <<< (a3 &&& 31)))), (0, .ref (ga G 25)), (1, .ref (ga G k))] dX8_breath_132 rfl rfl (by decide) rfl ?_
        refine s_goto F 4 dX8_breath_135 (by decide) ?_
        refine s_lv [(0, .ref (ga G 25)), (1, .ref (ga G k)), (2, .int (a2 ||| ((nI 1) <<< (a3 &&& 31)))), (3, .int (a3 + (nI 1)))] [2, 3, 1, 0] rfl ?_
        exact ih _ _ _
set_option maxRecDepth 20000 in
theorem l_X8_breath_168 {G : Gx} {X : Cx} (F : Fx G X cX8_breath 6 RX8 2) {o : (Int32 × St)} (R : Ret G X cX8_breath 6 (some .int) (some (.int o.1)) o.2) {k : Nat} (hk : isArr k 80) {K : Int32 → Int32 → Int32 → St → Option (Int32 × St)} (hK : ∀ (a2 : Int32) (a3 : Int32) (a4 : Int32) (σ : St), Sim G X 6 o (K a2 a3 a4 σ) σ 195 [(0, .ref (ga G 25)), (1, .ref (ga G k)), (2, .int a2), (3, .int a3), (4, .int a4)] []) : ∀ (n : Nat) (a2 : Int32) (a3 : Int32) (a4 : Int32) (a5 : Int32) (σ : St), Sim G X 6 o (L_X8_breath_168 k K n a2 a3 a4 a5 σ) σ 168 [(0, .ref (ga G 25)), (1, .ref (ga G k)), (2, .int a2), (3, .int a3), (4, .int a4), (5, .int a5)] [] := by
  intro n
  induction n with
  | zero =>
    intro a2 a3 a4 a5 σ
    exact s_none
  | succ n ih =>
    intro a2 a3 a4 a5 σ
    rw [L_X8_breath_168.eq_2]
    refine s_iload F 5 dX8_breath_168 rfl ?_
    refine s_if_le F 195 dX8_breath_170 (by decide) (fun c24 => ?_) (fun c24 => ?_)
    · refine s_lv [(0, .ref (ga G 25)), (1, .ref (ga G k)), (2, .int a2), (3, .int a3), (4, .int a4)] [0, 1, 2, 3, 4] rfl ?_
      exact hK _ _ _ _
    · refine s_aload_n F 1 dX8_breath_173 rfl rfl ?_
      refine s_iload F 4 dX8_breath_174 rfl ?_
      refine s_iload F 5 dX8_breath_176 rfl ?_
      refine s_iadd F dX8_breath_178 ?_
      refine s_aload_n F 1 dX8_breath_179 rfl rfl ?_
      refine s_iload F 4 dX8_breath_180 rfl ?_
      refine s_iload F 5 dX8_breath_182 rfl ?_
      refine s_iadd F dX8_breath_184 ?_
      refine s_iconst F (nI 1) dX8_breath_185 rfl ?_
      refine s_isub F dX8_breath_186 ?_
      refine s_iald F hk dX8_breath_187 (fun q22 => ?_)
      refine s_iast F hk dX8_breath_188 (fun q23 => ?_)
      refine s_iinc F 5 [(5, .int (a5 + (-1 : Int32))), (0, .ref (ga G 25)), (1, .ref (ga G k)), (2, .int a2), (3, .int a3), (4, .int a4)] dX8_breath_189 rfl rfl (by decide) rfl ?_
      refine s_goto F 168 dX8_breath_192 (by decide) ?_
      refine s_lv [(0, .ref (ga G 25)), (1, .ref (ga G k)), (2, .int a2), (3, .int a3), (4, .int a4), (5, .int (a5 + (-1 : Int32)))] [1, 2, 3, 4, 5, 0] rfl ?_
      exact ih _ _ _ _ _
set_option maxRecDepth 20000 in
theorem l_X8_breath_140 {G : Gx} {X : Cx} (F : Fx G X cX8_breath 6 RX8 2) {o : (Int32 × St)} (R : Ret G X cX8_breath 6 (some .int) (some (.int o.1)) o.2) {k : Nat} (hk : isArr k 80) {K : Int32 → St → Option (Int32 × St)} (hK : ∀ (a2 : Int32) (σ : St), Sim G X 6 o (K a2 σ) σ 230 [(1, .ref (ga G k)), (2, .int a2)] []) : ∀ (n : Nat) (a2 : Int32) (a3 : Int32) (σ : St), Sim G X 6 o (L_X8_breath_140 k K n a2 a3 σ) σ 140 [(0, .ref (ga G 25)), (1, .ref (ga G k)), (2, .int a2), (3, .int a3)] [] := by
  intro n
  induction n with
  | zero =>
    intro a2 a3 σ
    exact s_none
  | succ n ih =>
    intro a2 a3 σ
    rw [L_X8_breath_140.eq_2]
    refine s_iload_n F 3 dX8_breath_140 rfl rfl ?_
    refine s_aload_n F 1 dX8_breath_141 rfl rfl ?_
    refine s_iconst F (nI 2) dX8_breath_142 rfl ?_
    refine s_iald F hk dX8_breath_143 (fun q20 => ?_)
    refine s_icmp_ge F 230 dX8_breath_144 (by decide) (fun c32 => ?_) (fun c32 => ?_)
    · refine s_lv [(1, .ref (ga G k)), (2, .int a2)] [1, 2] rfl ?_
      exact hK _ _
    · refine s_bipush F (nI 17) dX8_breath_147 rfl ?_
      refine s_bipush F (nI 9) dX8_breath_149 rfl ?_
      refine s_iload_n F 3 dX8_breath_151 rfl rfl ?_
      refine s_imul F dX8_breath_152 ?_
      refine s_iadd F dX8_breath_153 ?_
      refine s_iconst F (nI 5) dX8_breath_154 rfl ?_
      refine s_iadd F dX8_breath_155 ?_
      refine s_istore F [(4, .int (((nI 17) + ((nI 9) * a3)) + (nI 5))), (0, .ref (ga G 25)), (1, .ref (ga G k)), (2, .int a2), (3, .int a3)] dX8_breath_156 (by decide) rfl ?_
      refine s_aload_n F 2 dX8_breath_158 rfl rfl ?_
      refine s_iload_n F 4 dX8_breath_159 rfl rfl ?_
      refine s_iconst F (nI 3) dX8_breath_160 rfl ?_
      refine s_Si F [.ref (ga G k), .int a3, .int (nI 3)] dX8_breath_161 (fun z hz => c_X8_of hk hz) wS_X8_149 nk_X8_of (by decide) (by decide) rfl rfl (Nat.le_of_ble_eq_true rfl) (fun z21 => ?_)
      refine s_iconst F (nI 1) dX8_breath_164 rfl ?_
      refine s_isub F dX8_breath_165 ?_
      refine s_istore F [(5, .int (z21.1 - (nI 1))), (4, .int (((nI 17) + ((nI 9) * a3)) + (nI 5))), (0, .ref (ga G 25)), (1, .ref (ga G k)), (2, .int a2), (3, .int a3)] dX8_breath_166 (by decide) rfl ?_
      refine s_lv [(0, .ref (ga G 25)), (1, .ref (ga G k)), (2, .int a2), (3, .int a3), (4, .int (((nI 17) + ((nI 9) * a3)) + (nI 5))), (5, .int (z21.1 - (nI 1)))] [2, 3, 4, 5, 1, 0] rfl ?_
      refine l_X8_breath_168 F R hk (fun a2 a3 a4 σ => ?_) fuel _ _ _ _ _
      refine s_aload_n F 1 dX8_breath_195 rfl rfl ?_
      refine s_iload F 4 dX8_breath_196 rfl ?_
      refine s_aload_n F 1 dX8_breath_198 rfl rfl ?_
      refine s_iconst F (nI 4) dX8_breath_199 rfl ?_
      refine s_iald F hk dX8_breath_200 (fun q25 => ?_)
      refine s_iload_n F 3 dX8_breath_201 rfl rfl ?_
      refine s_Si F [.int (σ.1 k (nI 4).toNatClampNeg), .int a3] dX8_breath_202 (fun z hz => c_X8_has hz) wS_X8_157 nk_X8_has (by decide) (by decide) rfl rfl (Nat.le_of_ble_eq_true rfl) (fun z26 => ?_)
      refine s_if_eq F 222 dX8_breath_205 (by decide) (fun c31 => ?_) (fun c31 => ?_)
      · refine s_iconst F (nI 0) dX8_breath_222 rfl ?_
        refine s_iast F hk dX8_breath_223 (fun q27 => ?_)
        refine s_iinc F 3 [(3, .int (a3 + (nI 1))), (0, .ref (ga G 25)), (1, .ref (ga G k)), (2, .int a2), (4, .int a4)] dX8_breath_224 rfl rfl (by decide) rfl ?_
        refine s_goto F 140 dX8_breath_227 (by decide) ?_
        refine s_lv [(0, .ref (ga G 25)), (1, .ref (ga G k)), (2, .int a2), (3, .int (a3 + (nI 1)))] [1, 2, 3, 0] rfl ?_
        exact ih _ _ _
      · refine s_aload_n F 0 dX8_breath_208 rfl rfl ?_
        refine fg_X8_34 F dX8_breath_209 ?_
        refine s_aload_n F 1 dX8_breath_212 rfl rfl ?_
        refine s_iload_n F 3 dX8_breath_213 rfl rfl ?_
        refine s_iconst F (nI 1) dX8_breath_214 rfl ?_
        refine s_Si F [.ref (ga G k), .int a3, .int (nI 1)] dX8_breath_215 (fun z hz => c_X8_of hk hz) wS_X8_149 nk_X8_of (by decide) (by decide) rfl rfl (Nat.le_of_ble_eq_true rfl) (fun z28 => ?_)
        refine s_iald F ar_34 dX8_breath_218 (fun q29 => ?_)
        refine s_goto F 223 dX8_breath_219 (by decide) ?_
        refine s_iast F hk dX8_breath_223 (fun q30 => ?_)
        refine s_iinc F 3 [(3, .int (a3 + (nI 1))), (0, .ref (ga G 25)), (1, .ref (ga G k)), (2, .int a2), (4, .int a4)] dX8_breath_224 rfl rfl (by decide) rfl ?_
        refine s_goto F 140 dX8_breath_227 (by decide) ?_
        refine s_lv [(0, .ref (ga G 25)), (1, .ref (ga G k)), (2, .int a2), (3, .int (a3 + (nI 1)))] [1, 2, 3, 0] rfl ?_
        exact ih _ _ _
set_option maxRecDepth 20000 in
theorem c_X8_breath {G : Gx} {l : Launch} {k : Nat} (hk : isArr k 80) {σ : St} {o : (Int32 × St)} (hF : F_X8_breath k σ = some o) : Con G l yX8_breath cX8_breath 6 (some .int) 2 [.ref (ga G 25), .ref (ga G k)] σ (some (.int o.1)) o.2 := by
  refine Con.of plX8 (Nat.le_of_ble_eq_true rfl) [(0, .ref (ga G 25)), (1, .ref (ga G k))] rfl (fun X F R => ?_)
  refine (show Sim G X 6 o (F_X8_breath k σ) σ 0 [(0, .ref (ga G 25)), (1, .ref (ga G k))] [] from ?_) hF
  unfold F_X8_breath
  refine s_iconst F (nI 0) dX8_breath_0 rfl ?_
  refine s_istore_n F [(2, .int (nI 0)), (0, .ref (ga G 25)), (1, .ref (ga G k))] dX8_breath_1 rfl (by decide) rfl ?_
  refine s_iconst F (nI 0) dX8_breath_2 rfl ?_
  refine s_istore_n F [(3, .int (nI 0)), (2, .int (nI 0)), (0, .ref (ga G 25)), (1, .ref (ga G k))] dX8_breath_3 rfl (by decide) rfl ?_
  refine s_lv [(0, .ref (ga G 25)), (1, .ref (ga G k)), (2, .int (nI 0)), (3, .int (nI 0))] [2, 3, 1, 0] rfl ?_
  refine l_X8_breath_4 F R hk (fun a2 σ => ?_) fuel _ _ _
  refine s_iconst F (nI 0) dX8_breath_138 rfl ?_
  refine s_istore_n F [(3, .int (nI 0)), (0, .ref (ga G 25)), (1, .ref (ga G k)), (2, .int a2)] dX8_breath_139 rfl (by decide) rfl ?_
  refine s_lv [(0, .ref (ga G 25)), (1, .ref (ga G k)), (2, .int a2), (3, .int (nI 0))] [1, 2, 3, 0] rfl ?_
  refine l_X8_breath_140 F R hk (fun a2 σ => ?_) fuel _ _ _
  refine s_aload_n F 0 dX8_breath_230 rfl rfl ?_
  refine s_iconst F (nI 3) dX8_breath_231 rfl ?_
  refine s_dup2 F dX8_breath_232 rfl rfl ?_
  refine s_iald F hk dX8_breath_233 (fun q33 => ?_)
  refine s_iconst F (nI 1) dX8_breath_234 rfl ?_
  refine s_iadd F dX8_breath_235 ?_
  refine s_iast F hk dX8_breath_236 (fun q34 => ?_)
  refine s_iload_n F 1 dX8_breath_237 rfl rfl ?_
  exact s_iret R dX8_breath_238
/-! X8_speech -/
def L_X8_speech_6 (k : Nat) (K : Int32 → St → Option (Int32 × St)) : Nat → Int32 → Int32 → Int32 → Int32 → Int32 → St → Option (Int32 × St)
  | 0, _, _, _, _, _, _ => none
  | n + 1, a1, a2, a3, a4, a5, σ => if ix (nI 2) 80 then if (σ.1 k (nI 2).toNatClampNeg) ≤ a5 then (K a4 σ) else ((F_X8_of k a5 (nI 1) σ).bind fun z2 => if z2.1 = a1 then (if ix (nI 4) 80 then (F_X8_has (z2.2.1 k (nI 4).toNatClampNeg) a5 z2.2).bind fun z4 => if z4.1 = 0 then (L_X8_speech_6 k K n a1 a2 a3 a4 (a5 + (nI 1)) z4.2) else ((F_X8_of k a5 (nI 5) z4.2).bind fun z5 => if a3 ≤ (z5.1 - z5.1 / (nI 100) * (nI 100)) then (L_X8_speech_6 k K n a1 a2 a3 a4 (a5 + (nI 1)) z5.2) else (if ix (((nI 17) + ((nI 9) * a5)) + (nI 5)) 80 then L_X8_speech_6 k K n a1 a2 a3 (a4 + (nI 1)) (a5 + (nI 1)) (setA z5.2 k (((nI 17) + ((nI 9) * a5)) + (nI 5)).toNatClampNeg (((nI 100) * a2) + a3)) else none)) else none) else (L_X8_speech_6 k K n a1 a2 a3 a4 (a5 + (nI 1)) z2.2)) else none
def F_X8_speech (k : Nat) (a1 : Int32) (a2 : Int32) (a3 : Int32) (σ : St) : Option (Int32 × St) := L_X8_speech_6 k (fun a4 σ => some (a4, σ)) fuel a1 a2 a3 (nI 0) (nI 0) σ
set_option maxRecDepth 20000 in
theorem l_X8_speech_6 {G : Gx} {X : Cx} (F : Fx G X cX8_speech 6 RX8 1) {o : (Int32 × St)} (R : Ret G X cX8_speech 6 (some .int) (some (.int o.1)) o.2) {k : Nat} (hk : isArr k 80) {K : Int32 → St → Option (Int32 × St)} (hK : ∀ (a4 : Int32) (σ : St), Sim G X 6 o (K a4 σ) σ 77 [(4, .int a4)] []) : ∀ (n : Nat) (a1 : Int32) (a2 : Int32) (a3 : Int32) (a4 : Int32) (a5 : Int32) (σ : St), Sim G X 6 o (L_X8_speech_6 k K n a1 a2 a3 a4 a5 σ) σ 6 [(0, .ref (ga G k)), (1, .int a1), (2, .int a2), (3, .int a3), (4, .int a4), (5, .int a5)] [] := by
  intro n
  induction n with
  | zero =>
    intro a1 a2 a3 a4 a5 σ
    exact s_none
  | succ n ih =>
    intro a1 a2 a3 a4 a5 σ
    rw [L_X8_speech_6.eq_2]
    refine s_iload F 5 dX8_speech_6 rfl ?_
    refine s_aload_n F 0 dX8_speech_8 rfl rfl ?_
    refine s_iconst F (nI 2) dX8_speech_9 rfl ?_
    refine s_iald F hk dX8_speech_10 (fun q1 => ?_)
    refine s_icmp_ge F 77 dX8_speech_11 (by decide) (fun c10 => ?_) (fun c10 => ?_)
    · refine s_lv [(4, .int a4)] [4] rfl ?_
      exact hK _ _
    · refine s_aload_n F 0 dX8_speech_14 rfl rfl ?_
      refine s_iload F 5 dX8_speech_15 rfl ?_
      refine s_iconst F (nI 1) dX8_speech_17 rfl ?_
      refine s_Si F [.ref (ga G k), .int a5, .int (nI 1)] dX8_speech_18 (fun z hz => c_X8_of hk hz) wS_X8_149 nk_X8_of (by decide) (by decide) rfl rfl (Nat.le_of_ble_eq_true rfl) (fun z2 => ?_)
      refine s_iload_n F 1 dX8_speech_21 rfl rfl ?_
      refine s_icmp_ne F 71 dX8_speech_22 (by decide) (fun c9 => ?_) (fun c9 => ?_)
      · refine s_iinc F 5 [(5, .int (a5 + (nI 1))), (0, .ref (ga G k)), (1, .int a1), (2, .int a2), (3, .int a3), (4, .int a4)] dX8_speech_71 rfl rfl (by decide) rfl ?_
        refine s_goto F 6 dX8_speech_74 (by decide) ?_
        refine s_lv [(0, .ref (ga G k)), (1, .int a1), (2, .int a2), (3, .int a3), (4, .int a4), (5, .int (a5 + (nI 1)))] [1, 2, 3, 4, 5, 0] rfl ?_
        exact ih _ _ _ _ _ _
      · refine s_aload_n F 0 dX8_speech_25 rfl rfl ?_
        refine s_iconst F (nI 4) dX8_speech_26 rfl ?_
        refine s_iald F hk dX8_speech_27 (fun q3 => ?_)
        refine s_iload F 5 dX8_speech_28 rfl ?_
        refine s_Si F [.int (z2.2.1 k (nI 4).toNatClampNeg), .int a5] dX8_speech_30 (fun z hz => c_X8_has hz) wS_X8_157 nk_X8_has (by decide) (by decide) rfl rfl (Nat.le_of_ble_eq_true rfl) (fun z4 => ?_)
        refine s_if_eq F 71 dX8_speech_33 (by decide) (fun c8 => ?_) (fun c8 => ?_)
        · refine s_iinc F 5 [(5, .int (a5 + (nI 1))), (0, .ref (ga G k)), (1, .int a1), (2, .int a2), (3, .int a3), (4, .int a4)] dX8_speech_71 rfl rfl (by decide) rfl ?_
          refine s_goto F 6 dX8_speech_74 (by decide) ?_
          refine s_lv [(0, .ref (ga G k)), (1, .int a1), (2, .int a2), (3, .int a3), (4, .int a4), (5, .int (a5 + (nI 1)))] [1, 2, 3, 4, 5, 0] rfl ?_
          exact ih _ _ _ _ _ _
        · refine s_aload_n F 0 dX8_speech_36 rfl rfl ?_
          refine s_iload F 5 dX8_speech_37 rfl ?_
          refine s_iconst F (nI 5) dX8_speech_39 rfl ?_
          refine s_Si F [.ref (ga G k), .int a5, .int (nI 5)] dX8_speech_40 (fun z hz => c_X8_of hk hz) wS_X8_149 nk_X8_of (by decide) (by decide) rfl rfl (Nat.le_of_ble_eq_true rfl) (fun z5 => ?_)
          refine s_bipush F (nI 100) dX8_speech_43 rfl ?_
          refine s_iremc F dX8_speech_45 (by decide) ?_
          refine s_iload_n F 3 dX8_speech_46 rfl rfl ?_
          refine s_icmp_ge F 71 dX8_speech_47 (by decide) (fun c7 => ?_) (fun c7 => ?_)
          · refine s_iinc F 5 [(5, .int (a5 + (nI 1))), (0, .ref (ga G k)), (1, .int a1), (2, .int a2), (3, .int a3), (4, .int a4)] dX8_speech_71 rfl rfl (by decide) rfl ?_
            refine s_goto F 6 dX8_speech_74 (by decide) ?_
            refine s_lv [(0, .ref (ga G k)), (1, .int a1), (2, .int a2), (3, .int a3), (4, .int a4), (5, .int (a5 + (nI 1)))] [1, 2, 3, 4, 5, 0] rfl ?_
            exact ih _ _ _ _ _ _
          · refine s_aload_n F 0 dX8_speech_50 rfl rfl ?_
            refine s_bipush F (nI 17) dX8_speech_51 rfl ?_
            refine s_bipush F (nI 9) dX8_speech_53 rfl ?_
            refine s_iload F 5 dX8_speech_55 rfl ?_
            refine s_imul F dX8_speech_57 ?_
            refine s_iadd F dX8_speech_58 ?_
            refine s_iconst F (nI 5) dX8_speech_59 rfl ?_
            refine s_iadd F dX8_speech_60 ?_
            refine s_bipush F (nI 100) dX8_speech_61 rfl ?_
            refine s_iload_n F 2 dX8_speech_63 rfl rfl ?_
            refine s_imul F dX8_speech_64 ?_
            refine s_iload_n F 3 dX8_speech_65 rfl rfl ?_
            refine s_iadd F dX8_speech_66 ?_
            refine s_iast F hk dX8_speech_67 (fun q6 => ?_)
            refine s_iinc F 4 [(4, .int (a4 + (nI 1))), (0, .ref (ga G k)), (1, .int a1), (2, .int a2), (3, .int a3), (5, .int a5)] dX8_speech_68 rfl rfl (by decide) rfl ?_
            refine s_iinc F 5 [(5, .int (a5 + (nI 1))), (4, .int (a4 + (nI 1))), (0, .ref (ga G k)), (1, .int a1), (2, .int a2), (3, .int a3)] dX8_speech_71 rfl rfl (by decide) rfl ?_
            refine s_goto F 6 dX8_speech_74 (by decide) ?_
            refine s_lv [(0, .ref (ga G k)), (1, .int a1), (2, .int a2), (3, .int a3), (4, .int (a4 + (nI 1))), (5, .int (a5 + (nI 1)))] [2, 3, 4, 5, 1, 0] rfl ?_
            exact ih _ _ _ _ _ _
set_option maxRecDepth 20000 in
theorem c_X8_speech {G : Gx} {l : Launch} {k : Nat} {a1 : Int32} {a2 : Int32} {a3 : Int32} (hk : isArr k 80) {σ : St} {o : (Int32 × St)} (hF : F_X8_speech k a1 a2 a3 σ = some o) : Con G l yX8_speech cX8_speech 6 (some .int) 1 [.ref (ga G k), .int a1, .int a2, .int a3] σ (some (.int o.1)) o.2 := by
  refine Con.of plX8 (Nat.le_of_ble_eq_true rfl) [(0, .ref (ga G k)), (1, .int a1), (2, .int a2), (3, .int a3)] rfl (fun X F R => ?_)
  refine (show Sim G X 6 o (F_X8_speech k a1 a2 a3 σ) σ 0 [(0, .ref (ga G k)), (1, .int a1), (2, .int a2), (3, .int a3)] [] from ?_) hF
  unfold F_X8_speech
  refine s_iconst F (nI 0) dX8_speech_0 rfl ?_
  refine s_istore F [(4, .int (nI 0)), (0, .ref (ga G k)), (1, .int a1), (2, .int a2), (3, .int a3)] dX8_speech_1 (by decide) rfl ?_
  refine s_iconst F (nI 0) dX8_speech_3 rfl ?_
  refine s_istore F [(5, .int (nI 0)), (4, .int (nI 0)), (0, .ref (ga G k)), (1, .int a1), (2, .int a2), (3, .int a3)] dX8_speech_4 (by decide) rfl ?_
  refine s_lv [(0, .ref (ga G k)), (1, .int a1), (2, .int a2), (3, .int a3), (4, .int (nI 0)), (5, .int (nI 0))] [2, 3, 4, 5, 1, 0] rfl ?_
  refine l_X8_speech_6 F R hk (fun a4 σ => ?_) fuel _ _ _ _ _ _
  refine s_iload F 0 dX8_speech_77 rfl ?_
  exact s_iret R dX8_speech_79
/-! X8_soundsIn -/
def L_X8_soundsIn_4 (k : Nat) (K : Int32 → St → Option (Int32 × St)) : Nat → Int32 → Int32 → Int32 → St → Option (Int32 × St)
  | 0, _, _, _, _ => none
  | n + 1, a1, a2, a3, σ => (F_X8_of k a1 (nI 3) σ).bind fun z1 => if z1.1 ≤ a3 then (K a2 z1.2) else ((F_X8_of k a1 ((nI 5) + a3) z1.2).bind fun z2 => if z2.1 ≤ 0 then (L_X8_soundsIn_4 k K n a1 (a2 + (nI 0)) (a3 + (nI 1)) z2.2) else (L_X8_soundsIn_4 k K n a1 (a2 + (nI 1)) (a3 + (nI 1)) z2.2))
def F_X8_soundsIn (k : Nat) (a1 : Int32) (σ : St) : Option (Int32 × St) := L_X8_soundsIn_4 k (fun a2 σ => some (a2, σ)) fuel a1 (nI 0) (nI 0) σ
set_option maxRecDepth 20000 in
theorem l_X8_soundsIn_4 {G : Gx} {X : Cx} (F : Fx G X cX8_soundsIn 4 RX8 1) {o : (Int32 × St)} (R : Ret G X cX8_soundsIn 4 (some .int) (some (.int o.1)) o.2) {k : Nat} (hk : isArr k 80) {K : Int32 → St → Option (Int32 × St)} (hK : ∀ (a2 : Int32) (σ : St), Sim G X 4 o (K a2 σ) σ 39 [(2, .int a2)] []) : ∀ (n : Nat) (a1 : Int32) (a2 : Int32) (a3 : Int32) (σ : St), Sim G X 4 o (L_X8_soundsIn_4 k K n a1 a2 a3 σ) σ 4 [(0, .ref (ga G k)), (1, .int a1), (2, .int a2), (3, .int a3)] [] := by
  intro n
  induction n with
  | zero =>
    intro a1 a2 a3 σ
    exact s_none
  | succ n ih =>
    intro a1 a2 a3 σ
    rw [L_X8_soundsIn_4.eq_2]
    refine s_iload_n F 3 dX8_soundsIn_4 rfl rfl ?_
    refine s_aload_n F 0 dX8_soundsIn_5 rfl rfl ?_
    refine s_iload_n F 1 dX8_soundsIn_6 rfl rfl ?_
    refine s_iconst F (nI 3) dX8_soundsIn_7 rfl ?_
    refine s_Si F [.ref (ga G k), .int a1, .int (nI 3)] dX8_soundsIn_8 (fun z hz => c_X8_of hk hz) wS_X8_149 nk_X8_of (by decide) (by decide) rfl rfl (Nat.le_of_ble_eq_true rfl) (fun z1 => ?_)
    refine s_icmp_ge F 39 dX8_soundsIn_11 (by decide) (fun c4 => ?_) (fun c4 => ?_)
    · refine s_lv [(2, .int a2)] [2] rfl ?_
      exact hK _ _
    · refine s_iload_n F 2 dX8_soundsIn_14 rfl rfl ?_
      refine s_aload_n F 0 dX8_soundsIn_15 rfl rfl ?_
      refine s_iload_n F 1 dX8_soundsIn_16 rfl rfl ?_
      refine s_iconst F (nI 5) dX8_soundsIn_17 rfl ?_
      refine s_iload_n F 3 dX8_soundsIn_18 rfl rfl ?_
      refine s_iadd F dX8_soundsIn_19 ?_
      refine s_Si F [.ref (ga G k), .int a1, .int ((nI 5) + a3)] dX8_soundsIn_20 (fun z hz => c_X8_of hk hz) wS_X8_149 nk_X8_of (by decide) (by decide) rfl rfl (Nat.le_of_ble_eq_true rfl) (fun z2 => ?_)
      refine s_if_le F 30 dX8_soundsIn_23 (by decide) (fun c3 => ?_) (fun c3 => ?_)
      · refine s_iconst F (nI 0) dX8_soundsIn_30 rfl ?_
        refine s_iadd F dX8_soundsIn_31 ?_
        refine s_istore_n F [(2, .int (a2 + (nI 0))), (0, .ref (ga G k)), (1, .int a1), (3, .int a3)] dX8_soundsIn_32 rfl (by decide) rfl ?_
        refine s_iinc F 3 [(3, .int (a3 + (nI 1))), (2, .int (a2 + (nI 0))), (0, .ref (ga G k)), (1, .int a1)] dX8_soundsIn_33 rfl rfl (by decide) rfl ?_
        refine s_goto F 4 dX8_soundsIn_36 (by decide) ?_
        refine s_lv [(0, .ref (ga G k)), (1, .int a1), (2, .int (a2 + (nI 0))), (3, .int (a3 + (nI 1)))] [2, 3, 1, 0] rfl ?_
        exact ih _ _ _ _
      · refine s_iconst F (nI 1) dX8_soundsIn_26 rfl ?_
        refine s_goto F 31 dX8_soundsIn_27 (by decide) ?_
        refine s_iadd F dX8_soundsIn_31 ?_
        refine s_istore_n F [(2, .int (a2 + (nI 1))), (0, .ref (ga G k)), (1, .int a1), (3, .int a3)] dX8_soundsIn_32 rfl (by decide) rfl ?_
        refine s_iinc F 3 [(3, .int (a3 + (nI 1))), (2, .int (a2 + (nI 1))), (0, .ref (ga G k)), (1, .int a1)] dX8_soundsIn_33 rfl rfl (by decide) rfl ?_
        refine s_goto F 4 dX8_soundsIn_36 (by decide) ?_
        refine s_lv [(0, .ref (ga G k)), (1, .int a1), (2, .int (a2 + (nI 1))), (3, .int (a3 + (nI 1)))] [2, 3, 1, 0] rfl ?_
        exact ih _ _ _ _
set_option maxRecDepth 20000 in
theorem c_X8_soundsIn {G : Gx} {l : Launch} {k : Nat} {a1 : Int32} (hk : isArr k 80) {σ : St} {o : (Int32 × St)} (hF : F_X8_soundsIn k a1 σ = some o) : Con G l yX8_soundsIn cX8_soundsIn 4 (some .int) 1 [.ref (ga G k), .int a1] σ (some (.int o.1)) o.2 := by
  refine Con.of plX8 (Nat.le_of_ble_eq_true rfl) [(0, .ref (ga G k)), (1, .int a1)] rfl (fun X F R => ?_)
  refine (show Sim G X 4 o (F_X8_soundsIn k a1 σ) σ 0 [(0, .ref (ga G k)), (1, .int a1)] [] from ?_) hF
  unfold F_X8_soundsIn
  refine s_iconst F (nI 0) dX8_soundsIn_0 rfl ?_
  refine s_istore_n F [(2, .int (nI 0)), (0, .ref (ga G k)), (1, .int a1)] dX8_soundsIn_1 rfl (by decide) rfl ?_
  refine s_iconst F (nI 0) dX8_soundsIn_2 rfl ?_
  refine s_istore_n F [(3, .int (nI 0)), (2, .int (nI 0)), (0, .ref (ga G k)), (1, .int a1)] dX8_soundsIn_3 rfl (by decide) rfl ?_
  refine s_lv [(0, .ref (ga G k)), (1, .int a1), (2, .int (nI 0)), (3, .int (nI 0))] [2, 3, 1, 0] rfl ?_
  refine l_X8_soundsIn_4 F R hk (fun a2 σ => ?_) fuel _ _ _ _
  refine s_iload_n F 0 dX8_soundsIn_39 rfl rfl ?_
  exact s_iret R dX8_soundsIn_40
/-! X8_sounds -/
def L_X8_sounds_4 (k : Nat) (K : Int32 → St → Option (Int32 × St)) : Nat → Int32 → Int32 → St → Option (Int32 × St)
  | 0, _, _, _ => none
  | n + 1, a1, a2, σ => if ix (nI 2) 80 then if (σ.1 k (nI 2).toNatClampNeg) ≤ a2 then (K a1 σ) else ((F_X8_soundsIn k a2 σ).bind fun z2 => L_X8_sounds_4 k K n (a1 + z2.1) (a2 + (nI 1)) z2.2) else none
def F_X8_sounds (k : Nat) (σ : St) : Option (Int32 × St) := L_X8_sounds_4 k (fun a1 σ => some (a1, σ)) fuel (nI 0) (nI 0) σ
set_option maxRecDepth 20000 in
theorem l_X8_sounds_4 {G : Gx} {X : Cx} (F : Fx G X cX8_sounds 3 RX8 2) {o : (Int32 × St)} (R : Ret G X cX8_sounds 3 (some .int) (some (.int o.1)) o.2) {k : Nat} (hk : isArr k 80) {K : Int32 → St → Option (Int32 × St)} (hK : ∀ (a1 : Int32) (σ : St), Sim G X 3 o (K a1 σ) σ 25 [(1, .int a1)] []) : ∀ (n : Nat) (a1 : Int32) (a2 : Int32) (σ : St), Sim G X 3 o (L_X8_sounds_4 k K n a1 a2 σ) σ 4 [(0, .ref (ga G k)), (1, .int a1), (2, .int a2)] [] := by
  intro n
  induction n with
  | zero =>
    intro a1 a2 σ
    exact s_none
  | succ n ih =>
    intro a1 a2 σ
    rw [L_X8_sounds_4.eq_2]
    refine s_iload_n F 2 dX8_sounds_4 rfl rfl ?_
    refine s_aload_n F 0 dX8_sounds_5 rfl rfl ?_
    refine s_iconst F (nI 2) dX8_sounds_6 rfl ?_
    refine s_iald F hk dX8_sounds_7 (fun q1 => ?_)
    refine s_icmp_ge F 25 dX8_sounds_8 (by decide) (fun c3 => ?_) (fun c3 => ?_)
    · refine s_lv [(1, .int a1)] [1] rfl ?_
      exact hK _ _
    · refine s_iload_n F 1 dX8_sounds_11 rfl rfl ?_
      refine s_aload_n F 0 dX8_sounds_12 rfl rfl ?_
      refine s_iload_n F 2 dX8_sounds_13 rfl rfl ?_
      refine s_Si F [.ref (ga G k), .int a2] dX8_sounds_14 (fun z hz => c_X8_soundsIn hk hz) wS_X8_161 nk_X8_soundsIn (by decide) (by decide) rfl rfl (Nat.le_of_ble_eq_true rfl) (fun z2 => ?_)
      refine s_iadd F dX8_sounds_17 ?_
      refine s_istore_n F [(1, .int (a1 + z2.1)), (0, .ref (ga G k)), (2, .int a2)] dX8_sounds_18 rfl (by decide) rfl ?_
      refine s_iinc F 2 [(2, .int (a2 + (nI 1))), (1, .int (a1 + z2.1)), (0, .ref (ga G k))] dX8_sounds_19 rfl rfl (by decide) rfl ?_
      refine s_goto F 4 dX8_sounds_22 (by decide) ?_
      refine s_lv [(0, .ref (ga G k)), (1, .int (a1 + z2.1)), (2, .int (a2 + (nI 1)))] [2, 1, 0] rfl ?_
      exact ih _ _ _
set_option maxRecDepth 20000 in
theorem c_X8_sounds {G : Gx} {l : Launch} {k : Nat} (hk : isArr k 80) {σ : St} {o : (Int32 × St)} (hF : F_X8_sounds k σ = some o) : Con G l yX8_sounds cX8_sounds 3 (some .int) 2 [.ref (ga G k)] σ (some (.int o.1)) o.2 := by
  refine Con.of plX8 (Nat.le_of_ble_eq_true rfl) [(0, .ref (ga G k))] rfl (fun X F R => ?_)
  refine (show Sim G X 3 o (F_X8_sounds k σ) σ 0 [(0, .ref (ga G k))] [] from ?_) hF
  unfold F_X8_sounds
  refine s_iconst F (nI 0) dX8_sounds_0 rfl ?_
  refine s_istore_n F [(1, .int (nI 0)), (0, .ref (ga G k))] dX8_sounds_1 rfl (by decide) rfl ?_
  refine s_iconst F (nI 0) dX8_sounds_2 rfl ?_
  refine s_istore_n F [(2, .int (nI 0)), (1, .int (nI 0)), (0, .ref (ga G k))] dX8_sounds_3 rfl (by decide) rfl ?_
  refine s_lv [(0, .ref (ga G k)), (1, .int (nI 0)), (2, .int (nI 0))] [2, 1, 0] rfl ?_
  refine l_X8_sounds_4 F R hk (fun a1 σ => ?_) fuel _ _ _
  refine s_iload_n F 0 dX8_sounds_25 rfl rfl ?_
  exact s_iret R dX8_sounds_26
/-! X8_silence -/
def L_X8_silence_16 (k : Nat) (K : Int32 → Int32 → St → Option (Int32 × St)) : Nat → Int32 → Int32 → Int32 → St → Option (Int32 × St)
  | 0, _, _, _, _ => none
  | n + 1, a1, a2, a3, σ => if (nI 4) ≤ a3 then (K a1 a2 σ) else (if ix ((((nI 17) + ((nI 9) * a2)) + (nI 5)) + a3) 80 then L_X8_silence_16 k K n a1 a2 (a3 + (nI 1)) (setA σ k ((((nI 17) + ((nI 9) * a2)) + (nI 5)) + a3).toNatClampNeg (nI 0)) else none)
def L_X8_silence_7 (k : Nat) (K : Int32 → St → Option (Int32 × St)) : Nat → Int32 → Int32 → St → Option (Int32 × St)
  | 0, _, _, _ => none
  | n + 1, a1, a2, σ => if ix (nI 2) 80 then if (σ.1 k (nI 2).toNatClampNeg) ≤ a2 then (K a1 σ) else (L_X8_silence_16 k (fun a1 a2 σ => L_X8_silence_7 k K n a1 (a2 + (nI 1)) σ) fuel a1 a2 (nI 0) σ) else none
def F_X8_silence (k : Nat) (σ : St) : Option (Int32 × St) := (F_X8_sounds k σ).bind fun z1 => L_X8_silence_7 k (fun a1 σ => some (a1, σ)) fuel z1.1 (nI 0) z1.2
set_option maxRecDepth 20000 in
theorem l_X8_silence_16 {G : Gx} {X : Cx} (F : Fx G X cX8_silence 4 RX8 3) {o : (Int32 × St)} (R : Ret G X cX8_silence 4 (some .int) (some (.int o.1)) o.2) {k : Nat} (hk : isArr k 80) {K : Int32 → Int32 → St → Option (Int32 × St)} (hK : ∀ (a1 : Int32) (a2 : Int32) (σ : St), Sim G X 4 o (K a1 a2 σ) σ 41 [(0, .ref (ga G k)), (1, .int a1), (2, .int a2)] []) : ∀ (n : Nat) (a1 : Int32) (a2 : Int32) (a3 : Int32) (σ : St), Sim G X 4 o (L_X8_silence_16 k K n a1 a2 a3 σ) σ 16 [(0, .ref (ga G k)), (1, .int a1), (2, .int a2), (3, .int a3)] [] := by
  intro n
  induction n with
  | zero =>
    intro a1 a2 a3 σ
    exact s_none
  | succ n ih =>
    intro a1 a2 a3 σ
    rw [L_X8_silence_16.eq_2]
    refine s_iload_n F 3 dX8_silence_16 rfl rfl ?_
    refine s_iconst F (nI 4) dX8_silence_17 rfl ?_
    refine s_icmp_ge F 41 dX8_silence_18 (by decide) (fun c4 => ?_) (fun c4 => ?_)
    · refine s_lv [(0, .ref (ga G k)), (1, .int a1), (2, .int a2)] [0, 1, 2] rfl ?_
      exact hK _ _ _
    · refine s_aload_n F 0 dX8_silence_21 rfl rfl ?_
      refine s_bipush F (nI 17) dX8_silence_22 rfl ?_
      refine s_bipush F (nI 9) dX8_silence_24 rfl ?_
      refine s_iload_n F 2 dX8_silence_26 rfl rfl ?_
      refine s_imul F dX8_silence_27 ?_
      refine s_iadd F dX8_silence_28 ?_
      refine s_iconst F (nI 5) dX8_silence_29 rfl ?_
      refine s_iadd F dX8_silence_30 ?_
      refine s_iload_n F 3 dX8_silence_31 rfl rfl ?_
      refine s_iadd F dX8_silence_32 ?_
      refine s_iconst F (nI 0) dX8_silence_33 rfl ?_
      refine s_iast F hk dX8_silence_34 (fun q3 => ?_)
      refine s_iinc F 3 [(3, .int (a3 + (nI 1))), (0, .ref (ga G k)), (1, .int a1), (2, .int a2)] dX8_silence_35 rfl rfl (by decide) rfl ?_
      refine s_goto F 16 dX8_silence_38 (by decide) ?_
      refine s_lv [(0, .ref (ga G k)), (1, .int a1), (2, .int a2), (3, .int (a3 + (nI 1)))] [1, 2, 3, 0] rfl ?_
      exact ih _ _ _ _
set_option maxRecDepth 20000 in
theorem l_X8_silence_7 {G : Gx} {X : Cx} (F : Fx G X cX8_silence 4 RX8 3) {o : (Int32 × St)} (R : Ret G X cX8_silence 4 (some .int) (some (.int o.1)) o.2) {k : Nat} (hk : isArr k 80) {K : Int32 → St → Option (Int32 × St)} (hK : ∀ (a1 : Int32) (σ : St), Sim G X 4 o (K a1 σ) σ 47 [(1, .int a1)] []) : ∀ (n : Nat) (a1 : Int32) (a2 : Int32) (σ : St), Sim G X 4 o (L_X8_silence_7 k K n a1 a2 σ) σ 7 [(0, .ref (ga G k)), (1, .int a1), (2, .int a2)] [] := by
  intro n
  induction n with
  | zero =>
    intro a1 a2 σ
    exact s_none
  | succ n ih =>
    intro a1 a2 σ
    rw [L_X8_silence_7.eq_2]
    refine s_iload_n F 2 dX8_silence_7 rfl rfl ?_
    refine s_aload_n F 0 dX8_silence_8 rfl rfl ?_
    refine s_iconst F (nI 2) dX8_silence_9 rfl ?_
    refine s_iald F hk dX8_silence_10 (fun q2 => ?_)
    refine s_icmp_ge F 47 dX8_silence_11 (by decide) (fun c5 => ?_) (fun c5 => ?_)
    · refine s_lv [(1, .int a1)] [1] rfl ?_
      exact hK _ _
    · refine s_iconst F (nI 0) dX8_silence_14 rfl ?_
      refine s_istore_n F [(3, .int (nI 0)), (0, .ref (ga G k)), (1, .int a1), (2, .int a2)] dX8_silence_15 rfl (by decide) rfl ?_
      refine s_lv [(0, .ref (ga G k)), (1, .int a1), (2, .int a2), (3, .int (nI 0))] [1, 2, 3, 0] rfl ?_
      refine l_X8_silence_16 F R hk (fun a1 a2 σ => ?_) fuel _ _ _ _
      refine s_iinc F 2 [(2, .int (a2 + (nI 1))), (0, .ref (ga G k)), (1, .int a1)] dX8_silence_41 rfl rfl (by decide) rfl ?_
      refine s_goto F 7 dX8_silence_44 (by decide) ?_
      refine s_lv [(0, .ref (ga G k)), (1, .int a1), (2, .int (a2 + (nI 1)))] [1, 2, 0] rfl ?_
      exact ih _ _ _
set_option maxRecDepth 20000 in
theorem c_X8_silence {G : Gx} {l : Launch} {k : Nat} (hk : isArr k 80) {σ : St} {o : (Int32 × St)} (hF : F_X8_silence k σ = some o) : Con G l yX8_silence cX8_silence 4 (some .int) 3 [.ref (ga G k)] σ (some (.int o.1)) o.2 := by
  refine Con.of plX8 (Nat.le_of_ble_eq_true rfl) [(0, .ref (ga G k))] rfl (fun X F R => ?_)
  refine (show Sim G X 4 o (F_X8_silence k σ) σ 0 [(0, .ref (ga G k))] [] from ?_) hF
  unfold F_X8_silence
  refine s_aload_n F 0 dX8_silence_0 rfl rfl ?_
  refine s_Si F [.ref (ga G k)] dX8_silence_1 (fun z hz => c_X8_sounds hk hz) wS_X8_164 nk_X8_sounds (by decide) (by decide) rfl rfl (Nat.le_of_ble_eq_true rfl) (fun z1 => ?_)
  refine s_istore_n F [(1, .int z1.1), (0, .ref (ga G k))] dX8_silence_4 rfl (by decide) rfl ?_
  refine s_iconst F (nI 0) dX8_silence_5 rfl ?_
  refine s_istore_n F [(2, .int (nI 0)), (1, .int z1.1), (0, .ref (ga G k))] dX8_silence_6 rfl (by decide) rfl ?_
  refine s_lv [(0, .ref (ga G k)), (1, .int z1.1), (2, .int (nI 0))] [2, 1, 0] rfl ?_
  refine l_X8_silence_7 F R hk (fun a1 σ => ?_) fuel _ _ _
  refine s_iload_n F 0 dX8_silence_47 rfl rfl ?_
  exact s_iret R dX8_silence_48
/-! X8_layThen -/
def L_X8_layThen_2 (K : St → Option St) : Nat → Int32 → St → Option St
  | 0, _, _ => none
  | n + 1, a1, σ => if (nI 80) ≤ a1 then (K σ) else (if ix a1 80 then if ix a1 80 then L_X8_layThen_2 K n (a1 + (nI 1)) (setA σ 31 a1.toNatClampNeg (σ.1 29 a1.toNatClampNeg)) else none else none)
def F_X8_layThen (σ : St) : Option St := L_X8_layThen_2 (fun σ => some σ) fuel (nI 0) σ
set_option maxRecDepth 20000 in
theorem l_X8_layThen_2 {G : Gx} {X : Cx} (F : Fx G X cX8_layThen 2 RX8 0) {o : St} (R : Ret G X cX8_layThen 2 none none o) {K : St → Option St} (hK : ∀ (σ : St), Sim G X 2 o (K σ) σ 26 [] []) : ∀ (n : Nat) (a1 : Int32) (σ : St), Sim G X 2 o (L_X8_layThen_2 K n a1 σ) σ 2 [(0, .ref (ga G 25)), (1, .int a1)] [] := by
  intro n
  induction n with
  | zero =>
    intro a1 σ
    exact s_none
  | succ n ih =>
    intro a1 σ
    rw [L_X8_layThen_2.eq_2]
    refine s_iload_n F 1 dX8_layThen_2 rfl rfl ?_
    refine s_bipush F (nI 80) dX8_layThen_3 rfl ?_
    refine s_icmp_ge F 26 dX8_layThen_5 (by decide) (fun c3 => ?_) (fun c3 => ?_)
    · refine s_lv [] [] rfl ?_
      exact hK _
    · refine s_aload_n F 0 dX8_layThen_8 rfl rfl ?_
      refine fg_X8_25 F dX8_layThen_9 ?_
      refine s_iload_n F 1 dX8_layThen_12 rfl rfl ?_
      refine s_aload_n F 0 dX8_layThen_13 rfl rfl ?_
      refine fg_X8_19 F dX8_layThen_14 ?_
      refine s_iload_n F 1 dX8_layThen_17 rfl rfl ?_
      refine s_iald F ar_29 dX8_layThen_18 (fun q1 => ?_)
      refine s_iast F ar_31 dX8_layThen_19 (fun q2 => ?_)
      refine s_iinc F 1 [(1, .int (a1 + (nI 1))), (0, .ref (ga G 25))] dX8_layThen_20 rfl rfl (by decide) rfl ?_
      refine s_goto F 2 dX8_layThen_23 (by decide) ?_
      refine s_lv [(0, .ref (ga G 25)), (1, .int (a1 + (nI 1)))] [1, 0] rfl ?_
      exact ih _ _
set_option maxRecDepth 20000 in
theorem c_X8_layThen {G : Gx} {l : Launch} {σ : St} {o : St} (hF : F_X8_layThen σ = some o) : Con G l yX8_layThen cX8_layThen 2 none 0 [.ref (ga G 25)] σ none o := by
  refine Con.of plX8 (Nat.le_of_ble_eq_true rfl) [(0, .ref (ga G 25))] rfl (fun X F R => ?_)
  refine (show Sim G X 2 o (F_X8_layThen σ) σ 0 [(0, .ref (ga G 25))] [] from ?_) hF
  unfold F_X8_layThen
  refine s_iconst F (nI 0) dX8_layThen_0 rfl ?_
  refine s_istore_n F [(1, .int (nI 0)), (0, .ref (ga G 25))] dX8_layThen_1 rfl (by decide) rfl ?_
  refine s_lv [(0, .ref (ga G 25)), (1, .int (nI 0))] [1, 0] rfl ?_
  refine l_X8_layThen_2 F R (fun σ => ?_) fuel _ _
  exact s_vret R dX8_layThen_26
/-! X8_hearersIn -/
def L_X8_hearersIn_4 (K : Int32 → St → Option (Int32 × St)) : Nat → Int32 → Int32 → Int32 → St → Option (Int32 × St)
  | 0, _, _, _, _ => none
  | n + 1, a1, a2, a3, σ => if a1 ≤ a3 then (K a2 σ) else ((F_X8_breath 31 σ).bind fun z1 => L_X8_hearersIn_4 K n a1 (a2 ||| z1.1) (a3 + (nI 1)) z1.2)
def F_X8_hearersIn (a1 : Int32) (σ : St) : Option (Int32 × St) := L_X8_hearersIn_4 (fun a2 σ => some (a2, σ)) fuel a1 (nI 0) (nI 0) σ
set_option maxRecDepth 20000 in
theorem l_X8_hearersIn_4 {G : Gx} {X : Cx} (F : Fx G X cX8_hearersIn 4 RX8 3) {o : (Int32 × St)} (R : Ret G X cX8_hearersIn 4 (some .int) (some (.int o.1)) o.2) {K : Int32 → St → Option (Int32 × St)} (hK : ∀ (a2 : Int32) (σ : St), Sim G X 4 o (K a2 σ) σ 26 [(2, .int a2)] []) : ∀ (n : Nat) (a1 : Int32) (a2 : Int32) (a3 : Int32) (σ : St), Sim G X 4 o (L_X8_hearersIn_4 K n a1 a2 a3 σ) σ 4 [(0, .ref (ga G 25)), (1, .int a1), (2, .int a2), (3, .int a3)] [] := by
  intro n
  induction n with
  | zero =>
    intro a1 a2 a3 σ
    exact s_none
  | succ n ih =>
    intro a1 a2 a3 σ
    rw [L_X8_hearersIn_4.eq_2]
    refine s_iload_n F 3 dX8_hearersIn_4 rfl rfl ?_
    refine s_iload_n F 1 dX8_hearersIn_5 rfl rfl ?_
    refine s_icmp_ge F 26 dX8_hearersIn_6 (by decide) (fun c2 => ?_) (fun c2 => ?_)
    · refine s_lv [(2, .int a2)] [2] rfl ?_
      exact hK _ _
    · refine s_iload_n F 2 dX8_hearersIn_9 rfl rfl ?_
      refine s_aload_n F 0 dX8_hearersIn_10 rfl rfl ?_
      refine s_aload_n F 0 dX8_hearersIn_11 rfl rfl ?_
      refine fg_X8_25 F dX8_hearersIn_12 ?_
      refine s_Vi F [.ref (ga G 31)] dX8_hearersIn_15 (fun z hz => c_X8_breath ar_31 hz) wV_X8_168 nk_X8_breath (by decide) (by decide) ob_25 vc_7 rfl rfl (Nat.le_of_ble_eq_true rfl) (fun z1 => ?_)
      refine s_ior F dX8_hearersIn_18 ?_
      refine s_istore_n F [(2, .int (a2 ||| z1.1)), (0, .ref (ga G 25)), (1, .int a1), (3, .int a3)] dX8_hearersIn_19 rfl (by decide) rfl ?_
      refine s_iinc F 3 [(3, .int (a3 + (nI 1))), (2, .int (a2 ||| z1.1)), (0, .ref (ga G 25)), (1, .int a1)] dX8_hearersIn_20 rfl rfl (by decide) rfl ?_
      refine s_goto F 4 dX8_hearersIn_23 (by decide) ?_
      refine s_lv [(0, .ref (ga G 25)), (1, .int a1), (2, .int (a2 ||| z1.1)), (3, .int (a3 + (nI 1)))] [2, 3, 1, 0] rfl ?_
      exact ih _ _ _ _
set_option maxRecDepth 20000 in
theorem c_X8_hearersIn {G : Gx} {l : Launch} {a1 : Int32} {σ : St} {o : (Int32 × St)} (hF : F_X8_hearersIn a1 σ = some o) : Con G l yX8_hearersIn cX8_hearersIn 4 (some .int) 3 [.ref (ga G 25), .int a1] σ (some (.int o.1)) o.2 := by
  refine Con.of plX8 (Nat.le_of_ble_eq_true rfl) [(0, .ref (ga G 25)), (1, .int a1)] rfl (fun X F R => ?_)
  refine (show Sim G X 4 o (F_X8_hearersIn a1 σ) σ 0 [(0, .ref (ga G 25)), (1, .int a1)] [] from ?_) hF
  unfold F_X8_hearersIn
  refine s_iconst F (nI 0) dX8_hearersIn_0 rfl ?_
  refine s_istore_n F [(2, .int (nI 0)), (0, .ref (ga G 25)), (1, .int a1)] dX8_hearersIn_1 rfl (by decide) rfl ?_
  refine s_iconst F (nI 0) dX8_hearersIn_2 rfl ?_
  refine s_istore_n F [(3, .int (nI 0)), (2, .int (nI 0)), (0, .ref (ga G 25)), (1, .int a1)] dX8_hearersIn_3 rfl (by decide) rfl ?_
  refine s_lv [(0, .ref (ga G 25)), (1, .int a1), (2, .int (nI 0)), (3, .int (nI 0))] [2, 3, 1, 0] rfl ?_
  refine l_X8_hearersIn_4 F R (fun a2 σ => ?_) fuel _ _ _ _
  refine s_iload_n F 0 dX8_hearersIn_26 rfl rfl ?_
  exact s_iret R dX8_hearersIn_27
/-! X8_keep -/
def L_X8_keep_51 (K : St → Option St) : Nat → Int32 → St → Option St
  | 0, _, _ => none
  | n + 1, a1, σ => if (nI 80) ≤ a1 then (K σ) else (if ix a1 80 then if ix (((nI 80) * (σ.2 10)) + a1) 1920 then L_X8_keep_51 K n (a1 + (nI 1)) (setA σ 32 (((nI 80) * (σ.2 10)) + a1).toNatClampNeg (σ.1 29 a1.toNatClampNeg)) else none else none)
def L_X8_keep_11 (K : St → Option St) : Nat → Int32 → St → Option St
  | 0, _, _ => none
  | n + 1, a1, σ => if (nI 1840) ≤ a1 then (K σ) else (if ix (a1 + (nI 80)) 1920 then if ix a1 1920 then L_X8_keep_11 K n (a1 + (nI 1)) (setA σ 32 a1.toNatClampNeg (σ.1 32 (a1 + (nI 80)).toNatClampNeg)) else none else none)
def F_X8_keep (σ : St) : Option St := if (σ.2 10) = (nI 24) then (L_X8_keep_11 (fun σ => L_X8_keep_51 (fun σ => some (setF σ 10 ((σ.2 10) + (nI 1)))) fuel (nI 0) (setF σ 10 ((σ.2 10) - (nI 1)))) fuel (nI 0) σ) else (L_X8_keep_51 (fun σ => some (setF σ 10 ((σ.2 10) + (nI 1)))) fuel (nI 0) σ)
set_option maxRecDepth 20000 in
theorem l_X8_keep_51 {G : Gx} {X : Cx} (F : Fx G X cX8_keep 2 RX8 0) {o : St} (R : Ret G X cX8_keep 2 none none o) {K : St → Option St} (hK : ∀ (σ : St), Sim G X 2 o (K σ) σ 83 [(0, .ref (ga G 25))] []) : ∀ (n : Nat) (a1 : Int32) (σ : St), Sim G X 2 o (L_X8_keep_51 K n a1 σ) σ 51 [(0, .ref (ga G 25)), (1, .int a1)] [] := by
  intro n
  induction n with
  | zero =>
    intro a1 σ
    exact s_none
  | succ n ih =>
    intro a1 σ
    rw [L_X8_keep_51.eq_2]
    refine s_iload_n F 1 dX8_keep_51 rfl rfl ?_
    refine s_bipush F (nI 80) dX8_keep_52 rfl ?_
    refine s_icmp_ge F 83 dX8_keep_54 (by decide) (fun c3 => ?_) (fun c3 => ?_)
    · refine s_lv [(0, .ref (ga G 25))] [0] rfl ?_
      exact hK _
    · refine s_aload_n F 0 dX8_keep_57 rfl rfl ?_
      refine fg_X8_28 F dX8_keep_58 ?_
      refine s_bipush F (nI 80) dX8_keep_61 rfl ?_
      refine s_aload_n F 0 dX8_keep_63 rfl rfl ?_
      refine fg_X8_146 F dX8_keep_64 ?_
      refine s_imul F dX8_keep_67 ?_
      refine s_iload_n F 1 dX8_keep_68 rfl rfl ?_
      refine s_iadd F dX8_keep_69 ?_
      refine s_aload_n F 0 dX8_keep_70 rfl rfl ?_
      refine fg_X8_19 F dX8_keep_71 ?_
      refine s_iload_n F 1 dX8_keep_74 rfl rfl ?_
      refine s_iald F ar_29 dX8_keep_75 (fun q1 => ?_)
      refine s_iast F ar_32 dX8_keep_76 (fun q2 => ?_)
      refine s_iinc F 1 [(1, .int (a1 + (nI 1))), (0, .ref (ga G 25))] dX8_keep_77 rfl rfl (by decide) rfl ?_
      refine s_goto F 51 dX8_keep_80 (by decide) ?_
      refine s_lv [(0, .ref (ga G 25)), (1, .int (a1 + (nI 1)))] [1, 0] rfl ?_
      exact ih _ _
set_option maxRecDepth 20000 in
theorem l_X8_keep_11 {G : Gx} {X : Cx} (F : Fx G X cX8_keep 2 RX8 0) {o : St} (R : Ret G X cX8_keep 2 none none o) {K : St → Option St} (hK : ∀ (σ : St), Sim G X 2 o (K σ) σ 39 [(0, .ref (ga G 25))] []) : ∀ (n : Nat) (a1 : Int32) (σ : St), Sim G X 2 o (L_X8_keep_11 K n a1 σ) σ 11 [(0, .ref (ga G 25)), (1, .int a1)] [] := by
  intro n
  induction n with
  | zero =>
    intro a1 σ
    exact s_none
  | succ n ih =>
    intro a1 σ
    rw [L_X8_keep_11.eq_2]
    refine s_iload_n F 1 dX8_keep_11 rfl rfl ?_
    refine s_sipush F (nI 1840) dX8_keep_12 rfl ?_
    refine s_icmp_ge F 39 dX8_keep_15 (by decide) (fun c6 => ?_) (fun c6 => ?_)
    · refine s_lv [(0, .ref (ga G 25))] [0] rfl ?_
      exact hK _
    · refine s_aload_n F 0 dX8_keep_18 rfl rfl ?_
      refine fg_X8_28 F dX8_keep_19 ?_
      refine s_iload_n F 1 dX8_keep_22 rfl rfl ?_
      refine s_aload_n F 0 dX8_keep_23 rfl rfl ?_
      refine fg_X8_28 F dX8_keep_24 ?_
      refine s_iload_n F 1 dX8_keep_27 rfl rfl ?_
      refine s_bipush F (nI 80) dX8_keep_28 rfl ?_
      refine s_iadd F dX8_keep_30 ?_
      refine s_iald F ar_32 dX8_keep_31 (fun q4 => ?_)
      refine s_iast F ar_32 dX8_keep_32 (fun q5 => ?_)
      refine s_iinc F 1 [(1, .int (a1 + (nI 1))), (0, .ref (ga G 25))] dX8_keep_33 rfl rfl (by decide) rfl ?_
      refine s_goto F 11 dX8_keep_36 (by decide) ?_
      refine s_lv [(0, .ref (ga G 25)), (1, .int (a1 + (nI 1)))] [1, 0] rfl ?_
      exact ih _ _
set_option maxRecDepth 20000 in
theorem c_X8_keep {G : Gx} {l : Launch} {σ : St} {o : St} (hF : F_X8_keep σ = some o) : Con G l yX8_keep cX8_keep 2 none 0 [.ref (ga G 25)] σ none o := by
  refine Con.of plX8 (Nat.le_of_ble_eq_true rfl) [(0, .ref (ga G 25))] rfl (fun X F R => ?_)
  refine (show Sim G X 2 o (F_X8_keep σ) σ 0 [(0, .ref (ga G 25))] [] from ?_) hF
  unfold F_X8_keep
  refine s_aload_n F 0 dX8_keep_0 rfl rfl ?_
  refine fg_X8_146 F dX8_keep_1 ?_
  refine s_bipush F (nI 24) dX8_keep_4 rfl ?_
  refine s_icmp_ne F 49 dX8_keep_6 (by decide) (fun c7 => ?_) (fun c7 => ?_)
  · refine s_iconst F (nI 0) dX8_keep_49 rfl ?_
    refine s_istore_n F [(1, .int (nI 0)), (0, .ref (ga G 25))] dX8_keep_50 rfl (by decide) rfl ?_
    refine s_lv [(0, .ref (ga G 25)), (1, .int (nI 0))] [1, 0] rfl ?_
    refine l_X8_keep_51 F R (fun σ => ?_) fuel _ _
    refine s_aload_n F 0 dX8_keep_83 rfl rfl ?_
    refine s_dup F dX8_keep_84 rfl ?_
    refine fg_X8_146 F dX8_keep_85 ?_
    refine s_iconst F (nI 1) dX8_keep_88 rfl ?_
    refine s_iadd F dX8_keep_89 ?_
    refine fp_X8_146 F dX8_keep_90 ?_
    exact s_vret R dX8_keep_93
  · refine s_iconst F (nI 0) dX8_keep_9 rfl ?_
    refine s_istore_n F [(1, .int (nI 0)), (0, .ref (ga G 25))] dX8_keep_10 rfl (by decide) rfl ?_
    refine s_lv [(0, .ref (ga G 25)), (1, .int (nI 0))] [1, 0] rfl ?_
    refine l_X8_keep_11 F R (fun σ => ?_) fuel _ _
    refine s_aload_n F 0 dX8_keep_39 rfl rfl ?_
    refine s_dup F dX8_keep_40 rfl ?_
    refine fg_X8_146 F dX8_keep_41 ?_
    refine s_iconst F (nI 1) dX8_keep_44 rfl ?_
    refine s_isub F dX8_keep_45 ?_
    refine fp_X8_146 F dX8_keep_46 ?_
    refine s_iconst F (nI 0) dX8_keep_49 rfl ?_
    refine s_istore_n F [(1, .int (nI 0)), (0, .ref (ga G 25))] dX8_keep_50 rfl (by decide) rfl ?_
    refine s_lv [(0, .ref (ga G 25)), (1, .int (nI 0))] [1, 0] rfl ?_
    refine l_X8_keep_51 F R (fun σ => ?_) fuel _ _
    refine s_aload_n F 0 dX8_keep_83 rfl rfl ?_
    refine s_dup F dX8_keep_84 rfl ?_
    refine fg_X8_146 F dX8_keep_85 ?_
    refine s_iconst F (nI 1) dX8_keep_88 rfl ?_
    refine s_iadd F dX8_keep_89 ?_
    refine fp_X8_146 F dX8_keep_90 ?_
    exact s_vret R dX8_keep_93
/-! X8_breathe -/
def L_X8_breathe_51 (K : Int32 → St → Option (Int32 × St)) : Nat → Int32 → Int32 → Int32 → St → Option (Int32 × St)
  | 0, _, _, _, _ => none
  | n + 1, a1, a2, a3, σ => if a1 ≤ a3 then (K a2 σ) else ((F_X8_keep σ).bind fun z4 => (F_X8_breath 29 z4).bind fun z5 => L_X8_breathe_51 K n a1 z5.1 (a3 + (nI 1)) z5.2)
def F_X8_breathe (a1 : Int32) (σ : St) : Option (Int32 × St) := (F_X8_isThere (setF σ 8 (nI 0))).bind fun z1 => if z1.1 = 0 then (some ((-1000002 : Int32), z1.2)) else ((F_X8_in a1.toInt64 (lN 1) (lN 24) z1.2).bind fun z2 => if z2.1 = 0 then (some ((-1000001 : Int32), z2.2)) else (if ix (nI 3) 80 then if ((z2.2.1 29 (nI 3).toNatClampNeg) + a1) ≤ (nI 999) then (L_X8_breathe_51 (fun a2 σ => some (a2, σ)) fuel a1 (nI 0) (nI 0) z2.2) else (some ((-1000003 : Int32), z2.2)) else none))
set_option maxRecDepth 20000 in
theorem l_X8_breathe_51 {G : Gx} {X : Cx} (F : Fx G X cX8_breathe 4 RX8 3) {o : (Int32 × St)} (R : Ret G X cX8_breathe 4 (some .int) (some (.int o.1)) o.2) {K : Int32 → St → Option (Int32 × St)} (hK : ∀ (a2 : Int32) (σ : St), Sim G X 4 o (K a2 σ) σ 75 [(2, .int a2)] []) : ∀ (n : Nat) (a1 : Int32) (a2 : Int32) (a3 : Int32) (σ : St), Sim G X 4 o (L_X8_breathe_51 K n a1 a2 a3 σ) σ 51 [(0, .ref (ga G 25)), (1, .int a1), (2, .int a2), (3, .int a3)] [] := by
  intro n
  induction n with
  | zero =>
    intro a1 a2 a3 σ
    exact s_none
  | succ n ih =>
    intro a1 a2 a3 σ
    rw [L_X8_breathe_51.eq_2]
    refine s_iload_n F 3 dX8_breathe_51 rfl rfl ?_
    refine s_iload_n F 1 dX8_breathe_52 rfl rfl ?_
    refine s_icmp_ge F 75 dX8_breathe_53 (by decide) (fun c6 => ?_) (fun c6 => ?_)
    · refine s_lv [(2, .int a2)] [2] rfl ?_
      exact hK _ _
    · refine s_aload_n F 0 dX8_breathe_56 rfl rfl ?_
      refine s_Vv F [] dX8_breathe_57 (fun z hz => c_X8_keep hz) wV_X8_177 nk_X8_keep (by decide) (by decide) ob_25 vc_7 rfl rfl (Nat.le_of_ble_eq_true rfl) (fun z4 => ?_)
      refine s_aload_n F 0 dX8_breathe_60 rfl rfl ?_
      refine s_aload_n F 0 dX8_breathe_61 rfl rfl ?_
      refine fg_X8_19 F dX8_breathe_62 ?_
      refine s_Vi F [.ref (ga G 29)] dX8_breathe_65 (fun z hz => c_X8_breath ar_29 hz) wV_X8_168 nk_X8_breath (by decide) (by decide) ob_25 vc_7 rfl rfl (Nat.le_of_ble_eq_true rfl) (fun z5 => ?_)
      refine s_istore_n F [(2, .int z5.1), (0, .ref (ga G 25)), (1, .int a1), (3, .int a3)] dX8_breathe_68 rfl (by decide) rfl ?_
      refine s_iinc F 3 [(3, .int (a3 + (nI 1))), (2, .int z5.1), (0, .ref (ga G 25)), (1, .int a1)] dX8_breathe_69 rfl rfl (by decide) rfl ?_
      refine s_goto F 51 dX8_breathe_72 (by decide) ?_
      refine s_lv [(0, .ref (ga G 25)), (1, .int a1), (2, .int z5.1), (3, .int (a3 + (nI 1)))] [2, 3, 1, 0] rfl ?_
      exact ih _ _ _ _
set_option maxRecDepth 20000 in
theorem c_X8_breathe {G : Gx} {l : Launch} {a1 : Int32} {σ : St} {o : (Int32 × St)} (hF : F_X8_breathe a1 σ = some o) : Con G l yX8_breathe cX8_breathe 4 (some .int) 3 [.ref (ga G 25), .int a1] σ (some (.int o.1)) o.2 := by
  refine Con.of plX8 (Nat.le_of_ble_eq_true rfl) [(0, .ref (ga G 25)), (1, .int a1)] rfl (fun X F R => ?_)
  refine (show Sim G X 4 o (F_X8_breathe a1 σ) σ 0 [(0, .ref (ga G 25)), (1, .int a1)] [] from ?_) hF
  unfold F_X8_breathe
  refine s_aload_n F 0 dX8_breathe_0 rfl rfl ?_
  refine s_iconst F (nI 0) dX8_breathe_1 rfl ?_
  refine fp_X8_47 F dX8_breathe_2 ?_
  refine s_aload_n F 0 dX8_breathe_5 rfl rfl ?_
  refine s_Vi F [] dX8_breathe_6 (fun z hz => c_X8_isThere hz) wV_X8_171 nk_X8_isThere (by decide) (by decide) ob_25 vc_7 rfl rfl (Nat.le_of_ble_eq_true rfl) (fun z1 => ?_)
  refine s_if_ne F 15 dX8_breathe_9 (by decide) (fun c9 => ?_) (fun c9 => ?_)
  · refine s_iload_n F 1 dX8_breathe_15 rfl rfl ?_
    refine s_i2l F dX8_breathe_16 ?_
    refine s_lconst F (lN 1) dX8_breathe_17 rfl ?_
    refine s_ldc2 F dX8_breathe_18 m_4_131 ?_
    refine s_Si F [.long a1.toInt64, .long (lN 1), .long (lN 24)] dX8_breathe_21 (fun z hz => c_X8_in hz) wS_X8_57 nk_X8_in (by decide) (by decide) rfl rfl (Nat.le_of_ble_eq_true rfl) (fun z2 => ?_)
    refine s_if_ne F 30 dX8_breathe_24 (by decide) (fun c8 => ?_) (fun c8 => ?_)
    · refine s_aload_n F 0 dX8_breathe_30 rfl rfl ?_
      refine fg_X8_19 F dX8_breathe_31 ?_
      refine s_iconst F (nI 3) dX8_breathe_34 rfl ?_
      refine s_iald F ar_29 dX8_breathe_35 (fun q3 => ?_)
      refine s_iload_n F 1 dX8_breathe_36 rfl rfl ?_
      refine s_iadd F dX8_breathe_37 ?_
      refine s_sipush F (nI 999) dX8_breathe_38 rfl ?_
      refine s_icmp_le F 47 dX8_breathe_41 (by decide) (fun c7 => ?_) (fun c7 => ?_)
      · refine s_iconst F (nI 0) dX8_breathe_47 rfl ?_
        refine s_istore_n F [(2, .int (nI 0)), (0, .ref (ga G 25)), (1, .int a1)] dX8_breathe_48 rfl (by decide) rfl ?_
        refine s_iconst F (nI 0) dX8_breathe_49 rfl ?_
        refine s_istore_n F [(3, .int (nI 0)), (2, .int (nI 0)), (0, .ref (ga G 25)), (1, .int a1)] dX8_breathe_50 rfl (by decide) rfl ?_
        refine s_lv [(0, .ref (ga G 25)), (1, .int a1), (2, .int (nI 0)), (3, .int (nI 0))] [2, 3, 1, 0] rfl ?_
        refine l_X8_breathe_51 F R (fun a2 σ => ?_) fuel _ _ _ _
        refine s_iload_n F 0 dX8_breathe_75 rfl rfl ?_
        exact s_iret R dX8_breathe_76
      · refine s_ldc F dX8_breathe_44 m_4_64 ?_
        exact s_iret R dX8_breathe_46
    · refine s_ldc F dX8_breathe_27 m_4_41 ?_
      exact s_iret R dX8_breathe_29
  · refine s_ldc F dX8_breathe_12 m_4_130 ?_
    exact s_iret R dX8_breathe_14
/-! X8_speak -/
def F_X8_speak (a1 : Int32) (a2 : Int32) (a3 : Int32) (σ : St) : Option (Int32 × St) := (F_X8_isHorn a1 (setF σ 8 (nI 0))).bind fun z1 => if z1.1 = 0 then (some ((-1000001 : Int32), z1.2)) else ((F_X8_in a2.toInt64 (lN 0) (lN 9) z1.2).bind fun z2 => if z2.1 = 0 then (some ((-1000001 : Int32), z2.2)) else ((F_X8_in a3.toInt64 (lN 1) (lN 99) z2.2).bind fun z3 => if z3.1 = 0 then (some ((-1000001 : Int32), z3.2)) else ((F_X8_keep z3.2).bind fun z4 => (F_X8_speech 29 a1 a2 a3 z4).bind fun z5 => some (z5.1, z5.2))))
set_option maxRecDepth 20000 in
theorem c_X8_speak {G : Gx} {l : Launch} {a1 : Int32} {a2 : Int32} {a3 : Int32} {σ : St} {o : (Int32 × St)} (hF : F_X8_speak a1 a2 a3 σ = some o) : Con G l yX8_speak cX8_speak 4 (some .int) 2 [.ref (ga G 25), .int a1, .int a2, .int a3] σ (some (.int o.1)) o.2 := by
  refine Con.of plX8 (Nat.le_of_ble_eq_true rfl) [(0, .ref (ga G 25)), (1, .int a1), (2, .int a2), (3, .int a3)] rfl (fun X F R => ?_)
  refine (show Sim G X 4 o (F_X8_speak a1 a2 a3 σ) σ 0 [(0, .ref (ga G 25)), (1, .int a1), (2, .int a2), (3, .int a3)] [] from ?_) hF
  unfold F_X8_speak
  refine s_aload_n F 0 dX8_speak_0 rfl rfl ?_
  refine s_iconst F (nI 0) dX8_speak_1 rfl ?_
  refine fp_X8_47 F dX8_speak_2 ?_
  refine s_aload_n F 0 dX8_speak_5 rfl rfl ?_
  refine s_iload_n F 1 dX8_speak_6 rfl rfl ?_
  refine s_Vi F [.int a1] dX8_speak_7 (fun z hz => c_X8_isHorn hz) wV_X8_180 nk_X8_isHorn (by decide) (by decide) ob_25 vc_7 rfl rfl (Nat.le_of_ble_eq_true rfl) (fun z1 => ?_)
  refine s_if_eq F 37 dX8_speak_10 (by decide) (fun c8 => ?_) (fun c8 => ?_)
  · refine s_ldc F dX8_speak_37 m_4_41 ?_
    exact s_iret R dX8_speak_39
  · refine s_iload_n F 2 dX8_speak_13 rfl rfl ?_
    refine s_i2l F dX8_speak_14 ?_
    refine s_lconst F (lN 0) dX8_speak_15 rfl ?_
    refine s_ldc2 F dX8_speak_16 m_4_157 ?_
    refine s_Si F [.long a2.toInt64, .long (lN 0), .long (lN 9)] dX8_speak_19 (fun z hz => c_X8_in hz) wS_X8_57 nk_X8_in (by decide) (by decide) rfl rfl (Nat.le_of_ble_eq_true rfl) (fun z2 => ?_)
    refine s_if_eq F 37 dX8_speak_22 (by decide) (fun c7 => ?_) (fun c7 => ?_)
    · refine s_ldc F dX8_speak_37 m_4_41 ?_
      exact s_iret R dX8_speak_39
    · refine s_iload_n F 3 dX8_speak_25 rfl rfl ?_
      refine s_i2l F dX8_speak_26 ?_
      refine s_lconst F (lN 1) dX8_speak_27 rfl ?_
      refine s_ldc2 F dX8_speak_28 m_4_158 ?_
      refine s_Si F [.long a3.toInt64, .long (lN 1), .long (lN 99)] dX8_speak_31 (fun z hz => c_X8_in hz) wS_X8_57 nk_X8_in (by decide) (by decide) rfl rfl (Nat.le_of_ble_eq_true rfl) (fun z3 => ?_)
      refine s_if_ne F 40 dX8_speak_34 (by decide) (fun c6 => ?_) (fun c6 => ?_)
      · refine s_aload_n F 0 dX8_speak_40 rfl rfl ?_
        refine s_Vv F [] dX8_speak_41 (fun z hz => c_X8_keep hz) wV_X8_177 nk_X8_keep (by decide) (by decide) ob_25 vc_7 rfl rfl (Nat.le_of_ble_eq_true rfl) (fun z4 => ?_)
        refine s_aload_n F 0 dX8_speak_44 rfl rfl ?_
        refine fg_X8_19 F dX8_speak_45 ?_
        refine s_iload_n F 1 dX8_speak_48 rfl rfl ?_
        refine s_iload_n F 2 dX8_speak_49 rfl rfl ?_
        refine s_iload_n F 3 dX8_speak_50 rfl rfl ?_
        refine s_Si F [.ref (ga G 29), .int a1, .int a2, .int a3] dX8_speak_51 (fun z hz => c_X8_speech ar_29 hz) wS_X8_187 nk_X8_speech (by decide) (by decide) rfl rfl (Nat.le_of_ble_eq_true rfl) (fun z5 => ?_)
        exact s_iret R dX8_speak_54
      · refine s_ldc F dX8_speak_37 m_4_41 ?_
        exact s_iret R dX8_speak_39
/-! X8_tap -/
def F_X8_tap (a1 : Int32) (a2 : Int32) (σ : St) : Option (Int32 × St) := (F_X8_isPipe a1 (setF σ 8 (nI 0))).bind fun z1 => if z1.1 = 0 then (some ((-1000001 : Int32), z1.2)) else ((F_X8_in a2.toInt64 (lN 0) (lN 1) z1.2).bind fun z2 => if z2.1 = 0 then (some ((-1000001 : Int32), z2.2)) else (if ix (nI 4) 80 then if (((z2.2.1 29 (nI 4).toNatClampNeg) >>> (a1 &&& 31)) &&& (nI 1)) = a2 then (some ((-1000002 : Int32), z2.2)) else ((F_X8_keep z2.2).bind fun z4 => if ix (nI 4) 80 then if ix (nI 4) 80 then if ix (nI 4) 80 then some ((setA z4 29 (nI 4).toNatClampNeg ((z4.1 29 (nI 4).toNatClampNeg) ^^^ ((nI 1) <<< (a1 &&& 31)))).1 29 (nI 4).toNatClampNeg, setA z4 29 (nI 4).toNatClampNeg ((z4.1 29 (nI 4).toNatClampNeg) ^^^ ((nI 1) <<< (a1 &&& 31)))) else none else none else none) else none))
set_option maxRecDepth 20000 in
theorem c_X8_tap {G : Gx} {l : Launch} {a1 : Int32} {a2 : Int32} {σ : St} {o : (Int32 × St)} (hF : F_X8_tap a1 a2 σ = some o) : Con G l yX8_tap cX8_tap 3 (some .int) 2 [.ref (ga G 25), .int a1, .int a2] σ (some (.int o.1)) o.2 := by
  refine Con.of plX8 (Nat.le_of_ble_eq_true rfl) [(0, .ref (ga G 25)), (1, .int a1), (2, .int a2)] rfl (fun X F R => ?_)
  refine (show Sim G X 3 o (F_X8_tap a1 a2 σ) σ 0 [(0, .ref (ga G 25)), (1, .int a1), (2, .int a2)] [] from ?_) hF
  unfold F_X8_tap
  refine s_aload_n F 0 dX8_tap_0 rfl rfl ?_
  refine s_iconst F (nI 0) dX8_tap_1 rfl ?_
  refine fp_X8_47 F dX8_tap_2 ?_
  refine s_aload_n F 0 dX8_tap_5 rfl rfl ?_
  refine s_iload_n F 1 dX8_tap_6 rfl rfl ?_
  refine s_Vi F [.int a1] dX8_tap_7 (fun z hz => c_X8_isPipe hz) wV_X8_191 nk_X8_isPipe (by decide) (by decide) ob_25 vc_7 rfl rfl (Nat.le_of_ble_eq_true rfl) (fun z1 => ?_)
  refine s_if_eq F 23 dX8_tap_10 (by decide) (fun c10 => ?_) (fun c10 => ?_)
  · refine s_ldc F dX8_tap_23 m_4_41 ?_
    exact s_iret R dX8_tap_25
  · refine s_iload_n F 2 dX8_tap_13 rfl rfl ?_
    refine s_i2l F dX8_tap_14 ?_
    refine s_lconst F (lN 0) dX8_tap_15 rfl ?_
    refine s_lconst F (lN 1) dX8_tap_16 rfl ?_
    refine s_Si F [.long a2.toInt64, .long (lN 0), .long (lN 1)] dX8_tap_17 (fun z hz => c_X8_in hz) wS_X8_57 nk_X8_in (by decide) (by decide) rfl rfl (Nat.le_of_ble_eq_true rfl) (fun z2 => ?_)
    refine s_if_ne F 26 dX8_tap_20 (by decide) (fun c9 => ?_) (fun c9 => ?_)
    · refine s_aload_n F 0 dX8_tap_26 rfl rfl ?_
      refine fg_X8_19 F dX8_tap_27 ?_
      refine s_iconst F (nI 4) dX8_tap_30 rfl ?_
      refine s_iald F ar_29 dX8_tap_31 (fun q3 => ?_)
      refine s_iload_n F 1 dX8_tap_32 rfl rfl ?_
      refine s_ishr F dX8_tap_33 ?_
      refine s_iconst F (nI 1) dX8_tap_34 rfl ?_
      refine s_iand F dX8_tap_35 ?_
      refine s_iload_n F 2 dX8_tap_36 rfl rfl ?_
      refine s_icmp_ne F 43 dX8_tap_37 (by decide) (fun c8 => ?_) (fun c8 => ?_)
      · refine s_aload_n F 0 dX8_tap_43 rfl rfl ?_
        refine s_Vv F [] dX8_tap_44 (fun z hz => c_X8_keep hz) wV_X8_177 nk_X8_keep (by decide) (by decide) ob_25 vc_7 rfl rfl (Nat.le_of_ble_eq_true rfl) (fun z4 => ?_)
        refine s_aload_n F 0 dX8_tap_47 rfl rfl ?_
        refine fg_X8_19 F dX8_tap_48 ?_
        refine s_iconst F (nI 4) dX8_tap_51 rfl ?_
        refine s_dup2 F dX8_tap_52 rfl rfl ?_
        refine s_iald F ar_29 dX8_tap_53 (fun q5 => ?_)
        refine s_iconst F (nI 1) dX8_tap_54 rfl ?_
        refine s_iload_n F 1 dX8_tap_55 rfl rfl ?_
        refine s_ishl F dX8_tap_56 ?_
        refine s_ixor F dX8_tap_57 ?_
        refine s_iast F ar_29 dX8_tap_58 (fun q6 => ?_)
        refine s_aload_n F 0 dX8_tap_59 rfl rfl ?_
        refine fg_X8_19 F dX8_tap_60 ?_
        refine s_iconst F (nI 4) dX8_tap_63 rfl ?_
        refine s_iald F ar_29 dX8_tap_64 (fun q7 => ?_)
        exact s_iret R dX8_tap_65
      · refine s_ldc F dX8_tap_40 m_4_130 ?_
        exact s_iret R dX8_tap_42
    · refine s_ldc F dX8_tap_23 m_4_41 ?_
      exact s_iret R dX8_tap_25
/-! X8_dent -/
def F_X8_dent (a1 : Int32) (a2 : Int32) (σ : St) : Option (Int32 × St) := (F_X8_isPipe a1 (setF σ 8 (nI 0))).bind fun z1 => if z1.1 = 0 then (some ((-1000001 : Int32), z1.2)) else ((F_X8_in a2.toInt64 (lN 0) (lN 9) z1.2).bind fun z2 => if z2.1 = 0 then (some ((-1000001 : Int32), z2.2)) else ((F_X8_keep z2.2).bind fun z3 => (F_X8_of 29 a1 (nI 4) z3).bind fun z4 => if ix (((nI 17) + ((nI 9) * a1)) + (nI 4)) 80 then some (z4.1, setA z4.2 29 (((nI 17) + ((nI 9) * a1)) + (nI 4)).toNatClampNeg a2) else none))
set_option maxRecDepth 20000 in
theorem c_X8_dent {G : Gx} {l : Launch} {a1 : Int32} {a2 : Int32} {σ : St} {o : (Int32 × St)} (hF : F_X8_dent a1 a2 σ = some o) : Con G l yX8_dent cX8_dent 4 (some .int) 2 [.ref (ga G 25), .int a1, .int a2] σ (some (.int o.1)) o.2 := by
  refine Con.of plX8 (Nat.le_of_ble_eq_true rfl) [(0, .ref (ga G 25)), (1, .int a1), (2, .int a2)] rfl (fun X F R => ?_)
  refine (show Sim G X 4 o (F_X8_dent a1 a2 σ) σ 0 [(0, .ref (ga G 25)), (1, .int a1), (2, .int a2)] [] from ?_) hF
  unfold F_X8_dent
  refine s_aload_n F 0 dX8_dent_0 rfl rfl ?_
  refine s_iconst F (nI 0) dX8_dent_1 rfl ?_
  refine fp_X8_47 F dX8_dent_2 ?_
  refine s_aload_n F 0 dX8_dent_5 rfl rfl ?_
  refine s_iload_n F 1 dX8_dent_6 rfl rfl ?_
  refine s_Vi F [.int a1] dX8_dent_7 (fun z hz => c_X8_isPipe hz) wV_X8_191 nk_X8_isPipe (by decide) (by decide) ob_25 vc_7 rfl rfl (Nat.le_of_ble_eq_true rfl) (fun z1 => ?_)
  refine s_if_eq F 25 dX8_dent_10 (by decide) (fun c7 => ?_) (fun c7 => ?_)
  · refine s_ldc F dX8_dent_25 m_4_41 ?_
    exact s_iret R dX8_dent_27
  · refine s_iload_n F 2 dX8_dent_13 rfl rfl ?_
    refine s_i2l F dX8_dent_14 ?_
    refine s_lconst F (lN 0) dX8_dent_15 rfl ?_
    refine s_ldc2 F dX8_dent_16 m_4_157 ?_
    refine s_Si F [.long a2.toInt64, .long (lN 0), .long (lN 9)] dX8_dent_19 (fun z hz => c_X8_in hz) wS_X8_57 nk_X8_in (by decide) (by decide) rfl rfl (Nat.le_of_ble_eq_true rfl) (fun z2 => ?_)
    refine s_if_ne F 28 dX8_dent_22 (by decide) (fun c6 => ?_) (fun c6 => ?_)
    · refine s_aload_n F 0 dX8_dent_28 rfl rfl ?_
      refine s_Vv F [] dX8_dent_29 (fun z hz => c_X8_keep hz) wV_X8_177 nk_X8_keep (by decide) (by decide) ob_25 vc_7 rfl rfl (Nat.le_of_ble_eq_true rfl) (fun z3 => ?_)
      refine s_aload_n F 0 dX8_dent_32 rfl rfl ?_
      refine fg_X8_19 F dX8_dent_33 ?_
      refine s_iload_n F 1 dX8_dent_36 rfl rfl ?_
      refine s_iconst F (nI 4) dX8_dent_37 rfl ?_
      refine s_Si F [.ref (ga G 29), .int a1, .int (nI 4)] dX8_dent_38 (fun z hz => c_X8_of ar_29 hz) wS_X8_149 nk_X8_of (by decide) (by decide) rfl rfl (Nat.le_of_ble_eq_true rfl) (fun z4 => ?_)
      refine s_istore_n F [(3, .int z4.1), (0, .ref (ga G 25)), (1, .int a1), (2, .int a2)] dX8_dent_41 rfl (by decide) rfl ?_
      refine s_aload_n F 1 dX8_dent_42 rfl rfl ?_
      refine fg_X8_19 F dX8_dent_43 ?_
      refine s_bipush F (nI 17) dX8_dent_46 rfl ?_
      refine s_bipush F (nI 9) dX8_dent_48 rfl ?_
      refine s_iload_n F 2 dX8_dent_50 rfl rfl ?_
      refine s_imul F dX8_dent_51 ?_
      refine s_iadd F dX8_dent_52 ?_
      refine s_iconst F (nI 4) dX8_dent_53 rfl ?_
      refine s_iadd F dX8_dent_54 ?_
      refine s_iload_n F 3 dX8_dent_55 rfl rfl ?_
      refine s_iast F ar_29 dX8_dent_56 (fun q5 => ?_)
      refine s_iload_n F 0 dX8_dent_57 rfl rfl ?_
      exact s_iret R dX8_dent_58
    · refine s_ldc F dX8_dent_25 m_4_41 ?_
      exact s_iret R dX8_dent_27
/-! X8_hush -/
def F_X8_hush (σ : St) : Option (Int32 × St) := (F_X8_isThere (setF σ 8 (nI 0))).bind fun z1 => if z1.1 = 0 then (some ((-1000002 : Int32), z1.2)) else ((F_X8_keep z1.2).bind fun z2 => (F_X8_silence 29 z2).bind fun z3 => some (z3.1, z3.2))
set_option maxRecDepth 20000 in
theorem c_X8_hush {G : Gx} {l : Launch} {σ : St} {o : (Int32 × St)} (hF : F_X8_hush σ = some o) : Con G l yX8_hush cX8_hush 1 (some .int) 4 [.ref (ga G 25)] σ (some (.int o.1)) o.2 := by
  refine Con.of plX8 (Nat.le_of_ble_eq_true rfl) [(0, .ref (ga G 25))] rfl (fun X F R => ?_)
  refine (show Sim G X 1 o (F_X8_hush σ) σ 0 [(0, .ref (ga G 25))] [] from ?_) hF
  unfold F_X8_hush
  refine s_aload_n F 0 dX8_hush_0 rfl rfl ?_
  refine s_iconst F (nI 0) dX8_hush_1 rfl ?_
  refine fp_X8_47 F dX8_hush_2 ?_
  refine s_aload_n F 0 dX8_hush_5 rfl rfl ?_
  refine s_Vi F [] dX8_hush_6 (fun z hz => c_X8_isThere hz) wV_X8_171 nk_X8_isThere (by decide) (by decide) ob_25 vc_7 rfl rfl (Nat.le_of_ble_eq_true rfl) (fun z1 => ?_)
  refine s_if_ne F 15 dX8_hush_9 (by decide) (fun c4 => ?_) (fun c4 => ?_)
  · refine s_aload_n F 0 dX8_hush_15 rfl rfl ?_
    refine s_Vv F [] dX8_hush_16 (fun z hz => c_X8_keep hz) wV_X8_177 nk_X8_keep (by decide) (by decide) ob_25 vc_7 rfl rfl (Nat.le_of_ble_eq_true rfl) (fun z2 => ?_)
    refine s_aload_n F 0 dX8_hush_19 rfl rfl ?_
    refine fg_X8_19 F dX8_hush_20 ?_
    refine s_Si F [.ref (ga G 29)] dX8_hush_23 (fun z hz => c_X8_silence ar_29 hz) wS_X8_194 nk_X8_silence (by decide) (by decide) rfl rfl (Nat.le_of_ble_eq_true rfl) (fun z3 => ?_)
    exact s_iret R dX8_hush_26
  · refine s_ldc F dX8_hush_12 m_4_130 ?_
    exact s_iret R dX8_hush_14
/-! X8_undo -/
def L_X8_undo_27 (K : St → Option (Int32 × St)) : Nat → Int32 → St → Option (Int32 × St)
  | 0, _, _ => none
  | n + 1, a1, σ => if (nI 80) ≤ a1 then (K σ) else (if ix (((nI 80) * (σ.2 10)) + a1) 1920 then if ix a1 80 then L_X8_undo_27 K n (a1 + (nI 1)) (setA σ 29 a1.toNatClampNeg (σ.1 32 (((nI 80) * (σ.2 10)) + a1).toNatClampNeg)) else none else none)
def F_X8_undo (σ : St) : Option (Int32 × St) := if ((setF σ 8 (nI 0)).2 10) = 0 then (some ((-1000002 : Int32), setF σ 8 (nI 0))) else (L_X8_undo_27 (fun σ => some (σ.2 10, σ)) fuel (nI 0) (setF (setF σ 8 (nI 0)) 10 (((setF σ 8 (nI 0)).2 10) - (nI 1))))
set_option maxRecDepth 20000 in
theorem l_X8_undo_27 {G : Gx} {X : Cx} (F : Fx G X cX8_undo 2 RX8 0) {o : (Int32 × St)} (R : Ret G X cX8_undo 2 (some .int) (some (.int o.1)) o.2) {K : St → Option (Int32 × St)} (hK : ∀ (σ : St), Sim G X 2 o (K σ) σ 59 [(0, .ref (ga G 25))] []) : ∀ (n : Nat) (a1 : Int32) (σ : St), Sim G X 2 o (L_X8_undo_27 K n a1 σ) σ 27 [(0, .ref (ga G 25)), (1, .int a1)] [] := by
  intro n
  induction n with
  | zero =>
    intro a1 σ
    exact s_none
  | succ n ih =>
    intro a1 σ
    rw [L_X8_undo_27.eq_2]
    refine s_iload_n F 1 dX8_undo_27 rfl rfl ?_
    refine s_bipush F (nI 80) dX8_undo_28 rfl ?_
    refine s_icmp_ge F 59 dX8_undo_30 (by decide) (fun c3 => ?_) (fun c3 => ?_)
    · refine s_lv [(0, .ref (ga G 25))] [0] rfl ?_
      exact hK _
    · refine s_aload_n F 0 dX8_undo_33 rfl rfl ?_
      refine fg_X8_19 F dX8_undo_34 ?_
      refine s_iload_n F 1 dX8_undo_37 rfl rfl ?_
      refine s_aload_n F 0 dX8_undo_38 rfl rfl ?_
      refine fg_X8_28 F dX8_undo_39 ?_
      refine s_bipush F (nI 80) dX8_undo_42 rfl ?_
      refine s_aload_n F 0 dX8_undo_44 rfl rfl ?_
      refine fg_X8_146 F dX8_undo_45 ?_
      refine s_imul F dX8_undo_48 ?_
      refine s_iload_n F 1 dX8_undo_49 rfl rfl ?_
      refine s_iadd F dX8_undo_50 ?_
      refine s_iald F ar_32 dX8_undo_51 (fun q1 => ?_)
      refine s_iast F ar_29 dX8_undo_52 (fun q2 => ?_)
      refine s_iinc F 1 [(1, .int (a1 + (nI 1))), (0, .ref (ga G 25))] dX8_undo_53 rfl rfl (by decide) rfl ?_
      refine s_goto F 27 dX8_undo_56 (by decide) ?_
      refine s_lv [(0, .ref (ga G 25)), (1, .int (a1 + (nI 1)))] [1, 0] rfl ?_
      exact ih _ _
set_option maxRecDepth 20000 in
theorem c_X8_undo {G : Gx} {l : Launch} {σ : St} {o : (Int32 × St)} (hF : F_X8_undo σ = some o) : Con G l yX8_undo cX8_undo 2 (some .int) 0 [.ref (ga G 25)] σ (some (.int o.1)) o.2 := by
  refine Con.of plX8 (Nat.le_of_ble_eq_true rfl) [(0, .ref (ga G 25))] rfl (fun X F R => ?_)
  refine (show Sim G X 2 o (F_X8_undo σ) σ 0 [(0, .ref (ga G 25))] [] from ?_) hF
  unfold F_X8_undo
  refine s_aload_n F 0 dX8_undo_0 rfl rfl ?_
  refine s_iconst F (nI 0) dX8_undo_1 rfl ?_
  refine fp_X8_47 F dX8_undo_2 ?_
  refine s_aload_n F 0 dX8_undo_5 rfl rfl ?_
  refine fg_X8_146 F dX8_undo_6 ?_
  refine s_if_ne F 15 dX8_undo_9 (by decide) (fun c4 => ?_) (fun c4 => ?_)
  · refine s_aload_n F 0 dX8_undo_15 rfl rfl ?_
    refine s_dup F dX8_undo_16 rfl ?_
    refine fg_X8_146 F dX8_undo_17 ?_
    refine s_iconst F (nI 1) dX8_undo_20 rfl ?_
    refine s_isub F dX8_undo_21 ?_
    refine fp_X8_146 F dX8_undo_22 ?_
    refine s_iconst F (nI 0) dX8_undo_25 rfl ?_
    refine s_istore_n F [(1, .int (nI 0)), (0, .ref (ga G 25))] dX8_undo_26 rfl (by decide) rfl ?_
    refine s_lv [(0, .ref (ga G 25)), (1, .int (nI 0))] [1, 0] rfl ?_
    refine l_X8_undo_27 F R (fun σ => ?_) fuel _ _
    refine s_aload_n F 0 dX8_undo_59 rfl rfl ?_
    refine fg_X8_146 F dX8_undo_60 ?_
    exact s_iret R dX8_undo_63
  · refine s_ldc F dX8_undo_12 m_4_130 ?_
    exact s_iret R dX8_undo_14
/-! X8_pipe -/
def F_X8_pipe (a1 : Int32) (a2 : Int32) (σ : St) : Option (Int32 × St) := (F_X8_isPipe a1 (setF σ 8 (nI 0))).bind fun z1 => if z1.1 = 0 then (some ((-1000001 : Int32), z1.2)) else ((F_X8_in a2.toInt64 (lN 0) (lN 5) z1.2).bind fun z2 => if z2.1 = 0 then (some ((-1000001 : Int32), z2.2)) else (if (nI 4) ≤ a2 then (if a2 = (nI 4) then (if ix (nI 4) 80 then some (((z2.2.1 29 (nI 4).toNatClampNeg) >>> (a1 &&& 31)) &&& (nI 1), z2.2) else none) else ((F_X8_soundsIn 29 a1 z2.2).bind fun z3 => some (z3.1, z3.2))) else ((F_X8_of 29 a1 ((nI 1) + a2) z2.2).bind fun z6 => some (z6.1, z6.2))))
set_option maxRecDepth 20000 in
theorem c_X8_pipe {G : Gx} {l : Launch} {a1 : Int32} {a2 : Int32} {σ : St} {o : (Int32 × St)} (hF : F_X8_pipe a1 a2 σ = some o) : Con G l yX8_pipe cX8_pipe 3 (some .int) 2 [.ref (ga G 25), .int a1, .int a2] σ (some (.int o.1)) o.2 := by
  refine Con.of plX8 (Nat.le_of_ble_eq_true rfl) [(0, .ref (ga G 25)), (1, .int a1), (2, .int a2)] rfl (fun X F R => ?_)
  refine (show Sim G X 3 o (F_X8_pipe a1 a2 σ) σ 0 [(0, .ref (ga G 25)), (1, .int a1), (2, .int a2)] [] from ?_) hF
  unfold F_X8_pipe
  refine s_aload_n F 0 dX8_pipe_0 rfl rfl ?_
  refine s_iconst F (nI 0) dX8_pipe_1 rfl ?_
  refine fp_X8_47 F dX8_pipe_2 ?_
  refine s_aload_n F 0 dX8_pipe_5 rfl rfl ?_
  refine s_iload_n F 1 dX8_pipe_6 rfl rfl ?_
  refine s_Vi F [.int a1] dX8_pipe_7 (fun z hz => c_X8_isPipe hz) wV_X8_191 nk_X8_isPipe (by decide) (by decide) ob_25 vc_7 rfl rfl (Nat.le_of_ble_eq_true rfl) (fun z1 => ?_)
  refine s_if_eq F 25 dX8_pipe_10 (by decide) (fun c9 => ?_) (fun c9 => ?_)
  · refine s_ldc F dX8_pipe_25 m_4_41 ?_
    exact s_iret R dX8_pipe_27
  · refine s_iload_n F 2 dX8_pipe_13 rfl rfl ?_
    refine s_i2l F dX8_pipe_14 ?_
    refine s_lconst F (lN 0) dX8_pipe_15 rfl ?_
    refine s_ldc2 F dX8_pipe_16 m_4_195 ?_
    refine s_Si F [.long a2.toInt64, .long (lN 0), .long (lN 5)] dX8_pipe_19 (fun z hz => c_X8_in hz) wS_X8_57 nk_X8_in (by decide) (by decide) rfl rfl (Nat.le_of_ble_eq_true rfl) (fun z2 => ?_)
    refine s_if_ne F 28 dX8_pipe_22 (by decide) (fun c8 => ?_) (fun c8 => ?_)
    · refine s_iload_n F 2 dX8_pipe_28 rfl rfl ?_
      refine s_iconst F (nI 4) dX8_pipe_29 rfl ?_
      refine s_icmp_ge F 47 dX8_pipe_30 (by decide) (fun c7 => ?_) (fun c7 => ?_)
      · refine s_iload_n F 2 dX8_pipe_47 rfl rfl ?_
        refine s_iconst F (nI 4) dX8_pipe_48 rfl ?_
        refine s_icmp_ne F 65 dX8_pipe_49 (by decide) (fun c5 => ?_) (fun c5 => ?_)
        · refine s_aload_n F 0 dX8_pipe_65 rfl rfl ?_
          refine fg_X8_19 F dX8_pipe_66 ?_
          refine s_iload_n F 1 dX8_pipe_69 rfl rfl ?_
          refine s_Si F [.ref (ga G 29), .int a1] dX8_pipe_70 (fun z hz => c_X8_soundsIn ar_29 hz) wS_X8_161 nk_X8_soundsIn (by decide) (by decide) rfl rfl (Nat.le_of_ble_eq_true rfl) (fun z3 => ?_)
          exact s_iret R dX8_pipe_73
        · refine s_aload_n F 0 dX8_pipe_52 rfl rfl ?_
          refine fg_X8_19 F dX8_pipe_53 ?_
          refine s_iconst F (nI 4) dX8_pipe_56 rfl ?_
          refine s_iald F ar_29 dX8_pipe_57 (fun q4 => ?_)
          refine s_iload_n F 1 dX8_pipe_58 rfl rfl ?_
          refine s_ishr F dX8_pipe_59 ?_
          refine s_iconst F (nI 1) dX8_pipe_60 rfl ?_
          refine s_iand F dX8_pipe_61 ?_
          refine s_goto F 73 dX8_pipe_62 (by decide) ?_
          exact s_iret R dX8_pipe_73
      · refine s_aload_n F 0 dX8_pipe_33 rfl rfl ?_
        refine fg_X8_19 F dX8_pipe_34 ?_
        refine s_iload_n F 1 dX8_pipe_37 rfl rfl ?_
        refine s_iconst F (nI 1) dX8_pipe_38 rfl ?_
        refine s_iload_n F 2 dX8_pipe_39 rfl rfl ?_
        refine s_iadd F dX8_pipe_40 ?_
        refine s_Si F [.ref (ga G 29), .int a1, .int ((nI 1) + a2)] dX8_pipe_41 (fun z hz => c_X8_of ar_29 hz) wS_X8_149 nk_X8_of (by decide) (by decide) rfl rfl (Nat.le_of_ble_eq_true rfl) (fun z6 => ?_)
        refine s_goto F 73 dX8_pipe_44 (by decide) ?_
        exact s_iret R dX8_pipe_73
    · refine s_ldc F dX8_pipe_25 m_4_41 ?_
      exact s_iret R dX8_pipe_27
/-! X8_inside -/
def F_X8_inside (a1 : Int32) (a2 : Int32) (σ : St) : Option (Int32 × St) := (F_X8_isPipe a1 (setF σ 8 (nI 0))).bind fun z1 => if z1.1 = 0 then (some ((-1000001 : Int32), z1.2)) else ((F_X8_of 29 a1 (nI 3) z1.2).bind fun z2 => (F_X8_in a2.toInt64 (lN 0) (z2.1 - (nI 1)).toInt64 z2.2).bind fun z3 => if z3.1 = 0 then (some ((-1000001 : Int32), z3.2)) else ((F_X8_of 29 a1 ((nI 5) + a2) z3.2).bind fun z4 => if z4.1 = 0 then (some ((-1000000 : Int32), z4.2)) else (some (z4.1, z4.2))))
set_option maxRecDepth 20000 in
theorem c_X8_inside {G : Gx} {l : Launch} {a1 : Int32} {a2 : Int32} {σ : St} {o : (Int32 × St)} (hF : F_X8_inside a1 a2 σ = some o) : Con G l yX8_inside cX8_inside 4 (some .int) 2 [.ref (ga G 25), .int a1, .int a2] σ (some (.int o.1)) o.2 := by
  refine Con.of plX8 (Nat.le_of_ble_eq_true rfl) [(0, .ref (ga G 25)), (1, .int a1), (2, .int a2)] rfl (fun X F R => ?_)
  refine (show Sim G X 4 o (F_X8_inside a1 a2 σ) σ 0 [(0, .ref (ga G 25)), (1, .int a1), (2, .int a2)] [] from ?_) hF
  unfold F_X8_inside
  refine s_aload_n F 0 dX8_inside_0 rfl rfl ?_
  refine s_iconst F (nI 0) dX8_inside_1 rfl ?_
  refine fp_X8_47 F dX8_inside_2 ?_
  refine s_aload_n F 0 dX8_inside_5 rfl rfl ?_
  refine s_iload_n F 1 dX8_inside_6 rfl rfl ?_
  refine s_Vi F [.int a1] dX8_inside_7 (fun z hz => c_X8_isPipe hz) wV_X8_191 nk_X8_isPipe (by decide) (by decide) ob_25 vc_7 rfl rfl (Nat.le_of_ble_eq_true rfl) (fun z1 => ?_)
  refine s_if_eq F 34 dX8_inside_10 (by decide) (fun c7 => ?_) (fun c7 => ?_)
  · refine s_ldc F dX8_inside_34 m_4_41 ?_
    exact s_iret R dX8_inside_36
  · refine s_iload_n F 2 dX8_inside_13 rfl rfl ?_
    refine s_i2l F dX8_inside_14 ?_
    refine s_lconst F (lN 0) dX8_inside_15 rfl ?_
    refine s_aload_n F 0 dX8_inside_16 rfl rfl ?_
    refine fg_X8_19 F dX8_inside_17 ?_
    refine s_iload_n F 1 dX8_inside_20 rfl rfl ?_
    refine s_iconst F (nI 3) dX8_inside_21 rfl ?_
    refine s_Si F [.ref (ga G 29), .int a1, .int (nI 3)] dX8_inside_22 (fun z hz => c_X8_of ar_29 hz) wS_X8_149 nk_X8_of (by decide) (by decide) rfl rfl (Nat.le_of_ble_eq_true rfl) (fun z2 => ?_)
    refine s_iconst F (nI 1) dX8_inside_25 rfl ?_
    refine s_isub F dX8_inside_26 ?_
    refine s_i2l F dX8_inside_27 ?_
    refine s_Si F [.long a2.toInt64, .long (lN 0), .long (z2.1 - (nI 1)).toInt64] dX8_inside_28 (fun z hz => c_X8_in hz) wS_X8_57 nk_X8_in (by decide) (by decide) rfl rfl (Nat.le_of_ble_eq_true rfl) (fun z3 => ?_)
    refine s_if_ne F 37 dX8_inside_31 (by decide) (fun c6 => ?_) (fun c6 => ?_)
    · refine s_aload_n F 0 dX8_inside_37 rfl rfl ?_
      refine fg_X8_19 F dX8_inside_38 ?_
      refine s_iload_n F 1 dX8_inside_41 rfl rfl ?_
      refine s_iconst F (nI 5) dX8_inside_42 rfl ?_
      refine s_iload_n F 2 dX8_inside_43 rfl rfl ?_
      refine s_iadd F dX8_inside_44 ?_
      refine s_Si F [.ref (ga G 29), .int a1, .int ((nI 5) + a2)] dX8_inside_45 (fun z hz => c_X8_of ar_29 hz) wS_X8_149 nk_X8_of (by decide) (by decide) rfl rfl (Nat.le_of_ble_eq_true rfl) (fun z4 => ?_)
      refine s_istore_n F [(3, .int z4.1), (0, .ref (ga G 25)), (1, .int a1), (2, .int a2)] dX8_inside_48 rfl (by decide) rfl ?_
      refine s_iload_n F 0 dX8_inside_49 rfl rfl ?_
      refine s_if_ne F 58 dX8_inside_50 (by decide) (fun c5 => ?_) (fun c5 => ?_)
      · refine s_iload_n F 0 dX8_inside_58 rfl rfl ?_
        exact s_iret R dX8_inside_59
      · refine s_ldc F dX8_inside_53 m_4_81 ?_
        refine s_goto F 59 dX8_inside_55 (by decide) ?_
        exact s_iret R dX8_inside_59
    · refine s_ldc F dX8_inside_34 m_4_41 ?_
      exact s_iret R dX8_inside_36
/-! X8_horn -/
def J_X8_horn_62 (K33 : Int32 → Int32 → Int32 → Int32 → Int32 → St → Option (Int32 × St)) (a1 : Int32) (a2 : Int32) (a3 : Int32) (a5 : Int32) (s0 : Int32) (s1 : Int32) (s3 : Int32) (σ : St) : Option (Int32 × St) := (F_X8_of 29 s1 s0 σ).bind fun z4 => if z4.1 = a1 then (K33 a1 a2 a3 (s3 ||| ((nI 1) <<< (a5 &&& 31))) (a5 + (nI 1)) z4.2) else (K33 a1 a2 a3 (s3 ||| (nI 0)) (a5 + (nI 1)) z4.2)
def L_X8_horn_33 (K : Int32 → Int32 → Int32 → Int32 → St → Option (Int32 × St)) : Nat → Int32 → Int32 → Int32 → Int32 → Int32 → St → Option (Int32 × St)
  | 0, _, _, _, _, _, _ => none
  | n + 1, a1, a2, a3, a4, a5, σ => if ix (nI 2) 80 then if (σ.1 29 (nI 2).toNatClampNeg) ≤ a5 then (K a1 a2 a3 a4 σ) else (if a2 = (nI 3) then (J_X8_horn_62 (fun a1 a2 a3 a4 a5 σ => L_X8_horn_33 K n a1 a2 a3 a4 a5 σ) a1 a2 a3 a5 (nI 1) a5 a4 σ) else (J_X8_horn_62 (fun a1 a2 a3 a4 a5 σ => L_X8_horn_33 K n a1 a2 a3 a4 a5 σ) a1 a2 a3 a5 (nI 2) a5 a4 σ)) else none
def F_X8_horn (a1 : Int32) (a2 : Int32) (σ : St) : Option (Int32 × St) := (F_X8_isHorn a1 (setF σ 8 (nI 0))).bind fun z1 => if z1.1 = 0 then (some ((-1000001 : Int32), z1.2)) else (if ix ((nI 5) + ((nI 2) * a1)) 80 then L_X8_horn_33 (fun a1 a2 a3 a4 σ => if a2 = (0 : Int32) then (if a3 = 0 then (some ((-1000000 : Int32), σ)) else (some (a3 / (nI 100), σ))) else (if a2 = (1 : Int32) then (some (a3 - a3 / (nI 100) * (nI 100), σ)) else (if a2 = (2 : Int32) then (if a3 = 0 then (some ((-1000000 : Int32), σ)) else (if ix (((nI 5) + ((nI 2) * a1)) + (nI 1)) 80 then some (σ.1 29 (((nI 5) + ((nI 2) * a1)) + (nI 1)).toNatClampNeg, σ) else none)) else (if a2 = (3 : Int32) then (some (a4, σ)) else (if a2 = (4 : Int32) then (some (a4, σ)) else (some ((-1000001 : Int32), σ))))))) fuel a1 a2 (z1.2.1 29 ((nI 5) + ((nI 2) * a1)).toNatClampNeg) (nI 0) (nI 0) z1.2 else none)
set_option maxRecDepth 20000 in
theorem j_X8_horn_62 {G : Gx} {X : Cx} (F : Fx G X cX8_horn 6 RX8 2) {o : (Int32 × St)} (R : Ret G X cX8_horn 6 (some .int) (some (.int o.1)) o.2) {K33 : Int32 → Int32 → Int32 → Int32 → Int32 → St → Option (Int32 × St)} (hK33 : ∀ (a1 : Int32) (a2 : Int32) (a3 : Int32) (a4 : Int32) (a5 : Int32) (σ : St), Sim G X 6 o (K33 a1 a2 a3 a4 a5 σ) σ 33 [(0, .ref (ga G 25)), (1, .int a1), (2, .int a2), (3, .int a3), (4, .int a4), (5, .int a5)] []) (a1 : Int32) (a2 : Int32) (a3 : Int32) (a5 : Int32) (s0 : Int32) (s1 : Int32) (s3 : Int32) (σ : St) : Sim G X 6 o (J_X8_horn_62 K33 a1 a2 a3 a5 s0 s1 s3 σ) σ 62 [(0, .ref (ga G 25)), (1, .int a1), (2, .int a2), (3, .int a3), (5, .int a5)] [.int s0, .int s1, .ref (ga G 29), .int s3] := by
  unfold J_X8_horn_62
  refine s_Si F [.ref (ga G 29), .int s1, .int s0] dX8_horn_62 (fun z hz => c_X8_of ar_29 hz) wS_X8_149 nk_X8_of (by decide) (by decide) rfl rfl (Nat.le_of_ble_eq_true rfl) (fun z4 => ?_)
  refine s_iload_n F 1 dX8_horn_65 rfl rfl ?_
  refine s_icmp_ne F 76 dX8_horn_66 (by decide) (fun c5 => ?_) (fun c5 => ?_)
  · refine s_iconst F (nI 0) dX8_horn_76 rfl ?_
    refine s_ior F dX8_horn_77 ?_
    refine s_istore F [(4, .int (s3 ||| (nI 0))), (0, .ref (ga G 25)), (1, .int a1), (2, .int a2), (3, .int a3), (5, .int a5)] dX8_horn_78 (by decide) rfl ?_
    refine s_iinc F 5 [(5, .int (a5 + (nI 1))), (4, .int (s3 ||| (nI 0))), (0, .ref (ga G 25)), (1, .int a1), (2, .int a2), (3, .int a3)] dX8_horn_80 rfl rfl (by decide) rfl ?_
    refine s_goto F 33 dX8_horn_83 (by decide) ?_
    refine s_lv [(0, .ref (ga G 25)), (1, .int a1), (2, .int a2), (3, .int a3), (4, .int (s3 ||| (nI 0))), (5, .int (a5 + (nI 1)))] [2, 3, 4, 5, 1, 0] rfl ?_
    exact hK33 _ _ _ _ _ _
  · refine s_iconst F (nI 1) dX8_horn_69 rfl ?_
    refine s_iload F 4 dX8_horn_70 rfl ?_
    refine s_ishl F dX8_horn_72 ?_
    refine s_goto F 77 dX8_horn_73 (by decide) ?_
    refine s_ior F dX8_horn_77 ?_
    refine s_istore F [(4, .int (s3 ||| ((nI 1) <<< (a5 &&& 31)))), (0, .ref (ga G 25)), (1, .int a1), (2, .int a2), (3, .int a3), (5, .int a5)] dX8_horn_78 (by decide) rfl ?_
    refine s_iinc F 5 [(5, .int (a5 + (nI 1))), (4, .int (s3 ||| ((nI 1) <<< (a5 &&& 31)))), (0, .ref (ga G 25)), (1, .int a1), (2, .int a2), (3, .int a3)] dX8_horn_80 rfl rfl (by decide) rfl ?_
    refine s_goto F 33 dX8_horn_83 (by decide) ?_
    refine s_lv [(0, .ref (ga G 25)), (1, .int a1), (2, .int a2), (3, .int a3), (4, .int (s3 ||| ((nI 1) <<< (a5 &&& 31)))), (5, .int (a5 + (nI 1)))] [2, 3, 4, 5, 1, 0] rfl ?_
    exact hK33 _ _ _ _ _ _
set_option maxRecDepth 20000 in
theorem l_X8_horn_33 {G : Gx} {X : Cx} (F : Fx G X cX8_horn 6 RX8 2) {o : (Int32 × St)} (R : Ret G X cX8_horn 6 (some .int) (some (.int o.1)) o.2) {K : Int32 → Int32 → Int32 → Int32 → St → Option (Int32 × St)} (hK : ∀ (a1 : Int32) (a2 : Int32) (a3 : Int32) (a4 : Int32) (σ : St), Sim G X 6 o (K a1 a2 a3 a4 σ) σ 86 [(0, .ref (ga G 25)), (1, .int a1), (2, .int a2), (3, .int a3), (4, .int a4)] []) : ∀ (n : Nat) (a1 : Int32) (a2 : Int32) (a3 : Int32) (a4 : Int32) (a5 : Int32) (σ : St), Sim G X 6 o (L_X8_horn_33 K n a1 a2 a3 a4 a5 σ) σ 33 [(0, .ref (ga G 25)), (1, .int a1), (2, .int a2), (3, .int a3), (4, .int a4), (5, .int a5)] [] := by
  intro n
  induction n with
  | zero =>
    intro a1 a2 a3 a4 a5 σ
    exact s_none
  | succ n ih =>
    intro a1 a2 a3 a4 a5 σ
    rw [L_X8_horn_33.eq_2]
    refine s_iload F 5 dX8_horn_33 rfl ?_
    refine s_aload_n F 0 dX8_horn_35 rfl rfl ?_
    refine fg_X8_19 F dX8_horn_36 ?_
    refine s_iconst F (nI 2) dX8_horn_39 rfl ?_
    refine s_iald F ar_29 dX8_horn_40 (fun q3 => ?_)
    refine s_icmp_ge F 86 dX8_horn_41 (by decide) (fun c7 => ?_) (fun c7 => ?_)
    · refine s_lv [(0, .ref (ga G 25)), (1, .int a1), (2, .int a2), (3, .int a3), (4, .int a4)] [0, 1, 2, 3, 4] rfl ?_
      exact hK _ _ _ _ _
    · refine s_iload F 4 dX8_horn_44 rfl ?_
      refine s_aload_n F 0 dX8_horn_46 rfl rfl ?_
      refine fg_X8_19 F dX8_horn_47 ?_
      refine s_iload F 5 dX8_horn_50 rfl ?_
      refine s_iload_n F 2 dX8_horn_52 rfl rfl ?_
      refine s_iconst F (nI 3) dX8_horn_53 rfl ?_
      refine s_icmp_ne F 61 dX8_horn_54 (by decide) (fun c6 => ?_) (fun c6 => ?_)
      · refine s_iconst F (nI 2) dX8_horn_61 rfl ?_
        refine s_lv [(0, .ref (ga G 25)), (1, .int a1), (2, .int a2), (3, .int a3), (5, .int a5)] [0, 1, 2, 3, 5] rfl ?_
        exact j_X8_horn_62 F R (by
              intro a1 a2 a3 a4 a5 σ
              exact ih _ _ _ _ _ _) _ _ _ _ _ _ _ _
      · refine s_iconst F (nI 1) dX8_horn_57 rfl ?_
        refine s_goto F 62 dX8_horn_58 (by decide) ?_
        refine s_lv [(0, .ref (ga G 25)), (1, .int a1), (2, .int a2), (3, .int a3), (5, .int a5)] [0, 1, 2, 3, 5] rfl ?_
        exact j_X8_horn_62 F R (by
              intro a1 a2 a3 a4 a5 σ
              exact ih _ _ _ _ _ _) _ _ _ _ _ _ _ _
set_option maxRecDepth 20000 in
theorem c_X8_horn {G : Gx} {l : Launch} {a1 : Int32} {a2 : Int32} {σ : St} {o : (Int32 × St)} (hF : F_X8_horn a1 a2 σ = some o) : Con G l yX8_horn cX8_horn 6 (some .int) 2 [.ref (ga G 25), .int a1, .int a2] σ (some (.int o.1)) o.2 := by
  refine Con.of plX8 (Nat.le_of_ble_eq_true rfl) [(0, .ref (ga G 25)), (1, .int a1), (2, .int a2)] rfl (fun X F R => ?_)
  refine (show Sim G X 6 o (F_X8_horn a1 a2 σ) σ 0 [(0, .ref (ga G 25)), (1, .int a1), (2, .int a2)] [] from ?_) hF
  unfold F_X8_horn
  refine s_aload_n F 0 dX8_horn_0 rfl rfl ?_
  refine s_iconst F (nI 0) dX8_horn_1 rfl ?_
  refine fp_X8_47 F dX8_horn_2 ?_
  refine s_aload_n F 0 dX8_horn_5 rfl rfl ?_
  refine s_iload_n F 1 dX8_horn_6 rfl rfl ?_
  refine s_Vi F [.int a1] dX8_horn_7 (fun z hz => c_X8_isHorn hz) wV_X8_180 nk_X8_isHorn (by decide) (by decide) ob_25 vc_7 rfl rfl (Nat.le_of_ble_eq_true rfl) (fun z1 => ?_)
  refine s_if_ne F 16 dX8_horn_10 (by decide) (fun c16 => ?_) (fun c16 => ?_)
  · refine s_aload_n F 0 dX8_horn_16 rfl rfl ?_
    refine fg_X8_19 F dX8_horn_17 ?_
    refine s_iconst F (nI 5) dX8_horn_20 rfl ?_
    refine s_iconst F (nI 2) dX8_horn_21 rfl ?_
    refine s_iload_n F 1 dX8_horn_22 rfl rfl ?_
    refine s_imul F dX8_horn_23 ?_
    refine s_iadd F dX8_horn_24 ?_
    refine s_iald F ar_29 dX8_horn_25 (fun q2 => ?_)
    refine s_istore_n F [(3, .int (z1.2.1 29 ((nI 5) + ((nI 2) * a1)).toNatClampNeg)), (0, .ref (ga G 25)), (1, .int a1), (2, .int a2)] dX8_horn_26 rfl (by decide) rfl ?_
    refine s_iconst F (nI 0) dX8_horn_27 rfl ?_
    refine s_istore F [(4, .int (nI 0)), (3, .int (z1.2.1 29 ((nI 5) + ((nI 2) * a1)).toNatClampNeg)), (0, .ref (ga G 25)), (1, .int a1), (2, .int a2)] dX8_horn_28 (by decide) rfl ?_
    refine s_iconst F (nI 0) dX8_horn_30 rfl ?_
    refine s_istore F [(5, .int (nI 0)), (4, .int (nI 0)), (3, .int (z1.2.1 29 ((nI 5) + ((nI 2) * a1)).toNatClampNeg)), (0, .ref (ga G 25)), (1, .int a1), (2, .int a2)] dX8_horn_31 (by decide) rfl ?_
    refine s_lv [(0, .ref (ga G 25)), (1, .int a1), (2, .int a2), (3, .int (z1.2.1 29 ((nI 5) + ((nI 2) * a1)).toNatClampNeg)), (4, .int (nI 0)), (5, .int (nI 0))] [3, 4, 5, 2, 1, 0] rfl ?_
    refine l_X8_horn_33 F R (fun a1 a2 a3 a4 σ => ?_) fuel _ _ _ _ _ _
    refine s_iload_n F 2 dX8_horn_86 rfl rfl ?_
    refine s_ite (fun c8 => ?_) (fun c8 => ?_)
    · refine s_tin F 120 dX8_horn_87 (0 : Int32) c8 (by decide) (by decide) rfl (by decide) ?_
      refine s_iload_n F 3 dX8_horn_120 rfl rfl ?_
      refine s_if_ne F 129 dX8_horn_121 (by decide) (fun c9 => ?_) (fun c9 => ?_)
      · refine s_iload_n F 3 dX8_horn_129 rfl rfl ?_
        refine s_bipush F (nI 100) dX8_horn_130 rfl ?_
        refine s_idivc F dX8_horn_132 (by decide) ?_
        exact s_iret R dX8_horn_133
      · refine s_ldc F dX8_horn_124 m_4_81 ?_
        refine s_goto F 133 dX8_horn_126 (by decide) ?_
        exact s_iret R dX8_horn_133
    · refine s_ite (fun c10 => ?_) (fun c10 => ?_)
      · refine s_tin F 134 dX8_horn_87 (1 : Int32) c10 (by decide) (by decide) rfl (by decide) ?_
        refine s_iload_n F 3 dX8_horn_134 rfl rfl ?_
        refine s_bipush F (nI 100) dX8_horn_135 rfl ?_
        refine s_iremc F dX8_horn_137 (by decide) ?_
        exact s_iret R dX8_horn_138
      · refine s_ite (fun c11 => ?_) (fun c11 => ?_)
        · refine s_tin F 139 dX8_horn_87 (2 : Int32) c11 (by decide) (by decide) rfl (by decide) ?_
          refine s_iload_n F 3 dX8_horn_139 rfl rfl ?_
          refine s_if_ne F 148 dX8_horn_140 (by decide) (fun c13 => ?_) (fun c13 => ?_)
          · refine s_aload_n F 0 dX8_horn_148 rfl rfl ?_
            refine fg_X8_19 F dX8_horn_149 ?_
            refine s_iconst F (nI 5) dX8_horn_152 rfl ?_
            refine s_iconst F (nI 2) dX8_horn_153 rfl ?_
            refine s_iload_n F 1 dX8_horn_154 rfl rfl ?_
            refine s_imul F dX8_horn_155 ?_
            refine s_iadd F dX8_horn_156 ?_
            refine s_iconst F (nI 1) dX8_horn_157 rfl ?_
            refine s_iadd F dX8_horn_158 ?_
            refine s_iald F ar_29 dX8_horn_159 (fun q12 => ?_)
            exact s_iret R dX8_horn_160
          · refine s_ldc F dX8_horn_143 m_4_81 ?_
            refine s_goto F 160 dX8_horn_145 (by decide) ?_
            exact s_iret R dX8_horn_160
        · refine s_ite (fun c14 => ?_) (fun c14 => ?_)
          · refine s_tin F 161 dX8_horn_87 (3 : Int32) c14 (by decide) (by decide) rfl (by decide) ?_
            refine s_iload F 4 dX8_horn_161 rfl ?_
            exact s_iret R dX8_horn_163
          · refine s_ite (fun c15 => ?_) (fun c15 => ?_)
            · refine s_tin F 161 dX8_horn_87 (4 : Int32) c15 (by decide) (by decide) rfl (by decide) ?_
              refine s_iload F 4 dX8_horn_161 rfl ?_
              exact s_iret R dX8_horn_163
            · refine s_tout F 164 dX8_horn_87 (sw_out_5 c8 c10 c11 c14 c15) (by decide) ?_
              refine s_ldc F dX8_horn_164 m_4_41 ?_
              exact s_iret R dX8_horn_166
  · refine s_ldc F dX8_horn_13 m_4_41 ?_
    exact s_iret R dX8_horn_15
/-! X8_ahead -/
def F_X8_ahead (a1 : Int32) (a2 : Int32) (a3 : Int32) (σ : St) : Option (Int32 × St) := (F_X8_isHorn a1 (setF σ 8 (nI 0))).bind fun z1 => if z1.1 = 0 then (some ((-1000001 : Int32), z1.2)) else ((F_X8_in a2.toInt64 (lN 1) (lN 60) z1.2).bind fun z2 => if z2.1 = 0 then (some ((-1000001 : Int32), z2.2)) else ((F_X8_in a3.toInt64 (lN 0) (lN 1) z2.2).bind fun z3 => if z3.1 = 0 then (some ((-1000001 : Int32), z3.2)) else ((F_X8_layThen z3.2).bind fun z4 => (F_X8_hearersIn a2 z4).bind fun z5 => if ix a1 6 then if (z5.2.1 34 a1.toNatClampNeg) = 0 then (some ((-1000000 : Int32), z5.2)) else (if a3 = 0 then (if ix a1 6 then some ((z5.2.1 34 a1.toNatClampNeg) / (nI 100), z5.2) else none) else (if ix a1 6 then some ((z5.2.1 34 a1.toNatClampNeg) - (z5.2.1 34 a1.toNatClampNeg) / (nI 100) * (nI 100), z5.2) else none)) else none)))
set_option maxRecDepth 20000 in
theorem c_X8_ahead {G : Gx} {l : Launch} {a1 : Int32} {a2 : Int32} {a3 : Int32} {σ : St} {o : (Int32 × St)} (hF : F_X8_ahead a1 a2 a3 σ = some o) : Con G l yX8_ahead cX8_ahead 5 (some .int) 4 [.ref (ga G 25), .int a1, .int a2, .int a3] σ (some (.int o.1)) o.2 := by
  refine Con.of plX8 (Nat.le_of_ble_eq_true rfl) [(0, .ref (ga G 25)), (1, .int a1), (2, .int a2), (3, .int a3)] rfl (fun X F R => ?_)
  refine (show Sim G X 5 o (F_X8_ahead a1 a2 a3 σ) σ 0 [(0, .ref (ga G 25)), (1, .int a1), (2, .int a2), (3, .int a3)] [] from ?_) hF
  unfold F_X8_ahead
  refine s_aload_n F 0 dX8_ahead_0 rfl rfl ?_
  refine s_iconst F (nI 0) dX8_ahead_1 rfl ?_
  refine fp_X8_47 F dX8_ahead_2 ?_
  refine s_aload_n F 0 dX8_ahead_5 rfl rfl ?_
  refine s_iload_n F 1 dX8_ahead_6 rfl rfl ?_
  refine s_Vi F [.int a1] dX8_ahead_7 (fun z hz => c_X8_isHorn hz) wV_X8_180 nk_X8_isHorn (by decide) (by decide) ob_25 vc_7 rfl rfl (Nat.le_of_ble_eq_true rfl) (fun z1 => ?_)
  refine s_if_eq F 35 dX8_ahead_10 (by decide) (fun c13 => ?_) (fun c13 => ?_)
  · refine s_ldc F dX8_ahead_35 m_4_41 ?_
    exact s_iret R dX8_ahead_37
  · refine s_iload_n F 2 dX8_ahead_13 rfl rfl ?_
    refine s_i2l F dX8_ahead_14 ?_
    refine s_lconst F (lN 1) dX8_ahead_15 rfl ?_
    refine s_ldc2 F dX8_ahead_16 m_4_208 ?_
    refine s_Si F [.long a2.toInt64, .long (lN 1), .long (lN 60)] dX8_ahead_19 (fun z hz => c_X8_in hz) wS_X8_57 nk_X8_in (by decide) (by decide) rfl rfl (Nat.le_of_ble_eq_true rfl) (fun z2 => ?_)
    refine s_if_eq F 35 dX8_ahead_22 (by decide) (fun c12 => ?_) (fun c12 => ?_)
    · refine s_ldc F dX8_ahead_35 m_4_41 ?_
      exact s_iret R dX8_ahead_37
    · refine s_iload_n F 3 dX8_ahead_25 rfl rfl ?_
      refine s_i2l F dX8_ahead_26 ?_
      refine s_lconst F (lN 0) dX8_ahead_27 rfl ?_
      refine s_lconst F (lN 1) dX8_ahead_28 rfl ?_
      refine s_Si F [.long a3.toInt64, .long (lN 0), .long (lN 1)] dX8_ahead_29 (fun z hz => c_X8_in hz) wS_X8_57 nk_X8_in (by decide) (by decide) rfl rfl (Nat.le_of_ble_eq_true rfl) (fun z3 => ?_)
      refine s_if_ne F 38 dX8_ahead_32 (by decide) (fun c11 => ?_) (fun c11 => ?_)
      · refine s_aload_n F 0 dX8_ahead_38 rfl rfl ?_
        refine s_Vv F [] dX8_ahead_39 (fun z hz => c_X8_layThen hz) wV_X8_201 nk_X8_layThen (by decide) (by decide) ob_25 vc_7 rfl rfl (Nat.le_of_ble_eq_true rfl) (fun z4 => ?_)
        refine s_aload_n F 0 dX8_ahead_42 rfl rfl ?_
        refine s_iload_n F 2 dX8_ahead_43 rfl rfl ?_
        refine s_Vi F [.int a2] dX8_ahead_44 (fun z hz => c_X8_hearersIn hz) wV_X8_204 nk_X8_hearersIn (by decide) (by decide) ob_25 vc_7 rfl rfl (Nat.le_of_ble_eq_true rfl) (fun z5 => ?_)
        refine s_istore F [(4, .int z5.1), (0, .ref (ga G 25)), (1, .int a1), (2, .int a2), (3, .int a3)] dX8_ahead_47 (by decide) rfl ?_
        refine s_aload_n F 1 dX8_ahead_49 rfl rfl ?_
        refine fg_X8_34 F dX8_ahead_50 ?_
        refine s_iload_n F 2 dX8_ahead_53 rfl rfl ?_
        refine s_iald F ar_34 dX8_ahead_54 (fun q6 => ?_)
        refine s_if_ne F 63 dX8_ahead_55 (by decide) (fun c10 => ?_) (fun c10 => ?_)
        · refine s_iload_n F 4 dX8_ahead_63 rfl rfl ?_
          refine s_if_ne F 79 dX8_ahead_64 (by decide) (fun c9 => ?_) (fun c9 => ?_)
          · refine s_aload_n F 1 dX8_ahead_79 rfl rfl ?_
            refine fg_X8_34 F dX8_ahead_80 ?_
            refine s_iload_n F 2 dX8_ahead_83 rfl rfl ?_
            refine s_iald F ar_34 dX8_ahead_84 (fun q7 => ?_)
            refine s_bipush F (nI 100) dX8_ahead_85 rfl ?_
            refine s_iremc F dX8_ahead_87 (by decide) ?_
            exact s_iret R dX8_ahead_88
          · refine s_aload_n F 1 dX8_ahead_67 rfl rfl ?_
            refine fg_X8_34 F dX8_ahead_68 ?_
            refine s_iload_n F 2 dX8_ahead_71 rfl rfl ?_
            refine s_iald F ar_34 dX8_ahead_72 (fun q8 => ?_)
            refine s_bipush F (nI 100) dX8_ahead_73 rfl ?_
            refine s_idivc F dX8_ahead_75 (by decide) ?_
            refine s_goto F 88 dX8_ahead_76 (by decide) ?_
            exact s_iret R dX8_ahead_88
        · refine s_ldc F dX8_ahead_58 m_4_81 ?_
          refine s_goto F 88 dX8_ahead_60 (by decide) ?_
          exact s_iret R dX8_ahead_88
      · refine s_ldc F dX8_ahead_35 m_4_41 ?_
        exact s_iret R dX8_ahead_37
/-! X8_firstBy -/
def L_X8_firstBy_2 (K : St → Option (Int32 × St)) : Nat → Int32 → Int32 → St → Option (Int32 × St)
  | 0, _, _, _ => none
  | n + 1, a1, a2, σ => if (nI 60) < a2 then (K σ) else ((F_X8_breath 31 σ).bind fun z1 => (F_X8_has z1.1 a1 z1.2).bind fun z2 => if z2.1 = 0 then (L_X8_firstBy_2 K n a1 (a2 + (nI 1)) z2.2) else (some (a2, z2.2)))
def F_X8_firstBy (a1 : Int32) (σ : St) : Option (Int32 × St) := L_X8_firstBy_2 (fun σ => some ((-1000000 : Int32), σ)) fuel a1 (nI 1) σ
set_option maxRecDepth 20000 in
theorem l_X8_firstBy_2 {G : Gx} {X : Cx} (F : Fx G X cX8_firstBy 3 RX8 3) {o : (Int32 × St)} (R : Ret G X cX8_firstBy 3 (some .int) (some (.int o.1)) o.2) {K : St → Option (Int32 × St)} (hK : ∀ (σ : St), Sim G X 3 o (K σ) σ 31 [] []) : ∀ (n : Nat) (a1 : Int32) (a2 : Int32) (σ : St), Sim G X 3 o (L_X8_firstBy_2 K n a1 a2 σ) σ 2 [(0, .ref (ga G 25)), (1, .int a1), (2, .int a2)] [] := by
  intro n
  induction n with
  | zero =>
    intro a1 a2 σ
    exact s_none
  | succ n ih =>
    intro a1 a2 σ
    rw [L_X8_firstBy_2.eq_2]
    refine s_iload_n F 2 dX8_firstBy_2 rfl rfl ?_
    refine s_bipush F (nI 60) dX8_firstBy_3 rfl ?_
    refine s_icmp_gt F 31 dX8_firstBy_5 (by decide) (fun c4 => ?_) (fun c4 => ?_)
    · refine s_lv [] [] rfl ?_
      exact hK _
    · refine s_aload_n F 0 dX8_firstBy_8 rfl rfl ?_
      refine s_aload_n F 0 dX8_firstBy_9 rfl rfl ?_
      refine fg_X8_25 F dX8_firstBy_10 ?_
      refine s_Vi F [.ref (ga G 31)] dX8_firstBy_13 (fun z hz => c_X8_breath ar_31 hz) wV_X8_168 nk_X8_breath (by decide) (by decide) ob_25 vc_7 rfl rfl (Nat.le_of_ble_eq_true rfl) (fun z1 => ?_)
      refine s_iload_n F 1 dX8_firstBy_16 rfl rfl ?_
      refine s_Si F [.int z1.1, .int a1] dX8_firstBy_17 (fun z hz => c_X8_has hz) wS_X8_157 nk_X8_has (by decide) (by decide) rfl rfl (Nat.le_of_ble_eq_true rfl) (fun z2 => ?_)
      refine s_if_eq F 25 dX8_firstBy_20 (by decide) (fun c3 => ?_) (fun c3 => ?_)
      · refine s_iinc F 2 [(2, .int (a2 + (nI 1))), (0, .ref (ga G 25)), (1, .int a1)] dX8_firstBy_25 rfl rfl (by decide) rfl ?_
        refine s_goto F 2 dX8_firstBy_28 (by decide) ?_
        refine s_lv [(0, .ref (ga G 25)), (1, .int a1), (2, .int (a2 + (nI 1)))] [1, 2, 0] rfl ?_
        exact ih _ _ _
      · refine s_iload_n F 2 dX8_firstBy_23 rfl rfl ?_
        exact s_iret R dX8_firstBy_24
set_option maxRecDepth 20000 in
theorem c_X8_firstBy {G : Gx} {l : Launch} {a1 : Int32} {σ : St} {o : (Int32 × St)} (hF : F_X8_firstBy a1 σ = some o) : Con G l yX8_firstBy cX8_firstBy 3 (some .int) 3 [.ref (ga G 25), .int a1] σ (some (.int o.1)) o.2 := by
  refine Con.of plX8 (Nat.le_of_ble_eq_true rfl) [(0, .ref (ga G 25)), (1, .int a1)] rfl (fun X F R => ?_)
  refine (show Sim G X 3 o (F_X8_firstBy a1 σ) σ 0 [(0, .ref (ga G 25)), (1, .int a1)] [] from ?_) hF
  unfold F_X8_firstBy
  refine s_iconst F (nI 1) dX8_firstBy_0 rfl ?_
  refine s_istore_n F [(2, .int (nI 1)), (0, .ref (ga G 25)), (1, .int a1)] dX8_firstBy_1 rfl (by decide) rfl ?_
  refine s_lv [(0, .ref (ga G 25)), (1, .int a1), (2, .int (nI 1))] [1, 2, 0] rfl ?_
  refine l_X8_firstBy_2 F R (fun σ => ?_) fuel _ _ _
  refine s_ldc F dX8_firstBy_31 m_4_81 ?_
  exact s_iret R dX8_firstBy_33
/-! X8_first -/
def F_X8_first (a1 : Int32) (σ : St) : Option (Int32 × St) := (F_X8_isHorn a1 (setF σ 8 (nI 0))).bind fun z1 => if z1.1 = 0 then (some ((-1000001 : Int32), z1.2)) else ((F_X8_layThen z1.2).bind fun z2 => (F_X8_firstBy a1 z2).bind fun z3 => some (z3.1, z3.2))
set_option maxRecDepth 20000 in
theorem c_X8_first {G : Gx} {l : Launch} {a1 : Int32} {σ : St} {o : (Int32 × St)} (hF : F_X8_first a1 σ = some o) : Con G l yX8_first cX8_first 2 (some .int) 4 [.ref (ga G 25), .int a1] σ (some (.int o.1)) o.2 := by
  refine Con.of plX8 (Nat.le_of_ble_eq_true rfl) [(0, .ref (ga G 25)), (1, .int a1)] rfl (fun X F R => ?_)
  refine (show Sim G X 2 o (F_X8_first a1 σ) σ 0 [(0, .ref (ga G 25)), (1, .int a1)] [] from ?_) hF
  unfold F_X8_first
  refine s_aload_n F 0 dX8_first_0 rfl rfl ?_
  refine s_iconst F (nI 0) dX8_first_1 rfl ?_
  refine fp_X8_47 F dX8_first_2 ?_
  refine s_aload_n F 0 dX8_first_5 rfl rfl ?_
  refine s_iload_n F 1 dX8_first_6 rfl rfl ?_
  refine s_Vi F [.int a1] dX8_first_7 (fun z hz => c_X8_isHorn hz) wV_X8_180 nk_X8_isHorn (by decide) (by decide) ob_25 vc_7 rfl rfl (Nat.le_of_ble_eq_true rfl) (fun z1 => ?_)
  refine s_if_ne F 16 dX8_first_10 (by decide) (fun c4 => ?_) (fun c4 => ?_)
  · refine s_aload_n F 0 dX8_first_16 rfl rfl ?_
    refine s_Vv F [] dX8_first_17 (fun z hz => c_X8_layThen hz) wV_X8_201 nk_X8_layThen (by decide) (by decide) ob_25 vc_7 rfl rfl (Nat.le_of_ble_eq_true rfl) (fun z2 => ?_)
    refine s_aload_n F 0 dX8_first_20 rfl rfl ?_
    refine s_iload_n F 1 dX8_first_21 rfl rfl ?_
    refine s_Vi F [.int a1] dX8_first_22 (fun z hz => c_X8_firstBy hz) wV_X8_207 nk_X8_firstBy (by decide) (by decide) ob_25 vc_7 rfl rfl (Nat.le_of_ble_eq_true rfl) (fun z3 => ?_)
    exact s_iret R dX8_first_25
  · refine s_ldc F dX8_first_13 m_4_41 ?_
    exact s_iret R dX8_first_15
/-! X8_hearers -/
def F_X8_hearers (a1 : Int32) (σ : St) : Option (Int32 × St) := (F_X8_isThere (setF σ 8 (nI 0))).bind fun z1 => if z1.1 = 0 then (some ((-1000002 : Int32), z1.2)) else ((F_X8_in a1.toInt64 (lN 1) (lN 60) z1.2).bind fun z2 => if z2.1 = 0 then (some ((-1000001 : Int32), z2.2)) else ((F_X8_layThen z2.2).bind fun z3 => (F_X8_hearersIn a1 z3).bind fun z4 => some (z4.1, z4.2)))
set_option maxRecDepth 20000 in
theorem c_X8_hearers {G : Gx} {l : Launch} {a1 : Int32} {σ : St} {o : (Int32 × St)} (hF : F_X8_hearers a1 σ = some o) : Con G l yX8_hearers cX8_hearers 2 (some .int) 4 [.ref (ga G 25), .int a1] σ (some (.int o.1)) o.2 := by
  refine Con.of plX8 (Nat.le_of_ble_eq_true rfl) [(0, .ref (ga G 25)), (1, .int a1)] rfl (fun X F R => ?_)
  refine (show Sim G X 2 o (F_X8_hearers a1 σ) σ 0 [(0, .ref (ga G 25)), (1, .int a1)] [] from ?_) hF
  unfold F_X8_hearers
  refine s_aload_n F 0 dX8_hearers_0 rfl rfl ?_
  refine s_iconst F (nI 0) dX8_hearers_1 rfl ?_
  refine fp_X8_47 F dX8_hearers_2 ?_
  refine s_aload_n F 0 dX8_hearers_5 rfl rfl ?_
  refine s_Vi F [] dX8_hearers_6 (fun z hz => c_X8_isThere hz) wV_X8_171 nk_X8_isThere (by decide) (by decide) ob_25 vc_7 rfl rfl (Nat.le_of_ble_eq_true rfl) (fun z1 => ?_)
  refine s_if_ne F 15 dX8_hearers_9 (by decide) (fun c6 => ?_) (fun c6 => ?_)
  · refine s_iload_n F 1 dX8_hearers_15 rfl rfl ?_
    refine s_i2l F dX8_hearers_16 ?_
    refine s_lconst F (lN 1) dX8_hearers_17 rfl ?_
    refine s_ldc2 F dX8_hearers_18 m_4_208 ?_
    refine s_Si F [.long a1.toInt64, .long (lN 1), .long (lN 60)] dX8_hearers_21 (fun z hz => c_X8_in hz) wS_X8_57 nk_X8_in (by decide) (by decide) rfl rfl (Nat.le_of_ble_eq_true rfl) (fun z2 => ?_)
    refine s_if_ne F 30 dX8_hearers_24 (by decide) (fun c5 => ?_) (fun c5 => ?_)
    · refine s_aload_n F 0 dX8_hearers_30 rfl rfl ?_
      refine s_Vv F [] dX8_hearers_31 (fun z hz => c_X8_layThen hz) wV_X8_201 nk_X8_layThen (by decide) (by decide) ob_25 vc_7 rfl rfl (Nat.le_of_ble_eq_true rfl) (fun z3 => ?_)
      refine s_aload_n F 0 dX8_hearers_34 rfl rfl ?_
      refine s_iload_n F 1 dX8_hearers_35 rfl rfl ?_
      refine s_Vi F [.int a1] dX8_hearers_36 (fun z hz => c_X8_hearersIn hz) wV_X8_204 nk_X8_hearersIn (by decide) (by decide) ob_25 vc_7 rfl rfl (Nat.le_of_ble_eq_true rfl) (fun z4 => ?_)
      exact s_iret R dX8_hearers_39
    · refine s_ldc F dX8_hearers_27 m_4_41 ?_
      exact s_iret R dX8_hearers_29
  · refine s_ldc F dX8_hearers_12 m_4_130 ?_
    exact s_iret R dX8_hearers_14
/-! X8_quiet -/
def L_X8_quiet_21 (K : St → Option (Int32 × St)) : Nat → Int32 → St → Option (Int32 × St)
  | 0, _, _ => none
  | n + 1, a1, σ => if (nI 60) < a1 then (K σ) else ((F_X8_sounds 31 σ).bind fun z3 => if z3.1 = 0 then (some (a1, z3.2)) else ((F_X8_breath 31 z3.2).bind fun z4 => L_X8_quiet_21 K n (a1 + (nI 1)) z4.2))
def F_X8_quiet (σ : St) : Option (Int32 × St) := (F_X8_isThere (setF σ 8 (nI 0))).bind fun z1 => if z1.1 = 0 then (some ((-1000002 : Int32), z1.2)) else ((F_X8_layThen z1.2).bind fun z2 => L_X8_quiet_21 (fun σ => some ((-1000000 : Int32), σ)) fuel (nI 0) z2)
set_option maxRecDepth 20000 in
theorem l_X8_quiet_21 {G : Gx} {X : Cx} (F : Fx G X cX8_quiet 3 RX8 3) {o : (Int32 × St)} (R : Ret G X cX8_quiet 3 (some .int) (some (.int o.1)) o.2) {K : St → Option (Int32 × St)} (hK : ∀ (σ : St), Sim G X 3 o (K σ) σ 54 [] []) : ∀ (n : Nat) (a1 : Int32) (σ : St), Sim G X 3 o (L_X8_quiet_21 K n a1 σ) σ 21 [(0, .ref (ga G 25)), (1, .int a1)] [] := by
  intro n
  induction n with
  | zero =>
    intro a1 σ
    exact s_none
  | succ n ih =>
    intro a1 σ
    rw [L_X8_quiet_21.eq_2]
    refine s_iload_n F 1 dX8_quiet_21 rfl rfl ?_
    refine s_bipush F (nI 60) dX8_quiet_22 rfl ?_
    refine s_icmp_gt F 54 dX8_quiet_24 (by decide) (fun c6 => ?_) (fun c6 => ?_)
    · refine s_lv [] [] rfl ?_
      exact hK _
    · refine s_aload_n F 0 dX8_quiet_27 rfl rfl ?_
      refine fg_X8_25 F dX8_quiet_28 ?_
      refine s_Si F [.ref (ga G 31)] dX8_quiet_31 (fun z hz => c_X8_sounds ar_31 hz) wS_X8_164 nk_X8_sounds (by decide) (by decide) rfl rfl (Nat.le_of_ble_eq_true rfl) (fun z3 => ?_)
      refine s_if_ne F 39 dX8_quiet_34 (by decide) (fun c5 => ?_) (fun c5 => ?_)
      · refine s_aload_n F 0 dX8_quiet_39 rfl rfl ?_
        refine s_aload_n F 0 dX8_quiet_40 rfl rfl ?_
        refine fg_X8_25 F dX8_quiet_41 ?_
        refine s_Vi F [.ref (ga G 31)] dX8_quiet_44 (fun z hz => c_X8_breath ar_31 hz) wV_X8_168 nk_X8_breath (by decide) (by decide) ob_25 vc_7 rfl rfl (Nat.le_of_ble_eq_true rfl) (fun z4 => ?_)
        refine s_istore_n F [(2, .int z4.1), (0, .ref (ga G 25)), (1, .int a1)] dX8_quiet_47 rfl (by decide) rfl ?_
        refine s_iinc F 2 [(1, .int (a1 + (nI 1))), (2, .int z4.1), (0, .ref (ga G 25))] dX8_quiet_48 rfl rfl (by decide) rfl ?_
        refine s_goto F 21 dX8_quiet_51 (by decide) ?_
        refine s_lv [(0, .ref (ga G 25)), (1, .int (a1 + (nI 1)))] [2, 0] rfl ?_
        exact ih _ _
      · refine s_iload_n F 1 dX8_quiet_37 rfl rfl ?_
        exact s_iret R dX8_quiet_38
set_option maxRecDepth 20000 in
theorem c_X8_quiet {G : Gx} {l : Launch} {σ : St} {o : (Int32 × St)} (hF : F_X8_quiet σ = some o) : Con G l yX8_quiet cX8_quiet 3 (some .int) 3 [.ref (ga G 25)] σ (some (.int o.1)) o.2 := by
  refine Con.of plX8 (Nat.le_of_ble_eq_true rfl) [(0, .ref (ga G 25))] rfl (fun X F R => ?_)
  refine (show Sim G X 3 o (F_X8_quiet σ) σ 0 [(0, .ref (ga G 25))] [] from ?_) hF
  unfold F_X8_quiet
  refine s_aload_n F 0 dX8_quiet_0 rfl rfl ?_
  refine s_iconst F (nI 0) dX8_quiet_1 rfl ?_
  refine fp_X8_47 F dX8_quiet_2 ?_
  refine s_aload_n F 0 dX8_quiet_5 rfl rfl ?_
  refine s_Vi F [] dX8_quiet_6 (fun z hz => c_X8_isThere hz) wV_X8_171 nk_X8_isThere (by decide) (by decide) ob_25 vc_7 rfl rfl (Nat.le_of_ble_eq_true rfl) (fun z1 => ?_)
  refine s_if_ne F 15 dX8_quiet_9 (by decide) (fun c7 => ?_) (fun c7 => ?_)
  · refine s_aload_n F 0 dX8_quiet_15 rfl rfl ?_
    refine s_Vv F [] dX8_quiet_16 (fun z hz => c_X8_layThen hz) wV_X8_201 nk_X8_layThen (by decide) (by decide) ob_25 vc_7 rfl rfl (Nat.le_of_ble_eq_true rfl) (fun z2 => ?_)
    refine s_iconst F (nI 0) dX8_quiet_19 rfl ?_
    refine s_istore_n F [(1, .int (nI 0)), (0, .ref (ga G 25))] dX8_quiet_20 rfl (by decide) rfl ?_
    refine s_lv [(0, .ref (ga G 25)), (1, .int (nI 0))] [1, 0] rfl ?_
    refine l_X8_quiet_21 F R (fun σ => ?_) fuel _ _
    refine s_ldc F dX8_quiet_54 m_4_81 ?_
    exact s_iret R dX8_quiet_56
  · refine s_ldc F dX8_quiet_12 m_4_130 ?_
    exact s_iret R dX8_quiet_14
/-! X8_shuts -/
def J_X8_shuts_109 (K64 : Int32 → Int32 → Int32 → Int32 → Int32 → Int32 → St → Option (Int32 × St)) (a1 : Int32) (a2 : Int32) (a3 : Int32) (a4 : Int32) (a5 : Int32) (a6 : Int32) (σ : St) : Option (Int32 × St) := (F_X8_layThen σ).bind fun z8 => if ix (nI 4) 80 then if ix (nI 4) 80 then (F_X8_speech 31 a1 (nI 0) (nI 50) (setA z8 31 (nI 4).toNatClampNeg ((z8.1 31 (nI 4).toNatClampNeg) &&& (a6 ^^^ (-1 : Int32))))).bind fun z11 => (F_X8_hearersIn a3 z11.2).bind fun z12 => if (z12.1 &&& a2) = 0 then (K64 a1 a2 a3 a4 a6 (a6 + (nI 1)) z12.2) else (K64 a1 a2 a3 a4 a5 (a6 + (nI 1)) z12.2) else none else none
def L_X8_shuts_64 (K : Int32 → Int32 → St → Option (Int32 × St)) : Nat → Int32 → Int32 → Int32 → Int32 → Int32 → Int32 → St → Option (Int32 × St)
  | 0, _, _, _, _, _, _, _ => none
  | n + 1, a1, a2, a3, a4, a5, a6, σ => if ix (nI 4) 80 then if (σ.1 29 (nI 4).toNatClampNeg) < a6 then (K a4 a5 σ) else (if ix (nI 4) 80 then if (a6 &&& ((σ.1 29 (nI 4).toNatClampNeg) ^^^ (-1 : Int32))) = 0 then (if a5 = (-1000000 : Int32) then (J_X8_shuts_109 (fun a1 a2 a3 a4 a5 a6 σ => L_X8_shuts_64 K n a1 a2 a3 a4 a5 a6 σ) a1 a2 a3 a4 a5 a6 σ) else ((F_X8_bits a6 σ).bind fun z14 => (F_X8_bits a5 z14.2).bind fun z15 => if z15.1 ≤ z14.1 then (L_X8_shuts_64 K n a1 a2 a3 a4 a5 (a6 + (nI 1)) z15.2) else (J_X8_shuts_109 (fun a1 a2 a3 a4 a5 a6 σ => L_X8_shuts_64 K n a1 a2 a3 a4 a5 a6 σ) a1 a2 a3 a4 a5 a6 z15.2))) else (L_X8_shuts_64 K n a1 a2 a3 a4 a5 (a6 + (nI 1)) σ) else none) else none
def F_X8_shuts (a1 : Int32) (a2 : Int32) (a3 : Int32) (a4 : Int32) (σ : St) : Option (Int32 × St) := (F_X8_isThere (setF σ 8 (nI 0))).bind fun z1 => if z1.1 = 0 then (some ((-1000002 : Int32), z1.2)) else ((F_X8_isHorn a1 z1.2).bind fun z2 => if z2.1 = 0 then (some ((-1000001 : Int32), z2.2)) else ((F_X8_areHorns a2 z2.2).bind fun z3 => if z3.1 = 0 then (some ((-1000001 : Int32), z3.2)) else ((F_X8_in a3.toInt64 (lN 1) (lN 30) z3.2).bind fun z4 => if z4.1 = 0 then (some ((-1000001 : Int32), z4.2)) else ((F_X8_in a4.toInt64 (lN 0) (lN 1) z4.2).bind fun z5 => if z5.1 = 0 then (some ((-1000001 : Int32), z5.2)) else (L_X8_shuts_64 (fun a4 a5 σ => if a5 = (-1000000 : Int32) then (some (a5, σ)) else (if a4 = (nI 1) then (some (a5, σ)) else ((F_X8_bits a5 σ).bind fun z20 => some (z20.1, z20.2)))) fuel a1 a2 a3 a4 (-1000000 : Int32) (nI 0) z5.2)))))
set_option maxRecDepth 20000 in
theorem j_X8_shuts_109 {G : Gx} {X : Cx} (F : Fx G X cX8_shuts 8 RX8 4) {o : (Int32 × St)} (R : Ret G X cX8_shuts 8 (some .int) (some (.int o.1)) o.2) {K64 : Int32 → Int32 → Int32 → Int32 → Int32 → Int32 → St → Option (Int32 × St)} (hK64 : ∀ (a1 : Int32) (a2 : Int32) (a3 : Int32) (a4 : Int32) (a5 : Int32) (a6 : Int32) (σ : St), Sim G X 8 o (K64 a1 a2 a3 a4 a5 a6 σ) σ 64 [(0, .ref (ga G 25)), (1, .int a1), (2, .int a2), (3, .int a3), (4, .int a4), (5, .int a5), (6, .int a6)] []) (a1 : Int32) (a2 : Int32) (a3 : Int32) (a4 : Int32) (a5 : Int32) (a6 : Int32) (σ : St) : Sim G X 8 o (J_X8_shuts_109 K64 a1 a2 a3 a4 a5 a6 σ) σ 109 [(0, .ref (ga G 25)), (1, .int a1), (2, .int a2), (3, .int a3), (4, .int a4), (5, .int a5), (6, .int a6)] [] := by
  unfold J_X8_shuts_109
  refine s_aload_n F 0 dX8_shuts_109 rfl rfl ?_
  refine s_Vv F [] dX8_shuts_110 (fun z hz => c_X8_layThen hz) wV_X8_201 nk_X8_layThen (by decide) (by decide) ob_25 vc_7 rfl rfl (Nat.le_of_ble_eq_true rfl) (fun z8 => ?_)
  refine s_aload_n F 0 dX8_shuts_113 rfl rfl ?_
  refine fg_X8_25 F dX8_shuts_114 ?_
  refine s_iconst F (nI 4) dX8_shuts_117 rfl ?_
  refine s_dup2 F dX8_shuts_118 rfl rfl ?_
  refine s_iald F ar_31 dX8_shuts_119 (fun q9 => ?_)
  refine s_iload F 6 dX8_shuts_120 rfl ?_
  refine s_iconst F (-1 : Int32) dX8_shuts_122 rfl ?_
  refine s_ixor F dX8_shuts_123 ?_
  refine s_iand F dX8_shuts_124 ?_
  refine s_iast F ar_31 dX8_shuts_125 (fun q10 => ?_)
  refine s_aload_n F 0 dX8_shuts_126 rfl rfl ?_
  refine fg_X8_25 F dX8_shuts_127 ?_
  refine s_iload_n F 1 dX8_shuts_130 rfl rfl ?_
  refine s_iconst F (nI 0) dX8_shuts_131 rfl ?_
  refine s_bipush F (nI 50) dX8_shuts_132 rfl ?_
  refine s_Si F [.ref (ga G 31), .int a1, .int (nI 0), .int (nI 50)] dX8_shuts_134 (fun z hz => c_X8_speech ar_31 hz) wS_X8_187 nk_X8_speech (by decide) (by decide) rfl rfl (Nat.le_of_ble_eq_true rfl) (fun z11 => ?_)
  refine s_istore F [(7, .int z11.1), (0, .ref (ga G 25)), (1, .int a1), (2, .int a2), (3, .int a3), (4, .int a4), (5, .int a5), (6, .int a6)] dX8_shuts_137 (by decide) rfl ?_
  refine s_aload_n F 1 dX8_shuts_139 rfl rfl ?_
  refine s_iload_n F 4 dX8_shuts_140 rfl rfl ?_
  refine s_Vi F [.int a3] dX8_shuts_141 (fun z hz => c_X8_hearersIn hz) wV_X8_204 nk_X8_hearersIn (by decide) (by decide) ob_25 vc_7 rfl rfl (Nat.le_of_ble_eq_true rfl) (fun z12 => ?_)
  refine s_iload_n F 3 dX8_shuts_144 rfl rfl ?_
  refine s_iand F dX8_shuts_145 ?_
  refine s_if_ne F 154 dX8_shuts_146 (by decide) (fun c13 => ?_) (fun c13 => ?_)
  · refine s_iload F 6 dX8_shuts_154 rfl ?_
    refine s_istore F [(5, .int a5), (7, .int z11.1), (0, .ref (ga G 25)), (1, .int a1), (2, .int a2), (3, .int a3), (4, .int a4), (6, .int a6)] dX8_shuts_156 (by decide) rfl ?_
    refine s_iinc F 7 [(6, .int (a6 + (nI 1))), (5, .int a5), (7, .int z11.1), (0, .ref (ga G 25)), (1, .int a1), (2, .int a2), (3, .int a3), (4, .int a4)] dX8_shuts_158 rfl rfl (by decide) rfl ?_
    refine s_goto F 64 dX8_shuts_161 (by decide) ?_
    refine s_lv [(0, .ref (ga G 25)), (1, .int a1), (2, .int a2), (3, .int a3), (4, .int a4), (5, .int a5), (6, .int (a6 + (nI 1)))] [3, 4, 5, 6, 7, 1, 0] rfl ?_
    exact hK64 _ _ _ _ _ _ _
  · refine s_iload F 7 dX8_shuts_149 rfl ?_
    refine s_goto F 156 dX8_shuts_151 (by decide) ?_
    refine s_istore F [(5, .int a6), (7, .int z11.1), (0, .ref (ga G 25)), (1, .int a1), (2, .int a2), (3, .int a3), (4, .int a4), (6, .int a6)] dX8_shuts_156 (by decide) rfl ?_
    refine s_iinc F 7 [(6, .int (a6 + (nI 1))), (5, .int a6), (7, .int z11.1), (0, .ref (ga G 25)), (1, .int a1), (2, .int a2), (3, .int a3), (4, .int a4)] dX8_shuts_158 rfl rfl (by decide) rfl ?_
    refine s_goto F 64 dX8_shuts_161 (by decide) ?_
    refine s_lv [(0, .ref (ga G 25)), (1, .int a1), (2, .int a2), (3, .int a3), (4, .int a4), (5, .int a6), (6, .int (a6 + (nI 1)))] [3, 4, 5, 6, 7, 1, 0] rfl ?_
    exact hK64 _ _ _ _ _ _ _
set_option maxRecDepth 20000 in
theorem l_X8_shuts_64 {G : Gx} {X : Cx} (F : Fx G X cX8_shuts 8 RX8 4) {o : (Int32 × St)} (R : Ret G X cX8_shuts 8 (some .int) (some (.int o.1)) o.2) {K : Int32 → Int32 → St → Option (Int32 × St)} (hK : ∀ (a4 : Int32) (a5 : Int32) (σ : St), Sim G X 8 o (K a4 a5 σ) σ 164 [(4, .int a4), (5, .int a5)] []) : ∀ (n : Nat) (a1 : Int32) (a2 : Int32) (a3 : Int32) (a4 : Int32) (a5 : Int32) (a6 : Int32) (σ : St), Sim G X 8 o (L_X8_shuts_64 K n a1 a2 a3 a4 a5 a6 σ) σ 64 [(0, .ref (ga G 25)), (1, .int a1), (2, .int a2), (3, .int a3), (4, .int a4), (5, .int a5), (6, .int a6)] [] := by
  intro n
  induction n with
  | zero =>
    intro a1 a2 a3 a4 a5 a6 σ
    exact s_none
  | succ n ih =>
    intro a1 a2 a3 a4 a5 a6 σ
    rw [L_X8_shuts_64.eq_2]
    refine s_iload F 6 dX8_shuts_64 rfl ?_
    refine s_aload_n F 0 dX8_shuts_66 rfl rfl ?_
    refine fg_X8_19 F dX8_shuts_67 ?_
    refine s_iconst F (nI 4) dX8_shuts_70 rfl ?_
    refine s_iald F ar_29 dX8_shuts_71 (fun q6 => ?_)
    refine s_icmp_gt F 164 dX8_shuts_72 (by decide) (fun c19 => ?_) (fun c19 => ?_)
    · refine s_lv [(4, .int a4), (5, .int a5)] [4, 5] rfl ?_
      exact hK _ _ _
    · refine s_iload F 6 dX8_shuts_75 rfl ?_
      refine s_aload_n F 0 dX8_shuts_77 rfl rfl ?_
      refine fg_X8_19 F dX8_shuts_78 ?_
      refine s_iconst F (nI 4) dX8_shuts_81 rfl ?_
      refine s_iald F ar_29 dX8_shuts_82 (fun q7 => ?_)
      refine s_iconst F (-1 : Int32) dX8_shuts_83 rfl ?_
      refine s_ixor F dX8_shuts_84 ?_
      refine s_iand F dX8_shuts_85 ?_
      refine s_if_ne F 158 dX8_shuts_86 (by decide) (fun c18 => ?_) (fun c18 => ?_)
      · refine s_iinc F 6 [(6, .int (a6 + (nI 1))), (0, .ref (ga G 25)), (1, .int a1), (2, .int a2), (3, .int a3), (4, .int a4), (5, .int a5)] dX8_shuts_158 rfl rfl (by decide) rfl ?_
        refine s_goto F 64 dX8_shuts_161 (by decide) ?_
        refine s_lv [(0, .ref (ga G 25)), (1, .int a1), (2, .int a2), (3, .int a3), (4, .int a4), (5, .int a5), (6, .int (a6 + (nI 1)))] [1, 2, 3, 4, 5, 6, 0] rfl ?_
        exact ih _ _ _ _ _ _ _
      · refine s_iload F 5 dX8_shuts_89 rfl ?_
        refine s_ldc F dX8_shuts_91 m_4_81 ?_
        refine s_icmp_eq F 109 dX8_shuts_93 (by decide) (fun c17 => ?_) (fun c17 => ?_)
        · exact j_X8_shuts_109 F R (by
                intro a1 a2 a3 a4 a5 a6 σ
                exact ih _ _ _ _ _ _ _) _ _ _ _ _ _ _
        · refine s_iload F 6 dX8_shuts_96 rfl ?_
          refine s_Si F [.int a6] dX8_shuts_98 (fun z hz => c_X8_bits hz) wS_X8_215 nk_X8_bits (by decide) (by decide) rfl rfl (Nat.le_of_ble_eq_true rfl) (fun z14 => ?_)
          refine s_iload F 5 dX8_shuts_101 rfl ?_
          refine s_Si F [.int a5] dX8_shuts_103 (fun z hz => c_X8_bits hz) wS_X8_215 nk_X8_bits (by decide) (by decide) rfl rfl (Nat.le_of_ble_eq_true rfl) (fun z15 => ?_)
          refine s_icmp_ge F 158 dX8_shuts_106 (by decide) (fun c16 => ?_) (fun c16 => ?_)
          · refine s_iinc F 6 [(6, .int (a6 + (nI 1))), (0, .ref (ga G 25)), (1, .int a1), (2, .int a2), (3, .int a3), (4, .int a4), (5, .int a5)] dX8_shuts_158 rfl rfl (by decide) rfl ?_
            refine s_goto F 64 dX8_shuts_161 (by decide) ?_
            refine s_lv [(0, .ref (ga G 25)), (1, .int a1), (2, .int a2), (3, .int a3), (4, .int a4), (5, .int a5), (6, .int (a6 + (nI 1)))] [1, 2, 3, 4, 5, 6, 0] rfl ?_
            exact ih _ _ _ _ _ _ _
          · exact j_X8_shuts_109 F R (by
                  intro a1 a2 a3 a4 a5 a6 σ
                  exact ih _ _ _ _ _ _ _) _ _ _ _ _ _ _
set_option maxRecDepth 20000 in
theorem c_X8_shuts {G : Gx} {l : Launch} {a1 : Int32} {a2 : Int32} {a3 : Int32} {a4 : Int32} {σ : St} {o : (Int32 × St)} (hF : F_X8_shuts a1 a2 a3 a4 σ = some o) : Con G l yX8_shuts cX8_shuts 8 (some .int) 4 [.ref (ga G 25), .int a1, .int a2, .int a3, .int a4] σ (some (.int o.1)) o.2 := by
  refine Con.of plX8 (Nat.le_of_ble_eq_true rfl) [(0, .ref (ga G 25)), (1, .int a1), (2, .int a2), (3, .int a3), (4, .int a4)] rfl (fun X F R => ?_)
  refine (show Sim G X 8 o (F_X8_shuts a1 a2 a3 a4 σ) σ 0 [(0, .ref (ga G 25)), (1, .int a1), (2, .int a2), (3, .int a3), (4, .int a4)] [] from ?_) hF
  unfold F_X8_shuts
  refine s_aload_n F 0 dX8_shuts_0 rfl rfl ?_
  refine s_iconst F (nI 0) dX8_shuts_1 rfl ?_
  refine fp_X8_47 F dX8_shuts_2 ?_
  refine s_aload_n F 0 dX8_shuts_5 rfl rfl ?_
  refine s_Vi F [] dX8_shuts_6 (fun z hz => c_X8_isThere hz) wV_X8_171 nk_X8_isThere (by decide) (by decide) ob_25 vc_7 rfl rfl (Nat.le_of_ble_eq_true rfl) (fun z1 => ?_)
  refine s_if_ne F 15 dX8_shuts_9 (by decide) (fun c27 => ?_) (fun c27 => ?_)
  · refine s_aload_n F 0 dX8_shuts_15 rfl rfl ?_
    refine s_iload_n F 1 dX8_shuts_16 rfl rfl ?_
    refine s_Vi F [.int a1] dX8_shuts_17 (fun z hz => c_X8_isHorn hz) wV_X8_180 nk_X8_isHorn (by decide) (by decide) ob_25 vc_7 rfl rfl (Nat.le_of_ble_eq_true rfl) (fun z2 => ?_)
    refine s_if_eq F 54 dX8_shuts_20 (by decide) (fun c26 => ?_) (fun c26 => ?_)
    · refine s_ldc F dX8_shuts_54 m_4_41 ?_
      exact s_iret R dX8_shuts_56
    · refine s_aload_n F 0 dX8_shuts_23 rfl rfl ?_
      refine s_iload_n F 2 dX8_shuts_24 rfl rfl ?_
      refine s_Vi F [.int a2] dX8_shuts_25 (fun z hz => c_X8_areHorns hz) wV_X8_210 nk_X8_areHorns (by decide) (by decide) ob_25 vc_7 rfl rfl (Nat.le_of_ble_eq_true rfl) (fun z3 => ?_)
      refine s_if_eq F 54 dX8_shuts_28 (by decide) (fun c25 => ?_) (fun c25 => ?_)
      · refine s_ldc F dX8_shuts_54 m_4_41 ?_
        exact s_iret R dX8_shuts_56
      · refine s_iload_n F 3 dX8_shuts_31 rfl rfl ?_
        refine s_i2l F dX8_shuts_32 ?_
        refine s_lconst F (lN 1) dX8_shuts_33 rfl ?_
        refine s_ldc2 F dX8_shuts_34 m_5_1 ?_
        refine s_Si F [.long a3.toInt64, .long (lN 1), .long (lN 30)] dX8_shuts_37 (fun z hz => c_X8_in hz) wS_X8_57 nk_X8_in (by decide) (by decide) rfl rfl (Nat.le_of_ble_eq_true rfl) (fun z4 => ?_)
        refine s_if_eq F 54 dX8_shuts_40 (by decide) (fun c24 => ?_) (fun c24 => ?_)
        · refine s_ldc F dX8_shuts_54 m_4_41 ?_
          exact s_iret R dX8_shuts_56
        · refine s_iload F 4 dX8_shuts_43 rfl ?_
          refine s_i2l F dX8_shuts_45 ?_
          refine s_lconst F (lN 0) dX8_shuts_46 rfl ?_
          refine s_lconst F (lN 1) dX8_shuts_47 rfl ?_
          refine s_Si F [.long a4.toInt64, .long (lN 0), .long (lN 1)] dX8_shuts_48 (fun z hz => c_X8_in hz) wS_X8_57 nk_X8_in (by decide) (by decide) rfl rfl (Nat.le_of_ble_eq_true rfl) (fun z5 => ?_)
          refine s_if_ne F 57 dX8_shuts_51 (by decide) (fun c23 => ?_) (fun c23 => ?_)
          · refine s_ldc F dX8_shuts_57 m_4_81 ?_
            refine s_istore F [(5, .int (-1000000 : Int32)), (0, .ref (ga G 25)), (1, .int a1), (2, .int a2), (3, .int a3), (4, .int a4)] dX8_shuts_59 (by decide) rfl ?_
            refine s_iconst F (nI 0) dX8_shuts_61 rfl ?_
            refine s_istore F [(6, .int (nI 0)), (5, .int (-1000000 : Int32)), (0, .ref (ga G 25)), (1, .int a1), (2, .int a2), (3, .int a3), (4, .int a4)] dX8_shuts_62 (by decide) rfl ?_
            refine s_lv [(0, .ref (ga G 25)), (1, .int a1), (2, .int a2), (3, .int a3), (4, .int a4), (5, .int (-1000000 : Int32)), (6, .int (nI 0))] [2, 3, 4, 5, 6, 1, 0] rfl ?_
            refine l_X8_shuts_64 F R (fun a4 a5 σ => ?_) fuel _ _ _ _ _ _ _
            refine s_iload F 1 dX8_shuts_164 rfl ?_
            refine s_ldc F dX8_shuts_166 m_4_81 ?_
            refine s_icmp_eq F 177 dX8_shuts_168 (by decide) (fun c22 => ?_) (fun c22 => ?_)
            · refine s_iload F 1 dX8_shuts_177 rfl ?_
              refine s_goto F 187 dX8_shuts_179 (by decide) ?_
              exact s_iret R dX8_shuts_187
            · refine s_iload F 0 dX8_shuts_171 rfl ?_
              refine s_iconst F (nI 1) dX8_shuts_173 rfl ?_
              refine s_icmp_ne F 182 dX8_shuts_174 (by decide) (fun c21 => ?_) (fun c21 => ?_)
              · refine s_iload F 1 dX8_shuts_182 rfl ?_
                refine s_Si F [.int a5] dX8_shuts_184 (fun z hz => c_X8_bits hz) wS_X8_215 nk_X8_bits (by decide) (by decide) rfl rfl (Nat.le_of_ble_eq_true rfl) (fun z20 => ?_)
                exact s_iret R dX8_shuts_187
              · refine s_iload F 1 dX8_shuts_177 rfl ?_
                refine s_goto F 187 dX8_shuts_179 (by decide) ?_
                exact s_iret R dX8_shuts_187
          · refine s_ldc F dX8_shuts_54 m_4_41 ?_
            exact s_iret R dX8_shuts_56
  · refine s_ldc F dX8_shuts_12 m_4_130 ?_
    exact s_iret R dX8_shuts_14
/-! X8_opens -/
def J_X8_opens_112 (K75 : Int32 → Int32 → Int32 → Int32 → Int32 → Int32 → Int32 → St → Option (Int32 × St)) (a1 : Int32) (a2 : Int32) (a3 : Int32) (a4 : Int32) (a5 : Int32) (a6 : Int32) (a7 : Int32) (σ : St) : Option (Int32 × St) := (F_X8_layThen σ).bind fun z7 => if ix (nI 4) 80 then if ix (nI 4) 80 then (F_X8_speech 31 a1 (nI 0) (nI 50) (setA z7 31 (nI 4).toNatClampNeg ((z7.1 31 (nI 4).toNatClampNeg) ||| a7))).bind fun z10 => (F_X8_hearersIn a3 z10.2).bind fun z11 => (F_X8_has z11.1 a2 z11.2).bind fun z12 => if z12.1 = 0 then (K75 a1 a2 a3 a4 a5 a6 (a7 + (nI 1)) z12.2) else (K75 a1 a2 a3 a4 a5 a7 (a7 + (nI 1)) z12.2) else none else none
def L_X8_opens_75 (K : Int32 → Int32 → St → Option (Int32 × St)) : Nat → Int32 → Int32 → Int32 → Int32 → Int32 → Int32 → Int32 → St → Option (Int32 × St)
  | 0, _, _, _, _, _, _, _, _ => none
  | n + 1, a1, a2, a3, a4, a5, a6, a7, σ => if a5 < a7 then (K a4 a6 σ) else (if (a7 &&& (a5 ^^^ (-1 : Int32))) = 0 then (if a6 = (-1000000 : Int32) then (J_X8_opens_112 (fun a1 a2 a3 a4 a5 a6 a7 σ => L_X8_opens_75 K n a1 a2 a3 a4 a5 a6 a7 σ) a1 a2 a3 a4 a5 a6 a7 σ) else ((F_X8_bits a7 σ).bind fun z14 => (F_X8_bits a6 z14.2).bind fun z15 => if z15.1 ≤ z14.1 then (L_X8_opens_75 K n a1 a2 a3 a4 a5 a6 (a7 + (nI 1)) z15.2) else (J_X8_opens_112 (fun a1 a2 a3 a4 a5 a6 a7 σ => L_X8_opens_75 K n a1 a2 a3 a4 a5 a6 a7 σ) a1 a2 a3 a4 a5 a6 a7 z15.2))) else (L_X8_opens_75 K n a1 a2 a3 a4 a5 a6 (a7 + (nI 1)) σ))
def F_X8_opens (a1 : Int32) (a2 : Int32) (a3 : Int32) (a4 : Int32) (σ : St) : Option (Int32 × St) := (F_X8_isHorn a1 (setF σ 8 (nI 0))).bind fun z1 => if z1.1 = 0 then (some ((-1000001 : Int32), z1.2)) else ((F_X8_isHorn a2 z1.2).bind fun z2 => if z2.1 = 0 then (some ((-1000001 : Int32), z2.2)) else ((F_X8_in a3.toInt64 (lN 1) (lN 30) z2.2).bind fun z3 => if z3.1 = 0 then (some ((-1000001 : Int32), z3.2)) else ((F_X8_in a4.toInt64 (lN 0) (lN 1) z3.2).bind fun z4 => if z4.1 = 0 then (some ((-1000001 : Int32), z4.2)) else (if ix (nI 2) 80 then if ix (nI 4) 80 then L_X8_opens_75 (fun a4 a6 σ => if a6 = (-1000000 : Int32) then (some (a6, σ)) else (if a4 = (nI 1) then (some (a6, σ)) else ((F_X8_bits a6 σ).bind fun z20 => some (z20.1, z20.2)))) fuel a1 a2 a3 a4 ((((nI 1) <<< ((z4.2.1 29 (nI 2).toNatClampNeg) &&& 31)) - (nI 1)) &&& ((z4.2.1 29 (nI 4).toNatClampNeg) ^^^ (-1 : Int32))) (-1000000 : Int32) (nI 0) z4.2 else none else none))))
set_option maxRecDepth 20000 in
theorem j_X8_opens_112 {G : Gx} {X : Cx} (F : Fx G X cX8_opens 9 RX8 4) {o : (Int32 × St)} (R : Ret G X cX8_opens 9 (some .int) (some (.int o.1)) o.2) {K75 : Int32 → Int32 → Int32 → Int32 → Int32 → Int32 → Int32 → St → Option (Int32 × St)} (hK75 : ∀ (a1 : Int32) (a2 : Int32) (a3 : Int32) (a4 : Int32) (a5 : Int32) (a6 : Int32) (a7 : Int32) (σ : St), Sim G X 9 o (K75 a1 a2 a3 a4 a5 a6 a7 σ) σ 75 [(0, .ref (ga G 25)), (1, .int a1), (2, .int a2), (3, .int a3), (4, .int a4), (5, .int a5), (6, .int a6), (7, .int a7)] []) (a1 : Int32) (a2 : Int32) (a3 : Int32) (a4 : Int32) (a5 : Int32) (a6 : Int32) (a7 : Int32) (σ : St) : Sim G X 9 o (J_X8_opens_112 K75 a1 a2 a3 a4 a5 a6 a7 σ) σ 112 [(0, .ref (ga G 25)), (1, .int a1), (2, .int a2), (3, .int a3), (4, .int a4), (5, .int a5), (6, .int a6), (7, .int a7)] [] := by
  unfold J_X8_opens_112
  refine s_aload_n F 0 dX8_opens_112 rfl rfl ?_
  refine s_Vv F [] dX8_opens_113 (fun z hz => c_X8_layThen hz) wV_X8_201 nk_X8_layThen (by decide) (by decide) ob_25 vc_7 rfl rfl (Nat.le_of_ble_eq_true rfl) (fun z7 => ?_)
  refine s_aload_n F 0 dX8_opens_116 rfl rfl ?_
  refine fg_X8_25 F dX8_opens_117 ?_
  refine s_iconst F (nI 4) dX8_opens_120 rfl ?_
  refine s_dup2 F dX8_opens_121 rfl rfl ?_
  refine s_iald F ar_31 dX8_opens_122 (fun q8 => ?_)
  refine s_iload F 7 dX8_opens_123 rfl ?_
  refine s_ior F dX8_opens_125 ?_
  refine s_iast F ar_31 dX8_opens_126 (fun q9 => ?_)
  refine s_aload_n F 0 dX8_opens_127 rfl rfl ?_
  refine fg_X8_25 F dX8_opens_128 ?_
  refine s_iload_n F 1 dX8_opens_131 rfl rfl ?_
  refine s_iconst F (nI 0) dX8_opens_132 rfl ?_
  refine s_bipush F (nI 50) dX8_opens_133 rfl ?_
  refine s_Si F [.ref (ga G 31), .int a1, .int (nI 0), .int (nI 50)] dX8_opens_135 (fun z hz => c_X8_speech ar_31 hz) wS_X8_187 nk_X8_speech (by decide) (by decide) rfl rfl (Nat.le_of_ble_eq_true rfl) (fun z10 => ?_)
  refine s_istore F [(8, .int z10.1), (0, .ref (ga G 25)), (1, .int a1), (2, .int a2), (3, .int a3), (4, .int a4), (5, .int a5), (6, .int a6), (7, .int a7)] dX8_opens_138 (by decide) rfl ?_
  refine s_aload_n F 1 dX8_opens_140 rfl rfl ?_
  refine s_iload_n F 4 dX8_opens_141 rfl rfl ?_
  refine s_Vi F [.int a3] dX8_opens_142 (fun z hz => c_X8_hearersIn hz) wV_X8_204 nk_X8_hearersIn (by decide) (by decide) ob_25 vc_7 rfl rfl (Nat.le_of_ble_eq_true rfl) (fun z11 => ?_)
  refine s_iload_n F 3 dX8_opens_145 rfl rfl ?_
  refine s_Si F [.int z11.1, .int a2] dX8_opens_146 (fun z hz => c_X8_has hz) wS_X8_157 nk_X8_has (by decide) (by decide) rfl rfl (Nat.le_of_ble_eq_true rfl) (fun z12 => ?_)
  refine s_if_eq F 157 dX8_opens_149 (by decide) (fun c13 => ?_) (fun c13 => ?_)
  · refine s_iload F 7 dX8_opens_157 rfl ?_
    refine s_istore F [(6, .int a6), (8, .int z10.1), (0, .ref (ga G 25)), (1, .int a1), (2, .int a2), (3, .int a3), (4, .int a4), (5, .int a5), (7, .int a7)] dX8_opens_159 (by decide) rfl ?_
    refine s_iinc F 8 [(7, .int (a7 + (nI 1))), (6, .int a6), (8, .int z10.1), (0, .ref (ga G 25)), (1, .int a1), (2, .int a2), (3, .int a3), (4, .int a4), (5, .int a5)] dX8_opens_161 rfl rfl (by decide) rfl ?_
    refine s_goto F 75 dX8_opens_164 (by decide) ?_
    refine s_lv [(0, .ref (ga G 25)), (1, .int a1), (2, .int a2), (3, .int a3), (4, .int a4), (5, .int a5), (6, .int a6), (7, .int (a7 + (nI 1)))] [3, 4, 5, 6, 7, 8, 1, 0] rfl ?_
    exact hK75 _ _ _ _ _ _ _ _
  · refine s_iload F 8 dX8_opens_152 rfl ?_
    refine s_goto F 159 dX8_opens_154 (by decide) ?_
    refine s_istore F [(6, .int a7), (8, .int z10.1), (0, .ref (ga G 25)), (1, .int a1), (2, .int a2), (3, .int a3), (4, .int a4), (5, .int a5), (7, .int a7)] dX8_opens_159 (by decide) rfl ?_
    refine s_iinc F 8 [(7, .int (a7 + (nI 1))), (6, .int a7), (8, .int z10.1), (0, .ref (ga G 25)), (1, .int a1), (2, .int a2), (3, .int a3), (4, .int a4), (5, .int a5)] dX8_opens_161 rfl rfl (by decide) rfl ?_
    refine s_goto F 75 dX8_opens_164 (by decide) ?_
    refine s_lv [(0, .ref (ga G 25)), (1, .int a1), (2, .int a2), (3, .int a3), (4, .int a4), (5, .int a5), (6, .int a7), (7, .int (a7 + (nI 1)))] [3, 4, 5, 6, 7, 8, 1, 0] rfl ?_
    exact hK75 _ _ _ _ _ _ _ _
set_option maxRecDepth 20000 in
theorem l_X8_opens_75 {G : Gx} {X : Cx} (F : Fx G X cX8_opens 9 RX8 4) {o : (Int32 × St)} (R : Ret G X cX8_opens 9 (some .int) (some (.int o.1)) o.2) {K : Int32 → Int32 → St → Option (Int32 × St)} (hK : ∀ (a4 : Int32) (a6 : Int32) (σ : St), Sim G X 9 o (K a4 a6 σ) σ 167 [(4, .int a4), (6, .int a6)] []) : ∀ (n : Nat) (a1 : Int32) (a2 : Int32) (a3 : Int32) (a4 : Int32) (a5 : Int32) (a6 : Int32) (a7 : Int32) (σ : St), Sim G X 9 o (L_X8_opens_75 K n a1 a2 a3 a4 a5 a6 a7 σ) σ 75 [(0, .ref (ga G 25)), (1, .int a1), (2, .int a2), (3, .int a3), (4, .int a4), (5, .int a5), (6, .int a6), (7, .int a7)] [] := by
  intro n
  induction n with
  | zero =>
    intro a1 a2 a3 a4 a5 a6 a7 σ
    exact s_none
  | succ n ih =>
    intro a1 a2 a3 a4 a5 a6 a7 σ
    rw [L_X8_opens_75.eq_2]
    refine s_iload F 7 dX8_opens_75 rfl ?_
    refine s_iload F 5 dX8_opens_77 rfl ?_
    refine s_icmp_gt F 167 dX8_opens_79 (by decide) (fun c19 => ?_) (fun c19 => ?_)
    · refine s_lv [(4, .int a4), (6, .int a6)] [4, 6] rfl ?_
      exact hK _ _ _
    · refine s_iload F 7 dX8_opens_82 rfl ?_
      refine s_iload F 5 dX8_opens_84 rfl ?_
      refine s_iconst F (-1 : Int32) dX8_opens_86 rfl ?_
      refine s_ixor F dX8_opens_87 ?_
      refine s_iand F dX8_opens_88 ?_
      refine s_if_ne F 161 dX8_opens_89 (by decide) (fun c18 => ?_) (fun c18 => ?_)
      · refine s_iinc F 7 [(7, .int (a7 + (nI 1))), (0, .ref (ga G 25)), (1, .int a1), (2, .int a2), (3, .int a3), (4, .int a4), (5, .int a5), (6, .int a6)] dX8_opens_161 rfl rfl (by decide) rfl ?_
        refine s_goto F 75 dX8_opens_164 (by decide) ?_
        refine s_lv [(0, .ref (ga G 25)), (1, .int a1), (2, .int a2), (3, .int a3), (4, .int a4), (5, .int a5), (6, .int a6), (7, .int (a7 + (nI 1)))] [1, 2, 3, 4, 5, 6, 7, 0] rfl ?_
        exact ih _ _ _ _ _ _ _ _
      · refine s_iload F 6 dX8_opens_92 rfl ?_
        refine s_ldc F dX8_opens_94 m_4_81 ?_
        refine s_icmp_eq F 112 dX8_opens_96 (by decide) (fun c17 => ?_) (fun c17 => ?_)
        · exact j_X8_opens_112 F R (by
                intro a1 a2 a3 a4 a5 a6 a7 σ
                exact ih _ _ _ _ _ _ _ _) _ _ _ _ _ _ _ _
        · refine s_iload F 7 dX8_opens_99 rfl ?_
          refine s_Si F [.int a7] dX8_opens_101 (fun z hz => c_X8_bits hz) wS_X8_215 nk_X8_bits (by decide) (by decide) rfl rfl (Nat.le_of_ble_eq_true rfl) (fun z14 => ?_)
          refine s_iload F 6 dX8_opens_104 rfl ?_
          refine s_Si F [.int a6] dX8_opens_106 (fun z hz => c_X8_bits hz) wS_X8_215 nk_X8_bits (by decide) (by decide) rfl rfl (Nat.le_of_ble_eq_true rfl) (fun z15 => ?_)
          refine s_icmp_ge F 161 dX8_opens_109 (by decide) (fun c16 => ?_) (fun c16 => ?_)
          · refine s_iinc F 7 [(7, .int (a7 + (nI 1))), (0, .ref (ga G 25)), (1, .int a1), (2, .int a2), (3, .int a3), (4, .int a4), (5, .int a5), (6, .int a6)] dX8_opens_161 rfl rfl (by decide) rfl ?_
            refine s_goto F 75 dX8_opens_164 (by decide) ?_
            refine s_lv [(0, .ref (ga G 25)), (1, .int a1), (2, .int a2), (3, .int a3), (4, .int a4), (5, .int a5), (6, .int a6), (7, .int (a7 + (nI 1)))] [1, 2, 3, 4, 5, 6, 7, 0] rfl ?_
            exact ih _ _ _ _ _ _ _ _
          · exact j_X8_opens_112 F R (by
                  intro a1 a2 a3 a4 a5 a6 a7 σ
                  exact ih _ _ _ _ _ _ _ _) _ _ _ _ _ _ _ _
set_option maxRecDepth 20000 in
theorem c_X8_opens {G : Gx} {l : Launch} {a1 : Int32} {a2 : Int32} {a3 : Int32} {a4 : Int32} {σ : St} {o : (Int32 × St)} (hF : F_X8_opens a1 a2 a3 a4 σ = some o) : Con G l yX8_opens cX8_opens 9 (some .int) 4 [.ref (ga G 25), .int a1, .int a2, .int a3, .int a4] σ (some (.int o.1)) o.2 := by
  refine Con.of plX8 (Nat.le_of_ble_eq_true rfl) [(0, .ref (ga G 25)), (1, .int a1), (2, .int a2), (3, .int a3), (4, .int a4)] rfl (fun X F R => ?_)
  refine (show Sim G X 9 o (F_X8_opens a1 a2 a3 a4 σ) σ 0 [(0, .ref (ga G 25)), (1, .int a1), (2, .int a2), (3, .int a3), (4, .int a4)] [] from ?_) hF
  unfold F_X8_opens
  refine s_aload_n F 0 dX8_opens_0 rfl rfl ?_
  refine s_iconst F (nI 0) dX8_opens_1 rfl ?_
  refine fp_X8_47 F dX8_opens_2 ?_
  refine s_aload_n F 0 dX8_opens_5 rfl rfl ?_
  refine s_iload_n F 1 dX8_opens_6 rfl rfl ?_
  refine s_Vi F [.int a1] dX8_opens_7 (fun z hz => c_X8_isHorn hz) wV_X8_180 nk_X8_isHorn (by decide) (by decide) ob_25 vc_7 rfl rfl (Nat.le_of_ble_eq_true rfl) (fun z1 => ?_)
  refine s_if_eq F 44 dX8_opens_10 (by decide) (fun c26 => ?_) (fun c26 => ?_)
  · refine s_ldc F dX8_opens_44 m_4_41 ?_
    exact s_iret R dX8_opens_46
  · refine s_aload_n F 0 dX8_opens_13 rfl rfl ?_
    refine s_iload_n F 2 dX8_opens_14 rfl rfl ?_
    refine s_Vi F [.int a2] dX8_opens_15 (fun z hz => c_X8_isHorn hz) wV_X8_180 nk_X8_isHorn (by decide) (by decide) ob_25 vc_7 rfl rfl (Nat.le_of_ble_eq_true rfl) (fun z2 => ?_)
    refine s_if_eq F 44 dX8_opens_18 (by decide) (fun c25 => ?_) (fun c25 => ?_)
    · refine s_ldc F dX8_opens_44 m_4_41 ?_
      exact s_iret R dX8_opens_46
    · refine s_iload_n F 3 dX8_opens_21 rfl rfl ?_
      refine s_i2l F dX8_opens_22 ?_
      refine s_lconst F (lN 1) dX8_opens_23 rfl ?_
      refine s_ldc2 F dX8_opens_24 m_5_1 ?_
      refine s_Si F [.long a3.toInt64, .long (lN 1), .long (lN 30)] dX8_opens_27 (fun z hz => c_X8_in hz) wS_X8_57 nk_X8_in (by decide) (by decide) rfl rfl (Nat.le_of_ble_eq_true rfl) (fun z3 => ?_)
      refine s_if_eq F 44 dX8_opens_30 (by decide) (fun c24 => ?_) (fun c24 => ?_)
      · refine s_ldc F dX8_opens_44 m_4_41 ?_
        exact s_iret R dX8_opens_46
      · refine s_iload F 4 dX8_opens_33 rfl ?_
        refine s_i2l F dX8_opens_35 ?_
        refine s_lconst F (lN 0) dX8_opens_36 rfl ?_
        refine s_lconst F (lN 1) dX8_opens_37 rfl ?_
        refine s_Si F [.long a4.toInt64, .long (lN 0), .long (lN 1)] dX8_opens_38 (fun z hz => c_X8_in hz) wS_X8_57 nk_X8_in (by decide) (by decide) rfl rfl (Nat.le_of_ble_eq_true rfl) (fun z4 => ?_)
        refine s_if_ne F 47 dX8_opens_41 (by decide) (fun c23 => ?_) (fun c23 => ?_)
        · refine s_iconst F (nI 1) dX8_opens_47 rfl ?_
          refine s_aload_n F 0 dX8_opens_48 rfl rfl ?_
          refine fg_X8_19 F dX8_opens_49 ?_
          refine s_iconst F (nI 2) dX8_opens_52 rfl ?_
          refine s_iald F ar_29 dX8_opens_53 (fun q5 => ?_)
          refine s_ishl F dX8_opens_54 ?_
          refine s_iconst F (nI 1) dX8_opens_55 rfl ?_
          refine s_isub F dX8_opens_56 ?_
          refine s_aload_n F 0 dX8_opens_57 rfl rfl ?_
          refine fg_X8_19 F dX8_opens_58 ?_
          refine s_iconst F (nI 4) dX8_opens_61 rfl ?_
          refine s_iald F ar_29 dX8_opens_62 (fun q6 => ?_)
          refine s_iconst F (-1 : Int32) dX8_opens_63 rfl ?_
          refine s_ixor F dX8_opens_64 ?_
          refine s_iand F dX8_opens_65 ?_
          refine s_istore F [(5, .int ((((nI 1) <<< ((z4.2.1 29 (nI 2).toNatClampNeg) &&& 31)) - (nI 1)) &&& ((z4.2.1 29 (nI 4).toNatClampNeg) ^^^ (-1 : Int32)))), (0, .ref (ga G 25)), (1, .int a1), (2, .int a2), (3, .int a3), (4, .int a4)] dX8_opens_66 (by decide) rfl ?_
          refine s_ldc F dX8_opens_68 m_4_81 ?_
          refine s_istore F [(6, .int (-1000000 : Int32)), (5, .int ((((nI 1) <<< ((z4.2.1 29 (nI 2).toNatClampNeg) &&& 31)) - (nI 1)) &&& ((z4.2.1 29 (nI 4).toNatClampNeg) ^^^ (-1 : Int32)))), (0, .ref (ga G 25)), (1, .int a1), (2, .int a2), (3, .int a3), (4, .int a4)] dX8_opens_70 (by decide) rfl ?_
          refine s_iconst F (nI 0) dX8_opens_72 rfl ?_
          refine s_istore F [(7, .int (nI 0)), (6, .int (-1000000 : Int32)), (5, .int ((((nI 1) <<< ((z4.2.1 29 (nI 2).toNatClampNeg) &&& 31)) - (nI 1)) &&& ((z4.2.1 29 (nI 4).toNatClampNeg) ^^^ (-1 : Int32)))), (0, .ref (ga G 25)), (1, .int a1), (2, .int a2), (3, .int a3), (4, .int a4)] dX8_opens_73 (by decide) rfl ?_
          refine s_lv [(0, .ref (ga G 25)), (1, .int a1), (2, .int a2), (3, .int a3), (4, .int a4), (5, .int ((((nI 1) <<< ((z4.2.1 29 (nI 2).toNatClampNeg) &&& 31)) - (nI 1)) &&& ((z4.2.1 29 (nI 4).toNatClampNeg) ^^^ (-1 : Int32)))), (6, .int (-1000000 : Int32)), (7, .int (nI 0))] [3, 4, 5, 6, 7, 2, 1, 0] rfl ?_
          refine l_X8_opens_75 F R (fun a4 a6 σ => ?_) fuel _ _ _ _ _ _ _ _
          refine s_iload F 1 dX8_opens_167 rfl ?_
          refine s_ldc F dX8_opens_169 m_4_81 ?_
          refine s_icmp_eq F 180 dX8_opens_171 (by decide) (fun c22 => ?_) (fun c22 => ?_)
          · refine s_iload F 1 dX8_opens_180 rfl ?_
            refine s_goto F 190 dX8_opens_182 (by decide) ?_
            exact s_iret R dX8_opens_190
          · refine s_iload F 0 dX8_opens_174 rfl ?_
            refine s_iconst F (nI 1) dX8_opens_176 rfl ?_
            refine s_icmp_ne F 185 dX8_opens_177 (by decide) (fun c21 => ?_) (fun c21 => ?_)
            · refine s_iload F 1 dX8_opens_185 rfl ?_
              refine s_Si F [.int a6] dX8_opens_187 (fun z hz => c_X8_bits hz) wS_X8_215 nk_X8_bits (by decide) (by decide) rfl rfl (Nat.le_of_ble_eq_true rfl) (fun z20 => ?_)
              exact s_iret R dX8_opens_190
            · refine s_iload F 1 dX8_opens_180 rfl ?_
              refine s_goto F 190 dX8_opens_182 (by decide) ?_
              exact s_iret R dX8_opens_190
        · refine s_ldc F dX8_opens_44 m_4_41 ?_
          exact s_iret R dX8_opens_46
/-! X8_loud -/
def L_X8_loud_39 (K : St → Option (Int32 × St)) : Nat → Int32 → Int32 → Int32 → Int32 → St → Option (Int32 × St)
  | 0, _, _, _, _, _ => none
  | n + 1, a1, a2, a3, a4, σ => if (nI 100) ≤ a4 then (K σ) else ((F_X8_layThen σ).bind fun z4 => (F_X8_speech 31 a1 (nI 0) a4 z4).bind fun z5 => (F_X8_hearersIn a3 z5.2).bind fun z6 => (F_X8_has z6.1 a2 z6.2).bind fun z7 => if z7.1 = 0 then (L_X8_loud_39 K n a1 a2 a3 (a4 + (nI 1)) z7.2) else (some (a4, z7.2)))
def F_X8_loud (a1 : Int32) (a2 : Int32) (a3 : Int32) (σ : St) : Option (Int32 × St) := (F_X8_isHorn a1 (setF σ 8 (nI 0))).bind fun z1 => if z1.1 = 0 then (some ((-1000001 : Int32), z1.2)) else ((F_X8_isHorn a2 z1.2).bind fun z2 => if z2.1 = 0 then (some ((-1000001 : Int32), z2.2)) else ((F_X8_in a3.toInt64 (lN 1) (lN 30) z2.2).bind fun z3 => if z3.1 = 0 then (some ((-1000001 : Int32), z3.2)) else (L_X8_loud_39 (fun σ => some ((-1000000 : Int32), σ)) fuel a1 a2 a3 (nI 1) z3.2)))
set_option maxRecDepth 20000 in
theorem l_X8_loud_39 {G : Gx} {X : Cx} (F : Fx G X cX8_loud 6 RX8 4) {o : (Int32 × St)} (R : Ret G X cX8_loud 6 (some .int) (some (.int o.1)) o.2) {K : St → Option (Int32 × St)} (hK : ∀ (σ : St), Sim G X 6 o (K σ) σ 84 [] []) : ∀ (n : Nat) (a1 : Int32) (a2 : Int32) (a3 : Int32) (a4 : Int32) (σ : St), Sim G X 6 o (L_X8_loud_39 K n a1 a2 a3 a4 σ) σ 39 [(0, .ref (ga G 25)), (1, .int a1), (2, .int a2), (3, .int a3), (4, .int a4)] [] := by
  intro n
  induction n with
  | zero =>
    intro a1 a2 a3 a4 σ
    exact s_none
  | succ n ih =>
    intro a1 a2 a3 a4 σ
    rw [L_X8_loud_39.eq_2]
    refine s_iload F 4 dX8_loud_39 rfl ?_
    refine s_bipush F (nI 100) dX8_loud_41 rfl ?_
    refine s_icmp_ge F 84 dX8_loud_43 (by decide) (fun c9 => ?_) (fun c9 => ?_)
    · refine s_lv [] [] rfl ?_
      exact hK _
    · refine s_aload_n F 0 dX8_loud_46 rfl rfl ?_
      refine s_Vv F [] dX8_loud_47 (fun z hz => c_X8_layThen hz) wV_X8_201 nk_X8_layThen (by decide) (by decide) ob_25 vc_7 rfl rfl (Nat.le_of_ble_eq_true rfl) (fun z4 => ?_)
      refine s_aload_n F 0 dX8_loud_50 rfl rfl ?_
      refine fg_X8_25 F dX8_loud_51 ?_
      refine s_iload_n F 1 dX8_loud_54 rfl rfl ?_
      refine s_iconst F (nI 0) dX8_loud_55 rfl ?_
      refine s_iload F 4 dX8_loud_56 rfl ?_
      refine s_Si F [.ref (ga G 31), .int a1, .int (nI 0), .int a4] dX8_loud_58 (fun z hz => c_X8_speech ar_31 hz) wS_X8_187 nk_X8_speech (by decide) (by decide) rfl rfl (Nat.le_of_ble_eq_true rfl) (fun z5 => ?_)
      refine s_istore F [(5, .int z5.1), (0, .ref (ga G 25)), (1, .int a1), (2, .int a2), (3, .int a3), (4, .int a4)] dX8_loud_61 (by decide) rfl ?_
      refine s_aload_n F 1 dX8_loud_63 rfl rfl ?_
      refine s_iload_n F 4 dX8_loud_64 rfl rfl ?_
      refine s_Vi F [.int a3] dX8_loud_65 (fun z hz => c_X8_hearersIn hz) wV_X8_204 nk_X8_hearersIn (by decide) (by decide) ob_25 vc_7 rfl rfl (Nat.le_of_ble_eq_true rfl) (fun z6 => ?_)
      refine s_iload_n F 3 dX8_loud_68 rfl rfl ?_
      refine s_Si F [.int z6.1, .int a2] dX8_loud_69 (fun z hz => c_X8_has hz) wS_X8_157 nk_X8_has (by decide) (by decide) rfl rfl (Nat.le_of_ble_eq_true rfl) (fun z7 => ?_)
      refine s_if_eq F 78 dX8_loud_72 (by decide) (fun c8 => ?_) (fun c8 => ?_)
      · refine s_iinc F 5 [(4, .int (a4 + (nI 1))), (5, .int z5.1), (0, .ref (ga G 25)), (1, .int a1), (2, .int a2), (3, .int a3)] dX8_loud_78 rfl rfl (by decide) rfl ?_
        refine s_goto F 39 dX8_loud_81 (by decide) ?_
        refine s_lv [(0, .ref (ga G 25)), (1, .int a1), (2, .int a2), (3, .int a3), (4, .int (a4 + (nI 1)))] [2, 3, 4, 5, 0] rfl ?_
        exact ih _ _ _ _ _
      · refine s_iload F 5 dX8_loud_75 rfl ?_
        exact s_iret R dX8_loud_77
set_option maxRecDepth 20000 in
theorem c_X8_loud {G : Gx} {l : Launch} {a1 : Int32} {a2 : Int32} {a3 : Int32} {σ : St} {o : (Int32 × St)} (hF : F_X8_loud a1 a2 a3 σ = some o) : Con G l yX8_loud cX8_loud 6 (some .int) 4 [.ref (ga G 25), .int a1, .int a2, .int a3] σ (some (.int o.1)) o.2 := by
  refine Con.of plX8 (Nat.le_of_ble_eq_true rfl) [(0, .ref (ga G 25)), (1, .int a1), (2, .int a2), (3, .int a3)] rfl (fun X F R => ?_)
  refine (show Sim G X 6 o (F_X8_loud a1 a2 a3 σ) σ 0 [(0, .ref (ga G 25)), (1, .int a1), (2, .int a2), (3, .int a3)] [] from ?_) hF
  unfold F_X8_loud
  refine s_aload_n F 0 dX8_loud_0 rfl rfl ?_
  refine s_iconst F (nI 0) dX8_loud_1 rfl ?_
  refine fp_X8_47 F dX8_loud_2 ?_
  refine s_aload_n F 0 dX8_loud_5 rfl rfl ?_
  refine s_iload_n F 1 dX8_loud_6 rfl rfl ?_
  refine s_Vi F [.int a1] dX8_loud_7 (fun z hz => c_X8_isHorn hz) wV_X8_180 nk_X8_isHorn (by decide) (by decide) ob_25 vc_7 rfl rfl (Nat.le_of_ble_eq_true rfl) (fun z1 => ?_)
  refine s_if_eq F 33 dX8_loud_10 (by decide) (fun c12 => ?_) (fun c12 => ?_)
  · refine s_ldc F dX8_loud_33 m_4_41 ?_
    exact s_iret R dX8_loud_35
  · refine s_aload_n F 0 dX8_loud_13 rfl rfl ?_
    refine s_iload_n F 2 dX8_loud_14 rfl rfl ?_
    refine s_Vi F [.int a2] dX8_loud_15 (fun z hz => c_X8_isHorn hz) wV_X8_180 nk_X8_isHorn (by decide) (by decide) ob_25 vc_7 rfl rfl (Nat.le_of_ble_eq_true rfl) (fun z2 => ?_)
    refine s_if_eq F 33 dX8_loud_18 (by decide) (fun c11 => ?_) (fun c11 => ?_)
    · refine s_ldc F dX8_loud_33 m_4_41 ?_
      exact s_iret R dX8_loud_35
    · refine s_iload_n F 3 dX8_loud_21 rfl rfl ?_
      refine s_i2l F dX8_loud_22 ?_
      refine s_lconst F (lN 1) dX8_loud_23 rfl ?_
      refine s_ldc2 F dX8_loud_24 m_5_1 ?_
      refine s_Si F [.long a3.toInt64, .long (lN 1), .long (lN 30)] dX8_loud_27 (fun z hz => c_X8_in hz) wS_X8_57 nk_X8_in (by decide) (by decide) rfl rfl (Nat.le_of_ble_eq_true rfl) (fun z3 => ?_)
      refine s_if_ne F 36 dX8_loud_30 (by decide) (fun c10 => ?_) (fun c10 => ?_)
      · refine s_iconst F (nI 1) dX8_loud_36 rfl ?_
        refine s_istore F [(4, .int (nI 1)), (0, .ref (ga G 25)), (1, .int a1), (2, .int a2), (3, .int a3)] dX8_loud_37 (by decide) rfl ?_
        refine s_lv [(0, .ref (ga G 25)), (1, .int a1), (2, .int a2), (3, .int a3), (4, .int (nI 1))] [1, 2, 3, 4, 0] rfl ?_
        refine l_X8_loud_39 F R (fun σ => ?_) fuel _ _ _ _ _
        refine s_ldc F dX8_loud_84 m_4_81 ?_
        exact s_iret R dX8_loud_86
      · refine s_ldc F dX8_loud_33 m_4_41 ?_
        exact s_iret R dX8_loud_35
/-! X8_say -/
def J_X8_say_123 (K83 : Int32 → Int32 → Int32 → Int32 → Int32 → Int32 → Int32 → St → Option (Int32 × St)) (a1 : Int32) (a2 : Int32) (a3 : Int32) (a4 : Int32) (a5 : Int32) (a6 : Int32) (a8 : Int32) (s0 : Int32) (σ : St) : Option (Int32 × St) := if s0 = 0 then (K83 a1 a2 a3 a4 (a5 ||| (nI 0)) a6 (a8 + (nI 1)) σ) else (K83 a1 a2 a3 a4 (a5 ||| ((nI 1) <<< (a6 &&& 31))) a6 (a8 + (nI 1)) σ)
def J_X8_say_122 (K83 : Int32 → Int32 → Int32 → Int32 → Int32 → Int32 → Int32 → St → Option (Int32 × St)) (a1 : Int32) (a2 : Int32) (a3 : Int32) (a4 : Int32) (a5 : Int32) (a6 : Int32) (a8 : Int32) (σ : St) : Option (Int32 × St) := J_X8_say_123 (fun a1 a2 a3 a4 a5 a6 a8 σ => K83 a1 a2 a3 a4 a5 a6 a8 σ) a1 a2 a3 a4 a5 a6 a8 (nI 0) σ
def L_X8_say_83 (K : Int32 → Int32 → Int32 → Int32 → Int32 → Int32 → St → Option (Int32 × St)) : Nat → Int32 → Int32 → Int32 → Int32 → Int32 → Int32 → Int32 → St → Option (Int32 × St)
  | 0, _, _, _, _, _, _, _, _ => none
  | n + 1, a1, a2, a3, a4, a5, a6, a8, σ => if a4 ≤ a8 then (K a1 a2 a3 a4 a5 a6 σ) else ((F_X8_breath 31 σ).bind fun z7 => (F_X8_has z7.1 a2 z7.2).bind fun z8 => if z8.1 = 0 then (J_X8_say_122 (fun a1 a2 a3 a4 a5 a6 a8 σ => L_X8_say_83 K n a1 a2 a3 a4 a5 a6 a8 σ) a1 a2 a3 a4 a5 a6 a8 z8.2) else (if ix a2 6 then if ((z8.2.1 34 a2.toNatClampNeg) / (nI 100)) = a3 then (J_X8_say_123 (fun a1 a2 a3 a4 a5 a6 a8 σ => L_X8_say_83 K n a1 a2 a3 a4 a5 a6 a8 σ) a1 a2 a3 a4 a5 a6 a8 (nI 1) z8.2) else (J_X8_say_122 (fun a1 a2 a3 a4 a5 a6 a8 σ => L_X8_say_83 K n a1 a2 a3 a4 a5 a6 a8 σ) a1 a2 a3 a4 a5 a6 a8 z8.2) else none))
def L_X8_say_55 (K : Int32 → St → Option (Int32 × St)) : Nat → Int32 → Int32 → Int32 → Int32 → Int32 → Int32 → St → Option (Int32 × St)
  | 0, _, _, _, _, _, _, _ => none
  | n + 1, a1, a2, a3, a4, a5, a6, σ => if (nI 10) ≤ a6 then (K a5 σ) else ((F_X8_layThen σ).bind fun z5 => (F_X8_speech 31 a1 a6 (nI 60) z5).bind fun z6 => L_X8_say_83 (fun a1 a2 a3 a4 a5 a6 σ => L_X8_say_55 K n a1 a2 a3 a4 a5 (a6 + (nI 1)) σ) fuel a1 a2 a3 a4 a5 a6 (nI 0) z6.2)
def F_X8_say (a1 : Int32) (a2 : Int32) (a3 : Int32) (a4 : Int32) (σ : St) : Option (Int32 × St) := (F_X8_isHorn a1 (setF σ 8 (nI 0))).bind fun z1 => if z1.1 = 0 then (some ((-1000001 : Int32), z1.2)) else ((F_X8_isHorn a2 z1.2).bind fun z2 => if z2.1 = 0 then (some ((-1000001 : Int32), z2.2)) else ((F_X8_in a3.toInt64 (lN 0) (lN 9) z2.2).bind fun z3 => if z3.1 = 0 then (some ((-1000001 : Int32), z3.2)) else ((F_X8_in a4.toInt64 (lN 1) (lN 30) z3.2).bind fun z4 => if z4.1 = 0 then (some ((-1000001 : Int32), z4.2)) else (L_X8_say_55 (fun a5 σ => some (a5, σ)) fuel a1 a2 a3 a4 (nI 0) (nI 0) z4.2))))
set_option maxRecDepth 20000 in
theorem j_X8_say_123 {G : Gx} {X : Cx} (F : Fx G X cX8_say 10 RX8 3) {o : (Int32 × St)} (R : Ret G X cX8_say 10 (some .int) (some (.int o.1)) o.2) {K83 : Int32 → Int32 → Int32 → Int32 → Int32 → Int32 → Int32 → St → Option (Int32 × St)} (hK83 : ∀ (a1 : Int32) (a2 : Int32) (a3 : Int32) (a4 : Int32) (a5 : Int32) (a6 : Int32) (a8 : Int32) (σ : St), Sim G X 10 o (K83 a1 a2 a3 a4 a5 a6 a8 σ) σ 83 [(0, .ref (ga G 25)), (1, .int a1), (2, .int a2), (3, .int a3), (4, .int a4), (5, .int a5), (6, .int a6), (8, .int a8)] []) (a1 : Int32) (a2 : Int32) (a3 : Int32) (a4 : Int32) (a5 : Int32) (a6 : Int32) (a8 : Int32) (s0 : Int32) (σ : St) : Sim G X 10 o (J_X8_say_123 K83 a1 a2 a3 a4 a5 a6 a8 s0 σ) σ 123 [(0, .ref (ga G 25)), (1, .int a1), (2, .int a2), (3, .int a3), (4, .int a4), (5, .int a5), (6, .int a6), (8, .int a8)] [.int s0] := by
  unfold J_X8_say_123
  refine s_istore F [(9, .int s0), (0, .ref (ga G 25)), (1, .int a1), (2, .int a2), (3, .int a3), (4, .int a4), (5, .int a5), (6, .int a6), (8, .int a8)] dX8_say_123 (by decide) rfl ?_
  refine s_iload F 6 dX8_say_125 rfl ?_
  refine s_iload F 0 dX8_say_127 rfl ?_
  refine s_if_eq F 139 dX8_say_129 (by decide) (fun c9 => ?_) (fun c9 => ?_)
  · refine s_iconst F (nI 0) dX8_say_139 rfl ?_
    refine s_ior F dX8_say_140 ?_
    refine s_istore F [(5, .int (a5 ||| (nI 0))), (9, .int s0), (0, .ref (ga G 25)), (1, .int a1), (2, .int a2), (3, .int a3), (4, .int a4), (6, .int a6), (8, .int a8)] dX8_say_141 (by decide) rfl ?_
    refine s_iinc F 8 [(8, .int (a8 + (nI 1))), (5, .int (a5 ||| (nI 0))), (9, .int s0), (0, .ref (ga G 25)), (1, .int a1), (2, .int a2), (3, .int a3), (4, .int a4), (6, .int a6)] dX8_say_143 rfl rfl (by decide) rfl ?_
    refine s_goto F 83 dX8_say_146 (by decide) ?_
    refine s_lv [(0, .ref (ga G 25)), (1, .int a1), (2, .int a2), (3, .int a3), (4, .int a4), (5, .int (a5 ||| (nI 0))), (6, .int a6), (8, .int (a8 + (nI 1)))] [3, 4, 5, 6, 7, 1, 8, 0] rfl ?_
    exact hK83 _ _ _ _ _ _ _ _
  · refine s_iconst F (nI 1) dX8_say_132 rfl ?_
    refine s_iload F 7 dX8_say_133 rfl ?_
    refine s_ishl F dX8_say_135 ?_
    refine s_goto F 140 dX8_say_136 (by decide) ?_
    refine s_ior F dX8_say_140 ?_
    refine s_istore F [(5, .int (a5 ||| ((nI 1) <<< (a6 &&& 31)))), (9, .int s0), (0, .ref (ga G 25)), (1, .int a1), (2, .int a2), (3, .int a3), (4, .int a4), (6, .int a6), (8, .int a8)] dX8_say_141 (by decide) rfl ?_
    refine s_iinc F 8 [(8, .int (a8 + (nI 1))), (5, .int (a5 ||| ((nI 1) <<< (a6 &&& 31)))), (9, .int s0), (0, .ref (ga G 25)), (1, .int a1), (2, .int a2), (3, .int a3), (4, .int a4), (6, .int a6)] dX8_say_143 rfl rfl (by decide) rfl ?_
    refine s_goto F 83 dX8_say_146 (by decide) ?_
    refine s_lv [(0, .ref (ga G 25)), (1, .int a1), (2, .int a2), (3, .int a3), (4, .int a4), (5, .int (a5 ||| ((nI 1) <<< (a6 &&& 31)))), (6, .int a6), (8, .int (a8 + (nI 1)))] [3, 4, 5, 6, 7, 1, 8, 0] rfl ?_
    exact hK83 _ _ _ _ _ _ _ _
set_option maxRecDepth 20000 in
theorem j_X8_say_122 {G : Gx} {X : Cx} (F : Fx G X cX8_say 10 RX8 3) {o : (Int32 × St)} (R : Ret G X cX8_say 10 (some .int) (some (.int o.1)) o.2) {K83 : Int32 → Int32 → Int32 → Int32 → Int32 → Int32 → Int32 → St → Option (Int32 × St)} (hK83 : ∀ (a1 : Int32) (a2 : Int32) (a3 : Int32) (a4 : Int32) (a5 : Int32) (a6 : Int32) (a8 : Int32) (σ : St), Sim G X 10 o (K83 a1 a2 a3 a4 a5 a6 a8 σ) σ 83 [(0, .ref (ga G 25)), (1, .int a1), (2, .int a2), (3, .int a3), (4, .int a4), (5, .int a5), (6, .int a6), (8, .int a8)] []) (a1 : Int32) (a2 : Int32) (a3 : Int32) (a4 : Int32) (a5 : Int32) (a6 : Int32) (a8 : Int32) (σ : St) : Sim G X 10 o (J_X8_say_122 K83 a1 a2 a3 a4 a5 a6 a8 σ) σ 122 [(0, .ref (ga G 25)), (1, .int a1), (2, .int a2), (3, .int a3), (4, .int a4), (5, .int a5), (6, .int a6), (8, .int a8)] [] := by
  unfold J_X8_say_122
  refine s_iconst F (nI 0) dX8_say_122 rfl ?_
  exact j_X8_say_123 F R (by
        intro a1 a2 a3 a4 a5 a6 a8 σ
        exact hK83 _ _ _ _ _ _ _ _) _ _ _ _ _ _ _ _ _
set_option maxRecDepth 20000 in
theorem l_X8_say_83 {G : Gx} {X : Cx} (F : Fx G X cX8_say 10 RX8 3) {o : (Int32 × St)} (R : Ret G X cX8_say 10 (some .int) (some (.int o.1)) o.2) {K : Int32 → Int32 → Int32 → Int32 → Int32 → Int32 → St → Option (Int32 × St)} (hK : ∀ (a1 : Int32) (a2 : Int32) (a3 : Int32) (a4 : Int32) (a5 : Int32) (a6 : Int32) (σ : St), Sim G X 10 o (K a1 a2 a3 a4 a5 a6 σ) σ 149 [(0, .ref (ga G 25)), (1, .int a1), (2, .int a2), (3, .int a3), (4, .int a4), (5, .int a5), (6, .int a6)] []) : ∀ (n : Nat) (a1 : Int32) (a2 : Int32) (a3 : Int32) (a4 : Int32) (a5 : Int32) (a6 : Int32) (a8 : Int32) (σ : St), Sim G X 10 o (L_X8_say_83 K n a1 a2 a3 a4 a5 a6 a8 σ) σ 83 [(0, .ref (ga G 25)), (1, .int a1), (2, .int a2), (3, .int a3), (4, .int a4), (5, .int a5), (6, .int a6), (8, .int a8)] [] := by
  intro n
  induction n with
  | zero =>
    intro a1 a2 a3 a4 a5 a6 a8 σ
    exact s_none
  | succ n ih =>
    intro a1 a2 a3 a4 a5 a6 a8 σ
    rw [L_X8_say_83.eq_2]
    refine s_iload F 7 dX8_say_83 rfl ?_
    refine s_iload F 4 dX8_say_85 rfl ?_
    refine s_icmp_ge F 149 dX8_say_87 (by decide) (fun c13 => ?_) (fun c13 => ?_)
    · refine s_lv [(0, .ref (ga G 25)), (1, .int a1), (2, .int a2), (3, .int a3), (4, .int a4), (5, .int a5), (6, .int a6)] [0, 1, 2, 3, 4, 5, 6] rfl ?_
      exact hK _ _ _ _ _ _ _
    · refine s_aload_n F 0 dX8_say_90 rfl rfl ?_
      refine s_aload_n F 0 dX8_say_91 rfl rfl ?_
      refine fg_X8_25 F dX8_say_92 ?_
      refine s_Vi F [.ref (ga G 31)] dX8_say_95 (fun z hz => c_X8_breath ar_31 hz) wV_X8_168 nk_X8_breath (by decide) (by decide) ob_25 vc_7 rfl rfl (Nat.le_of_ble_eq_true rfl) (fun z7 => ?_)
      refine s_iload_n F 2 dX8_say_98 rfl rfl ?_
      refine s_Si F [.int z7.1, .int a2] dX8_say_99 (fun z hz => c_X8_has hz) wS_X8_157 nk_X8_has (by decide) (by decide) rfl rfl (Nat.le_of_ble_eq_true rfl) (fun z8 => ?_)
      refine s_if_eq F 122 dX8_say_102 (by decide) (fun c12 => ?_) (fun c12 => ?_)
      · exact j_X8_say_122 F R (by
              intro a1 a2 a3 a4 a5 a6 a8 σ
              exact ih _ _ _ _ _ _ _ _) _ _ _ _ _ _ _ _
      · refine s_aload_n F 0 dX8_say_105 rfl rfl ?_
        refine fg_X8_34 F dX8_say_106 ?_
        refine s_iload_n F 2 dX8_say_109 rfl rfl ?_
        refine s_iald F ar_34 dX8_say_110 (fun q10 => ?_)
        refine s_bipush F (nI 100) dX8_say_111 rfl ?_
        refine s_idivc F dX8_say_113 (by decide) ?_
        refine s_iload_n F 3 dX8_say_114 rfl rfl ?_
        refine s_icmp_ne F 122 dX8_say_115 (by decide) (fun c11 => ?_) (fun c11 => ?_)
        · exact j_X8_say_122 F R (by
                intro a1 a2 a3 a4 a5 a6 a8 σ
                exact ih _ _ _ _ _ _ _ _) _ _ _ _ _ _ _ _
        · refine s_iconst F (nI 1) dX8_say_118 rfl ?_
          refine s_goto F 123 dX8_say_119 (by decide) ?_
          exact j_X8_say_123 F R (by
                intro a1 a2 a3 a4 a5 a6 a8 σ
                exact ih _ _ _ _ _ _ _ _) _ _ _ _ _ _ _ _ _
set_option maxRecDepth 20000 in
theorem l_X8_say_55 {G : Gx} {X : Cx} (F : Fx G X cX8_say 10 RX8 3) {o : (Int32 × St)} (R : Ret G X cX8_say 10 (some .int) (some (.int o.1)) o.2) {K : Int32 → St → Option (Int32 × St)} (hK : ∀ (a5 : Int32) (σ : St), Sim G X 10 o (K a5 σ) σ 155 [(5, .int a5)] []) : ∀ (n : Nat) (a1 : Int32) (a2 : Int32) (a3 : Int32) (a4 : Int32) (a5 : Int32) (a6 : Int32) (σ : St), Sim G X 10 o (L_X8_say_55 K n a1 a2 a3 a4 a5 a6 σ) σ 55 [(0, .ref (ga G 25)), (1, .int a1), (2, .int a2), (3, .int a3), (4, .int a4), (5, .int a5), (6, .int a6)] [] := by
  intro n
  induction n with
  | zero =>
    intro a1 a2 a3 a4 a5 a6 σ
    exact s_none
  | succ n ih =>
    intro a1 a2 a3 a4 a5 a6 σ
    rw [L_X8_say_55.eq_2]
    refine s_iload F 6 dX8_say_55 rfl ?_
    refine s_bipush F (nI 10) dX8_say_57 rfl ?_
    refine s_icmp_ge F 155 dX8_say_59 (by decide) (fun c14 => ?_) (fun c14 => ?_)
    · refine s_lv [(5, .int a5)] [5] rfl ?_
      exact hK _ _
    · refine s_aload_n F 0 dX8_say_62 rfl rfl ?_
      refine s_Vv F [] dX8_say_63 (fun z hz => c_X8_layThen hz) wV_X8_201 nk_X8_layThen (by decide) (by decide) ob_25 vc_7 rfl rfl (Nat.le_of_ble_eq_true rfl) (fun z5 => ?_)
      refine s_aload_n F 0 dX8_say_66 rfl rfl ?_
      refine fg_X8_25 F dX8_say_67 ?_
      refine s_iload_n F 1 dX8_say_70 rfl rfl ?_
      refine s_iload F 6 dX8_say_71 rfl ?_
      refine s_bipush F (nI 60) dX8_say_73 rfl ?_
      refine s_Si F [.ref (ga G 31), .int a1, .int a6, .int (nI 60)] dX8_say_75 (fun z hz => c_X8_speech ar_31 hz) wS_X8_187 nk_X8_speech (by decide) (by decide) rfl rfl (Nat.le_of_ble_eq_true rfl) (fun z6 => ?_)
      refine s_istore F [(7, .int z6.1), (0, .ref (ga G 25)), (1, .int a1), (2, .int a2), (3, .int a3), (4, .int a4), (5, .int a5), (6, .int a6)] dX8_say_78 (by decide) rfl ?_
      refine s_iconst F (nI 0) dX8_say_80 rfl ?_
      refine s_istore F [(8, .int (nI 0)), (7, .int z6.1), (0, .ref (ga G 25)), (1, .int a1), (2, .int a2), (3, .int a3), (4, .int a4), (5, .int a5), (6, .int a6)] dX8_say_81 (by decide) rfl ?_
      refine s_lv [(0, .ref (ga G 25)), (1, .int a1), (2, .int a2), (3, .int a3), (4, .int a4), (5, .int a5), (6, .int a6), (8, .int (nI 0))] [2, 3, 4, 5, 6, 7, 8, 0] rfl ?_
      refine l_X8_say_83 F R (fun a1 a2 a3 a4 a5 a6 σ => ?_) fuel _ _ _ _ _ _ _ _
      refine s_iinc F 6 [(6, .int (a6 + (nI 1))), (0, .ref (ga G 25)), (1, .int a1), (2, .int a2), (3, .int a3), (4, .int a4), (5, .int a5)] dX8_say_149 rfl rfl (by decide) rfl ?_
      refine s_goto F 55 dX8_say_152 (by decide) ?_
      refine s_lv [(0, .ref (ga G 25)), (1, .int a1), (2, .int a2), (3, .int a3), (4, .int a4), (5, .int a5), (6, .int (a6 + (nI 1)))] [1, 2, 3, 4, 5, 6, 0] rfl ?_
      exact ih _ _ _ _ _ _ _
set_option maxRecDepth 20000 in
theorem c_X8_say {G : Gx} {l : Launch} {a1 : Int32} {a2 : Int32} {a3 : Int32} {a4 : Int32} {σ : St} {o : (Int32 × St)} (hF : F_X8_say a1 a2 a3 a4 σ = some o) : Con G l yX8_say cX8_say 10 (some .int) 3 [.ref (ga G 25), .int a1, .int a2, .int a3, .int a4] σ (some (.int o.1)) o.2 := by
  refine Con.of plX8 (Nat.le_of_ble_eq_true rfl) [(0, .ref (ga G 25)), (1, .int a1), (2, .int a2), (3, .int a3), (4, .int a4)] rfl (fun X F R => ?_)
  refine (show Sim G X 10 o (F_X8_say a1 a2 a3 a4 σ) σ 0 [(0, .ref (ga G 25)), (1, .int a1), (2, .int a2), (3, .int a3), (4, .int a4)] [] from ?_) hF
  unfold F_X8_say
  refine s_aload_n F 0 dX8_say_0 rfl rfl ?_
  refine s_iconst F (nI 0) dX8_say_1 rfl ?_
  refine fp_X8_47 F dX8_say_2 ?_
  refine s_aload_n F 0 dX8_say_5 rfl rfl ?_
  refine s_iload_n F 1 dX8_say_6 rfl rfl ?_
  refine s_Vi F [.int a1] dX8_say_7 (fun z hz => c_X8_isHorn hz) wV_X8_180 nk_X8_isHorn (by decide) (by decide) ob_25 vc_7 rfl rfl (Nat.le_of_ble_eq_true rfl) (fun z1 => ?_)
  refine s_if_eq F 46 dX8_say_10 (by decide) (fun c18 => ?_) (fun c18 => ?_)
  · refine s_ldc F dX8_say_46 m_4_41 ?_
    exact s_iret R dX8_say_48
  · refine s_aload_n F 0 dX8_say_13 rfl rfl ?_
    refine s_iload_n F 2 dX8_say_14 rfl rfl ?_
    refine s_Vi F [.int a2] dX8_say_15 (fun z hz => c_X8_isHorn hz) wV_X8_180 nk_X8_isHorn (by decide) (by decide) ob_25 vc_7 rfl rfl (Nat.le_of_ble_eq_true rfl) (fun z2 => ?_)
    refine s_if_eq F 46 dX8_say_18 (by decide) (fun c17 => ?_) (fun c17 => ?_)
    · refine s_ldc F dX8_say_46 m_4_41 ?_
      exact s_iret R dX8_say_48
    · refine s_iload_n F 3 dX8_say_21 rfl rfl ?_
      refine s_i2l F dX8_say_22 ?_
      refine s_lconst F (lN 0) dX8_say_23 rfl ?_
      refine s_ldc2 F dX8_say_24 m_4_157 ?_
      refine s_Si F [.long a3.toInt64, .long (lN 0), .long (lN 9)] dX8_say_27 (fun z hz => c_X8_in hz) wS_X8_57 nk_X8_in (by decide) (by decide) rfl rfl (Nat.le_of_ble_eq_true rfl) (fun z3 => ?_)
      refine s_if_eq F 46 dX8_say_30 (by decide) (fun c16 => ?_) (fun c16 => ?_)
      · refine s_ldc F dX8_say_46 m_4_41 ?_
        exact s_iret R dX8_say_48
      · refine s_iload F 4 dX8_say_33 rfl ?_
        refine s_i2l F dX8_say_35 ?_
        refine s_lconst F (lN 1) dX8_say_36 rfl ?_
        refine s_ldc2 F dX8_say_37 m_5_1 ?_
        refine s_Si F [.long a4.toInt64, .long (lN 1), .long (lN 30)] dX8_say_40 (fun z hz => c_X8_in hz) wS_X8_57 nk_X8_in (by decide) (by decide) rfl rfl (Nat.le_of_ble_eq_true rfl) (fun z4 => ?_)
        refine s_if_ne F 49 dX8_say_43 (by decide) (fun c15 => ?_) (fun c15 => ?_)
        · refine s_iconst F (nI 0) dX8_say_49 rfl ?_
          refine s_istore F [(5, .int (nI 0)), (0, .ref (ga G 25)), (1, .int a1), (2, .int a2), (3, .int a3), (4, .int a4)] dX8_say_50 (by decide) rfl ?_
          refine s_iconst F (nI 0) dX8_say_52 rfl ?_
          refine s_istore F [(6, .int (nI 0)), (5, .int (nI 0)), (0, .ref (ga G 25)), (1, .int a1), (2, .int a2), (3, .int a3), (4, .int a4)] dX8_say_53 (by decide) rfl ?_
          refine s_lv [(0, .ref (ga G 25)), (1, .int a1), (2, .int a2), (3, .int a3), (4, .int a4), (5, .int (nI 0)), (6, .int (nI 0))] [2, 3, 4, 5, 6, 1, 0] rfl ?_
          refine l_X8_say_55 F R (fun a5 σ => ?_) fuel _ _ _ _ _ _ _
          refine s_iload F 0 dX8_say_155 rfl ?_
          exact s_iret R dX8_say_157
        · refine s_ldc F dX8_say_46 m_4_41 ?_
          exact s_iret R dX8_say_48
/-! X8_round -/
def F_X8_round (a1 : Int32) (σ : St) : Option (Int32 × St) := (F_X8_isHorn a1 (setF σ 8 (nI 0))).bind fun z1 => if z1.1 = 0 then (some ((-1000001 : Int32), z1.2)) else ((F_X8_layThen z1.2).bind fun z2 => (F_X8_silence 31 z2).bind fun z3 => (F_X8_speech 31 a1 (nI 0) (nI 90) z3.2).bind fun z4 => (F_X8_firstBy a1 z4.2).bind fun z5 => some (z5.1, z5.2))
set_option maxRecDepth 20000 in
theorem c_X8_round {G : Gx} {l : Launch} {a1 : Int32} {σ : St} {o : (Int32 × St)} (hF : F_X8_round a1 σ = some o) : Con G l yX8_round cX8_round 4 (some .int) 4 [.ref (ga G 25), .int a1] σ (some (.int o.1)) o.2 := by
  refine Con.of plX8 (Nat.le_of_ble_eq_true rfl) [(0, .ref (ga G 25)), (1, .int a1)] rfl (fun X F R => ?_)
  refine (show Sim G X 4 o (F_X8_round a1 σ) σ 0 [(0, .ref (ga G 25)), (1, .int a1)] [] from ?_) hF
  unfold F_X8_round
  refine s_aload_n F 0 dX8_round_0 rfl rfl ?_
  refine s_iconst F (nI 0) dX8_round_1 rfl ?_
  refine fp_X8_47 F dX8_round_2 ?_
  refine s_aload_n F 0 dX8_round_5 rfl rfl ?_
  refine s_iload_n F 1 dX8_round_6 rfl rfl ?_
  refine s_Vi F [.int a1] dX8_round_7 (fun z hz => c_X8_isHorn hz) wV_X8_180 nk_X8_isHorn (by decide) (by decide) ob_25 vc_7 rfl rfl (Nat.le_of_ble_eq_true rfl) (fun z1 => ?_)
  refine s_if_ne F 16 dX8_round_10 (by decide) (fun c6 => ?_) (fun c6 => ?_)
  · refine s_aload_n F 0 dX8_round_16 rfl rfl ?_
    refine s_Vv F [] dX8_round_17 (fun z hz => c_X8_layThen hz) wV_X8_201 nk_X8_layThen (by decide) (by decide) ob_25 vc_7 rfl rfl (Nat.le_of_ble_eq_true rfl) (fun z2 => ?_)
    refine s_aload_n F 0 dX8_round_20 rfl rfl ?_
    refine fg_X8_25 F dX8_round_21 ?_
    refine s_Si F [.ref (ga G 31)] dX8_round_24 (fun z hz => c_X8_silence ar_31 hz) wS_X8_194 nk_X8_silence (by decide) (by decide) rfl rfl (Nat.le_of_ble_eq_true rfl) (fun z3 => ?_)
    refine s_istore_n F [(2, .int z3.1), (0, .ref (ga G 25)), (1, .int a1)] dX8_round_27 rfl (by decide) rfl ?_
    refine s_aload_n F 1 dX8_round_28 rfl rfl ?_
    refine fg_X8_25 F dX8_round_29 ?_
    refine s_iload_n F 2 dX8_round_32 rfl rfl ?_
    refine s_iconst F (nI 0) dX8_round_33 rfl ?_
    refine s_bipush F (nI 90) dX8_round_34 rfl ?_
    refine s_Si F [.ref (ga G 31), .int a1, .int (nI 0), .int (nI 90)] dX8_round_36 (fun z hz => c_X8_speech ar_31 hz) wS_X8_187 nk_X8_speech (by decide) (by decide) rfl rfl (Nat.le_of_ble_eq_true rfl) (fun z4 => ?_)
    refine s_istore_n F [(3, .int z4.1), (2, .int z3.1), (0, .ref (ga G 25)), (1, .int a1)] dX8_round_39 rfl (by decide) rfl ?_
    refine s_aload_n F 2 dX8_round_40 rfl rfl ?_
    refine s_iload_n F 3 dX8_round_41 rfl rfl ?_
    refine s_Vi F [.int a1] dX8_round_42 (fun z hz => c_X8_firstBy hz) wV_X8_207 nk_X8_firstBy (by decide) (by decide) ob_25 vc_7 rfl rfl (Nat.le_of_ble_eq_true rfl) (fun z5 => ?_)
    exact s_iret R dX8_round_45
  · refine s_ldc F dX8_round_13 m_4_41 ?_
    exact s_iret R dX8_round_15
/-! X8_way -/
def L_X8_way_55 (K : Int32 → Int32 → Int32 → St → Option (Int32 × St)) : Nat → Int32 → Int32 → Int32 → Int32 → Int32 → St → Option (Int32 × St)
  | 0, _, _, _, _, _, _ => none
  | n + 1, a2, a3, a4, a5, a6, σ => if ix (nI 2) 80 then if (σ.1 29 (nI 2).toNatClampNeg) ≤ a6 then (K a2 a4 a5 σ) else (if ix (nI 4) 80 then (F_X8_has (σ.1 29 (nI 4).toNatClampNeg) a6 σ).bind fun z6 => if z6.1 = 0 then (L_X8_way_55 K n a2 a3 a4 (a5 ||| (nI 0)) (a6 + (nI 1)) z6.2) else ((F_X8_of 29 a6 (nI 1) z6.2).bind fun z7 => (F_X8_has a3 z7.1 z7.2).bind fun z8 => if z8.1 = 0 then (L_X8_way_55 K n a2 a3 a4 (a5 ||| (nI 0)) (a6 + (nI 1)) z8.2) else ((F_X8_of 29 a6 (nI 2) z8.2).bind fun z9 => L_X8_way_55 K n a2 a3 a4 (a5 ||| ((nI 1) <<< (z9.1 &&& 31))) (a6 + (nI 1)) z9.2)) else none) else none
def L_X8_way_31 (K : St → Option (Int32 × St)) : Nat → Int32 → Int32 → Int32 → St → Option (Int32 × St)
  | 0, _, _, _, _ => none
  | n + 1, a2, a3, a4, σ => if (nI 7) ≤ a4 then (K σ) else ((F_X8_has a3 a2 σ).bind fun z3 => if z3.1 = 0 then (L_X8_way_55 (fun a2 a4 a5 σ => L_X8_way_31 K n a2 a5 (a4 + (nI 1)) σ) fuel a2 a3 a4 a3 (nI 0) z3.2) else (some (a4, z3.2)))
def F_X8_way (a1 : Int32) (a2 : Int32) (σ : St) : Option (Int32 × St) := (F_X8_isHorn a1 (setF σ 8 (nI 0))).bind fun z1 => if z1.1 = 0 then (some ((-1000001 : Int32), z1.2)) else ((F_X8_isHorn a2 z1.2).bind fun z2 => if z2.1 = 0 then (some ((-1000001 : Int32), z2.2)) else (L_X8_way_31 (fun σ => some ((-1000000 : Int32), σ)) fuel a2 ((nI 1) <<< (a1 &&& 31)) (nI 0) z2.2))
set_option maxRecDepth 20000 in
theorem l_X8_way_55 {G : Gx} {X : Cx} (F : Fx G X cX8_way 7 RX8 2) {o : (Int32 × St)} (R : Ret G X cX8_way 7 (some .int) (some (.int o.1)) o.2) {K : Int32 → Int32 → Int32 → St → Option (Int32 × St)} (hK : ∀ (a2 : Int32) (a4 : Int32) (a5 : Int32) (σ : St), Sim G X 7 o (K a2 a4 a5 σ) σ 124 [(0, .ref (ga G 25)), (2, .int a2), (4, .int a4), (5, .int a5)] []) : ∀ (n : Nat) (a2 : Int32) (a3 : Int32) (a4 : Int32) (a5 : Int32) (a6 : Int32) (σ : St), Sim G X 7 o (L_X8_way_55 K n a2 a3 a4 a5 a6 σ) σ 55 [(0, .ref (ga G 25)), (2, .int a2), (3, .int a3), (4, .int a4), (5, .int a5), (6, .int a6)] [] := by
  intro n
  induction n with
  | zero =>
    intro a2 a3 a4 a5 a6 σ
    exact s_none
  | succ n ih =>
    intro a2 a3 a4 a5 a6 σ
    rw [L_X8_way_55.eq_2]
    refine s_iload F 5 dX8_way_55 rfl ?_
    refine s_aload_n F 0 dX8_way_57 rfl rfl ?_
    refine fg_X8_19 F dX8_way_58 ?_
    refine s_iconst F (nI 2) dX8_way_61 rfl ?_
    refine s_iald F ar_29 dX8_way_62 (fun q4 => ?_)
    refine s_icmp_ge F 124 dX8_way_63 (by decide) (fun c12 => ?_) (fun c12 => ?_)
    · refine s_lv [(0, .ref (ga G 25)), (2, .int a2), (4, .int a4), (5, .int a5)] [0, 1, 3, 4] rfl ?_
      exact hK _ _ _ _
    · refine s_iload F 4 dX8_way_66 rfl ?_
      refine s_aload_n F 0 dX8_way_68 rfl rfl ?_
      refine fg_X8_19 F dX8_way_69 ?_
      refine s_iconst F (nI 4) dX8_way_72 rfl ?_
      refine s_iald F ar_29 dX8_way_73 (fun q5 => ?_)
      refine s_iload F 5 dX8_way_74 rfl ?_
      refine s_Si F [.int (σ.1 29 (nI 4).toNatClampNeg), .int a6] dX8_way_76 (fun z hz => c_X8_has hz) wS_X8_157 nk_X8_has (by decide) (by decide) rfl rfl (Nat.le_of_ble_eq_true rfl) (fun z6 => ?_)
      refine s_if_eq F 114 dX8_way_79 (by decide) (fun c11 => ?_) (fun c11 => ?_)
      · refine s_iconst F (nI 0) dX8_way_114 rfl ?_
        refine s_ior F dX8_way_115 ?_
        refine s_istore F [(5, .int (a5 ||| (nI 0))), (0, .ref (ga G 25)), (2, .int a2), (3, .int a3), (4, .int a4), (6, .int a6)] dX8_way_116 (by decide) rfl ?_
        refine s_iinc F 5 [(6, .int (a6 + (nI 1))), (5, .int (a5 ||| (nI 0))), (0, .ref (ga G 25)), (2, .int a2), (3, .int a3), (4, .int a4)] dX8_way_118 rfl rfl (by decide) rfl ?_
        refine s_goto F 55 dX8_way_121 (by decide) ?_
        refine s_lv [(0, .ref (ga G 25)), (2, .int a2), (3, .int a3), (4, .int a4), (5, .int (a5 ||| (nI 0))), (6, .int (a6 + (nI 1)))] [2, 3, 4, 5, 1, 0] rfl ?_
        exact ih _ _ _ _ _ _
      · refine s_iload_n F 2 dX8_way_82 rfl rfl ?_
        refine s_aload_n F 0 dX8_way_83 rfl rfl ?_
        refine fg_X8_19 F dX8_way_84 ?_
        refine s_iload F 5 dX8_way_87 rfl ?_
        refine s_iconst F (nI 1) dX8_way_89 rfl ?_
        refine s_Si F [.ref (ga G 29), .int a6, .int (nI 1)] dX8_way_90 (fun z hz => c_X8_of ar_29 hz) wS_X8_149 nk_X8_of (by decide) (by decide) rfl rfl (Nat.le_of_ble_eq_true rfl) (fun z7 => ?_)
        refine s_Si F [.int a3, .int z7.1] dX8_way_93 (fun z hz => c_X8_has hz) wS_X8_157 nk_X8_has (by decide) (by decide) rfl rfl (Nat.le_of_ble_eq_true rfl) (fun z8 => ?_)
        refine s_if_eq F 114 dX8_way_96 (by decide) (fun c10 => ?_) (fun c10 => ?_)
        · refine s_iconst F (nI 0) dX8_way_114 rfl ?_
          refine s_ior F dX8_way_115 ?_
          refine s_istore F [(5, .int (a5 ||| (nI 0))), (0, .ref (ga G 25)), (2, .int a2), (3, .int a3), (4, .int a4), (6, .int a6)] dX8_way_116 (by decide) rfl ?_
          refine s_iinc F 5 [(6, .int (a6 + (nI 1))), (5, .int (a5 ||| (nI 0))), (0, .ref (ga G 25)), (2, .int a2), (3, .int a3), (4, .int a4)] dX8_way_118 rfl rfl (by decide) rfl ?_
          refine s_goto F 55 dX8_way_121 (by decide) ?_
          refine s_lv [(0, .ref (ga G 25)), (2, .int a2), (3, .int a3), (4, .int a4), (5, .int (a5 ||| (nI 0))), (6, .int (a6 + (nI 1)))] [2, 3, 4, 5, 1, 0] rfl ?_
          exact ih _ _ _ _ _ _
        · refine s_iconst F (nI 1) dX8_way_99 rfl ?_
          refine s_aload_n F 0 dX8_way_100 rfl rfl ?_
          refine fg_X8_19 F dX8_way_101 ?_
          refine s_iload F 5 dX8_way_104 rfl ?_
          refine s_iconst F (nI 2) dX8_way_106 rfl ?_
          refine s_Si F [.ref (ga G 29), .int a6, .int (nI 2)] dX8_way_107 (fun z hz => c_X8_of ar_29 hz) wS_X8_149 nk_X8_of (by decide) (by decide) rfl rfl (Nat.le_of_ble_eq_true rfl) (fun z9 => ?_)
          refine s_ishl F dX8_way_110 ?_
          refine s_goto F 115 dX8_way_111 (by decide) ?_
          refine s_ior F dX8_way_115 ?_
          refine s_istore F [(5, .int (a5 ||| ((nI 1) <<< (z9.1 &&& 31)))), (0, .ref (ga G 25)), (2, .int a2), (3, .int a3), (4, .int a4), (6, .int a6)] dX8_way_116 (by decide) rfl ?_
          refine s_iinc F 5 [(6, .int (a6 + (nI 1))), (5, .int (a5 ||| ((nI 1) <<< (z9.1 &&& 31)))), (0, .ref (ga G 25)), (2, .int a2), (3, .int a3), (4, .int a4)] dX8_way_118 rfl rfl (by decide) rfl ?_
          refine s_goto F 55 dX8_way_121 (by decide) ?_
          refine s_lv [(0, .ref (ga G 25)), (2, .int a2), (3, .int a3), (4, .int a4), (5, .int (a5 ||| ((nI 1) <<< (z9.1 &&& 31)))), (6, .int (a6 + (nI 1)))] [2, 3, 4, 5, 1, 0] rfl ?_
          exact ih _ _ _ _ _ _
set_option maxRecDepth 20000 in
theorem l_X8_way_31 {G : Gx} {X : Cx} (F : Fx G X cX8_way 7 RX8 2) {o : (Int32 × St)} (R : Ret G X cX8_way 7 (some .int) (some (.int o.1)) o.2) {K : St → Option (Int32 × St)} (hK : ∀ (σ : St), Sim G X 7 o (K σ) σ 133 [] []) : ∀ (n : Nat) (a2 : Int32) (a3 : Int32) (a4 : Int32) (σ : St), Sim G X 7 o (L_X8_way_31 K n a2 a3 a4 σ) σ 31 [(0, .ref (ga G 25)), (2, .int a2), (3, .int a3), (4, .int a4)] [] := by
  intro n
  induction n with
  | zero =>
    intro a2 a3 a4 σ
    exact s_none
  | succ n ih =>
    intro a2 a3 a4 σ
    rw [L_X8_way_31.eq_2]
    refine s_iload F 3 dX8_way_31 rfl ?_
    refine s_bipush F (nI 7) dX8_way_33 rfl ?_
    refine s_icmp_ge F 133 dX8_way_35 (by decide) (fun c14 => ?_) (fun c14 => ?_)
    · refine s_lv [] [] rfl ?_
      exact hK _
    · refine s_iload_n F 2 dX8_way_38 rfl rfl ?_
      refine s_iload_n F 1 dX8_way_39 rfl rfl ?_
      refine s_Si F [.int a3, .int a2] dX8_way_40 (fun z hz => c_X8_has hz) wS_X8_157 nk_X8_has (by decide) (by decide) rfl rfl (Nat.le_of_ble_eq_true rfl) (fun z3 => ?_)
      refine s_if_eq F 49 dX8_way_43 (by decide) (fun c13 => ?_) (fun c13 => ?_)
      · refine s_iload_n F 2 dX8_way_49 rfl rfl ?_
        refine s_istore F [(5, .int a3), (0, .ref (ga G 25)), (2, .int a2), (3, .int a3), (4, .int a4)] dX8_way_50 (by decide) rfl ?_
        refine s_iconst F (nI 0) dX8_way_52 rfl ?_
        refine s_istore F [(6, .int (nI 0)), (5, .int a3), (0, .ref (ga G 25)), (2, .int a2), (3, .int a3), (4, .int a4)] dX8_way_53 (by decide) rfl ?_
        refine s_lv [(0, .ref (ga G 25)), (2, .int a2), (3, .int a3), (4, .int a4), (5, .int a3), (6, .int (nI 0))] [2, 3, 4, 5, 1, 0] rfl ?_
        refine l_X8_way_55 F R (fun a2 a4 a5 σ => ?_) fuel _ _ _ _ _ _
        refine s_iload F 3 dX8_way_124 rfl ?_
        refine s_istore_n F [(3, .int a5), (0, .ref (ga G 25)), (2, .int a2), (4, .int a4), (5, .int a5)] dX8_way_126 rfl (by decide) rfl ?_
        refine s_iinc F 3 [(4, .int (a4 + (nI 1))), (3, .int a5), (0, .ref (ga G 25)), (2, .int a2), (5, .int a5)] dX8_way_127 rfl rfl (by decide) rfl ?_
        refine s_goto F 31 dX8_way_130 (by decide) ?_
        refine s_lv [(0, .ref (ga G 25)), (2, .int a2), (3, .int a5), (4, .int (a4 + (nI 1)))] [2, 3, 1, 0] rfl ?_
        exact ih _ _ _ _
      · refine s_iload F 3 dX8_way_46 rfl ?_
        exact s_iret R dX8_way_48
set_option maxRecDepth 20000 in
theorem c_X8_way {G : Gx} {l : Launch} {a1 : Int32} {a2 : Int32} {σ : St} {o : (Int32 × St)} (hF : F_X8_way a1 a2 σ = some o) : Con G l yX8_way cX8_way 7 (some .int) 2 [.ref (ga G 25), .int a1, .int a2] σ (some (.int o.1)) o.2 := by
  refine Con.of plX8 (Nat.le_of_ble_eq_true rfl) [(0, .ref (ga G 25)), (1, .int a1), (2, .int a2)] rfl (fun X F R => ?_)
  refine (show Sim G X 7 o (F_X8_way a1 a2 σ) σ 0 [(0, .ref (ga G 25)), (1, .int a1), (2, .int a2)] [] from ?_) hF
  unfold F_X8_way
  refine s_aload_n F 0 dX8_way_0 rfl rfl ?_
  refine s_iconst F (nI 0) dX8_way_1 rfl ?_
  refine fp_X8_47 F dX8_way_2 ?_
  refine s_aload_n F 0 dX8_way_5 rfl rfl ?_
  refine s_iload_n F 1 dX8_way_6 rfl rfl ?_
  refine s_Vi F [.int a1] dX8_way_7 (fun z hz => c_X8_isHorn hz) wV_X8_180 nk_X8_isHorn (by decide) (by decide) ob_25 vc_7 rfl rfl (Nat.le_of_ble_eq_true rfl) (fun z1 => ?_)
  refine s_if_eq F 21 dX8_way_10 (by decide) (fun c16 => ?_) (fun c16 => ?_)
  · refine s_ldc F dX8_way_21 m_4_41 ?_
    exact s_iret R dX8_way_23
  · refine s_aload_n F 0 dX8_way_13 rfl rfl ?_
    refine s_iload_n F 2 dX8_way_14 rfl rfl ?_
    refine s_Vi F [.int a2] dX8_way_15 (fun z hz => c_X8_isHorn hz) wV_X8_180 nk_X8_isHorn (by decide) (by decide) ob_25 vc_7 rfl rfl (Nat.le_of_ble_eq_true rfl) (fun z2 => ?_)
    refine s_if_ne F 24 dX8_way_18 (by decide) (fun c15 => ?_) (fun c15 => ?_)
    · refine s_iconst F (nI 1) dX8_way_24 rfl ?_
      refine s_iload_n F 1 dX8_way_25 rfl rfl ?_
      refine s_ishl F dX8_way_26 ?_
      refine s_istore_n F [(3, .int ((nI 1) <<< (a1 &&& 31))), (0, .ref (ga G 25)), (1, .int a1), (2, .int a2)] dX8_way_27 rfl (by decide) rfl ?_
      refine s_iconst F (nI 0) dX8_way_28 rfl ?_
      refine s_istore F [(4, .int (nI 0)), (3, .int ((nI 1) <<< (a1 &&& 31))), (0, .ref (ga G 25)), (1, .int a1), (2, .int a2)] dX8_way_29 (by decide) rfl ?_
      refine s_lv [(0, .ref (ga G 25)), (2, .int a2), (3, .int ((nI 1) <<< (a1 &&& 31))), (4, .int (nI 0))] [2, 4, 1, 0] rfl ?_
      refine l_X8_way_31 F R (fun σ => ?_) fuel _ _ _ _
      refine s_ldc F dX8_way_133 m_4_81 ?_
      exact s_iret R dX8_way_135
    · refine s_ldc F dX8_way_21 m_4_41 ?_
      exact s_iret R dX8_way_23
/-! X8_hearsSo -/
def J_X8_hearsSo_40 (K6 : Int32 → Int32 → Int32 → Int32 → Int32 → St → Option (Int32 × St)) (a1 : Int32) (a2 : Int32) (a3 : Int32) (a4 : Int32) (a5 : Int32) (s0 : Int32) (σ : St) : Option (Int32 × St) := if a4 = 0 then (K6 a1 a2 a3 (nI 0) (a5 + (nI 1)) σ) else (if ix (a2 + a5) 320 then if s0 = (σ.1 28 (a2 + a5).toNatClampNeg) then (K6 a1 a2 a3 (nI 1) (a5 + (nI 1)) σ) else (K6 a1 a2 a3 (nI 0) (a5 + (nI 1)) σ) else none)
def L_X8_hearsSo_6 (K : Int32 → St → Option (Int32 × St)) : Nat → Int32 → Int32 → Int32 → Int32 → Int32 → St → Option (Int32 × St)
  | 0, _, _, _, _, _, _ => none
  | n + 1, a1, a2, a3, a4, a5, σ => if a3 ≤ a5 then (K a4 σ) else ((F_X8_breath 31 σ).bind fun z1 => (F_X8_has z1.1 a1 z1.2).bind fun z2 => if z2.1 = 0 then (J_X8_hearsSo_40 (fun a1 a2 a3 a4 a5 σ => L_X8_hearsSo_6 K n a1 a2 a3 a4 a5 σ) a1 a2 a3 a4 a5 (-1 : Int32) z2.2) else (if ix a1 6 then J_X8_hearsSo_40 (fun a1 a2 a3 a4 a5 σ => L_X8_hearsSo_6 K n a1 a2 a3 a4 a5 σ) a1 a2 a3 a4 a5 ((z2.2.1 34 a1.toNatClampNeg) / (nI 100)) z2.2 else none))
def F_X8_hearsSo (a1 : Int32) (a2 : Int32) (a3 : Int32) (σ : St) : Option (Int32 × St) := L_X8_hearsSo_6 (fun a4 σ => if (a4 = 0 ∨ a4 = 1) then some (a4, σ) else none) fuel a1 a2 a3 (nI 1) (nI 0) σ
set_option maxRecDepth 20000 in
theorem j_X8_hearsSo_40 {G : Gx} {X : Cx} (F : Fx G X cX8_hearsSo 7 RX8 3) {o : (Int32 × St)} (R : Ret G X cX8_hearsSo 7 (some .boolean) (some (.int o.1)) o.2) {K6 : Int32 → Int32 → Int32 → Int32 → Int32 → St → Option (Int32 × St)} (hK6 : ∀ (a1 : Int32) (a2 : Int32) (a3 : Int32) (a4 : Int32) (a5 : Int32) (σ : St), Sim G X 7 o (K6 a1 a2 a3 a4 a5 σ) σ 6 [(0, .ref (ga G 25)), (1, .int a1), (2, .int a2), (3, .int a3), (4, .int a4), (5, .int a5)] []) (a1 : Int32) (a2 : Int32) (a3 : Int32) (a4 : Int32) (a5 : Int32) (s0 : Int32) (σ : St) : Sim G X 7 o (J_X8_hearsSo_40 K6 a1 a2 a3 a4 a5 s0 σ) σ 40 [(0, .ref (ga G 25)), (1, .int a1), (2, .int a2), (3, .int a3), (4, .int a4), (5, .int a5)] [.int s0] := by
  unfold J_X8_hearsSo_40
  refine s_istore F [(6, .int s0), (0, .ref (ga G 25)), (1, .int a1), (2, .int a2), (3, .int a3), (4, .int a4), (5, .int a5)] dX8_hearsSo_40 (by decide) rfl ?_
  refine s_iload F 5 dX8_hearsSo_42 rfl ?_
  refine s_if_eq F 65 dX8_hearsSo_44 (by decide) (fun c5 => ?_) (fun c5 => ?_)
  · refine s_iconst F (nI 0) dX8_hearsSo_65 rfl ?_
    refine s_istore F [(4, .int (nI 0)), (6, .int s0), (0, .ref (ga G 25)), (1, .int a1), (2, .int a2), (3, .int a3), (5, .int a5)] dX8_hearsSo_66 (by decide) rfl ?_
    refine s_iinc F 6 [(5, .int (a5 + (nI 1))), (4, .int (nI 0)), (6, .int s0), (0, .ref (ga G 25)), (1, .int a1), (2, .int a2), (3, .int a3)] dX8_hearsSo_68 rfl rfl (by decide) rfl ?_
    refine s_goto F 6 dX8_hearsSo_71 (by decide) ?_
    refine s_lv [(0, .ref (ga G 25)), (1, .int a1), (2, .int a2), (3, .int a3), (4, .int (nI 0)), (5, .int (a5 + (nI 1)))] [3, 4, 5, 6, 1, 0] rfl ?_
    exact hK6 _ _ _ _ _ _
  · refine s_iload F 0 dX8_hearsSo_47 rfl ?_
    refine s_aload_n F 1 dX8_hearsSo_49 rfl rfl ?_
    refine fg_X8_16 F dX8_hearsSo_50 ?_
    refine s_iload_n F 3 dX8_hearsSo_53 rfl rfl ?_
    refine s_iload F 6 dX8_hearsSo_54 rfl ?_
    refine s_iadd F dX8_hearsSo_56 ?_
    refine s_iald F ar_28 dX8_hearsSo_57 (fun q3 => ?_)
    refine s_icmp_ne F 65 dX8_hearsSo_58 (by decide) (fun c4 => ?_) (fun c4 => ?_)
    · refine s_iconst F (nI 0) dX8_hearsSo_65 rfl ?_
      refine s_istore F [(4, .int (nI 0)), (6, .int s0), (0, .ref (ga G 25)), (1, .int a1), (2, .int a2), (3, .int a3), (5, .int a5)] dX8_hearsSo_66 (by decide) rfl ?_
      refine s_iinc F 6 [(5, .int (a5 + (nI 1))), (4, .int (nI 0)), (6, .int s0), (0, .ref (ga G 25)), (1, .int a1), (2, .int a2), (3, .int a3)] dX8_hearsSo_68 rfl rfl (by decide) rfl ?_
      refine s_goto F 6 dX8_hearsSo_71 (by decide) ?_
      refine s_lv [(0, .ref (ga G 25)), (1, .int a1), (2, .int a2), (3, .int a3), (4, .int (nI 0)), (5, .int (a5 + (nI 1)))] [3, 4, 5, 6, 1, 0] rfl ?_
      exact hK6 _ _ _ _ _ _
    · refine s_iconst F (nI 1) dX8_hearsSo_61 rfl ?_
      refine s_goto F 66 dX8_hearsSo_62 (by decide) ?_
      refine s_istore F [(4, .int (nI 1)), (6, .int s0), (0, .ref (ga G 25)), (1, .int a1), (2, .int a2), (3, .int a3), (5, .int a5)] dX8_hearsSo_66 (by decide) rfl ?_
      refine s_iinc F 6 [(5, .int (a5 + (nI 1))), (4, .int (nI 1)), (6, .int s0), (0, .ref (ga G 25)), (1, .int a1), (2, .int a2), (3, .int a3)] dX8_hearsSo_68 rfl rfl (by decide) rfl ?_
      refine s_goto F 6 dX8_hearsSo_71 (by decide) ?_
      refine s_lv [(0, .ref (ga G 25)), (1, .int a1), (2, .int a2), (3, .int a3), (4, .int (nI 1)), (5, .int (a5 + (nI 1)))] [3, 4, 5, 6, 1, 0] rfl ?_
      exact hK6 _ _ _ _ _ _
set_option maxRecDepth 20000 in
theorem l_X8_hearsSo_6 {G : Gx} {X : Cx} (F : Fx G X cX8_hearsSo 7 RX8 3) {o : (Int32 × St)} (R : Ret G X cX8_hearsSo 7 (some .boolean) (some (.int o.1)) o.2) {K : Int32 → St → Option (Int32 × St)} (hK : ∀ (a4 : Int32) (σ : St), Sim G X 7 o (K a4 σ) σ 74 [(4, .int a4)] []) : ∀ (n : Nat) (a1 : Int32) (a2 : Int32) (a3 : Int32) (a4 : Int32) (a5 : Int32) (σ : St), Sim G X 7 o (L_X8_hearsSo_6 K n a1 a2 a3 a4 a5 σ) σ 6 [(0, .ref (ga G 25)), (1, .int a1), (2, .int a2), (3, .int a3), (4, .int a4), (5, .int a5)] [] := by
  intro n
  induction n with
  | zero =>
    intro a1 a2 a3 a4 a5 σ
    exact s_none
  | succ n ih =>
    intro a1 a2 a3 a4 a5 σ
    rw [L_X8_hearsSo_6.eq_2]
    refine s_iload F 5 dX8_hearsSo_6 rfl ?_
    refine s_iload_n F 3 dX8_hearsSo_8 rfl rfl ?_
    refine s_icmp_ge F 74 dX8_hearsSo_9 (by decide) (fun c8 => ?_) (fun c8 => ?_)
    · refine s_lv [(4, .int a4)] [4] rfl ?_
      exact hK _ _
    · refine s_aload_n F 0 dX8_hearsSo_12 rfl rfl ?_
      refine s_aload_n F 0 dX8_hearsSo_13 rfl rfl ?_
      refine fg_X8_25 F dX8_hearsSo_14 ?_
      refine s_Vi F [.ref (ga G 31)] dX8_hearsSo_17 (fun z hz => c_X8_breath ar_31 hz) wV_X8_168 nk_X8_breath (by decide) (by decide) ob_25 vc_7 rfl rfl (Nat.le_of_ble_eq_true rfl) (fun z1 => ?_)
      refine s_iload_n F 1 dX8_hearsSo_20 rfl rfl ?_
      refine s_Si F [.int z1.1, .int a1] dX8_hearsSo_21 (fun z hz => c_X8_has hz) wS_X8_157 nk_X8_has (by decide) (by decide) rfl rfl (Nat.le_of_ble_eq_true rfl) (fun z2 => ?_)
      refine s_if_eq F 39 dX8_hearsSo_24 (by decide) (fun c7 => ?_) (fun c7 => ?_)
      · refine s_iconst F (-1 : Int32) dX8_hearsSo_39 rfl ?_
        exact j_X8_hearsSo_40 F R (by
              intro a1 a2 a3 a4 a5 σ
              exact ih _ _ _ _ _ _) _ _ _ _ _ _ _
      · refine s_aload_n F 0 dX8_hearsSo_27 rfl rfl ?_
        refine fg_X8_34 F dX8_hearsSo_28 ?_
        refine s_iload_n F 1 dX8_hearsSo_31 rfl rfl ?_
        refine s_iald F ar_34 dX8_hearsSo_32 (fun q6 => ?_)
        refine s_bipush F (nI 100) dX8_hearsSo_33 rfl ?_
        refine s_idivc F dX8_hearsSo_35 (by decide) ?_
        refine s_goto F 40 dX8_hearsSo_36 (by decide) ?_
        exact j_X8_hearsSo_40 F R (by
              intro a1 a2 a3 a4 a5 σ
              exact ih _ _ _ _ _ _) _ _ _ _ _ _ _
set_option maxRecDepth 20000 in
theorem c_X8_hearsSo {G : Gx} {l : Launch} {a1 : Int32} {a2 : Int32} {a3 : Int32} {σ : St} {o : (Int32 × St)} (hF : F_X8_hearsSo a1 a2 a3 σ = some o) : Con G l yX8_hearsSo cX8_hearsSo 7 (some .boolean) 3 [.ref (ga G 25), .int a1, .int a2, .int a3] σ (some (.int o.1)) o.2 := by
  refine Con.of plX8 (Nat.le_of_ble_eq_true rfl) [(0, .ref (ga G 25)), (1, .int a1), (2, .int a2), (3, .int a3)] rfl (fun X F R => ?_)
  refine (show Sim G X 7 o (F_X8_hearsSo a1 a2 a3 σ) σ 0 [(0, .ref (ga G 25)), (1, .int a1), (2, .int a2), (3, .int a3)] [] from ?_) hF
  unfold F_X8_hearsSo
  refine s_iconst F (nI 1) dX8_hearsSo_0 rfl ?_
  refine s_istore F [(4, .int (nI 1)), (0, .ref (ga G 25)), (1, .int a1), (2, .int a2), (3, .int a3)] dX8_hearsSo_1 (by decide) rfl ?_
  refine s_iconst F (nI 0) dX8_hearsSo_3 rfl ?_
  refine s_istore F [(5, .int (nI 0)), (4, .int (nI 1)), (0, .ref (ga G 25)), (1, .int a1), (2, .int a2), (3, .int a3)] dX8_hearsSo_4 (by decide) rfl ?_
  refine s_lv [(0, .ref (ga G 25)), (1, .int a1), (2, .int a2), (3, .int a3), (4, .int (nI 1)), (5, .int (nI 0))] [2, 3, 4, 5, 1, 0] rfl ?_
  refine l_X8_hearsSo_6 F R (fun a4 σ => ?_) fuel _ _ _ _ _ _
  refine s_iload F 0 dX8_hearsSo_74 rfl ?_
  exact s_zretg R dX8_hearsSo_76
/-! X8_rowFound -/
def J_X8_rowFound_35 (σ : St) : Option (Int32 × St) := (F_X8_finding (nI 2) σ).bind fun z2 => some (z2.1, z2.2)
def F_X8_rowFound (a1 : Int32) (a2 : Int32) (a3 : Int32) (σ : St) : Option (Int32 × St) := if ix a1 8 then if 0 ≤ (σ.1 26 a1.toNatClampNeg) then (if a2 < 0 then (J_X8_rowFound_35 σ) else (if ix a1 8 then if (lg_cmp (a2.toInt64 + a3.toInt64) (σ.1 27 a1.toNatClampNeg).toInt64) ≤ 0 then (some ((nI 0), setF σ 9 (nI 0))) else (J_X8_rowFound_35 σ) else none)) else ((F_X8_finding (nI 1) σ).bind fun z6 => some (z6.1, z6.2)) else none
set_option maxRecDepth 20000 in
theorem j_X8_rowFound_35 {G : Gx} {X : Cx} (F : Fx G X cX8_rowFound 4 RX8 1) {o : (Int32 × St)} (R : Ret G X cX8_rowFound 4 (some .int) (some (.int o.1)) o.2) (σ : St) : Sim G X 4 o (J_X8_rowFound_35 σ) σ 35 [(0, .ref (ga G 25))] [] := by
  unfold J_X8_rowFound_35
  refine s_aload_n F 0 dX8_rowFound_35 rfl rfl ?_
  refine s_iconst F (nI 2) dX8_rowFound_36 rfl ?_
  refine s_Vi F [.int (nI 2)] dX8_rowFound_37 (fun z hz => c_X8_finding hz) wV_X8_68 nk_X8_finding (by decide) (by decide) ob_25 vc_7 rfl rfl (Nat.le_of_ble_eq_true rfl) (fun z2 => ?_)
  exact s_iret R dX8_rowFound_40
set_option maxRecDepth 20000 in
theorem c_X8_rowFound {G : Gx} {l : Launch} {a1 : Int32} {a2 : Int32} {a3 : Int32} {σ : St} {o : (Int32 × St)} (hF : F_X8_rowFound a1 a2 a3 σ = some o) : Con G l yX8_rowFound cX8_rowFound 4 (some .int) 1 [.ref (ga G 25), .int a1, .int a2, .int a3] σ (some (.int o.1)) o.2 := by
  refine Con.of plX8 (Nat.le_of_ble_eq_true rfl) [(0, .ref (ga G 25)), (1, .int a1), (2, .int a2), (3, .int a3)] rfl (fun X F R => ?_)
  refine (show Sim G X 4 o (F_X8_rowFound a1 a2 a3 σ) σ 0 [(0, .ref (ga G 25)), (1, .int a1), (2, .int a2), (3, .int a3)] [] from ?_) hF
  unfold F_X8_rowFound
  refine s_aload_n F 0 dX8_rowFound_0 rfl rfl ?_
  refine fg_X8_7 F dX8_rowFound_1 ?_
  refine s_iload_n F 1 dX8_rowFound_4 rfl rfl ?_
  refine s_iald F ar_26 dX8_rowFound_5 (fun q1 => ?_)
  refine s_if_ge F 15 dX8_rowFound_6 (by decide) (fun c7 => ?_) (fun c7 => ?_)
  · refine s_iload_n F 2 dX8_rowFound_15 rfl rfl ?_
    refine s_if_lt F 35 dX8_rowFound_16 (by decide) (fun c5 => ?_) (fun c5 => ?_)
    · refine s_lv [(0, .ref (ga G 25))] [0] rfl ?_
      exact j_X8_rowFound_35 F R _
    · refine s_iload_n F 2 dX8_rowFound_19 rfl rfl ?_
      refine s_i2l F dX8_rowFound_20 ?_
      refine s_iload_n F 3 dX8_rowFound_21 rfl rfl ?_
      refine s_i2l F dX8_rowFound_22 ?_
      refine s_ladd F dX8_rowFound_23 ?_
      refine s_aload_n F 0 dX8_rowFound_24 rfl rfl ?_
      refine fg_X8_13 F dX8_rowFound_25 ?_
      refine s_iload_n F 1 dX8_rowFound_28 rfl rfl ?_
      refine s_iald F ar_27 dX8_rowFound_29 (fun q3 => ?_)
      refine s_i2l F dX8_rowFound_30 ?_
      refine s_lcmp F dX8_rowFound_31 ?_
      refine s_if_le F 41 dX8_rowFound_32 (by decide) (fun c4 => ?_) (fun c4 => ?_)
      · refine s_aload_n F 0 dX8_rowFound_41 rfl rfl ?_
        refine s_iconst F (nI 0) dX8_rowFound_42 rfl ?_
        refine fp_X8_51 F dX8_rowFound_43 ?_
        refine s_iconst F (nI 0) dX8_rowFound_46 rfl ?_
        exact s_iret R dX8_rowFound_47
      · refine s_lv [(0, .ref (ga G 25))] [0] rfl ?_
        exact j_X8_rowFound_35 F R _
  · refine s_aload_n F 0 dX8_rowFound_9 rfl rfl ?_
    refine s_iconst F (nI 1) dX8_rowFound_10 rfl ?_
    refine s_Vi F [.int (nI 1)] dX8_rowFound_11 (fun z hz => c_X8_finding hz) wV_X8_68 nk_X8_finding (by decide) (by decide) ob_25 vc_7 rfl rfl (Nat.le_of_ble_eq_true rfl) (fun z6 => ?_)
    exact s_iret R dX8_rowFound_14
/-! X8_who -/
def J_X8_who_187 (K91 : Int32 → Int32 → Int32 → Int32 → Int32 → Int32 → Int32 → Int32 → St → Option (Int32 × St)) (a1 : Int32) (a2 : Int32) (a3 : Int32) (a4 : Int32) (a5 : Int32) (a6 : Int32) (a8 : Int32) (a9 : Int32) (σ : St) : Option (Int32 × St) := (F_X8_hearsSo a3 (((nI 40) * a4) + a5) a6 σ).bind fun z9 => if z9.1 = 0 then (K91 a1 a2 a3 a4 a5 a6 (a8 ||| (nI 0)) (a9 + (nI 1)) z9.2) else (K91 a1 a2 a3 a4 a5 a6 (a8 ||| ((nI 1) <<< (a9 &&& 31))) (a9 + (nI 1)) z9.2)
def J_X8_who_183 (K91 : Int32 → Int32 → Int32 → Int32 → Int32 → Int32 → Int32 → Int32 → St → Option (Int32 × St)) (a1 : Int32) (a2 : Int32) (a3 : Int32) (a4 : Int32) (a5 : Int32) (a6 : Int32) (a8 : Int32) (a9 : Int32) (s0 : Int32) (s1 : Int32) (σ : St) : Option (Int32 × St) := if ix (s1 + s0) 80 then J_X8_who_187 (fun a1 a2 a3 a4 a5 a6 a8 a9 σ => K91 a1 a2 a3 a4 a5 a6 a8 a9 σ) a1 a2 a3 a4 a5 a6 a8 a9 (setA σ 31 (s1 + s0).toNatClampNeg a9) else none
def J_X8_who_159 (K91 : Int32 → Int32 → Int32 → Int32 → Int32 → Int32 → Int32 → Int32 → St → Option (Int32 × St)) (a1 : Int32) (a2 : Int32) (a3 : Int32) (a4 : Int32) (a5 : Int32) (a6 : Int32) (a8 : Int32) (a9 : Int32) (s0 : Int32) (s1 : Int32) (σ : St) : Option (Int32 × St) := if ix s1 80 then J_X8_who_187 (fun a1 a2 a3 a4 a5 a6 a8 a9 σ => K91 a1 a2 a3 a4 a5 a6 a8 a9 σ) a1 a2 a3 a4 a5 a6 a8 a9 (setA σ 31 s1.toNatClampNeg s0) else none
def J_X8_who_112 (K91 : Int32 → Int32 → Int32 → Int32 → Int32 → Int32 → Int32 → Int32 → St → Option (Int32 × St)) (K224 : Int32 → St → Option (Int32 × St)) (a1 : Int32) (a2 : Int32) (a3 : Int32) (a4 : Int32) (a5 : Int32) (a6 : Int32) (a8 : Int32) (a9 : Int32) (s0 : Int32) (s1 : Int32) (σ : St) : Option (Int32 × St) := if s0 < s1 then (K224 a8 σ) else ((F_X8_layThen σ).bind fun z7 => if a2 = (nI 2) then (if a9 = 0 then (if ix (nI 4) 80 then J_X8_who_159 (fun a1 a2 a3 a4 a5 a6 a8 a9 σ => K91 a1 a2 a3 a4 a5 a6 a8 a9 σ) a1 a2 a3 a4 a5 a6 a8 a9 ((z7.1 31 (nI 4).toNatClampNeg) &&& (((nI 1) <<< (a1 &&& 31)) ^^^ (-1 : Int32))) (nI 4) z7 else none) else (if ix (nI 4) 80 then J_X8_who_159 (fun a1 a2 a3 a4 a5 a6 a8 a9 σ => K91 a1 a2 a3 a4 a5 a6 a8 a9 σ) a1 a2 a3 a4 a5 a6 a8 a9 ((z7.1 31 (nI 4).toNatClampNeg) ||| ((nI 1) <<< (a1 &&& 31))) (nI 4) z7 else none)) else (if a2 = 0 then (J_X8_who_183 (fun a1 a2 a3 a4 a5 a6 a8 a9 σ => K91 a1 a2 a3 a4 a5 a6 a8 a9 σ) a1 a2 a3 a4 a5 a6 a8 a9 (nI 0) ((nI 17) + ((nI 9) * a1)) z7) else (J_X8_who_183 (fun a1 a2 a3 a4 a5 a6 a8 a9 σ => K91 a1 a2 a3 a4 a5 a6 a8 a9 σ) a1 a2 a3 a4 a5 a6 a8 a9 (nI 4) ((nI 17) + ((nI 9) * a1)) z7)))
def L_X8_who_91 (K : Int32 → St → Option (Int32 × St)) : Nat → Int32 → Int32 → Int32 → Int32 → Int32 → Int32 → Int32 → Int32 → St → Option (Int32 × St)
  | 0, _, _, _, _, _, _, _, _, _ => none
  | n + 1, a1, a2, a3, a4, a5, a6, a8, a9, σ => if a2 = 0 then (J_X8_who_112 (fun a1 a2 a3 a4 a5 a6 a8 a9 σ => L_X8_who_91 K n a1 a2 a3 a4 a5 a6 a8 a9 σ) (fun a8 σ => K a8 σ) a1 a2 a3 a4 a5 a6 a8 a9 (nI 5) a9 σ) else (if a2 = (nI 1) then (J_X8_who_112 (fun a1 a2 a3 a4 a5 a6 a8 a9 σ => L_X8_who_91 K n a1 a2 a3 a4 a5 a6 a8 a9 σ) (fun a8 σ => K a8 σ) a1 a2 a3 a4 a5 a6 a8 a9 (nI 9) a9 σ) else (J_X8_who_112 (fun a1 a2 a3 a4 a5 a6 a8 a9 σ => L_X8_who_91 K n a1 a2 a3 a4 a5 a6 a8 a9 σ) (fun a8 σ => K a8 σ) a1 a2 a3 a4 a5 a6 a8 a9 (nI 1) a9 σ))
def F_X8_who (a1 : Int32) (a2 : Int32) (a3 : Int32) (a4 : Int32) (a5 : Int32) (a6 : Int32) (σ : St) : Option (Int32 × St) := (F_X8_isPipe a1 (setF σ 8 (nI 0))).bind fun z1 => if z1.1 = 0 then (some ((-1000001 : Int32), z1.2)) else ((F_X8_in a2.toInt64 (lN 0) (lN 2) z1.2).bind fun z2 => if z2.1 = 0 then (some ((-1000001 : Int32), z2.2)) else ((F_X8_isHorn a3 z2.2).bind fun z3 => if z3.1 = 0 then (some ((-1000001 : Int32), z3.2)) else ((F_X8_isRow a4 z3.2).bind fun z4 => if z4.1 = 0 then (some ((-1000001 : Int32), z4.2)) else ((F_X8_in a6.toInt64 (lN 1) (lN 12) z4.2).bind fun z5 => if z5.1 = 0 then (some ((-1000001 : Int32), z5.2)) else ((F_X8_rowFound a4 a5 a6 z5.2).bind fun z6 => if z6.1 = 0 then (if a2 = 0 then (L_X8_who_91 (fun a8 σ => some (a8, σ)) fuel a1 a2 a3 a4 a5 a6 (nI 0) (nI 1) z6.2) else (L_X8_who_91 (fun a8 σ => some (a8, σ)) fuel a1 a2 a3 a4 a5 a6 (nI 0) (nI 0) z6.2)) else (some (z6.1, z6.2)))))))
set_option maxRecDepth 20000 in
theorem j_X8_who_187 {G : Gx} {X : Cx} (F : Fx G X cX8_who 10 RX8 4) {o : (Int32 × St)} (R : Ret G X cX8_who 10 (some .int) (some (.int o.1)) o.2) {K91 : Int32 → Int32 → Int32 → Int32 → Int32 → Int32 → Int32 → Int32 → St → Option (Int32 × St)} (hK91 : ∀ (a1 : Int32) (a2 : Int32) (a3 : Int32) (a4 : Int32) (a5 : Int32) (a6 : Int32) (a8 : Int32) (a9 : Int32) (σ : St), Sim G X 10 o (K91 a1 a2 a3 a4 a5 a6 a8 a9 σ) σ 91 [(0, .ref (ga G 25)), (1, .int a1), (2, .int a2), (3, .int a3), (4, .int a4), (5, .int a5), (6, .int a6), (8, .int a8), (9, .int a9)] []) (a1 : Int32) (a2 : Int32) (a3 : Int32) (a4 : Int32) (a5 : Int32) (a6 : Int32) (a8 : Int32) (a9 : Int32) (σ : St) : Sim G X 10 o (J_X8_who_187 K91 a1 a2 a3 a4 a5 a6 a8 a9 σ) σ 187 [(0, .ref (ga G 25)), (1, .int a1), (2, .int a2), (3, .int a3), (4, .int a4), (5, .int a5), (6, .int a6), (8, .int a8), (9, .int a9)] [] := by
  unfold J_X8_who_187
  refine s_iload F 7 dX8_who_187 rfl ?_
  refine s_aload_n F 0 dX8_who_189 rfl rfl ?_
  refine s_iload_n F 3 dX8_who_190 rfl rfl ?_
  refine s_bipush F (nI 40) dX8_who_191 rfl ?_
  refine s_iload F 4 dX8_who_193 rfl ?_
  refine s_imul F dX8_who_195 ?_
  refine s_iload F 5 dX8_who_196 rfl ?_
  refine s_iadd F dX8_who_198 ?_
  refine s_iload F 6 dX8_who_199 rfl ?_
  refine s_Vi F [.int a3, .int (((nI 40) * a4) + a5), .int a6] dX8_who_201 (fun z hz => c_X8_hearsSo hz) wV_X8_224 nk_X8_hearsSo (by decide) (by decide) ob_25 vc_7 rfl rfl (Nat.le_of_ble_eq_true rfl) (fun z9 => ?_)
  refine s_if_eq F 214 dX8_who_204 (by decide) (fun c10 => ?_) (fun c10 => ?_)
  · refine s_iconst F (nI 0) dX8_who_214 rfl ?_
    refine s_ior F dX8_who_215 ?_
    refine s_istore F [(8, .int (a8 ||| (nI 0))), (0, .ref (ga G 25)), (1, .int a1), (2, .int a2), (3, .int a3), (4, .int a4), (5, .int a5), (6, .int a6), (9, .int a9)] dX8_who_216 (by decide) rfl ?_
    refine s_iinc F 8 [(9, .int (a9 + (nI 1))), (8, .int (a8 ||| (nI 0))), (0, .ref (ga G 25)), (1, .int a1), (2, .int a2), (3, .int a3), (4, .int a4), (5, .int a5), (6, .int a6)] dX8_who_218 rfl rfl (by decide) rfl ?_
    refine s_goto F 91 dX8_who_221 (by decide) ?_
    refine s_lv [(0, .ref (ga G 25)), (1, .int a1), (2, .int a2), (3, .int a3), (4, .int a4), (5, .int a5), (6, .int a6), (8, .int (a8 ||| (nI 0))), (9, .int (a9 + (nI 1)))] [2, 3, 4, 5, 6, 7, 8, 1, 0] rfl ?_
    exact hK91 _ _ _ _ _ _ _ _ _
  · refine s_iconst F (nI 1) dX8_who_207 rfl ?_
    refine s_iload F 8 dX8_who_208 rfl ?_
    refine s_ishl F dX8_who_210 ?_
    refine s_goto F 215 dX8_who_211 (by decide) ?_
    refine s_ior F dX8_who_215 ?_
    refine s_istore F [(8, .int (a8 ||| ((nI 1) <<< (a9 &&& 31)))), (0, .ref (ga G 25)), (1, .int a1), (2, .int a2), (3, .int a3), (4, .int a4), (5, .int a5), (6, .int a6), (9, .int a9)] dX8_who_216 (by decide) rfl ?_
    refine s_iinc F 8 [(9, .int (a9 + (nI 1))), (8, .int (a8 ||| ((nI 1) <<< (a9 &&& 31)))), (0, .ref (ga G 25)), (1, .int a1), (2, .int a2), (3, .int a3), (4, .int a4), (5, .int a5), (6, .int a6)] dX8_who_218 rfl rfl (by decide) rfl ?_
    refine s_goto F 91 dX8_who_221 (by decide) ?_
    refine s_lv [(0, .ref (ga G 25)), (1, .int a1), (2, .int a2), (3, .int a3), (4, .int a4), (5, .int a5), (6, .int a6), (8, .int (a8 ||| ((nI 1) <<< (a9 &&& 31)))), (9, .int (a9 + (nI 1)))] [2, 3, 4, 5, 6, 7, 8, 1, 0] rfl ?_
    exact hK91 _ _ _ _ _ _ _ _ _
set_option maxRecDepth 20000 in
theorem j_X8_who_183 {G : Gx} {X : Cx} (F : Fx G X cX8_who 10 RX8 4) {o : (Int32 × St)} (R : Ret G X cX8_who 10 (some .int) (some (.int o.1)) o.2) {K91 : Int32 → Int32 → Int32 → Int32 → Int32 → Int32 → Int32 → Int32 → St → Option (Int32 × St)} (hK91 : ∀ (a1 : Int32) (a2 : Int32) (a3 : Int32) (a4 : Int32) (a5 : Int32) (a6 : Int32) (a8 : Int32) (a9 : Int32) (σ : St), Sim G X 10 o (K91 a1 a2 a3 a4 a5 a6 a8 a9 σ) σ 91 [(0, .ref (ga G 25)), (1, .int a1), (2, .int a2), (3, .int a3), (4, .int a4), (5, .int a5), (6, .int a6), (8, .int a8), (9, .int a9)] []) (a1 : Int32) (a2 : Int32) (a3 : Int32) (a4 : Int32) (a5 : Int32) (a6 : Int32) (a8 : Int32) (a9 : Int32) (s0 : Int32) (s1 : Int32) (σ : St) : Sim G X 10 o (J_X8_who_183 K91 a1 a2 a3 a4 a5 a6 a8 a9 s0 s1 σ) σ 183 [(0, .ref (ga G 25)), (1, .int a1), (2, .int a2), (3, .int a3), (4, .int a4), (5, .int a5), (6, .int a6), (8, .int a8), (9, .int a9)] [.int s0, .int s1, .ref (ga G 31)] := by
  unfold J_X8_who_183
  refine s_iadd F dX8_who_183 ?_
  refine s_iload F 8 dX8_who_184 rfl ?_
  refine s_iast F ar_31 dX8_who_186 (fun q8 => ?_)
  exact j_X8_who_187 F R (by
        intro a1 a2 a3 a4 a5 a6 a8 a9 σ
        exact hK91 _ _ _ _ _ _ _ _ _) _ _ _ _ _ _ _ _ _
set_option maxRecDepth 20000 in
theorem j_X8_who_159 {G : Gx} {X : Cx} (F : Fx G X cX8_who 10 RX8 4) {o : (Int32 × St)} (R : Ret G X cX8_who 10 (some .int) (some (.int o.1)) o.2) {K91 : Int32 → Int32 → Int32 → Int32 → Int32 → Int32 → Int32 → Int32 → St → Option (Int32 × St)} (hK91 : ∀ (a1 : Int32) (a2 : Int32) (a3 : Int32) (a4 : Int32) (a5 : Int32) (a6 : Int32) (a8 : Int32) (a9 : Int32) (σ : St), Sim G X 10 o (K91 a1 a2 a3 a4 a5 a6 a8 a9 σ) σ 91 [(0, .ref (ga G 25)), (1, .int a1), (2, .int a2), (3, .int a3), (4, .int a4), (5, .int a5), (6, .int a6), (8, .int a8), (9, .int a9)] []) (a1 : Int32) (a2 : Int32) (a3 : Int32) (a4 : Int32) (a5 : Int32) (a6 : Int32) (a8 : Int32) (a9 : Int32) (s0 : Int32) (s1 : Int32) (σ : St) : Sim G X 10 o (J_X8_who_159 K91 a1 a2 a3 a4 a5 a6 a8 a9 s0 s1 σ) σ 159 [(0, .ref (ga G 25)), (1, .int a1), (2, .int a2), (3, .int a3), (4, .int a4), (5, .int a5), (6, .int a6), (8, .int a8), (9, .int a9)] [.int s0, .int s1, .ref (ga G 31)] := by
  unfold J_X8_who_159
  refine s_iast F ar_31 dX8_who_159 (fun q13 => ?_)
  refine s_goto F 187 dX8_who_160 (by decide) ?_
  exact j_X8_who_187 F R (by
        intro a1 a2 a3 a4 a5 a6 a8 a9 σ
        exact hK91 _ _ _ _ _ _ _ _ _) _ _ _ _ _ _ _ _ _
set_option maxRecDepth 20000 in
theorem j_X8_who_112 {G : Gx} {X : Cx} (F : Fx G X cX8_who 10 RX8 4) {o : (Int32 × St)} (R : Ret G X cX8_who 10 (some .int) (some (.int o.1)) o.2) {K91 : Int32 → Int32 → Int32 → Int32 → Int32 → Int32 → Int32 → Int32 → St → Option (Int32 × St)} (hK91 : ∀ (a1 : Int32) (a2 : Int32) (a3 : Int32) (a4 : Int32) (a5 : Int32) (a6 : Int32) (a8 : Int32) (a9 : Int32) (σ : St), Sim G X 10 o (K91 a1 a2 a3 a4 a5 a6 a8 a9 σ) σ 91 [(0, .ref (ga G 25)), (1, .int a1), (2, .int a2), (3, .int a3), (4, .int a4), (5, .int a5), (6, .int a6), (8, .int a8), (9, .int a9)] []) {K224 : Int32 → St → Option (Int32 × St)} (hK224 : ∀ (a8 : Int32) (σ : St), Sim G X 10 o (K224 a8 σ) σ 224 [(8, .int a8)] []) (a1 : Int32) (a2 : Int32) (a3 : Int32) (a4 : Int32) (a5 : Int32) (a6 : Int32) (a8 : Int32) (a9 : Int32) (s0 : Int32) (s1 : Int32) (σ : St) : Sim G X 10 o (J_X8_who_112 K91 K224 a1 a2 a3 a4 a5 a6 a8 a9 s0 s1 σ) σ 112 [(0, .ref (ga G 25)), (1, .int a1), (2, .int a2), (3, .int a3), (4, .int a4), (5, .int a5), (6, .int a6), (8, .int a8), (9, .int a9)] [.int s0, .int s1] := by
  unfold J_X8_who_112
  refine s_icmp_gt F 224 dX8_who_112 (by decide) (fun c17 => ?_) (fun c17 => ?_)
  · refine s_lv [(8, .int a8)] [7] rfl ?_
    exact hK224 _ _
  · refine s_aload_n F 0 dX8_who_115 rfl rfl ?_
    refine s_Vv F [] dX8_who_116 (fun z hz => c_X8_layThen hz) wV_X8_201 nk_X8_layThen (by decide) (by decide) ob_25 vc_7 rfl rfl (Nat.le_of_ble_eq_true rfl) (fun z7 => ?_)
    refine s_iload_n F 2 dX8_who_119 rfl rfl ?_
    refine s_iconst F (nI 2) dX8_who_120 rfl ?_
    refine s_icmp_ne F 163 dX8_who_121 (by decide) (fun c16 => ?_) (fun c16 => ?_)
    · refine s_aload_n F 0 dX8_who_163 rfl rfl ?_
      refine fg_X8_25 F dX8_who_164 ?_
      refine s_bipush F (nI 17) dX8_who_167 rfl ?_
      refine s_bipush F (nI 9) dX8_who_169 rfl ?_
      refine s_iload_n F 1 dX8_who_171 rfl rfl ?_
      refine s_imul F dX8_who_172 ?_
      refine s_iadd F dX8_who_173 ?_
      refine s_iload_n F 2 dX8_who_174 rfl rfl ?_
      refine s_if_ne F 182 dX8_who_175 (by decide) (fun c11 => ?_) (fun c11 => ?_)
      · refine s_iconst F (nI 4) dX8_who_182 rfl ?_
        exact j_X8_who_183 F R (by
              intro a1 a2 a3 a4 a5 a6 a8 a9 σ
              exact hK91 _ _ _ _ _ _ _ _ _) _ _ _ _ _ _ _ _ _ _ _
      · refine s_iconst F (nI 0) dX8_who_178 rfl ?_
        refine s_goto F 183 dX8_who_179 (by decide) ?_
        exact j_X8_who_183 F R (by
              intro a1 a2 a3 a4 a5 a6 a8 a9 σ
              exact hK91 _ _ _ _ _ _ _ _ _) _ _ _ _ _ _ _ _ _ _ _
    · refine s_aload_n F 0 dX8_who_124 rfl rfl ?_
      refine fg_X8_25 F dX8_who_125 ?_
      refine s_iconst F (nI 4) dX8_who_128 rfl ?_
      refine s_iload F 8 dX8_who_129 rfl ?_
      refine s_if_ne F 149 dX8_who_131 (by decide) (fun c15 => ?_) (fun c15 => ?_)
      · refine s_aload_n F 0 dX8_who_149 rfl rfl ?_
        refine fg_X8_25 F dX8_who_150 ?_
        refine s_iconst F (nI 4) dX8_who_153 rfl ?_
        refine s_iald F ar_31 dX8_who_154 (fun q12 => ?_)
        refine s_iconst F (nI 1) dX8_who_155 rfl ?_
        refine s_iload_n F 1 dX8_who_156 rfl rfl ?_
        refine s_ishl F dX8_who_157 ?_
        refine s_ior F dX8_who_158 ?_
        exact j_X8_who_159 F R (by
              intro a1 a2 a3 a4 a5 a6 a8 a9 σ
              exact hK91 _ _ _ _ _ _ _ _ _) _ _ _ _ _ _ _ _ _ _ _
      · refine s_aload_n F 0 dX8_who_134 rfl rfl ?_
        refine fg_X8_25 F dX8_who_135 ?_
        refine s_iconst F (nI 4) dX8_who_138 rfl ?_
        refine s_iald F ar_31 dX8_who_139 (fun q14 => ?_)
        refine s_iconst F (nI 1) dX8_who_140 rfl ?_
        refine s_iload_n F 1 dX8_who_141 rfl rfl ?_
        refine s_ishl F dX8_who_142 ?_
        refine s_iconst F (-1 : Int32) dX8_who_143 rfl ?_
        refine s_ixor F dX8_who_144 ?_
        refine s_iand F dX8_who_145 ?_
        refine s_goto F 159 dX8_who_146 (by decide) ?_
        exact j_X8_who_159 F R (by
              intro a1 a2 a3 a4 a5 a6 a8 a9 σ
              exact hK91 _ _ _ _ _ _ _ _ _) _ _ _ _ _ _ _ _ _ _ _
set_option maxRecDepth 20000 in
theorem l_X8_who_91 {G : Gx} {X : Cx} (F : Fx G X cX8_who 10 RX8 4) {o : (Int32 × St)} (R : Ret G X cX8_who 10 (some .int) (some (.int o.1)) o.2) {K : Int32 → St → Option (Int32 × St)} (hK : ∀ (a8 : Int32) (σ : St), Sim G X 10 o (K a8 σ) σ 224 [(8, .int a8)] []) : ∀ (n : Nat) (a1 : Int32) (a2 : Int32) (a3 : Int32) (a4 : Int32) (a5 : Int32) (a6 : Int32) (a8 : Int32) (a9 : Int32) (σ : St), Sim G X 10 o (L_X8_who_91 K n a1 a2 a3 a4 a5 a6 a8 a9 σ) σ 91 [(0, .ref (ga G 25)), (1, .int a1), (2, .int a2), (3, .int a3), (4, .int a4), (5, .int a5), (6, .int a6), (8, .int a8), (9, .int a9)] [] := by
  intro n
  induction n with
  | zero =>
    intro a1 a2 a3 a4 a5 a6 a8 a9 σ
    exact s_none
  | succ n ih =>
    intro a1 a2 a3 a4 a5 a6 a8 a9 σ
    rw [L_X8_who_91.eq_2]
    refine s_iload F 8 dX8_who_91 rfl ?_
    refine s_iload_n F 2 dX8_who_93 rfl rfl ?_
    refine s_if_ne F 101 dX8_who_94 (by decide) (fun c19 => ?_) (fun c19 => ?_)
    · refine s_iload_n F 2 dX8_who_101 rfl rfl ?_
      refine s_iconst F (nI 1) dX8_who_102 rfl ?_
      refine s_icmp_ne F 111 dX8_who_103 (by decide) (fun c18 => ?_) (fun c18 => ?_)
      · refine s_iconst F (nI 1) dX8_who_111 rfl ?_
        exact j_X8_who_112 F R (by
              intro a1 a2 a3 a4 a5 a6 a8 a9 σ
              exact ih _ _ _ _ _ _ _ _ _) (by
              intro a8 σ
              exact hK _ _) _ _ _ _ _ _ _ _ _ _ _
      · refine s_bipush F (nI 9) dX8_who_106 rfl ?_
        refine s_goto F 112 dX8_who_108 (by decide) ?_
        exact j_X8_who_112 F R (by
              intro a1 a2 a3 a4 a5 a6 a8 a9 σ
              exact ih _ _ _ _ _ _ _ _ _) (by
              intro a8 σ
              exact hK _ _) _ _ _ _ _ _ _ _ _ _ _
    · refine s_iconst F (nI 5) dX8_who_97 rfl ?_
      refine s_goto F 112 dX8_who_98 (by decide) ?_
      exact j_X8_who_112 F R (by
            intro a1 a2 a3 a4 a5 a6 a8 a9 σ
            exact ih _ _ _ _ _ _ _ _ _) (by
            intro a8 σ
            exact hK _ _) _ _ _ _ _ _ _ _ _ _ _
set_option maxRecDepth 20000 in
theorem c_X8_who {G : Gx} {l : Launch} {a1 : Int32} {a2 : Int32} {a3 : Int32} {a4 : Int32} {a5 : Int32} {a6 : Int32} {σ : St} {o : (Int32 × St)} (hF : F_X8_who a1 a2 a3 a4 a5 a6 σ = some o) : Con G l yX8_who cX8_who 10 (some .int) 4 [.ref (ga G 25), .int a1, .int a2, .int a3, .int a4, .int a5, .int a6] σ (some (.int o.1)) o.2 := by
  refine Con.of plX8 (Nat.le_of_ble_eq_true rfl) [(0, .ref (ga G 25)), (1, .int a1), (2, .int a2), (3, .int a3), (4, .int a4), (5, .int a5), (6, .int a6)] rfl (fun X F R => ?_)
  refine (show Sim G X 10 o (F_X8_who a1 a2 a3 a4 a5 a6 σ) σ 0 [(0, .ref (ga G 25)), (1, .int a1), (2, .int a2), (3, .int a3), (4, .int a4), (5, .int a5), (6, .int a6)] [] from ?_) hF
  unfold F_X8_who
  refine s_aload_n F 0 dX8_who_0 rfl rfl ?_
  refine s_iconst F (nI 0) dX8_who_1 rfl ?_
  refine fp_X8_47 F dX8_who_2 ?_
  refine s_aload_n F 0 dX8_who_5 rfl rfl ?_
  refine s_iload_n F 1 dX8_who_6 rfl rfl ?_
  refine s_Vi F [.int a1] dX8_who_7 (fun z hz => c_X8_isPipe hz) wV_X8_191 nk_X8_isPipe (by decide) (by decide) ob_25 vc_7 rfl rfl (Nat.le_of_ble_eq_true rfl) (fun z1 => ?_)
  refine s_if_eq F 54 dX8_who_10 (by decide) (fun c26 => ?_) (fun c26 => ?_)
  · refine s_ldc F dX8_who_54 m_4_41 ?_
    exact s_iret R dX8_who_56
  · refine s_iload_n F 2 dX8_who_13 rfl rfl ?_
    refine s_i2l F dX8_who_14 ?_
    refine s_lconst F (lN 0) dX8_who_15 rfl ?_
    refine s_ldc2 F dX8_who_16 m_4_40 ?_
    refine s_Si F [.long a2.toInt64, .long (lN 0), .long (lN 2)] dX8_who_19 (fun z hz => c_X8_in hz) wS_X8_57 nk_X8_in (by decide) (by decide) rfl rfl (Nat.le_of_ble_eq_true rfl) (fun z2 => ?_)
    refine s_if_eq F 54 dX8_who_22 (by decide) (fun c25 => ?_) (fun c25 => ?_)
    · refine s_ldc F dX8_who_54 m_4_41 ?_
      exact s_iret R dX8_who_56
    · refine s_aload_n F 0 dX8_who_25 rfl rfl ?_
      refine s_iload_n F 3 dX8_who_26 rfl rfl ?_
      refine s_Vi F [.int a3] dX8_who_27 (fun z hz => c_X8_isHorn hz) wV_X8_180 nk_X8_isHorn (by decide) (by decide) ob_25 vc_7 rfl rfl (Nat.le_of_ble_eq_true rfl) (fun z3 => ?_)
      refine s_if_eq F 54 dX8_who_30 (by decide) (fun c24 => ?_) (fun c24 => ?_)
      · refine s_ldc F dX8_who_54 m_4_41 ?_
        exact s_iret R dX8_who_56
      · refine s_iload F 4 dX8_who_33 rfl ?_
        refine s_Si F [.int a4] dX8_who_35 (fun z hz => c_X8_isRow hz) wS_X8_61 nk_X8_isRow (by decide) (by decide) rfl rfl (Nat.le_of_ble_eq_true rfl) (fun z4 => ?_)
        refine s_if_eq F 54 dX8_who_38 (by decide) (fun c23 => ?_) (fun c23 => ?_)
        · refine s_ldc F dX8_who_54 m_4_41 ?_
          exact s_iret R dX8_who_56
        · refine s_iload F 6 dX8_who_41 rfl ?_
          refine s_i2l F dX8_who_43 ?_
          refine s_lconst F (lN 1) dX8_who_44 rfl ?_
          refine s_ldc2 F dX8_who_45 m_5_29 ?_
          refine s_Si F [.long a6.toInt64, .long (lN 1), .long (lN 12)] dX8_who_48 (fun z hz => c_X8_in hz) wS_X8_57 nk_X8_in (by decide) (by decide) rfl rfl (Nat.le_of_ble_eq_true rfl) (fun z5 => ?_)
          refine s_if_ne F 57 dX8_who_51 (by decide) (fun c22 => ?_) (fun c22 => ?_)
          · refine s_aload_n F 0 dX8_who_57 rfl rfl ?_
            refine s_iload F 4 dX8_who_58 rfl ?_
            refine s_iload F 5 dX8_who_60 rfl ?_
            refine s_iload F 6 dX8_who_62 rfl ?_
            refine s_Vi F [.int a4, .int a5, .int a6] dX8_who_64 (fun z hz => c_X8_rowFound hz) wV_X8_220 nk_X8_rowFound (by decide) (by decide) ob_25 vc_7 rfl rfl (Nat.le_of_ble_eq_true rfl) (fun z6 => ?_)
            refine s_istore F [(7, .int z6.1), (0, .ref (ga G 25)), (1, .int a1), (2, .int a2), (3, .int a3), (4, .int a4), (5, .int a5), (6, .int a6)] dX8_who_67 (by decide) rfl ?_
            refine s_iload F 0 dX8_who_69 rfl ?_
            refine s_if_eq F 77 dX8_who_71 (by decide) (fun c21 => ?_) (fun c21 => ?_)
            · refine s_iconst F (nI 0) dX8_who_77 rfl ?_
              refine s_istore F [(8, .int (nI 0)), (7, .int z6.1), (0, .ref (ga G 25)), (1, .int a1), (2, .int a2), (3, .int a3), (4, .int a4), (5, .int a5), (6, .int a6)] dX8_who_78 (by decide) rfl ?_
              refine s_iload_n F 4 dX8_who_80 rfl rfl ?_
              refine s_if_ne F 88 dX8_who_81 (by decide) (fun c20 => ?_) (fun c20 => ?_)
              · refine s_iconst F (nI 0) dX8_who_88 rfl ?_
                refine s_istore F [(9, .int (nI 0)), (8, .int (nI 0)), (7, .int z6.1), (0, .ref (ga G 25)), (1, .int a1), (2, .int a2), (3, .int a3), (4, .int a4), (5, .int a5), (6, .int a6)] dX8_who_89 (by decide) rfl ?_
                refine s_lv [(0, .ref (ga G 25)), (1, .int a1), (2, .int a2), (3, .int a3), (4, .int a4), (5, .int a5), (6, .int a6), (8, .int (nI 0)), (9, .int (nI 0))] [3, 4, 5, 6, 7, 8, 9, 1, 0] rfl ?_
                refine l_X8_who_91 F R (fun a8 σ => ?_) fuel _ _ _ _ _ _ _ _ _
                refine s_iload F 0 dX8_who_224 rfl ?_
                exact s_iret R dX8_who_226
              · refine s_iconst F (nI 1) dX8_who_84 rfl ?_
                refine s_goto F 89 dX8_who_85 (by decide) ?_
                refine s_istore F [(9, .int (nI 1)), (8, .int (nI 0)), (7, .int z6.1), (0, .ref (ga G 25)), (1, .int a1), (2, .int a2), (3, .int a3), (4, .int a4), (5, .int a5), (6, .int a6)] dX8_who_89 (by decide) rfl ?_
                refine s_lv [(0, .ref (ga G 25)), (1, .int a1), (2, .int a2), (3, .int a3), (4, .int a4), (5, .int a5), (6, .int a6), (8, .int (nI 0)), (9, .int (nI 1))] [3, 4, 5, 6, 7, 8, 9, 1, 0] rfl ?_
                refine l_X8_who_91 F R (fun a8 σ => ?_) fuel _ _ _ _ _ _ _ _ _
                refine s_iload F 0 dX8_who_224 rfl ?_
                exact s_iret R dX8_who_226
            · refine s_iload F 0 dX8_who_74 rfl ?_
              exact s_iret R dX8_who_76
          · refine s_ldc F dX8_who_54 m_4_41 ?_
            exact s_iret R dX8_who_56
/-! X8_spoke -/
def L_X8_spoke_99 (K : Int32 → St → Option (Int32 × St)) : Nat → Int32 → Int32 → Int32 → Int32 → Int32 → Int32 → Int32 → St → Option (Int32 × St)
  | 0, _, _, _, _, _, _, _, _ => none
  | n + 1, a1, a2, a3, a4, a5, a7, a8, σ => if ix (nI 0) 80 then if (σ.1 29 (nI 0).toNatClampNeg) ≤ a8 then (K a7 σ) else ((F_X8_layThen σ).bind fun z9 => (F_X8_speech 31 a8 a2 (nI 60) z9).bind fun z10 => (F_X8_hearsSo a1 (((nI 40) * a3) + a4) a5 z10.2).bind fun z11 => if z11.1 = 0 then (L_X8_spoke_99 K n a1 a2 a3 a4 a5 (a7 ||| (nI 0)) (a8 + (nI 1)) z11.2) else (L_X8_spoke_99 K n a1 a2 a3 a4 a5 (a7 ||| ((nI 1) <<< (a8 &&& 31))) (a8 + (nI 1)) z11.2)) else none
def F_X8_spoke (a1 : Int32) (a2 : Int32) (a3 : Int32) (a4 : Int32) (a5 : Int32) (σ : St) : Option (Int32 × St) := (F_X8_isHorn a1 (setF σ 8 (nI 0))).bind fun z1 => if z1.1 = 0 then (some ((-1000001 : Int32), z1.2)) else ((F_X8_in a2.toInt64 (lN 0) (lN 9) z1.2).bind fun z2 => if z2.1 = 0 then (some ((-1000001 : Int32), z2.2)) else ((F_X8_isRow a3 z2.2).bind fun z3 => if z3.1 = 0 then (some ((-1000001 : Int32), z3.2)) else ((F_X8_in a5.toInt64 (lN 1) (lN 12) z3.2).bind fun z4 => if z4.1 = 0 then (some ((-1000001 : Int32), z4.2)) else ((F_X8_rowFound a3 a4 a5 z4.2).bind fun z5 => if z5.1 = 0 then ((F_X8_layThen z5.2).bind fun z6 => (F_X8_hearsSo a1 (((nI 40) * a3) + a4) a5 z6).bind fun z7 => if z7.1 = 0 then (L_X8_spoke_99 (fun a7 σ => some (a7, σ)) fuel a1 a2 a3 a4 a5 (nI 0) (nI 0) z7.2) else (L_X8_spoke_99 (fun a7 σ => some (a7, σ)) fuel a1 a2 a3 a4 a5 (nI 64) (nI 0) z7.2)) else (some (z5.1, z5.2))))))
set_option maxRecDepth 20000 in
theorem l_X8_spoke_99 {G : Gx} {X : Cx} (F : Fx G X cX8_spoke 10 RX8 4) {o : (Int32 × St)} (R : Ret G X cX8_spoke 10 (some .int) (some (.int o.1)) o.2) {K : Int32 → St → Option (Int32 × St)} (hK : ∀ (a7 : Int32) (σ : St), Sim G X 10 o (K a7 σ) σ 164 [(7, .int a7)] []) : ∀ (n : Nat) (a1 : Int32) (a2 : Int32) (a3 : Int32) (a4 : Int32) (a5 : Int32) (a7 : Int32) (a8 : Int32) (σ : St), Sim G X 10 o (L_X8_spoke_99 K n a1 a2 a3 a4 a5 a7 a8 σ) σ 99 [(0, .ref (ga G 25)), (1, .int a1), (2, .int a2), (3, .int a3), (4, .int a4), (5, .int a5), (7, .int a7), (8, .int a8)] [] := by
  intro n
  induction n with
  | zero =>
    intro a1 a2 a3 a4 a5 a7 a8 σ
    exact s_none
  | succ n ih =>
    intro a1 a2 a3 a4 a5 a7 a8 σ
    rw [L_X8_spoke_99.eq_2]
    refine s_iload F 7 dX8_spoke_99 rfl ?_
    refine s_aload_n F 0 dX8_spoke_101 rfl rfl ?_
    refine fg_X8_19 F dX8_spoke_102 ?_
    refine s_iconst F (nI 0) dX8_spoke_105 rfl ?_
    refine s_iald F ar_29 dX8_spoke_106 (fun q8 => ?_)
    refine s_icmp_ge F 164 dX8_spoke_107 (by decide) (fun c13 => ?_) (fun c13 => ?_)
    · refine s_lv [(7, .int a7)] [6] rfl ?_
      exact hK _ _
    · refine s_aload_n F 0 dX8_spoke_110 rfl rfl ?_
      refine s_Vv F [] dX8_spoke_111 (fun z hz => c_X8_layThen hz) wV_X8_201 nk_X8_layThen (by decide) (by decide) ob_25 vc_7 rfl rfl (Nat.le_of_ble_eq_true rfl) (fun z9 => ?_)
      refine s_aload_n F 0 dX8_spoke_114 rfl rfl ?_
      refine fg_X8_25 F dX8_spoke_115 ?_
      refine s_iload F 7 dX8_spoke_118 rfl ?_
      refine s_iload_n F 2 dX8_spoke_120 rfl rfl ?_
      refine s_bipush F (nI 60) dX8_spoke_121 rfl ?_
      refine s_Si F [.ref (ga G 31), .int a8, .int a2, .int (nI 60)] dX8_spoke_123 (fun z hz => c_X8_speech ar_31 hz) wS_X8_187 nk_X8_speech (by decide) (by decide) rfl rfl (Nat.le_of_ble_eq_true rfl) (fun z10 => ?_)
      refine s_istore F [(9, .int z10.1), (0, .ref (ga G 25)), (1, .int a1), (2, .int a2), (3, .int a3), (4, .int a4), (5, .int a5), (7, .int a7), (8, .int a8)] dX8_spoke_126 (by decide) rfl ?_
      refine s_iload F 7 dX8_spoke_128 rfl ?_
      refine s_aload_n F 1 dX8_spoke_130 rfl rfl ?_
      refine s_iload_n F 2 dX8_spoke_131 rfl rfl ?_
      refine s_bipush F (nI 40) dX8_spoke_132 rfl ?_
      refine s_iload_n F 4 dX8_spoke_134 rfl rfl ?_
      refine s_imul F dX8_spoke_135 ?_
      refine s_iload F 5 dX8_spoke_136 rfl ?_
      refine s_iadd F dX8_spoke_138 ?_
      refine s_iload F 6 dX8_spoke_139 rfl ?_
      refine s_Vi F [.int a1, .int (((nI 40) * a3) + a4), .int a5] dX8_spoke_141 (fun z hz => c_X8_hearsSo hz) wV_X8_224 nk_X8_hearsSo (by decide) (by decide) ob_25 vc_7 rfl rfl (Nat.le_of_ble_eq_true rfl) (fun z11 => ?_)
      refine s_if_eq F 154 dX8_spoke_144 (by decide) (fun c12 => ?_) (fun c12 => ?_)
      · refine s_iconst F (nI 0) dX8_spoke_154 rfl ?_
        refine s_ior F dX8_spoke_155 ?_
        refine s_istore F [(7, .int (a7 ||| (nI 0))), (9, .int z10.1), (0, .ref (ga G 25)), (1, .int a1), (2, .int a2), (3, .int a3), (4, .int a4), (5, .int a5), (8, .int a8)] dX8_spoke_156 (by decide) rfl ?_
        refine s_iinc F 8 [(8, .int (a8 + (nI 1))), (7, .int (a7 ||| (nI 0))), (9, .int z10.1), (0, .ref (ga G 25)), (1, .int a1), (2, .int a2), (3, .int a3), (4, .int a4), (5, .int a5)] dX8_spoke_158 rfl rfl (by decide) rfl ?_
        refine s_goto F 99 dX8_spoke_161 (by decide) ?_
        refine s_lv [(0, .ref (ga G 25)), (1, .int a1), (2, .int a2), (3, .int a3), (4, .int a4), (5, .int a5), (7, .int (a7 ||| (nI 0))), (8, .int (a8 + (nI 1)))] [3, 4, 5, 6, 7, 8, 1, 0] rfl ?_
        exact ih _ _ _ _ _ _ _ _
      · refine s_iconst F (nI 1) dX8_spoke_147 rfl ?_
        refine s_iload F 8 dX8_spoke_148 rfl ?_
        refine s_ishl F dX8_spoke_150 ?_
        refine s_goto F 155 dX8_spoke_151 (by decide) ?_
        refine s_ior F dX8_spoke_155 ?_
        refine s_istore F [(7, .int (a7 ||| ((nI 1) <<< (a8 &&& 31)))), (9, .int z10.1), (0, .ref (ga G 25)), (1, .int a1), (2, .int a2), (3, .int a3), (4, .int a4), (5, .int a5), (8, .int a8)] dX8_spoke_156 (by decide) rfl ?_
        refine s_iinc F 8 [(8, .int (a8 + (nI 1))), (7, .int (a7 ||| ((nI 1) <<< (a8 &&& 31)))), (9, .int z10.1), (0, .ref (ga G 25)), (1, .int a1), (2, .int a2), (3, .int a3), (4, .int a4), (5, .int a5)] dX8_spoke_158 rfl rfl (by decide) rfl ?_
        refine s_goto F 99 dX8_spoke_161 (by decide) ?_
        refine s_lv [(0, .ref (ga G 25)), (1, .int a1), (2, .int a2), (3, .int a3), (4, .int a4), (5, .int a5), (7, .int (a7 ||| ((nI 1) <<< (a8 &&& 31)))), (8, .int (a8 + (nI 1)))] [3, 4, 5, 6, 7, 8, 1, 0] rfl ?_
        exact ih _ _ _ _ _ _ _ _
set_option maxRecDepth 20000 in
theorem c_X8_spoke {G : Gx} {l : Launch} {a1 : Int32} {a2 : Int32} {a3 : Int32} {a4 : Int32} {a5 : Int32} {σ : St} {o : (Int32 × St)} (hF : F_X8_spoke a1 a2 a3 a4 a5 σ = some o) : Con G l yX8_spoke cX8_spoke 10 (some .int) 4 [.ref (ga G 25), .int a1, .int a2, .int a3, .int a4, .int a5] σ (some (.int o.1)) o.2 := by
  refine Con.of plX8 (Nat.le_of_ble_eq_true rfl) [(0, .ref (ga G 25)), (1, .int a1), (2, .int a2), (3, .int a3), (4, .int a4), (5, .int a5)] rfl (fun X F R => ?_)
  refine (show Sim G X 10 o (F_X8_spoke a1 a2 a3 a4 a5 σ) σ 0 [(0, .ref (ga G 25)), (1, .int a1), (2, .int a2), (3, .int a3), (4, .int a4), (5, .int a5)] [] from ?_) hF
  unfold F_X8_spoke
  refine s_aload_n F 0 dX8_spoke_0 rfl rfl ?_
  refine s_iconst F (nI 0) dX8_spoke_1 rfl ?_
  refine fp_X8_47 F dX8_spoke_2 ?_
  refine s_aload_n F 0 dX8_spoke_5 rfl rfl ?_
  refine s_iload_n F 1 dX8_spoke_6 rfl rfl ?_
  refine s_Vi F [.int a1] dX8_spoke_7 (fun z hz => c_X8_isHorn hz) wV_X8_180 nk_X8_isHorn (by decide) (by decide) ob_25 vc_7 rfl rfl (Nat.le_of_ble_eq_true rfl) (fun z1 => ?_)
  refine s_if_eq F 45 dX8_spoke_10 (by decide) (fun c19 => ?_) (fun c19 => ?_)
  · refine s_ldc F dX8_spoke_45 m_4_41 ?_
    exact s_iret R dX8_spoke_47
  · refine s_iload_n F 2 dX8_spoke_13 rfl rfl ?_
    refine s_i2l F dX8_spoke_14 ?_
    refine s_lconst F (lN 0) dX8_spoke_15 rfl ?_
    refine s_ldc2 F dX8_spoke_16 m_4_157 ?_
    refine s_Si F [.long a2.toInt64, .long (lN 0), .long (lN 9)] dX8_spoke_19 (fun z hz => c_X8_in hz) wS_X8_57 nk_X8_in (by decide) (by decide) rfl rfl (Nat.le_of_ble_eq_true rfl) (fun z2 => ?_)
    refine s_if_eq F 45 dX8_spoke_22 (by decide) (fun c18 => ?_) (fun c18 => ?_)
    · refine s_ldc F dX8_spoke_45 m_4_41 ?_
      exact s_iret R dX8_spoke_47
    · refine s_iload_n F 3 dX8_spoke_25 rfl rfl ?_
      refine s_Si F [.int a3] dX8_spoke_26 (fun z hz => c_X8_isRow hz) wS_X8_61 nk_X8_isRow (by decide) (by decide) rfl rfl (Nat.le_of_ble_eq_true rfl) (fun z3 => ?_)
      refine s_if_eq F 45 dX8_spoke_29 (by decide) (fun c17 => ?_) (fun c17 => ?_)
      · refine s_ldc F dX8_spoke_45 m_4_41 ?_
        exact s_iret R dX8_spoke_47
      · refine s_iload F 5 dX8_spoke_32 rfl ?_
        refine s_i2l F dX8_spoke_34 ?_
        refine s_lconst F (lN 1) dX8_spoke_35 rfl ?_
        refine s_ldc2 F dX8_spoke_36 m_5_29 ?_
        refine s_Si F [.long a5.toInt64, .long (lN 1), .long (lN 12)] dX8_spoke_39 (fun z hz => c_X8_in hz) wS_X8_57 nk_X8_in (by decide) (by decide) rfl rfl (Nat.le_of_ble_eq_true rfl) (fun z4 => ?_)
        refine s_if_ne F 48 dX8_spoke_42 (by decide) (fun c16 => ?_) (fun c16 => ?_)
        · refine s_aload_n F 0 dX8_spoke_48 rfl rfl ?_
          refine s_iload_n F 3 dX8_spoke_49 rfl rfl ?_
          refine s_iload F 4 dX8_spoke_50 rfl ?_
          refine s_iload F 5 dX8_spoke_52 rfl ?_
          refine s_Vi F [.int a3, .int a4, .int a5] dX8_spoke_54 (fun z hz => c_X8_rowFound hz) wV_X8_220 nk_X8_rowFound (by decide) (by decide) ob_25 vc_7 rfl rfl (Nat.le_of_ble_eq_true rfl) (fun z5 => ?_)
          refine s_istore F [(6, .int z5.1), (0, .ref (ga G 25)), (1, .int a1), (2, .int a2), (3, .int a3), (4, .int a4), (5, .int a5)] dX8_spoke_57 (by decide) rfl ?_
          refine s_iload F 0 dX8_spoke_59 rfl ?_
          refine s_if_eq F 67 dX8_spoke_61 (by decide) (fun c15 => ?_) (fun c15 => ?_)
          · refine s_aload_n F 1 dX8_spoke_67 rfl rfl ?_
            refine s_Vv F [] dX8_spoke_68 (fun z hz => c_X8_layThen hz) wV_X8_201 nk_X8_layThen (by decide) (by decide) ob_25 vc_7 rfl rfl (Nat.le_of_ble_eq_true rfl) (fun z6 => ?_)
            refine s_aload_n F 1 dX8_spoke_71 rfl rfl ?_
            refine s_iload_n F 2 dX8_spoke_72 rfl rfl ?_
            refine s_bipush F (nI 40) dX8_spoke_73 rfl ?_
            refine s_iload_n F 4 dX8_spoke_75 rfl rfl ?_
            refine s_imul F dX8_spoke_76 ?_
            refine s_iload F 5 dX8_spoke_77 rfl ?_
            refine s_iadd F dX8_spoke_79 ?_
            refine s_iload F 6 dX8_spoke_80 rfl ?_
            refine s_Vi F [.int a1, .int (((nI 40) * a3) + a4), .int a5] dX8_spoke_82 (fun z hz => c_X8_hearsSo hz) wV_X8_224 nk_X8_hearsSo (by decide) (by decide) ob_25 vc_7 rfl rfl (Nat.le_of_ble_eq_true rfl) (fun z7 => ?_)
            refine s_if_eq F 93 dX8_spoke_85 (by decide) (fun c14 => ?_) (fun c14 => ?_)
            · refine s_iconst F (nI 0) dX8_spoke_93 rfl ?_
              refine s_istore F [(7, .int (nI 0)), (6, .int z5.1), (0, .ref (ga G 25)), (1, .int a1), (2, .int a2), (3, .int a3), (4, .int a4), (5, .int a5)] dX8_spoke_94 (by decide) rfl ?_
              refine s_iconst F (nI 0) dX8_spoke_96 rfl ?_
              refine s_istore F [(8, .int (nI 0)), (7, .int (nI 0)), (6, .int z5.1), (0, .ref (ga G 25)), (1, .int a1), (2, .int a2), (3, .int a3), (4, .int a4), (5, .int a5)] dX8_spoke_97 (by decide) rfl ?_
              refine s_lv [(0, .ref (ga G 25)), (1, .int a1), (2, .int a2), (3, .int a3), (4, .int a4), (5, .int a5), (7, .int (nI 0)), (8, .int (nI 0))] [3, 4, 5, 6, 7, 8, 1, 0] rfl ?_
              refine l_X8_spoke_99 F R (fun a7 σ => ?_) fuel _ _ _ _ _ _ _ _
              refine s_iload F 0 dX8_spoke_164 rfl ?_
              exact s_iret R dX8_spoke_166
            · refine s_bipush F (nI 64) dX8_spoke_88 rfl ?_
              refine s_goto F 94 dX8_spoke_90 (by decide) ?_
              refine s_istore F [(7, .int (nI 64)), (6, .int z5.1), (0, .ref (ga G 25)), (1, .int a1), (2, .int a2), (3, .int a3), (4, .int a4), (5, .int a5)] dX8_spoke_94 (by decide) rfl ?_
              refine s_iconst F (nI 0) dX8_spoke_96 rfl ?_
              refine s_istore F [(8, .int (nI 0)), (7, .int (nI 64)), (6, .int z5.1), (0, .ref (ga G 25)), (1, .int a1), (2, .int a2), (3, .int a3), (4, .int a4), (5, .int a5)] dX8_spoke_97 (by decide) rfl ?_
              refine s_lv [(0, .ref (ga G 25)), (1, .int a1), (2, .int a2), (3, .int a3), (4, .int a4), (5, .int a5), (7, .int (nI 64)), (8, .int (nI 0))] [3, 4, 5, 6, 7, 8, 1, 0] rfl ?_
              refine l_X8_spoke_99 F R (fun a7 σ => ?_) fuel _ _ _ _ _ _ _ _
              refine s_iload F 0 dX8_spoke_164 rfl ?_
              exact s_iret R dX8_spoke_166
          · refine s_iload F 0 dX8_spoke_64 rfl ?_
            exact s_iret R dX8_spoke_66
        · refine s_ldc F dX8_spoke_45 m_4_41 ?_
          exact s_iret R dX8_spoke_47
/-! X8_cold -/
def L_X8_cold_55 (K : Int32 → Int32 → Int32 → St → Option (Int32 × St)) : Nat → Int32 → Int32 → Int32 → Int32 → St → Option (Int32 × St)
  | 0, _, _, _, _, _ => none
  | n + 1, a1, a2, a3, a4, σ => if ix (nI 2) 80 then if (σ.1 29 (nI 2).toNatClampNeg) ≤ a4 then (K a1 a2 a3 σ) else ((F_X8_soundsIn 31 a4 σ).bind fun z6 => if z6.1 ≤ 0 then (L_X8_cold_55 K n a1 (a2 &&& (-1 : Int32)) a3 (a4 + (nI 1)) z6.2) else (L_X8_cold_55 K n a1 (a2 &&& (((nI 1) <<< (a4 &&& 31)) ^^^ (-1 : Int32))) a3 (a4 + (nI 1)) z6.2)) else none
def L_X8_cold_47 (K : Int32 → St → Option (Int32 × St)) : Nat → Int32 → Int32 → Int32 → St → Option (Int32 × St)
  | 0, _, _, _, _ => none
  | n + 1, a1, a2, a3, σ => if a1 < a3 then (K a2 σ) else (L_X8_cold_55 (fun a1 a2 a3 σ => (F_X8_breath 31 σ).bind fun z9 => L_X8_cold_47 K n a1 a2 (a3 + (nI 1)) z9.2) fuel a1 a2 a3 (nI 0) σ)
def F_X8_cold (a1 : Int32) (σ : St) : Option (Int32 × St) := (F_X8_isThere (setF σ 8 (nI 0))).bind fun z1 => if z1.1 = 0 then (some ((-1000002 : Int32), z1.2)) else ((F_X8_in a1.toInt64 (lN 1) (lN 60) z1.2).bind fun z2 => if z2.1 = 0 then (some ((-1000001 : Int32), z2.2)) else ((F_X8_layThen z2.2).bind fun z3 => if ix (nI 2) 80 then L_X8_cold_47 (fun a2 σ => some (a2, σ)) fuel a1 (((nI 1) <<< ((z3.1 29 (nI 2).toNatClampNeg) &&& 31)) - (nI 1)) (nI 0) z3 else none))
set_option maxRecDepth 20000 in
theorem l_X8_cold_55 {G : Gx} {X : Cx} (F : Fx G X cX8_cold 5 RX8 3) {o : (Int32 × St)} (R : Ret G X cX8_cold 5 (some .int) (some (.int o.1)) o.2) {K : Int32 → Int32 → Int32 → St → Option (Int32 × St)} (hK : ∀ (a1 : Int32) (a2 : Int32) (a3 : Int32) (σ : St), Sim G X 5 o (K a1 a2 a3 σ) σ 97 [(0, .ref (ga G 25)), (1, .int a1), (2, .int a2), (3, .int a3)] []) : ∀ (n : Nat) (a1 : Int32) (a2 : Int32) (a3 : Int32) (a4 : Int32) (σ : St), Sim G X 5 o (L_X8_cold_55 K n a1 a2 a3 a4 σ) σ 55 [(0, .ref (ga G 25)), (1, .int a1), (2, .int a2), (3, .int a3), (4, .int a4)] [] := by
  intro n
  induction n with
  | zero =>
    intro a1 a2 a3 a4 σ
    exact s_none
  | succ n ih =>
    intro a1 a2 a3 a4 σ
    rw [L_X8_cold_55.eq_2]
    refine s_iload F 4 dX8_cold_55 rfl ?_
    refine s_aload_n F 0 dX8_cold_57 rfl rfl ?_
    refine fg_X8_19 F dX8_cold_58 ?_
    refine s_iconst F (nI 2) dX8_cold_61 rfl ?_
    refine s_iald F ar_29 dX8_cold_62 (fun q5 => ?_)
    refine s_icmp_ge F 97 dX8_cold_63 (by decide) (fun c8 => ?_) (fun c8 => ?_)
    · refine s_lv [(0, .ref (ga G 25)), (1, .int a1), (2, .int a2), (3, .int a3)] [0, 1, 2, 3] rfl ?_
      exact hK _ _ _ _
    · refine s_iload_n F 2 dX8_cold_66 rfl rfl ?_
      refine s_aload_n F 0 dX8_cold_67 rfl rfl ?_
      refine fg_X8_25 F dX8_cold_68 ?_
      refine s_iload F 4 dX8_cold_71 rfl ?_
      refine s_Si F [.ref (ga G 31), .int a4] dX8_cold_73 (fun z hz => c_X8_soundsIn ar_31 hz) wS_X8_161 nk_X8_soundsIn (by decide) (by decide) rfl rfl (Nat.le_of_ble_eq_true rfl) (fun z6 => ?_)
      refine s_if_le F 88 dX8_cold_76 (by decide) (fun c7 => ?_) (fun c7 => ?_)
      · refine s_iconst F (-1 : Int32) dX8_cold_88 rfl ?_
        refine s_iand F dX8_cold_89 ?_
        refine s_istore_n F [(2, .int (a2 &&& (-1 : Int32))), (0, .ref (ga G 25)), (1, .int a1), (3, .int a3), (4, .int a4)] dX8_cold_90 rfl (by decide) rfl ?_
        refine s_iinc F 4 [(4, .int (a4 + (nI 1))), (2, .int (a2 &&& (-1 : Int32))), (0, .ref (ga G 25)), (1, .int a1), (3, .int a3)] dX8_cold_91 rfl rfl (by decide) rfl ?_
        refine s_goto F 55 dX8_cold_94 (by decide) ?_
        refine s_lv [(0, .ref (ga G 25)), (1, .int a1), (2, .int (a2 &&& (-1 : Int32))), (3, .int a3), (4, .int (a4 + (nI 1)))] [2, 3, 1, 4, 0] rfl ?_
        exact ih _ _ _ _ _
      · refine s_iconst F (nI 1) dX8_cold_79 rfl ?_
        refine s_iload F 4 dX8_cold_80 rfl ?_
        refine s_ishl F dX8_cold_82 ?_
        refine s_iconst F (-1 : Int32) dX8_cold_83 rfl ?_
        refine s_ixor F dX8_cold_84 ?_
        refine s_goto F 89 dX8_cold_85 (by decide) ?_
        refine s_iand F dX8_cold_89 ?_
        refine s_istore_n F [(2, .int (a2 &&& (((nI 1) <<< (a4 &&& 31)) ^^^ (-1 : Int32)))), (0, .ref (ga G 25)), (1, .int a1), (3, .int a3), (4, .int a4)] dX8_cold_90 rfl (by decide) rfl ?_
        refine s_iinc F 4 [(4, .int (a4 + (nI 1))), (2, .int (a2 &&& (((nI 1) <<< (a4 &&& 31)) ^^^ (-1 : Int32)))), (0, .ref (ga G 25)), (1, .int a1), (3, .int a3)] dX8_cold_91 rfl rfl (by decide) rfl ?_
        refine s_goto F 55 dX8_cold_94 (by decide) ?_
        refine s_lv [(0, .ref (ga G 25)), (1, .int a1), (2, .int (a2 &&& (((nI 1) <<< (a4 &&& 31)) ^^^ (-1 : Int32)))), (3, .int a3), (4, .int (a4 + (nI 1)))] [2, 3, 1, 4, 0] rfl ?_
        exact ih _ _ _ _ _
set_option maxRecDepth 20000 in
theorem l_X8_cold_47 {G : Gx} {X : Cx} (F : Fx G X cX8_cold 5 RX8 3) {o : (Int32 × St)} (R : Ret G X cX8_cold 5 (some .int) (some (.int o.1)) o.2) {K : Int32 → St → Option (Int32 × St)} (hK : ∀ (a2 : Int32) (σ : St), Sim G X 5 o (K a2 σ) σ 113 [(2, .int a2)] []) : ∀ (n : Nat) (a1 : Int32) (a2 : Int32) (a3 : Int32) (σ : St), Sim G X 5 o (L_X8_cold_47 K n a1 a2 a3 σ) σ 47 [(0, .ref (ga G 25)), (1, .int a1), (2, .int a2), (3, .int a3)] [] := by
  intro n
  induction n with
  | zero =>
    intro a1 a2 a3 σ
    exact s_none
  | succ n ih =>
    intro a1 a2 a3 σ
    rw [L_X8_cold_47.eq_2]
    refine s_iload_n F 3 dX8_cold_47 rfl rfl ?_
    refine s_iload_n F 1 dX8_cold_48 rfl rfl ?_
    refine s_icmp_gt F 113 dX8_cold_49 (by decide) (fun c10 => ?_) (fun c10 => ?_)
    · refine s_lv [(2, .int a2)] [2] rfl ?_
      exact hK _ _
    · refine s_iconst F (nI 0) dX8_cold_52 rfl ?_
      refine s_istore F [(4, .int (nI 0)), (0, .ref (ga G 25)), (1, .int a1), (2, .int a2), (3, .int a3)] dX8_cold_53 (by decide) rfl ?_
      refine s_lv [(0, .ref (ga G 25)), (1, .int a1), (2, .int a2), (3, .int a3), (4, .int (nI 0))] [1, 2, 3, 4, 0] rfl ?_
      refine l_X8_cold_55 F R (fun a1 a2 a3 σ => ?_) fuel _ _ _ _ _
      refine s_aload_n F 0 dX8_cold_97 rfl rfl ?_
      refine s_aload_n F 0 dX8_cold_98 rfl rfl ?_
      refine fg_X8_25 F dX8_cold_99 ?_
      refine s_Vi F [.ref (ga G 31)] dX8_cold_102 (fun z hz => c_X8_breath ar_31 hz) wV_X8_168 nk_X8_breath (by decide) (by decide) ob_25 vc_7 rfl rfl (Nat.le_of_ble_eq_true rfl) (fun z9 => ?_)
      refine s_istore F [(4, .int z9.1), (0, .ref (ga G 25)), (1, .int a1), (2, .int a2), (3, .int a3)] dX8_cold_105 (by decide) rfl ?_
      refine s_iinc F 4 [(3, .int (a3 + (nI 1))), (4, .int z9.1), (0, .ref (ga G 25)), (1, .int a1), (2, .int a2)] dX8_cold_107 rfl rfl (by decide) rfl ?_
      refine s_goto F 47 dX8_cold_110 (by decide) ?_
      refine s_lv [(0, .ref (ga G 25)), (1, .int a1), (2, .int a2), (3, .int (a3 + (nI 1)))] [2, 3, 4, 0] rfl ?_
      exact ih _ _ _ _
set_option maxRecDepth 20000 in
theorem c_X8_cold {G : Gx} {l : Launch} {a1 : Int32} {σ : St} {o : (Int32 × St)} (hF : F_X8_cold a1 σ = some o) : Con G l yX8_cold cX8_cold 5 (some .int) 3 [.ref (ga G 25), .int a1] σ (some (.int o.1)) o.2 := by
  refine Con.of plX8 (Nat.le_of_ble_eq_true rfl) [(0, .ref (ga G 25)), (1, .int a1)] rfl (fun X F R => ?_)
  refine (show Sim G X 5 o (F_X8_cold a1 σ) σ 0 [(0, .ref (ga G 25)), (1, .int a1)] [] from ?_) hF
  unfold F_X8_cold
  refine s_aload_n F 0 dX8_cold_0 rfl rfl ?_
  refine s_iconst F (nI 0) dX8_cold_1 rfl ?_
  refine fp_X8_47 F dX8_cold_2 ?_
  refine s_aload_n F 0 dX8_cold_5 rfl rfl ?_
  refine s_Vi F [] dX8_cold_6 (fun z hz => c_X8_isThere hz) wV_X8_171 nk_X8_isThere (by decide) (by decide) ob_25 vc_7 rfl rfl (Nat.le_of_ble_eq_true rfl) (fun z1 => ?_)
  refine s_if_ne F 15 dX8_cold_9 (by decide) (fun c12 => ?_) (fun c12 => ?_)
  · refine s_iload_n F 1 dX8_cold_15 rfl rfl ?_
    refine s_i2l F dX8_cold_16 ?_
    refine s_lconst F (lN 1) dX8_cold_17 rfl ?_
    refine s_ldc2 F dX8_cold_18 m_4_208 ?_
    refine s_Si F [.long a1.toInt64, .long (lN 1), .long (lN 60)] dX8_cold_21 (fun z hz => c_X8_in hz) wS_X8_57 nk_X8_in (by decide) (by decide) rfl rfl (Nat.le_of_ble_eq_true rfl) (fun z2 => ?_)
    refine s_if_ne F 30 dX8_cold_24 (by decide) (fun c11 => ?_) (fun c11 => ?_)
    · refine s_aload_n F 0 dX8_cold_30 rfl rfl ?_
      refine s_Vv F [] dX8_cold_31 (fun z hz => c_X8_layThen hz) wV_X8_201 nk_X8_layThen (by decide) (by decide) ob_25 vc_7 rfl rfl (Nat.le_of_ble_eq_true rfl) (fun z3 => ?_)
      refine s_iconst F (nI 1) dX8_cold_34 rfl ?_
      refine s_aload_n F 0 dX8_cold_35 rfl rfl ?_
      refine fg_X8_19 F dX8_cold_36 ?_
      refine s_iconst F (nI 2) dX8_cold_39 rfl ?_
      refine s_iald F ar_29 dX8_cold_40 (fun q4 => ?_)
      refine s_ishl F dX8_cold_41 ?_
      refine s_iconst F (nI 1) dX8_cold_42 rfl ?_
      refine s_isub F dX8_cold_43 ?_
      refine s_istore_n F [(2, .int (((nI 1) <<< ((z3.1 29 (nI 2).toNatClampNeg) &&& 31)) - (nI 1))), (0, .ref (ga G 25)), (1, .int a1)] dX8_cold_44 rfl (by decide) rfl ?_
      refine s_iconst F (nI 0) dX8_cold_45 rfl ?_
      refine s_istore_n F [(3, .int (nI 0)), (2, .int (((nI 1) <<< ((z3.1 29 (nI 2).toNatClampNeg) &&& 31)) - (nI 1))), (0, .ref (ga G 25)), (1, .int a1)] dX8_cold_46 rfl (by decide) rfl ?_
      refine s_lv [(0, .ref (ga G 25)), (1, .int a1), (2, .int (((nI 1) <<< ((z3.1 29 (nI 2).toNatClampNeg) &&& 31)) - (nI 1))), (3, .int (nI 0))] [2, 3, 1, 0] rfl ?_
      refine l_X8_cold_47 F R (fun a2 σ => ?_) fuel _ _ _ _
      refine s_iload_n F 0 dX8_cold_113 rfl rfl ?_
      exact s_iret R dX8_cold_114
    · refine s_ldc F dX8_cold_27 m_4_41 ?_
      exact s_iret R dX8_cold_29
  · refine s_ldc F dX8_cold_12 m_4_130 ?_
    exact s_iret R dX8_cold_14
/-! X8_stuck -/
def L_X8_stuck_92 (K : Int32 → Int32 → Int32 → Int32 → Int64 → Int64 → Int32 → Int64 → St → Option (Int64 × St)) : Nat → Int32 → Int32 → Int32 → Int32 → Int64 → Int64 → Int32 → Int64 → Int32 → St → Option (Int64 × St)
  | 0, _, _, _, _, _, _, _, _, _, _ => none
  | n + 1, a1, a2, a3, a4, a5, a7, a9, a10, a12, σ => if ix (nI 2) 80 then if (σ.1 29 (nI 2).toNatClampNeg) ≤ a12 then (K a1 a2 a3 a4 a5 a7 a9 a10 σ) else (if ix (nI 4) 80 then (F_X8_has (σ.1 29 (nI 4).toNatClampNeg) a12 σ).bind fun z9 => if z9.1 = 0 then (L_X8_stuck_92 K n a1 a2 a3 a4 a5 a7 a9 (a10 * (lN 1)) (a12 + (nI 1)) z9.2) else ((F_X8_has a9 a12 z9.2).bind fun z10 => if z10.1 = 0 then (L_X8_stuck_92 K n a1 a2 a3 a4 a5 a7 a9 (a10 * ((lN 10) - a3.toInt64)) (a12 + (nI 1)) z10.2) else (L_X8_stuck_92 K n a1 a2 a3 a4 a5 a7 a9 (a10 * a3.toInt64) (a12 + (nI 1)) z10.2)) else none) else none
def L_X8_stuck_61 (K : Int32 → Int64 → Int64 → St → Option (Int64 × St)) : Nat → Int32 → Int32 → Int32 → Int32 → Int64 → Int64 → Int32 → St → Option (Int64 × St)
  | 0, _, _, _, _, _, _, _, _ => none
  | n + 1, a1, a2, a3, a4, a5, a7, a9, σ => if ix (nI 4) 80 then if (σ.1 29 (nI 4).toNatClampNeg) < a9 then (K a4 a5 a7 σ) else (if ix (nI 4) 80 then if (a9 &&& ((σ.1 29 (nI 4).toNatClampNeg) ^^^ (-1 : Int32))) = 0 then (L_X8_stuck_92 (fun a1 a2 a3 a4 a5 a7 a9 a10 σ => (F_X8_layThen σ).bind fun z14 => if ix (nI 4) 80 then if ix (nI 4) 80 then (F_X8_hearersIn a2 (setA z14 31 (nI 4).toNatClampNeg ((z14.1 31 (nI 4).toNatClampNeg) &&& (a9 ^^^ (-1 : Int32))))).bind fun z17 => (F_X8_has z17.1 a1 z17.2).bind fun z18 => if z18.1 = 0 then (L_X8_stuck_61 K n a1 a2 a3 a4 (a5 + (lN 0)) (a7 + a10) (a9 + (nI 1)) z18.2) else (L_X8_stuck_61 K n a1 a2 a3 a4 (a5 + a10) (a7 + a10) (a9 + (nI 1)) z18.2) else none else none) fuel a1 a2 a3 a4 a5 a7 a9 (lN 1) (nI 0) σ) else (L_X8_stuck_61 K n a1 a2 a3 a4 a5 a7 (a9 + (nI 1)) σ) else none) else none
def L_X8_stuck_214 (K : Int32 → Int64 → Int64 → Int64 → St → Option (Int64 × St)) : Nat → Int32 → Int64 → Int64 → Int64 → Int64 → St → Option (Int64 × St)
  | 0, _, _, _, _, _, _ => none
  | n + 1, a4, a5, a7, a9, a11, σ => if (lg_cmp a11 (lN 0)) = 0 then (K a4 a5 a7 a9 σ) else (if ¬ a11 = 0 then L_X8_stuck_214 K n a4 a5 a7 a11 (a9 - a9 / a11 * a11) σ else none)
def F_X8_stuck (a1 : Int32) (a2 : Int32) (a3 : Int32) (a4 : Int32) (σ : St) : Option (Int64 × St) := (F_X8_isHorn a1 (setF σ 8 (nI 0))).bind fun z1 => if z1.1 = 0 then (some ((-1000001 : Int64), z1.2)) else ((F_X8_in a2.toInt64 (lN 1) (lN 30) z1.2).bind fun z2 => if z2.1 = 0 then (some ((-1000001 : Int64), z2.2)) else ((F_X8_in a3.toInt64 (lN 0) (lN 10) z2.2).bind fun z3 => if z3.1 = 0 then (some ((-1000001 : Int64), z3.2)) else ((F_X8_in a4.toInt64 (lN 0) (lN 1) z3.2).bind fun z4 => if z4.1 = 0 then (some ((-1000001 : Int64), z4.2)) else (L_X8_stuck_61 (fun a4 a5 a7 σ => L_X8_stuck_214 (fun a4 a5 a7 a9 σ => if a4 = 0 then (if ¬ a9 = 0 then some (a5 / a9, σ) else none) else (if ¬ a9 = 0 then some (a7 / a9, σ) else none)) fuel a4 a5 a7 a5 a7 σ) fuel a1 a2 a3 a4 (lN 0) (lN 0) (nI 0) z4.2))))
set_option maxRecDepth 20000 in
theorem l_X8_stuck_92 {G : Gx} {X : Cx} (F : Fx G X cX8_stuck 15 RX8 4) {o : (Int64 × St)} (R : Ret G X cX8_stuck 15 (some .long) (some (.long o.1)) o.2) {K : Int32 → Int32 → Int32 → Int32 → Int64 → Int64 → Int32 → Int64 → St → Option (Int64 × St)} (hK : ∀ (a1 : Int32) (a2 : Int32) (a3 : Int32) (a4 : Int32) (a5 : Int64) (a7 : Int64) (a9 : Int32) (a10 : Int64) (σ : St), Sim G X 15 o (K a1 a2 a3 a4 a5 a7 a9 a10 σ) σ 153 [(0, .ref (ga G 25)), (1, .int a1), (2, .int a2), (3, .int a3), (4, .int a4), (5, .long a5), (7, .long a7), (9, .int a9), (10, .long a10)] []) : ∀ (n : Nat) (a1 : Int32) (a2 : Int32) (a3 : Int32) (a4 : Int32) (a5 : Int64) (a7 : Int64) (a9 : Int32) (a10 : Int64) (a12 : Int32) (σ : St), Sim G X 15 o (L_X8_stuck_92 K n a1 a2 a3 a4 a5 a7 a9 a10 a12 σ) σ 92 [(0, .ref (ga G 25)), (1, .int a1), (2, .int a2), (3, .int a3), (4, .int a4), (5, .long a5), (7, .long a7), (9, .int a9), (10, .long a10), (12, .int a12)] [] := by
  intro n
  induction n with
  | zero =>
    intro a1 a2 a3 a4 a5 a7 a9 a10 a12 σ
    exact s_none
  | succ n ih =>
    intro a1 a2 a3 a4 a5 a7 a9 a10 a12 σ
    rw [L_X8_stuck_92.eq_2]
    refine s_iload F 9 dX8_stuck_92 rfl ?_
    refine s_aload_n F 0 dX8_stuck_94 rfl rfl ?_
    refine fg_X8_19 F dX8_stuck_95 ?_
    refine s_iconst F (nI 2) dX8_stuck_98 rfl ?_
    refine s_iald F ar_29 dX8_stuck_99 (fun q7 => ?_)
    refine s_icmp_ge F 153 dX8_stuck_100 (by decide) (fun c13 => ?_) (fun c13 => ?_)
    · refine s_lv [(0, .ref (ga G 25)), (1, .int a1), (2, .int a2), (3, .int a3), (4, .int a4), (5, .long a5), (7, .long a7), (9, .int a9), (10, .long a10)] [0, 1, 2, 3, 4, 5, 6, 7, 8] rfl ?_
      exact hK _ _ _ _ _ _ _ _ _
    · refine s_lload F 8 dX8_stuck_103 rfl ?_
      refine s_aload_n F 0 dX8_stuck_105 rfl rfl ?_
      refine fg_X8_19 F dX8_stuck_106 ?_
      refine s_iconst F (nI 4) dX8_stuck_109 rfl ?_
      refine s_iald F ar_29 dX8_stuck_110 (fun q8 => ?_)
      refine s_iload F 9 dX8_stuck_111 rfl ?_
      refine s_Si F [.int (σ.1 29 (nI 4).toNatClampNeg), .int a12] dX8_stuck_113 (fun z hz => c_X8_has hz) wS_X8_157 nk_X8_has (by decide) (by decide) rfl rfl (Nat.le_of_ble_eq_true rfl) (fun z9 => ?_)
      refine s_if_ne F 123 dX8_stuck_116 (by decide) (fun c12 => ?_) (fun c12 => ?_)
      · refine s_iload F 7 dX8_stuck_123 rfl ?_
        refine s_iload F 9 dX8_stuck_125 rfl ?_
        refine s_Si F [.int a9, .int a12] dX8_stuck_127 (fun z hz => c_X8_has hz) wS_X8_157 nk_X8_has (by decide) (by decide) rfl rfl (Nat.le_of_ble_eq_true rfl) (fun z10 => ?_)
        refine s_if_eq F 138 dX8_stuck_130 (by decide) (fun c11 => ?_) (fun c11 => ?_)
        · refine s_ldc2 F dX8_stuck_138 m_5_50 ?_
          refine s_iload_n F 3 dX8_stuck_141 rfl rfl ?_
          refine s_i2l F dX8_stuck_142 ?_
          refine s_lsub F dX8_stuck_143 ?_
          refine s_lmul F dX8_stuck_144 ?_
          refine s_lstore F [(10, .long (a10 * ((lN 10) - a3.toInt64))), (0, .ref (ga G 25)), (1, .int a1), (2, .int a2), (3, .int a3), (4, .int a4), (5, .long a5), (7, .long a7), (9, .int a9), (12, .int a12)] dX8_stuck_145 (by decide) rfl ?_
          refine s_iinc F 9 [(12, .int (a12 + (nI 1))), (10, .long (a10 * ((lN 10) - a3.toInt64))), (0, .ref (ga G 25)), (1, .int a1), (2, .int a2), (3, .int a3), (4, .int a4), (5, .long a5), (7, .long a7), (9, .int a9)] dX8_stuck_147 rfl rfl (by decide) rfl ?_
          refine s_goto F 92 dX8_stuck_150 (by decide) ?_
          refine s_lv [(0, .ref (ga G 25)), (1, .int a1), (2, .int a2), (3, .int a3), (4, .int a4), (5, .long a5), (7, .long a7), (9, .int a9), (10, .long (a10 * ((lN 10) - a3.toInt64))), (12, .int (a12 + (nI 1)))] [2, 3, 4, 5, 6, 7, 8, 9, 1, 0] rfl ?_
          exact ih _ _ _ _ _ _ _ _ _ _
        · refine s_iload_n F 3 dX8_stuck_133 rfl rfl ?_
          refine s_i2l F dX8_stuck_134 ?_
          refine s_goto F 144 dX8_stuck_135 (by decide) ?_
          refine s_lmul F dX8_stuck_144 ?_
          refine s_lstore F [(10, .long (a10 * a3.toInt64)), (0, .ref (ga G 25)), (1, .int a1), (2, .int a2), (3, .int a3), (4, .int a4), (5, .long a5), (7, .long a7), (9, .int a9), (12, .int a12)] dX8_stuck_145 (by decide) rfl ?_
          refine s_iinc F 9 [(12, .int (a12 + (nI 1))), (10, .long (a10 * a3.toInt64)), (0, .ref (ga G 25)), (1, .int a1), (2, .int a2), (3, .int a3), (4, .int a4), (5, .long a5), (7, .long a7), (9, .int a9)] dX8_stuck_147 rfl rfl (by decide) rfl ?_
          refine s_goto F 92 dX8_stuck_150 (by decide) ?_
          refine s_lv [(0, .ref (ga G 25)), (1, .int a1), (2, .int a2), (3, .int a3), (4, .int a4), (5, .long a5), (7, .long a7), (9, .int a9), (10, .long (a10 * a3.toInt64)), (12, .int (a12 + (nI 1)))] [2, 3, 4, 5, 6, 7, 8, 9, 1, 0] rfl ?_
          exact ih _ _ _ _ _ _ _ _ _ _
      · refine s_lconst F (lN 1) dX8_stuck_119 rfl ?_
        refine s_goto F 144 dX8_stuck_120 (by decide) ?_
        refine s_lmul F dX8_stuck_144 ?_
        refine s_lstore F [(10, .long (a10 * (lN 1))), (0, .ref (ga G 25)), (1, .int a1), (2, .int a2), (3, .int a3), (4, .int a4), (5, .long a5), (7, .long a7), (9, .int a9), (12, .int a12)] dX8_stuck_145 (by decide) rfl ?_
        refine s_iinc F 9 [(12, .int (a12 + (nI 1))), (10, .long (a10 * (lN 1))), (0, .ref (ga G 25)), (1, .int a1), (2, .int a2), (3, .int a3), (4, .int a4), (5, .long a5), (7, .long a7), (9, .int a9)] dX8_stuck_147 rfl rfl (by decide) rfl ?_
        refine s_goto F 92 dX8_stuck_150 (by decide) ?_
        refine s_lv [(0, .ref (ga G 25)), (1, .int a1), (2, .int a2), (3, .int a3), (4, .int a4), (5, .long a5), (7, .long a7), (9, .int a9), (10, .long (a10 * (lN 1))), (12, .int (a12 + (nI 1)))] [2, 3, 4, 5, 6, 7, 8, 9, 1, 0] rfl ?_
        exact ih _ _ _ _ _ _ _ _ _ _
set_option maxRecDepth 20000 in
theorem l_X8_stuck_61 {G : Gx} {X : Cx} (F : Fx G X cX8_stuck 15 RX8 4) {o : (Int64 × St)} (R : Ret G X cX8_stuck 15 (some .long) (some (.long o.1)) o.2) {K : Int32 → Int64 → Int64 → St → Option (Int64 × St)} (hK : ∀ (a4 : Int32) (a5 : Int64) (a7 : Int64) (σ : St), Sim G X 15 o (K a4 a5 a7 σ) σ 206 [(4, .int a4), (5, .long a5), (7, .long a7)] []) : ∀ (n : Nat) (a1 : Int32) (a2 : Int32) (a3 : Int32) (a4 : Int32) (a5 : Int64) (a7 : Int64) (a9 : Int32) (σ : St), Sim G X 15 o (L_X8_stuck_61 K n a1 a2 a3 a4 a5 a7 a9 σ) σ 61 [(0, .ref (ga G 25)), (1, .int a1), (2, .int a2), (3, .int a3), (4, .int a4), (5, .long a5), (7, .long a7), (9, .int a9)] [] := by
  intro n
  induction n with
  | zero =>
    intro a1 a2 a3 a4 a5 a7 a9 σ
    exact s_none
  | succ n ih =>
    intro a1 a2 a3 a4 a5 a7 a9 σ
    rw [L_X8_stuck_61.eq_2]
    refine s_iload F 7 dX8_stuck_61 rfl ?_
    refine s_aload_n F 0 dX8_stuck_63 rfl rfl ?_
    refine fg_X8_19 F dX8_stuck_64 ?_
    refine s_iconst F (nI 4) dX8_stuck_67 rfl ?_
    refine s_iald F ar_29 dX8_stuck_68 (fun q5 => ?_)
    refine s_icmp_gt F 206 dX8_stuck_69 (by decide) (fun c21 => ?_) (fun c21 => ?_)
    · refine s_lv [(4, .int a4), (5, .long a5), (7, .long a7)] [4, 5, 6] rfl ?_
      exact hK _ _ _ _
    · refine s_iload F 7 dX8_stuck_72 rfl ?_
      refine s_aload_n F 0 dX8_stuck_74 rfl rfl ?_
      refine fg_X8_19 F dX8_stuck_75 ?_
      refine s_iconst F (nI 4) dX8_stuck_78 rfl ?_
      refine s_iald F ar_29 dX8_stuck_79 (fun q6 => ?_)
      refine s_iconst F (-1 : Int32) dX8_stuck_80 rfl ?_
      refine s_ixor F dX8_stuck_81 ?_
      refine s_iand F dX8_stuck_82 ?_
      refine s_if_ne F 200 dX8_stuck_83 (by decide) (fun c20 => ?_) (fun c20 => ?_)
      · refine s_iinc F 7 [(9, .int (a9 + (nI 1))), (0, .ref (ga G 25)), (1, .int a1), (2, .int a2), (3, .int a3), (4, .int a4), (5, .long a5), (7, .long a7)] dX8_stuck_200 rfl rfl (by decide) rfl ?_
        refine s_goto F 61 dX8_stuck_203 (by decide) ?_
        refine s_lv [(0, .ref (ga G 25)), (1, .int a1), (2, .int a2), (3, .int a3), (4, .int a4), (5, .long a5), (7, .long a7), (9, .int (a9 + (nI 1)))] [1, 2, 3, 4, 5, 6, 7, 0] rfl ?_
        exact ih _ _ _ _ _ _ _ _
      · refine s_lconst F (lN 1) dX8_stuck_86 rfl ?_
        refine s_lstore F [(10, .long (lN 1)), (0, .ref (ga G 25)), (1, .int a1), (2, .int a2), (3, .int a3), (4, .int a4), (5, .long a5), (7, .long a7), (9, .int a9)] dX8_stuck_87 (by decide) rfl ?_
        refine s_iconst F (nI 0) dX8_stuck_89 rfl ?_
        refine s_istore F [(12, .int (nI 0)), (10, .long (lN 1)), (0, .ref (ga G 25)), (1, .int a1), (2, .int a2), (3, .int a3), (4, .int a4), (5, .long a5), (7, .long a7), (9, .int a9)] dX8_stuck_90 (by decide) rfl ?_
        refine s_lv [(0, .ref (ga G 25)), (1, .int a1), (2, .int a2), (3, .int a3), (4, .int a4), (5, .long a5), (7, .long a7), (9, .int a9), (10, .long (lN 1)), (12, .int (nI 0))] [2, 3, 4, 5, 6, 7, 8, 9, 1, 0] rfl ?_
        refine l_X8_stuck_92 F R (fun a1 a2 a3 a4 a5 a7 a9 a10 σ => ?_) fuel _ _ _ _ _ _ _ _ _ _
        refine s_aload_n F 0 dX8_stuck_153 rfl rfl ?_
        refine s_Vv F [] dX8_stuck_154 (fun z hz => c_X8_layThen hz) wV_X8_201 nk_X8_layThen (by decide) (by decide) ob_25 vc_7 rfl rfl (Nat.le_of_ble_eq_true rfl) (fun z14 => ?_)
        refine s_aload_n F 0 dX8_stuck_157 rfl rfl ?_
        refine fg_X8_25 F dX8_stuck_158 ?_
        refine s_iconst F (nI 4) dX8_stuck_161 rfl ?_
        refine s_dup2 F dX8_stuck_162 rfl rfl ?_
        refine s_iald F ar_31 dX8_stuck_163 (fun q15 => ?_)
        refine s_iload F 7 dX8_stuck_164 rfl ?_
        refine s_iconst F (-1 : Int32) dX8_stuck_166 rfl ?_
        refine s_ixor F dX8_stuck_167 ?_
        refine s_iand F dX8_stuck_168 ?_
        refine s_iast F ar_31 dX8_stuck_169 (fun q16 => ?_)
        refine s_lload F 6 dX8_stuck_170 rfl ?_
        refine s_lload F 8 dX8_stuck_172 rfl ?_
        refine s_ladd F dX8_stuck_174 ?_
        refine s_lstore F [(7, .long (a7 + a10)), (0, .ref (ga G 25)), (1, .int a1), (2, .int a2), (3, .int a3), (4, .int a4), (5, .long a5), (9, .int a9), (10, .long a10)] dX8_stuck_175 (by decide) rfl ?_
        refine s_lload F 6 dX8_stuck_177 rfl ?_
        refine s_aload_n F 1 dX8_stuck_179 rfl rfl ?_
        refine s_iload_n F 3 dX8_stuck_180 rfl rfl ?_
        refine s_Vi F [.int a2] dX8_stuck_181 (fun z hz => c_X8_hearersIn hz) wV_X8_204 nk_X8_hearersIn (by decide) (by decide) ob_25 vc_7 rfl rfl (Nat.le_of_ble_eq_true rfl) (fun z17 => ?_)
        refine s_iload_n F 2 dX8_stuck_184 rfl rfl ?_
        refine s_Si F [.int z17.1, .int a1] dX8_stuck_185 (fun z hz => c_X8_has hz) wS_X8_157 nk_X8_has (by decide) (by decide) rfl rfl (Nat.le_of_ble_eq_true rfl) (fun z18 => ?_)
        refine s_if_eq F 196 dX8_stuck_188 (by decide) (fun c19 => ?_) (fun c19 => ?_)
        · refine s_lconst F (lN 0) dX8_stuck_196 rfl ?_
          refine s_ladd F dX8_stuck_197 ?_
          refine s_lstore F [(5, .long (a5 + (lN 0))), (7, .long (a7 + a10)), (0, .ref (ga G 25)), (1, .int a1), (2, .int a2), (3, .int a3), (4, .int a4), (9, .int a9), (10, .long a10)] dX8_stuck_198 (by decide) rfl ?_
          refine s_iinc F 7 [(9, .int (a9 + (nI 1))), (5, .long (a5 + (lN 0))), (7, .long (a7 + a10)), (0, .ref (ga G 25)), (1, .int a1), (2, .int a2), (3, .int a3), (4, .int a4), (10, .long a10)] dX8_stuck_200 rfl rfl (by decide) rfl ?_
          refine s_goto F 61 dX8_stuck_203 (by decide) ?_
          refine s_lv [(0, .ref (ga G 25)), (1, .int a1), (2, .int a2), (3, .int a3), (4, .int a4), (5, .long (a5 + (lN 0))), (7, .long (a7 + a10)), (9, .int (a9 + (nI 1)))] [3, 4, 5, 6, 7, 1, 2, 0] rfl ?_
          exact ih _ _ _ _ _ _ _ _
        · refine s_lload F 8 dX8_stuck_191 rfl ?_
          refine s_goto F 197 dX8_stuck_193 (by decide) ?_
          refine s_ladd F dX8_stuck_197 ?_
          refine s_lstore F [(5, .long (a5 + a10)), (7, .long (a7 + a10)), (0, .ref (ga G 25)), (1, .int a1), (2, .int a2), (3, .int a3), (4, .int a4), (9, .int a9), (10, .long a10)] dX8_stuck_198 (by decide) rfl ?_
          refine s_iinc F 7 [(9, .int (a9 + (nI 1))), (5, .long (a5 + a10)), (7, .long (a7 + a10)), (0, .ref (ga G 25)), (1, .int a1), (2, .int a2), (3, .int a3), (4, .int a4), (10, .long a10)] dX8_stuck_200 rfl rfl (by decide) rfl ?_
          refine s_goto F 61 dX8_stuck_203 (by decide) ?_
          refine s_lv [(0, .ref (ga G 25)), (1, .int a1), (2, .int a2), (3, .int a3), (4, .int a4), (5, .long (a5 + a10)), (7, .long (a7 + a10)), (9, .int (a9 + (nI 1)))] [3, 4, 5, 6, 7, 1, 2, 0] rfl ?_
          exact ih _ _ _ _ _ _ _ _
set_option maxRecDepth 20000 in
theorem l_X8_stuck_214 {G : Gx} {X : Cx} (F : Fx G X cX8_stuck 15 RX8 4) {o : (Int64 × St)} (R : Ret G X cX8_stuck 15 (some .long) (some (.long o.1)) o.2) {K : Int32 → Int64 → Int64 → Int64 → St → Option (Int64 × St)} (hK : ∀ (a4 : Int32) (a5 : Int64) (a7 : Int64) (a9 : Int64) (σ : St), Sim G X 15 o (K a4 a5 a7 a9 σ) σ 239 [(4, .int a4), (5, .long a5), (7, .long a7), (9, .long a9)] []) : ∀ (n : Nat) (a4 : Int32) (a5 : Int64) (a7 : Int64) (a9 : Int64) (a11 : Int64) (σ : St), Sim G X 15 o (L_X8_stuck_214 K n a4 a5 a7 a9 a11 σ) σ 214 [(4, .int a4), (5, .long a5), (7, .long a7), (9, .long a9), (11, .long a11)] [] := by
  intro n
  induction n with
  | zero =>
    intro a4 a5 a7 a9 a11 σ
    exact s_none
  | succ n ih =>
    intro a4 a5 a7 a9 a11 σ
    rw [L_X8_stuck_214.eq_2]
    refine s_lload F 4 dX8_stuck_214 rfl ?_
    refine s_lconst F (lN 0) dX8_stuck_216 rfl ?_
    refine s_lcmp F dX8_stuck_217 ?_
    refine s_if_eq F 239 dX8_stuck_218 (by decide) (fun c23 => ?_) (fun c23 => ?_)
    · refine s_lv [(4, .int a4), (5, .long a5), (7, .long a7), (9, .long a9)] [0, 1, 2, 3] rfl ?_
      exact hK _ _ _ _ _
    · refine s_lload F 3 dX8_stuck_221 rfl ?_
      refine s_lload F 4 dX8_stuck_223 rfl ?_
      refine s_grd (fun q22 => ?_)
      refine s_lremc F dX8_stuck_225 q22 ?_
      refine s_lstore F [(13, .long (a9 - a9 / a11 * a11)), (4, .int a4), (5, .long a5), (7, .long a7), (9, .long a9), (11, .long a11)] dX8_stuck_226 (by decide) rfl ?_
      refine s_lload F 5 dX8_stuck_228 rfl ?_
      refine s_lstore F [(9, .long a11), (13, .long (a9 - a9 / a11 * a11)), (4, .int a4), (5, .long a5), (7, .long a7), (11, .long a11)] dX8_stuck_230 (by decide) rfl ?_
      refine s_lload F 1 dX8_stuck_232 rfl ?_
      refine s_lstore F [(11, .long (a9 - a9 / a11 * a11)), (9, .long a11), (13, .long (a9 - a9 / a11 * a11)), (4, .int a4), (5, .long a5), (7, .long a7)] dX8_stuck_234 (by decide) rfl ?_
      refine s_goto F 214 dX8_stuck_236 (by decide) ?_
      refine s_lv [(4, .int a4), (5, .long a5), (7, .long a7), (9, .long a11), (11, .long (a9 - a9 / a11 * a11))] [3, 4, 5, 1, 0] rfl ?_
      exact ih _ _ _ _ _ _
set_option maxRecDepth 20000 in
theorem c_X8_stuck {G : Gx} {l : Launch} {a1 : Int32} {a2 : Int32} {a3 : Int32} {a4 : Int32} {σ : St} {o : (Int64 × St)} (hF : F_X8_stuck a1 a2 a3 a4 σ = some o) : Con G l yX8_stuck cX8_stuck 15 (some .long) 4 [.ref (ga G 25), .int a1, .int a2, .int a3, .int a4] σ (some (.long o.1)) o.2 := by
  refine Con.of plX8 (Nat.le_of_ble_eq_true rfl) [(0, .ref (ga G 25)), (1, .int a1), (2, .int a2), (3, .int a3), (4, .int a4)] rfl (fun X F R => ?_)
  refine (show Sim G X 15 o (F_X8_stuck a1 a2 a3 a4 σ) σ 0 [(0, .ref (ga G 25)), (1, .int a1), (2, .int a2), (3, .int a3), (4, .int a4)] [] from ?_) hF
  unfold F_X8_stuck
  refine s_aload_n F 0 dX8_stuck_0 rfl rfl ?_
  refine s_iconst F (nI 0) dX8_stuck_1 rfl ?_
  refine fp_X8_47 F dX8_stuck_2 ?_
  refine s_aload_n F 0 dX8_stuck_5 rfl rfl ?_
  refine s_iload_n F 1 dX8_stuck_6 rfl rfl ?_
  refine s_Vi F [.int a1] dX8_stuck_7 (fun z hz => c_X8_isHorn hz) wV_X8_180 nk_X8_isHorn (by decide) (by decide) ob_25 vc_7 rfl rfl (Nat.le_of_ble_eq_true rfl) (fun z1 => ?_)
  refine s_if_eq F 48 dX8_stuck_10 (by decide) (fun c30 => ?_) (fun c30 => ?_)
  · refine s_ldc2 F dX8_stuck_48 m_5_51 ?_
    exact s_lret R dX8_stuck_51
  · refine s_iload_n F 2 dX8_stuck_13 rfl rfl ?_
    refine s_i2l F dX8_stuck_14 ?_
    refine s_lconst F (lN 1) dX8_stuck_15 rfl ?_
    refine s_ldc2 F dX8_stuck_16 m_5_1 ?_
    refine s_Si F [.long a2.toInt64, .long (lN 1), .long (lN 30)] dX8_stuck_19 (fun z hz => c_X8_in hz) wS_X8_57 nk_X8_in (by decide) (by decide) rfl rfl (Nat.le_of_ble_eq_true rfl) (fun z2 => ?_)
    refine s_if_eq F 48 dX8_stuck_22 (by decide) (fun c29 => ?_) (fun c29 => ?_)
    · refine s_ldc2 F dX8_stuck_48 m_5_51 ?_
      exact s_lret R dX8_stuck_51
    · refine s_iload_n F 3 dX8_stuck_25 rfl rfl ?_
      refine s_i2l F dX8_stuck_26 ?_
      refine s_lconst F (lN 0) dX8_stuck_27 rfl ?_
      refine s_ldc2 F dX8_stuck_28 m_5_50 ?_
      refine s_Si F [.long a3.toInt64, .long (lN 0), .long (lN 10)] dX8_stuck_31 (fun z hz => c_X8_in hz) wS_X8_57 nk_X8_in (by decide) (by decide) rfl rfl (Nat.le_of_ble_eq_true rfl) (fun z3 => ?_)
      refine s_if_eq F 48 dX8_stuck_34 (by decide) (fun c28 => ?_) (fun c28 => ?_)
      · refine s_ldc2 F dX8_stuck_48 m_5_51 ?_
        exact s_lret R dX8_stuck_51
      · refine s_iload F 4 dX8_stuck_37 rfl ?_
        refine s_i2l F dX8_stuck_39 ?_
        refine s_lconst F (lN 0) dX8_stuck_40 rfl ?_
        refine s_lconst F (lN 1) dX8_stuck_41 rfl ?_
        refine s_Si F [.long a4.toInt64, .long (lN 0), .long (lN 1)] dX8_stuck_42 (fun z hz => c_X8_in hz) wS_X8_57 nk_X8_in (by decide) (by decide) rfl rfl (Nat.le_of_ble_eq_true rfl) (fun z4 => ?_)
        refine s_if_ne F 52 dX8_stuck_45 (by decide) (fun c27 => ?_) (fun c27 => ?_)
        · refine s_lconst F (lN 0) dX8_stuck_52 rfl ?_
          refine s_lstore F [(5, .long (lN 0)), (0, .ref (ga G 25)), (1, .int a1), (2, .int a2), (3, .int a3), (4, .int a4)] dX8_stuck_53 (by decide) rfl ?_
          refine s_lconst F (lN 0) dX8_stuck_55 rfl ?_
          refine s_lstore F [(7, .long (lN 0)), (5, .long (lN 0)), (0, .ref (ga G 25)), (1, .int a1), (2, .int a2), (3, .int a3), (4, .int a4)] dX8_stuck_56 (by decide) rfl ?_
          refine s_iconst F (nI 0) dX8_stuck_58 rfl ?_
          refine s_istore F [(9, .int (nI 0)), (7, .long (lN 0)), (5, .long (lN 0)), (0, .ref (ga G 25)), (1, .int a1), (2, .int a2), (3, .int a3), (4, .int a4)] dX8_stuck_59 (by decide) rfl ?_
          refine s_lv [(0, .ref (ga G 25)), (1, .int a1), (2, .int a2), (3, .int a3), (4, .int a4), (5, .long (lN 0)), (7, .long (lN 0)), (9, .int (nI 0))] [3, 4, 5, 6, 7, 2, 1, 0] rfl ?_
          refine l_X8_stuck_61 F R (fun a4 a5 a7 σ => ?_) fuel _ _ _ _ _ _ _ _
          refine s_lload F 1 dX8_stuck_206 rfl ?_
          refine s_lstore F [(9, .long a5), (4, .int a4), (5, .long a5), (7, .long a7)] dX8_stuck_208 (by decide) rfl ?_
          refine s_lload F 3 dX8_stuck_210 rfl ?_
          refine s_lstore F [(11, .long a7), (9, .long a5), (4, .int a4), (5, .long a5), (7, .long a7)] dX8_stuck_212 (by decide) rfl ?_
          refine s_lv [(4, .int a4), (5, .long a5), (7, .long a7), (9, .long a5), (11, .long a7)] [2, 3, 4, 1, 0] rfl ?_
          refine l_X8_stuck_214 F R (fun a4 a5 a7 a9 σ => ?_) fuel _ _ _ _ _ _
          refine s_iload F 0 dX8_stuck_239 rfl ?_
          refine s_if_ne F 249 dX8_stuck_241 (by decide) (fun c26 => ?_) (fun c26 => ?_)
          · refine s_lload F 2 dX8_stuck_249 rfl ?_
            refine s_lload F 3 dX8_stuck_251 rfl ?_
            refine s_grd (fun q24 => ?_)
            refine s_ldivc F dX8_stuck_253 q24 ?_
            exact s_lret R dX8_stuck_254
          · refine s_lload F 1 dX8_stuck_244 rfl ?_
            refine s_goto F 251 dX8_stuck_246 (by decide) ?_
            refine s_lload F 3 dX8_stuck_251 rfl ?_
            refine s_grd (fun q25 => ?_)
            refine s_ldivc F dX8_stuck_253 q25 ?_
            exact s_lret R dX8_stuck_254
        · refine s_ldc2 F dX8_stuck_48 m_5_51 ?_
          exact s_lret R dX8_stuck_51
/-! X8_drawn -/
def J_X8_drawn_124 (K66 : Int32 → Int32 → Int64 → Int32 → Int32 → St → Option (Int32 × St)) (a1 : Int32) (a3 : Int32) (a4 : Int64) (a6 : Int32) (a7 : Int32) (σ : St) : Option (Int32 × St) := (F_X8_breath 31 σ).bind fun z6 => (F_X8_bits z6.1 z6.2).bind fun z7 => K66 a1 a3 a4 (a6 + z7.1) (a7 + (nI 1)) z7.2
def L_X8_drawn_66 (K : Int32 → Int32 → St → Option (Int32 × St)) : Nat → Int32 → Int32 → Int64 → Int32 → Int32 → St → Option (Int32 × St)
  | 0, _, _, _, _, _, _ => none
  | n + 1, a1, a3, a4, a6, a7, σ => if a1 ≤ a7 then (K a3 a6 σ) else (if (lg_cmp (((a4 * (lN 16807)) - (a4 * (lN 16807)) / (lN 2147483647) * (lN 2147483647)) - ((a4 * (lN 16807)) - (a4 * (lN 16807)) / (lN 2147483647) * (lN 2147483647)) / (lN 3) * (lN 3)) (lN 0)) = 0 then (if ix (nI 0) 80 then if ¬ (σ.1 31 (nI 0).toNatClampNeg).toInt64 = 0 then (F_X8_speech 31 (((a4 * (lN 16807)) - (a4 * (lN 16807)) / (lN 2147483647) * (lN 2147483647)) - ((a4 * (lN 16807)) - (a4 * (lN 16807)) / (lN 2147483647) * (lN 2147483647)) / (σ.1 31 (nI 0).toNatClampNeg).toInt64 * (σ.1 31 (nI 0).toNatClampNeg).toInt64).toInt32 (((a4 * (lN 16807)) - (a4 * (lN 16807)) / (lN 2147483647) * (lN 2147483647)) - ((a4 * (lN 16807)) - (a4 * (lN 16807)) / (lN 2147483647) * (lN 2147483647)) / (lN 10) * (lN 10)).toInt32 (nI 40) σ).bind fun z10 => J_X8_drawn_124 (fun a1 a3 a4 a6 a7 σ => L_X8_drawn_66 K n a1 a3 a4 a6 a7 σ) a1 a3 ((a4 * (lN 16807)) - (a4 * (lN 16807)) / (lN 2147483647) * (lN 2147483647)) a6 a7 z10.2 else none else none) else (J_X8_drawn_124 (fun a1 a3 a4 a6 a7 σ => L_X8_drawn_66 K n a1 a3 a4 a6 a7 σ) a1 a3 ((a4 * (lN 16807)) - (a4 * (lN 16807)) / (lN 2147483647) * (lN 2147483647)) a6 a7 σ))
def F_X8_drawn (a1 : Int32) (a2 : Int32) (a3 : Int32) (σ : St) : Option (Int32 × St) := (F_X8_isThere (setF σ 8 (nI 0))).bind fun z1 => if z1.1 = 0 then (some ((-1000002 : Int32), z1.2)) else ((F_X8_in a1.toInt64 (lN 0) (lN 60) z1.2).bind fun z2 => if z2.1 = 0 then (some ((-1000001 : Int32), z2.2)) else ((F_X8_in a2.toInt64 (lN 1) (lN 999999) z2.2).bind fun z3 => if z3.1 = 0 then (some ((-1000001 : Int32), z3.2)) else ((F_X8_in a3.toInt64 (lN 0) (lN 1) z3.2).bind fun z4 => if z4.1 = 0 then (some ((-1000001 : Int32), z4.2)) else ((F_X8_layThen z4.2).bind fun z5 => L_X8_drawn_66 (fun a3 a6 σ => if a3 = 0 then (some (a6, σ)) else ((F_X8_sounds 31 σ).bind fun z13 => some (z13.1, z13.2))) fuel a1 a3 a2.toInt64 (nI 0) (nI 0) z5))))
set_option maxRecDepth 20000 in
theorem j_X8_drawn_124 {G : Gx} {X : Cx} (F : Fx G X cX8_drawn 9 RX8 3) {o : (Int32 × St)} (R : Ret G X cX8_drawn 9 (some .int) (some (.int o.1)) o.2) {K66 : Int32 → Int32 → Int64 → Int32 → Int32 → St → Option (Int32 × St)} (hK66 : ∀ (a1 : Int32) (a3 : Int32) (a4 : Int64) (a6 : Int32) (a7 : Int32) (σ : St), Sim G X 9 o (K66 a1 a3 a4 a6 a7 σ) σ 66 [(0, .ref (ga G 25)), (1, .int a1), (3, .int a3), (4, .long a4), (6, .int a6), (7, .int a7)] []) (a1 : Int32) (a3 : Int32) (a4 : Int64) (a6 : Int32) (a7 : Int32) (σ : St) : Sim G X 9 o (J_X8_drawn_124 K66 a1 a3 a4 a6 a7 σ) σ 124 [(0, .ref (ga G 25)), (1, .int a1), (3, .int a3), (4, .long a4), (6, .int a6), (7, .int a7)] [] := by
  unfold J_X8_drawn_124
  refine s_iload F 4 dX8_drawn_124 rfl ?_
  refine s_aload_n F 0 dX8_drawn_126 rfl rfl ?_
  refine s_aload_n F 0 dX8_drawn_127 rfl rfl ?_
  refine fg_X8_25 F dX8_drawn_128 ?_
  refine s_Vi F [.ref (ga G 31)] dX8_drawn_131 (fun z hz => c_X8_breath ar_31 hz) wV_X8_168 nk_X8_breath (by decide) (by decide) ob_25 vc_7 rfl rfl (Nat.le_of_ble_eq_true rfl) (fun z6 => ?_)
  refine s_Si F [.int z6.1] dX8_drawn_134 (fun z hz => c_X8_bits hz) wS_X8_215 nk_X8_bits (by decide) (by decide) rfl rfl (Nat.le_of_ble_eq_true rfl) (fun z7 => ?_)
  refine s_iadd F dX8_drawn_137 ?_
  refine s_istore F [(6, .int (a6 + z7.1)), (0, .ref (ga G 25)), (1, .int a1), (3, .int a3), (4, .long a4), (7, .int a7)] dX8_drawn_138 (by decide) rfl ?_
  refine s_iinc F 5 [(7, .int (a7 + (nI 1))), (6, .int (a6 + z7.1)), (0, .ref (ga G 25)), (1, .int a1), (3, .int a3), (4, .long a4)] dX8_drawn_140 rfl rfl (by decide) rfl ?_
  refine s_goto F 66 dX8_drawn_143 (by decide) ?_
  refine s_lv [(0, .ref (ga G 25)), (1, .int a1), (3, .int a3), (4, .long a4), (6, .int (a6 + z7.1)), (7, .int (a7 + (nI 1)))] [2, 3, 4, 5, 1, 0] rfl ?_
  exact hK66 _ _ _ _ _ _
set_option maxRecDepth 20000 in
theorem l_X8_drawn_66 {G : Gx} {X : Cx} (F : Fx G X cX8_drawn 9 RX8 3) {o : (Int32 × St)} (R : Ret G X cX8_drawn 9 (some .int) (some (.int o.1)) o.2) {K : Int32 → Int32 → St → Option (Int32 × St)} (hK : ∀ (a3 : Int32) (a6 : Int32) (σ : St), Sim G X 9 o (K a3 a6 σ) σ 146 [(0, .ref (ga G 25)), (3, .int a3), (6, .int a6)] []) : ∀ (n : Nat) (a1 : Int32) (a3 : Int32) (a4 : Int64) (a6 : Int32) (a7 : Int32) (σ : St), Sim G X 9 o (L_X8_drawn_66 K n a1 a3 a4 a6 a7 σ) σ 66 [(0, .ref (ga G 25)), (1, .int a1), (3, .int a3), (4, .long a4), (6, .int a6), (7, .int a7)] [] := by
  intro n
  induction n with
  | zero =>
    intro a1 a3 a4 a6 a7 σ
    exact s_none
  | succ n ih =>
    intro a1 a3 a4 a6 a7 σ
    rw [L_X8_drawn_66.eq_2]
    refine s_iload F 5 dX8_drawn_66 rfl ?_
    refine s_iload_n F 1 dX8_drawn_68 rfl rfl ?_
    refine s_icmp_ge F 146 dX8_drawn_69 (by decide) (fun c12 => ?_) (fun c12 => ?_)
    · refine s_lv [(0, .ref (ga G 25)), (3, .int a3), (6, .int a6)] [0, 2, 4] rfl ?_
      exact hK _ _ _
    · refine s_lload F 3 dX8_drawn_72 rfl ?_
      refine s_ldc2 F dX8_drawn_74 m_5_57 ?_
      refine s_lmul F dX8_drawn_77 ?_
      refine s_ldc2 F dX8_drawn_78 m_5_58 ?_
      refine s_lremc F dX8_drawn_81 (by decide) ?_
      refine s_lstore F [(4, .long ((a4 * (lN 16807)) - (a4 * (lN 16807)) / (lN 2147483647) * (lN 2147483647))), (0, .ref (ga G 25)), (1, .int a1), (3, .int a3), (6, .int a6), (7, .int a7)] dX8_drawn_82 (by decide) rfl ?_
      refine s_lload F 0 dX8_drawn_84 rfl ?_
      refine s_ldc2 F dX8_drawn_86 m_5_59 ?_
      refine s_lremc F dX8_drawn_89 (by decide) ?_
      refine s_lconst F (lN 0) dX8_drawn_90 rfl ?_
      refine s_lcmp F dX8_drawn_91 ?_
      refine s_if_ne F 124 dX8_drawn_92 (by decide) (fun c11 => ?_) (fun c11 => ?_)
      · refine s_lv [(0, .ref (ga G 25)), (1, .int a1), (3, .int a3), (4, .long ((a4 * (lN 16807)) - (a4 * (lN 16807)) / (lN 2147483647) * (lN 2147483647))), (6, .int a6), (7, .int a7)] [1, 2, 3, 0, 4, 5] rfl ?_
        exact j_X8_drawn_124 F R (by
              intro a1 a3 a4 a6 a7 σ
              exact ih _ _ _ _ _ _) _ _ _ _ _ _
      · refine s_aload_n F 1 dX8_drawn_95 rfl rfl ?_
        refine fg_X8_25 F dX8_drawn_96 ?_
        refine s_lload F 0 dX8_drawn_99 rfl ?_
        refine s_aload_n F 1 dX8_drawn_101 rfl rfl ?_
        refine fg_X8_25 F dX8_drawn_102 ?_
        refine s_iconst F (nI 0) dX8_drawn_105 rfl ?_
        refine s_iald F ar_31 dX8_drawn_106 (fun q8 => ?_)
        refine s_i2l F dX8_drawn_107 ?_
        refine s_grd (fun q9 => ?_)
        refine s_lremc F dX8_drawn_108 q9 ?_
        refine s_l2i F dX8_drawn_109 ?_
        refine s_lload F 0 dX8_drawn_110 rfl ?_
        refine s_ldc2 F dX8_drawn_112 m_5_50 ?_
        refine s_lremc F dX8_drawn_115 (by decide) ?_
        refine s_l2i F dX8_drawn_116 ?_
        refine s_bipush F (nI 40) dX8_drawn_117 rfl ?_
        refine s_Si F [.ref (ga G 31), .int (((a4 * (lN 16807)) - (a4 * (lN 16807)) / (lN 2147483647) * (lN 2147483647)) - ((a4 * (lN 16807)) - (a4 * (lN 16807)) / (lN 2147483647) * (lN 2147483647)) / (σ.1 31 (nI 0).toNatClampNeg).toInt64 * (σ.1 31 (nI 0).toNatClampNeg).toInt64).toInt32, .int (((a4 * (lN 16807)) - (a4 * (lN 16807)) / (lN 2147483647) * (lN 2147483647)) - ((a4 * (lN 16807)) - (a4 * (lN 16807)) / (lN 2147483647) * (lN 2147483647)) / (lN 10) * (lN 10)).toInt32, .int (nI 40)] dX8_drawn_119 (fun z hz => c_X8_speech ar_31 hz) wS_X8_187 nk_X8_speech (by decide) (by decide) rfl rfl (Nat.le_of_ble_eq_true rfl) (fun z10 => ?_)
        refine s_istore F [(8, .int z10.1), (4, .long ((a4 * (lN 16807)) - (a4 * (lN 16807)) / (lN 2147483647) * (lN 2147483647))), (0, .ref (ga G 25)), (1, .int a1), (3, .int a3), (6, .int a6), (7, .int a7)] dX8_drawn_122 (by decide) rfl ?_
        refine s_lv [(0, .ref (ga G 25)), (1, .int a1), (3, .int a3), (4, .long ((a4 * (lN 16807)) - (a4 * (lN 16807)) / (lN 2147483647) * (lN 2147483647))), (6, .int a6), (7, .int a7)] [2, 3, 4, 1, 5, 6] rfl ?_
        exact j_X8_drawn_124 F R (by
              intro a1 a3 a4 a6 a7 σ
              exact ih _ _ _ _ _ _) _ _ _ _ _ _
set_option maxRecDepth 20000 in
theorem c_X8_drawn {G : Gx} {l : Launch} {a1 : Int32} {a2 : Int32} {a3 : Int32} {σ : St} {o : (Int32 × St)} (hF : F_X8_drawn a1 a2 a3 σ = some o) : Con G l yX8_drawn cX8_drawn 9 (some .int) 3 [.ref (ga G 25), .int a1, .int a2, .int a3] σ (some (.int o.1)) o.2 := by
  refine Con.of plX8 (Nat.le_of_ble_eq_true rfl) [(0, .ref (ga G 25)), (1, .int a1), (2, .int a2), (3, .int a3)] rfl (fun X F R => ?_)
  refine (show Sim G X 9 o (F_X8_drawn a1 a2 a3 σ) σ 0 [(0, .ref (ga G 25)), (1, .int a1), (2, .int a2), (3, .int a3)] [] from ?_) hF
  unfold F_X8_drawn
  refine s_aload_n F 0 dX8_drawn_0 rfl rfl ?_
  refine s_iconst F (nI 0) dX8_drawn_1 rfl ?_
  refine fp_X8_47 F dX8_drawn_2 ?_
  refine s_aload_n F 0 dX8_drawn_5 rfl rfl ?_
  refine s_Vi F [] dX8_drawn_6 (fun z hz => c_X8_isThere hz) wV_X8_171 nk_X8_isThere (by decide) (by decide) ob_25 vc_7 rfl rfl (Nat.le_of_ble_eq_true rfl) (fun z1 => ?_)
  refine s_if_ne F 15 dX8_drawn_9 (by decide) (fun c18 => ?_) (fun c18 => ?_)
  · refine s_iload_n F 1 dX8_drawn_15 rfl rfl ?_
    refine s_i2l F dX8_drawn_16 ?_
    refine s_lconst F (lN 0) dX8_drawn_17 rfl ?_
    refine s_ldc2 F dX8_drawn_18 m_4_208 ?_
    refine s_Si F [.long a1.toInt64, .long (lN 0), .long (lN 60)] dX8_drawn_21 (fun z hz => c_X8_in hz) wS_X8_57 nk_X8_in (by decide) (by decide) rfl rfl (Nat.le_of_ble_eq_true rfl) (fun z2 => ?_)
    refine s_if_eq F 49 dX8_drawn_24 (by decide) (fun c17 => ?_) (fun c17 => ?_)
    · refine s_ldc F dX8_drawn_49 m_4_41 ?_
      exact s_iret R dX8_drawn_51
    · refine s_iload_n F 2 dX8_drawn_27 rfl rfl ?_
      refine s_i2l F dX8_drawn_28 ?_
      refine s_lconst F (lN 1) dX8_drawn_29 rfl ?_
      refine s_ldc2 F dX8_drawn_30 m_5_56 ?_
      refine s_Si F [.long a2.toInt64, .long (lN 1), .long (lN 999999)] dX8_drawn_33 (fun z hz => c_X8_in hz) wS_X8_57 nk_X8_in (by decide) (by decide) rfl rfl (Nat.le_of_ble_eq_true rfl) (fun z3 => ?_)
      refine s_if_eq F 49 dX8_drawn_36 (by decide) (fun c16 => ?_) (fun c16 => ?_)
      · refine s_ldc F dX8_drawn_49 m_4_41 ?_
        exact s_iret R dX8_drawn_51
      · refine s_iload_n F 3 dX8_drawn_39 rfl rfl ?_
        refine s_i2l F dX8_drawn_40 ?_
        refine s_lconst F (lN 0) dX8_drawn_41 rfl ?_
        refine s_lconst F (lN 1) dX8_drawn_42 rfl ?_
        refine s_Si F [.long a3.toInt64, .long (lN 0), .long (lN 1)] dX8_drawn_43 (fun z hz => c_X8_in hz) wS_X8_57 nk_X8_in (by decide) (by decide) rfl rfl (Nat.le_of_ble_eq_true rfl) (fun z4 => ?_)
        refine s_if_ne F 52 dX8_drawn_46 (by decide) (fun c15 => ?_) (fun c15 => ?_)
        · refine s_aload_n F 0 dX8_drawn_52 rfl rfl ?_
          refine s_Vv F [] dX8_drawn_53 (fun z hz => c_X8_layThen hz) wV_X8_201 nk_X8_layThen (by decide) (by decide) ob_25 vc_7 rfl rfl (Nat.le_of_ble_eq_true rfl) (fun z5 => ?_)
          refine s_iload_n F 2 dX8_drawn_56 rfl rfl ?_
          refine s_i2l F dX8_drawn_57 ?_
          refine s_lstore F [(4, .long a2.toInt64), (0, .ref (ga G 25)), (1, .int a1), (2, .int a2), (3, .int a3)] dX8_drawn_58 (by decide) rfl ?_
          refine s_iconst F (nI 0) dX8_drawn_60 rfl ?_
          refine s_istore F [(6, .int (nI 0)), (4, .long a2.toInt64), (0, .ref (ga G 25)), (1, .int a1), (2, .int a2), (3, .int a3)] dX8_drawn_61 (by decide) rfl ?_
          refine s_iconst F (nI 0) dX8_drawn_63 rfl ?_
          refine s_istore F [(7, .int (nI 0)), (6, .int (nI 0)), (4, .long a2.toInt64), (0, .ref (ga G 25)), (1, .int a1), (2, .int a2), (3, .int a3)] dX8_drawn_64 (by decide) rfl ?_
          refine s_lv [(0, .ref (ga G 25)), (1, .int a1), (3, .int a3), (4, .long a2.toInt64), (6, .int (nI 0)), (7, .int (nI 0))] [3, 4, 6, 2, 1, 0] rfl ?_
          refine l_X8_drawn_66 F R (fun a3 a6 σ => ?_) fuel _ _ _ _ _ _
          refine s_iload_n F 1 dX8_drawn_146 rfl rfl ?_
          refine s_if_ne F 155 dX8_drawn_147 (by decide) (fun c14 => ?_) (fun c14 => ?_)
          · refine s_aload_n F 0 dX8_drawn_155 rfl rfl ?_
            refine fg_X8_25 F dX8_drawn_156 ?_
            refine s_Si F [.ref (ga G 31)] dX8_drawn_159 (fun z hz => c_X8_sounds ar_31 hz) wS_X8_164 nk_X8_sounds (by decide) (by decide) rfl rfl (Nat.le_of_ble_eq_true rfl) (fun z13 => ?_)
            exact s_iret R dX8_drawn_162
          · refine s_iload F 2 dX8_drawn_150 rfl ?_
            refine s_goto F 162 dX8_drawn_152 (by decide) ?_
            exact s_iret R dX8_drawn_162
        · refine s_ldc F dX8_drawn_49 m_4_41 ?_
          exact s_iret R dX8_drawn_51
  · refine s_ldc F dX8_drawn_12 m_4_130 ?_
    exact s_iret R dX8_drawn_14
/-! X8_image -/
def L_X8_image_30 (K : Int32 → St → Option (Int32 × St)) : Nat → Int32 → Int32 → St → Option (Int32 × St)
  | 0, _, _, _ => none
  | n + 1, a1, a2, σ => if (nI 80) ≤ a2 then (K a1 σ) else (if ix a2 80 then if ix (((nI 80) * a1) + a2) 160 then L_X8_image_30 K n a1 (a2 + (nI 1)) (setA σ 36 (((nI 80) * a1) + a2).toNatClampNeg (σ.1 29 a2.toNatClampNeg)) else none else none)
def F_X8_image (a1 : Int32) (σ : St) : Option (Int32 × St) := (F_X8_in a1.toInt64 (lN 0) (lN 1) (setF σ 8 (nI 0))).bind fun z1 => if z1.1 = 0 then (some ((-1000001 : Int32), z1.2)) else ((F_X8_isThere z1.2).bind fun z2 => if z2.1 = 0 then (some ((-1000002 : Int32), z2.2)) else (L_X8_image_30 (fun a1 σ => if ix a1 2 then some ((nI 1), setA σ 35 a1.toNatClampNeg (nb (nI 1))) else none) fuel a1 (nI 0) z2.2))
set_option maxRecDepth 20000 in
theorem l_X8_image_30 {G : Gx} {X : Cx} (F : Fx G X cX8_image 3 RX8 1) {o : (Int32 × St)} (R : Ret G X cX8_image 3 (some .int) (some (.int o.1)) o.2) {K : Int32 → St → Option (Int32 × St)} (hK : ∀ (a1 : Int32) (σ : St), Sim G X 3 o (K a1 σ) σ 59 [(0, .ref (ga G 25)), (1, .int a1)] []) : ∀ (n : Nat) (a1 : Int32) (a2 : Int32) (σ : St), Sim G X 3 o (L_X8_image_30 K n a1 a2 σ) σ 30 [(0, .ref (ga G 25)), (1, .int a1), (2, .int a2)] [] := by
  intro n
  induction n with
  | zero =>
    intro a1 a2 σ
    exact s_none
  | succ n ih =>
    intro a1 a2 σ
    rw [L_X8_image_30.eq_2]
    refine s_iload_n F 2 dX8_image_30 rfl rfl ?_
    refine s_bipush F (nI 80) dX8_image_31 rfl ?_
    refine s_icmp_ge F 59 dX8_image_33 (by decide) (fun c5 => ?_) (fun c5 => ?_)
    · refine s_lv [(0, .ref (ga G 25)), (1, .int a1)] [0, 1] rfl ?_
      exact hK _ _
    · refine s_aload_n F 0 dX8_image_36 rfl rfl ?_
      refine fg_X8_41 F dX8_image_37 ?_
      refine s_bipush F (nI 80) dX8_image_40 rfl ?_
      refine s_iload_n F 1 dX8_image_42 rfl rfl ?_
      refine s_imul F dX8_image_43 ?_
      refine s_iload_n F 2 dX8_image_44 rfl rfl ?_
      refine s_iadd F dX8_image_45 ?_
      refine s_aload_n F 0 dX8_image_46 rfl rfl ?_
      refine fg_X8_19 F dX8_image_47 ?_
      refine s_iload_n F 2 dX8_image_50 rfl rfl ?_
      refine s_iald F ar_29 dX8_image_51 (fun q3 => ?_)
      refine s_iast F ar_36 dX8_image_52 (fun q4 => ?_)
      refine s_iinc F 2 [(2, .int (a2 + (nI 1))), (0, .ref (ga G 25)), (1, .int a1)] dX8_image_53 rfl rfl (by decide) rfl ?_
      refine s_goto F 30 dX8_image_56 (by decide) ?_
      refine s_lv [(0, .ref (ga G 25)), (1, .int a1), (2, .int (a2 + (nI 1)))] [1, 2, 0] rfl ?_
      exact ih _ _ _
set_option maxRecDepth 20000 in
theorem c_X8_image {G : Gx} {l : Launch} {a1 : Int32} {σ : St} {o : (Int32 × St)} (hF : F_X8_image a1 σ = some o) : Con G l yX8_image cX8_image 3 (some .int) 1 [.ref (ga G 25), .int a1] σ (some (.int o.1)) o.2 := by
  refine Con.of plX8 (Nat.le_of_ble_eq_true rfl) [(0, .ref (ga G 25)), (1, .int a1)] rfl (fun X F R => ?_)
  refine (show Sim G X 3 o (F_X8_image a1 σ) σ 0 [(0, .ref (ga G 25)), (1, .int a1)] [] from ?_) hF
  unfold F_X8_image
  refine s_aload_n F 0 dX8_image_0 rfl rfl ?_
  refine s_iconst F (nI 0) dX8_image_1 rfl ?_
  refine fp_X8_47 F dX8_image_2 ?_
  refine s_iload_n F 1 dX8_image_5 rfl rfl ?_
  refine s_i2l F dX8_image_6 ?_
  refine s_lconst F (lN 0) dX8_image_7 rfl ?_
  refine s_lconst F (lN 1) dX8_image_8 rfl ?_
  refine s_Si F [.long a1.toInt64, .long (lN 0), .long (lN 1)] dX8_image_9 (fun z hz => c_X8_in hz) wS_X8_57 nk_X8_in (by decide) (by decide) rfl rfl (Nat.le_of_ble_eq_true rfl) (fun z1 => ?_)
  refine s_if_ne F 18 dX8_image_12 (by decide) (fun c8 => ?_) (fun c8 => ?_)
  · refine s_aload_n F 0 dX8_image_18 rfl rfl ?_
    refine s_Vi F [] dX8_image_19 (fun z hz => c_X8_isThere hz) wV_X8_171 nk_X8_isThere (by decide) (by decide) ob_25 vc_7 rfl rfl (Nat.le_of_ble_eq_true rfl) (fun z2 => ?_)
    refine s_if_ne F 28 dX8_image_22 (by decide) (fun c7 => ?_) (fun c7 => ?_)
    · refine s_iconst F (nI 0) dX8_image_28 rfl ?_
      refine s_istore_n F [(2, .int (nI 0)), (0, .ref (ga G 25)), (1, .int a1)] dX8_image_29 rfl (by decide) rfl ?_
      refine s_lv [(0, .ref (ga G 25)), (1, .int a1), (2, .int (nI 0))] [1, 2, 0] rfl ?_
      refine l_X8_image_30 F R (fun a1 σ => ?_) fuel _ _ _
      refine s_aload_n F 0 dX8_image_59 rfl rfl ?_
      refine fg_X8_37 F dX8_image_60 ?_
      refine s_iload_n F 1 dX8_image_63 rfl rfl ?_
      refine s_iconst F (nI 1) dX8_image_64 rfl ?_
      refine s_zast F dX8_image_65 (fun q6 => ?_)
      refine s_iconst F (nI 1) dX8_image_66 rfl ?_
      exact s_iret R dX8_image_67
    · refine s_ldc F dX8_image_25 m_4_130 ?_
      exact s_iret R dX8_image_27
  · refine s_ldc F dX8_image_15 m_4_41 ?_
    exact s_iret R dX8_image_17
/-! X8_restore -/
def L_X8_restore_32 (K : St → Option (Int32 × St)) : Nat → Int32 → Int32 → St → Option (Int32 × St)
  | 0, _, _, _ => none
  | n + 1, a1, a2, σ => if (nI 80) ≤ a2 then (K σ) else (if ix (((nI 80) * a1) + a2) 160 then if ix a2 80 then L_X8_restore_32 K n a1 (a2 + (nI 1)) (setA σ 29 a2.toNatClampNeg (σ.1 36 (((nI 80) * a1) + a2).toNatClampNeg)) else none else none)
def F_X8_restore (a1 : Int32) (σ : St) : Option (Int32 × St) := (F_X8_in a1.toInt64 (lN 0) (lN 1) (setF σ 8 (nI 0))).bind fun z1 => if z1.1 = 0 then (some ((-1000001 : Int32), z1.2)) else (if ix a1 2 then if (z1.2.1 35 a1.toNatClampNeg) = 0 then (some ((-1000002 : Int32), z1.2)) else (L_X8_restore_32 (fun σ => some ((nI 1), setF σ 10 (nI 0))) fuel a1 (nI 0) z1.2) else none)
set_option maxRecDepth 20000 in
theorem l_X8_restore_32 {G : Gx} {X : Cx} (F : Fx G X cX8_restore 3 RX8 1) {o : (Int32 × St)} (R : Ret G X cX8_restore 3 (some .int) (some (.int o.1)) o.2) {K : St → Option (Int32 × St)} (hK : ∀ (σ : St), Sim G X 3 o (K σ) σ 61 [(0, .ref (ga G 25))] []) : ∀ (n : Nat) (a1 : Int32) (a2 : Int32) (σ : St), Sim G X 3 o (L_X8_restore_32 K n a1 a2 σ) σ 32 [(0, .ref (ga G 25)), (1, .int a1), (2, .int a2)] [] := by
  intro n
  induction n with
  | zero =>
    intro a1 a2 σ
    exact s_none
  | succ n ih =>
    intro a1 a2 σ
    rw [L_X8_restore_32.eq_2]
    refine s_iload_n F 2 dX8_restore_32 rfl rfl ?_
    refine s_bipush F (nI 80) dX8_restore_33 rfl ?_
    refine s_icmp_ge F 61 dX8_restore_35 (by decide) (fun c5 => ?_) (fun c5 => ?_)
    · refine s_lv [(0, .ref (ga G 25))] [0] rfl ?_
      exact hK _
    · refine s_aload_n F 0 dX8_restore_38 rfl rfl ?_
      refine fg_X8_19 F dX8_restore_39 ?_
      refine s_iload_n F 2 dX8_restore_42 rfl rfl ?_
      refine s_aload_n F 0 dX8_restore_43 rfl rfl ?_
      refine fg_X8_41 F dX8_restore_44 ?_
      refine s_bipush F (nI 80) dX8_restore_47 rfl ?_
      refine s_iload_n F 1 dX8_restore_49 rfl rfl ?_
      refine s_imul F dX8_restore_50 ?_
      refine s_iload_n F 2 dX8_restore_51 rfl rfl ?_
      refine s_iadd F dX8_restore_52 ?_
      refine s_iald F ar_36 dX8_restore_53 (fun q3 => ?_)
      refine s_iast F ar_29 dX8_restore_54 (fun q4 => ?_)
      refine s_iinc F 2 [(2, .int (a2 + (nI 1))), (0, .ref (ga G 25)), (1, .int a1)] dX8_restore_55 rfl rfl (by decide) rfl ?_
      refine s_goto F 32 dX8_restore_58 (by decide) ?_
      refine s_lv [(0, .ref (ga G 25)), (1, .int a1), (2, .int (a2 + (nI 1)))] [1, 2, 0] rfl ?_
      exact ih _ _ _
set_option maxRecDepth 20000 in
theorem c_X8_restore {G : Gx} {l : Launch} {a1 : Int32} {σ : St} {o : (Int32 × St)} (hF : F_X8_restore a1 σ = some o) : Con G l yX8_restore cX8_restore 3 (some .int) 1 [.ref (ga G 25), .int a1] σ (some (.int o.1)) o.2 := by
  refine Con.of plX8 (Nat.le_of_ble_eq_true rfl) [(0, .ref (ga G 25)), (1, .int a1)] rfl (fun X F R => ?_)
  refine (show Sim G X 3 o (F_X8_restore a1 σ) σ 0 [(0, .ref (ga G 25)), (1, .int a1)] [] from ?_) hF
  unfold F_X8_restore
  refine s_aload_n F 0 dX8_restore_0 rfl rfl ?_
  refine s_iconst F (nI 0) dX8_restore_1 rfl ?_
  refine fp_X8_47 F dX8_restore_2 ?_
  refine s_iload_n F 1 dX8_restore_5 rfl rfl ?_
  refine s_i2l F dX8_restore_6 ?_
  refine s_lconst F (lN 0) dX8_restore_7 rfl ?_
  refine s_lconst F (lN 1) dX8_restore_8 rfl ?_
  refine s_Si F [.long a1.toInt64, .long (lN 0), .long (lN 1)] dX8_restore_9 (fun z hz => c_X8_in hz) wS_X8_57 nk_X8_in (by decide) (by decide) rfl rfl (Nat.le_of_ble_eq_true rfl) (fun z1 => ?_)
  refine s_if_ne F 18 dX8_restore_12 (by decide) (fun c7 => ?_) (fun c7 => ?_)
  · refine s_aload_n F 0 dX8_restore_18 rfl rfl ?_
    refine fg_X8_37 F dX8_restore_19 ?_
    refine s_iload_n F 1 dX8_restore_22 rfl rfl ?_
    refine s_zald F dX8_restore_23 (fun q2 => ?_)
    refine s_if_ne F 30 dX8_restore_24 (by decide) (fun c6 => ?_) (fun c6 => ?_)
    · refine s_iconst F (nI 0) dX8_restore_30 rfl ?_
      refine s_istore_n F [(2, .int (nI 0)), (0, .ref (ga G 25)), (1, .int a1)] dX8_restore_31 rfl (by decide) rfl ?_
      refine s_lv [(0, .ref (ga G 25)), (1, .int a1), (2, .int (nI 0))] [1, 2, 0] rfl ?_
      refine l_X8_restore_32 F R (fun σ => ?_) fuel _ _ _
      refine s_aload_n F 0 dX8_restore_61 rfl rfl ?_
      refine s_iconst F (nI 0) dX8_restore_62 rfl ?_
      refine fp_X8_146 F dX8_restore_63 ?_
      refine s_iconst F (nI 1) dX8_restore_66 rfl ?_
      exact s_iret R dX8_restore_67
    · refine s_ldc F dX8_restore_27 m_4_130 ?_
      exact s_iret R dX8_restore_29
  · refine s_ldc F dX8_restore_15 m_4_41 ?_
    exact s_iret R dX8_restore_17
/-! X8_isOf -/
def J_X8_isOf_19 (a0 : Int32) (a1 : Int32) (σ : St) : Option (Int32 × St) := if a1 = (nI 4) then (if a0 = (nI 5) then (some ((nI 1), σ)) else (some ((nI 0), σ))) else (some ((nI 0), σ))
def F_X8_isOf (a0 : Int32) (a1 : Int32) (σ : St) : Option (Int32 × St) := if a1 = 0 then (some ((nI 1), σ)) else (if a0 = a1 then (some ((nI 1), σ)) else (if a1 = (nI 1) then (if a0 < (nI 4) then (some ((nI 1), σ)) else (J_X8_isOf_19 a0 a1 σ)) else (J_X8_isOf_19 a0 a1 σ)))
set_option maxRecDepth 20000 in
theorem j_X8_isOf_19 {G : Gx} {X : Cx} (F : Fx G X cX8_isOf 2 RX8 0) {o : (Int32 × St)} (R : Ret G X cX8_isOf 2 (some .boolean) (some (.int o.1)) o.2) (a0 : Int32) (a1 : Int32) (σ : St) : Sim G X 2 o (J_X8_isOf_19 a0 a1 σ) σ 19 [(0, .int a0), (1, .int a1)] [] := by
  unfold J_X8_isOf_19
  refine s_iload_n F 1 dX8_isOf_19 rfl rfl ?_
  refine s_iconst F (nI 4) dX8_isOf_20 rfl ?_
  refine s_icmp_ne F 33 dX8_isOf_21 (by decide) (fun c2 => ?_) (fun c2 => ?_)
  · refine s_iconst F (nI 0) dX8_isOf_33 rfl ?_
    exact s_zret R dX8_isOf_34 rfl
  · refine s_iload_n F 0 dX8_isOf_24 rfl rfl ?_
    refine s_iconst F (nI 5) dX8_isOf_25 rfl ?_
    refine s_icmp_ne F 33 dX8_isOf_26 (by decide) (fun c1 => ?_) (fun c1 => ?_)
    · refine s_iconst F (nI 0) dX8_isOf_33 rfl ?_
      exact s_zret R dX8_isOf_34 rfl
    · refine s_iconst F (nI 1) dX8_isOf_29 rfl ?_
      refine s_goto F 34 dX8_isOf_30 (by decide) ?_
      exact s_zret R dX8_isOf_34 rfl
set_option maxRecDepth 20000 in
theorem c_X8_isOf {G : Gx} {l : Launch} {a0 : Int32} {a1 : Int32} {σ : St} {o : (Int32 × St)} (hF : F_X8_isOf a0 a1 σ = some o) : Con G l yX8_isOf cX8_isOf 2 (some .boolean) 0 [.int a0, .int a1] σ (some (.int o.1)) o.2 := by
  refine Con.of plX8 (Nat.le_of_ble_eq_true rfl) [(0, .int a0), (1, .int a1)] rfl (fun X F R => ?_)
  refine (show Sim G X 2 o (F_X8_isOf a0 a1 σ) σ 0 [(0, .int a0), (1, .int a1)] [] from ?_) hF
  unfold F_X8_isOf
  refine s_iload_n F 1 dX8_isOf_0 rfl rfl ?_
  refine s_if_eq F 29 dX8_isOf_1 (by decide) (fun c6 => ?_) (fun c6 => ?_)
  · refine s_iconst F (nI 1) dX8_isOf_29 rfl ?_
    refine s_goto F 34 dX8_isOf_30 (by decide) ?_
    exact s_zret R dX8_isOf_34 rfl
  · refine s_iload_n F 0 dX8_isOf_4 rfl rfl ?_
    refine s_iload_n F 1 dX8_isOf_5 rfl rfl ?_
    refine s_icmp_eq F 29 dX8_isOf_6 (by decide) (fun c5 => ?_) (fun c5 => ?_)
    · refine s_iconst F (nI 1) dX8_isOf_29 rfl ?_
      refine s_goto F 34 dX8_isOf_30 (by decide) ?_
      exact s_zret R dX8_isOf_34 rfl
    · refine s_iload_n F 1 dX8_isOf_9 rfl rfl ?_
      refine s_iconst F (nI 1) dX8_isOf_10 rfl ?_
      refine s_icmp_ne F 19 dX8_isOf_11 (by decide) (fun c4 => ?_) (fun c4 => ?_)
      · exact j_X8_isOf_19 F R _ _ _
      · refine s_iload_n F 0 dX8_isOf_14 rfl rfl ?_
        refine s_iconst F (nI 4) dX8_isOf_15 rfl ?_
        refine s_icmp_lt F 29 dX8_isOf_16 (by decide) (fun c3 => ?_) (fun c3 => ?_)
        · refine s_iconst F (nI 1) dX8_isOf_29 rfl ?_
          refine s_goto F 34 dX8_isOf_30 (by decide) ?_
          exact s_zret R dX8_isOf_34 rfl
        · exact j_X8_isOf_19 F R _ _ _
/-! X8_kind -/
def F_X8_kind (a1 : Int32) (σ : St) : Option (Int32 × St) := (F_X8_isPipe a1 (setF σ 8 (nI 0))).bind fun z1 => if z1.1 = 0 then (some ((-1000001 : Int32), z1.2)) else ((F_X8_of 29 a1 (nI 0) z1.2).bind fun z2 => some (z2.1, z2.2))
set_option maxRecDepth 20000 in
theorem c_X8_kind {G : Gx} {l : Launch} {a1 : Int32} {σ : St} {o : (Int32 × St)} (hF : F_X8_kind a1 σ = some o) : Con G l yX8_kind cX8_kind 2 (some .int) 2 [.ref (ga G 25), .int a1] σ (some (.int o.1)) o.2 := by
  refine Con.of plX8 (Nat.le_of_ble_eq_true rfl) [(0, .ref (ga G 25)), (1, .int a1)] rfl (fun X F R => ?_)
  refine (show Sim G X 2 o (F_X8_kind a1 σ) σ 0 [(0, .ref (ga G 25)), (1, .int a1)] [] from ?_) hF
  unfold F_X8_kind
  refine s_aload_n F 0 dX8_kind_0 rfl rfl ?_
  refine s_iconst F (nI 0) dX8_kind_1 rfl ?_
  refine fp_X8_47 F dX8_kind_2 ?_
  refine s_aload_n F 0 dX8_kind_5 rfl rfl ?_
  refine s_iload_n F 1 dX8_kind_6 rfl rfl ?_
  refine s_Vi F [.int a1] dX8_kind_7 (fun z hz => c_X8_isPipe hz) wV_X8_191 nk_X8_isPipe (by decide) (by decide) ob_25 vc_7 rfl rfl (Nat.le_of_ble_eq_true rfl) (fun z1 => ?_)
  refine s_if_eq F 25 dX8_kind_10 (by decide) (fun c3 => ?_) (fun c3 => ?_)
  · refine s_ldc F dX8_kind_25 m_4_41 ?_
    exact s_iret R dX8_kind_27
  · refine s_aload_n F 0 dX8_kind_13 rfl rfl ?_
    refine fg_X8_19 F dX8_kind_14 ?_
    refine s_iload_n F 1 dX8_kind_17 rfl rfl ?_
    refine s_iconst F (nI 0) dX8_kind_18 rfl ?_
    refine s_Si F [.ref (ga G 29), .int a1, .int (nI 0)] dX8_kind_19 (fun z hz => c_X8_of ar_29 hz) wS_X8_149 nk_X8_of (by decide) (by decide) rfl rfl (Nat.le_of_ble_eq_true rfl) (fun z2 => ?_)
    refine s_goto F 27 dX8_kind_22 (by decide) ?_
    exact s_iret R dX8_kind_27
/-! X8_as -/
def F_X8_as (a1 : Int32) (a2 : Int32) (σ : St) : Option (Int32 × St) := (F_X8_isPipe a1 (setF σ 8 (nI 0))).bind fun z1 => if z1.1 = 0 then (some ((-1000001 : Int32), z1.2)) else ((F_X8_in a2.toInt64 (lN 0) (lN 5) z1.2).bind fun z2 => if z2.1 = 0 then (some ((-1000001 : Int32), z2.2)) else ((F_X8_of 29 a1 (nI 0) (setF z2.2 9 (nI 0))).bind fun z3 => (F_X8_isOf z3.1 a2 z3.2).bind fun z4 => if z4.1 = 0 then ((F_X8_finding (nI 3) z4.2).bind fun z5 => some (z5.1, z5.2)) else (some (a1, z4.2))))
set_option maxRecDepth 20000 in
theorem c_X8_as {G : Gx} {l : Launch} {a1 : Int32} {a2 : Int32} {σ : St} {o : (Int32 × St)} (hF : F_X8_as a1 a2 σ = some o) : Con G l yX8_as cX8_as 3 (some .int) 2 [.ref (ga G 25), .int a1, .int a2] σ (some (.int o.1)) o.2 := by
  refine Con.of plX8 (Nat.le_of_ble_eq_true rfl) [(0, .ref (ga G 25)), (1, .int a1), (2, .int a2)] rfl (fun X F R => ?_)
  refine (show Sim G X 3 o (F_X8_as a1 a2 σ) σ 0 [(0, .ref (ga G 25)), (1, .int a1), (2, .int a2)] [] from ?_) hF
  unfold F_X8_as
  refine s_aload_n F 0 dX8_as_0 rfl rfl ?_
  refine s_iconst F (nI 0) dX8_as_1 rfl ?_
  refine fp_X8_47 F dX8_as_2 ?_
  refine s_aload_n F 0 dX8_as_5 rfl rfl ?_
  refine s_iload_n F 1 dX8_as_6 rfl rfl ?_
  refine s_Vi F [.int a1] dX8_as_7 (fun z hz => c_X8_isPipe hz) wV_X8_191 nk_X8_isPipe (by decide) (by decide) ob_25 vc_7 rfl rfl (Nat.le_of_ble_eq_true rfl) (fun z1 => ?_)
  refine s_if_eq F 25 dX8_as_10 (by decide) (fun c8 => ?_) (fun c8 => ?_)
  · refine s_ldc F dX8_as_25 m_4_41 ?_
    exact s_iret R dX8_as_27
  · refine s_iload_n F 2 dX8_as_13 rfl rfl ?_
    refine s_i2l F dX8_as_14 ?_
    refine s_lconst F (lN 0) dX8_as_15 rfl ?_
    refine s_ldc2 F dX8_as_16 m_4_195 ?_
    refine s_Si F [.long a2.toInt64, .long (lN 0), .long (lN 5)] dX8_as_19 (fun z hz => c_X8_in hz) wS_X8_57 nk_X8_in (by decide) (by decide) rfl rfl (Nat.le_of_ble_eq_true rfl) (fun z2 => ?_)
    refine s_if_ne F 28 dX8_as_22 (by decide) (fun c7 => ?_) (fun c7 => ?_)
    · refine s_aload_n F 0 dX8_as_28 rfl rfl ?_
      refine s_iconst F (nI 0) dX8_as_29 rfl ?_
      refine fp_X8_51 F dX8_as_30 ?_
      refine s_aload_n F 0 dX8_as_33 rfl rfl ?_
      refine fg_X8_19 F dX8_as_34 ?_
      refine s_iload_n F 1 dX8_as_37 rfl rfl ?_
      refine s_iconst F (nI 0) dX8_as_38 rfl ?_
      refine s_Si F [.ref (ga G 29), .int a1, .int (nI 0)] dX8_as_39 (fun z hz => c_X8_of ar_29 hz) wS_X8_149 nk_X8_of (by decide) (by decide) rfl rfl (Nat.le_of_ble_eq_true rfl) (fun z3 => ?_)
      refine s_iload_n F 2 dX8_as_42 rfl rfl ?_
      refine s_Si F [.int z3.1, .int a2] dX8_as_43 (fun z hz => c_X8_isOf hz) wS_X8_240 nk_X8_isOf (by decide) (by decide) rfl rfl (Nat.le_of_ble_eq_true rfl) (fun z4 => ?_)
      refine s_if_eq F 53 dX8_as_46 (by decide) (fun c6 => ?_) (fun c6 => ?_)
      · refine s_aload_n F 0 dX8_as_53 rfl rfl ?_
        refine s_iconst F (nI 3) dX8_as_54 rfl ?_
        refine s_Vi F [.int (nI 3)] dX8_as_55 (fun z hz => c_X8_finding hz) wV_X8_68 nk_X8_finding (by decide) (by decide) ob_25 vc_7 rfl rfl (Nat.le_of_ble_eq_true rfl) (fun z5 => ?_)
        exact s_iret R dX8_as_58
      · refine s_iload_n F 1 dX8_as_49 rfl rfl ?_
        refine s_goto F 58 dX8_as_50 (by decide) ?_
        exact s_iret R dX8_as_58
    · refine s_ldc F dX8_as_25 m_4_41 ?_
      exact s_iret R dX8_as_27
/-! X8_began -/
def F_X8_began (a1 : Int32) (σ : St) : Option St := if (nI 16) ≤ (σ.2 19) then (some σ) else (if ix (σ.2 19) 16 then some (setF (setA σ 37 (σ.2 19).toNatClampNeg a1) 19 (((setA σ 37 (σ.2 19).toNatClampNeg a1).2 19) + (nI 1))) else none)
set_option maxRecDepth 20000 in
theorem c_X8_began {G : Gx} {l : Launch} {a1 : Int32} {σ : St} {o : St} (hF : F_X8_began a1 σ = some o) : Con G l yX8_began cX8_began 2 none 0 [.ref (ga G 25), .int a1] σ none o := by
  refine Con.of plX8 (Nat.le_of_ble_eq_true rfl) [(0, .ref (ga G 25)), (1, .int a1)] rfl (fun X F R => ?_)
  refine (show Sim G X 2 o (F_X8_began a1 σ) σ 0 [(0, .ref (ga G 25)), (1, .int a1)] [] from ?_) hF
  unfold F_X8_began
  refine s_aload_n F 0 dX8_began_0 rfl rfl ?_
  refine fg_X8_243 F dX8_began_1 ?_
  refine s_bipush F (nI 16) dX8_began_4 rfl ?_
  refine s_icmp_ge F 29 dX8_began_6 (by decide) (fun c2 => ?_) (fun c2 => ?_)
  · exact s_vret R dX8_began_29
  · refine s_aload_n F 0 dX8_began_9 rfl rfl ?_
    refine fg_X8_44 F dX8_began_10 ?_
    refine s_aload_n F 0 dX8_began_13 rfl rfl ?_
    refine fg_X8_243 F dX8_began_14 ?_
    refine s_iload_n F 1 dX8_began_17 rfl rfl ?_
    refine s_iast F ar_37 dX8_began_18 (fun q1 => ?_)
    refine s_aload_n F 0 dX8_began_19 rfl rfl ?_
    refine s_dup F dX8_began_20 rfl ?_
    refine fg_X8_243 F dX8_began_21 ?_
    refine s_iconst F (nI 1) dX8_began_24 rfl ?_
    refine s_iadd F dX8_began_25 ?_
    refine fp_X8_243 F dX8_began_26 ?_
    exact s_vret R dX8_began_29
/-! X8_plainSize -/
def F_X8_plainSize (a1 : Int32) (σ : St) : Option (Int32 × St) := (F_X8_began (nI 10) σ).bind fun z1 => (F_X8_of 29 a1 (nI 3) z1).bind fun z2 => some (z2.1, z2.2)
set_option maxRecDepth 20000 in
theorem c_X8_plainSize {G : Gx} {l : Launch} {a1 : Int32} {σ : St} {o : (Int32 × St)} (hF : F_X8_plainSize a1 σ = some o) : Con G l yX8_plainSize cX8_plainSize 2 (some .int) 1 [.ref (ga G 25), .int a1] σ (some (.int o.1)) o.2 := by
  refine Con.of plX8 (Nat.le_of_ble_eq_true rfl) [(0, .ref (ga G 25)), (1, .int a1)] rfl (fun X F R => ?_)
  refine (show Sim G X 2 o (F_X8_plainSize a1 σ) σ 0 [(0, .ref (ga G 25)), (1, .int a1)] [] from ?_) hF
  unfold F_X8_plainSize
  refine s_aload_n F 0 dX8_plainSize_0 rfl rfl ?_
  refine s_bipush F (nI 10) dX8_plainSize_1 rfl ?_
  refine s_Vv F [.int (nI 10)] dX8_plainSize_3 (fun z hz => c_X8_began hz) wV_X8_246 nk_X8_began (by decide) (by decide) ob_25 vc_7 rfl rfl (Nat.le_of_ble_eq_true rfl) (fun z1 => ?_)
  refine s_aload_n F 0 dX8_plainSize_6 rfl rfl ?_
  refine fg_X8_19 F dX8_plainSize_7 ?_
  refine s_iload_n F 1 dX8_plainSize_10 rfl rfl ?_
  refine s_iconst F (nI 3) dX8_plainSize_11 rfl ?_
  refine s_Si F [.ref (ga G 29), .int a1, .int (nI 3)] dX8_plainSize_12 (fun z hz => c_X8_of ar_29 hz) wS_X8_149 nk_X8_of (by decide) (by decide) rfl rfl (Nat.le_of_ble_eq_true rfl) (fun z2 => ?_)
  exact s_iret R dX8_plainSize_15
/-! X8_leakySize -/
def J_X8_leakySize_29 (a1 : Int32) (a2 : Int32) (σ : St) : Option (Int32 × St) := (F_X8_began (nI 13) σ).bind fun z2 => (F_X8_plainSize a1 z2).bind fun z3 => if a2 = 0 then (some (z3.1 - (nI 100), z3.2)) else (some ((nI 2) * (z3.1 - (nI 100)), z3.2))
def J_X8_leakySize_18 (a1 : Int32) (s0 : Int32) (σ : St) : Option (Int32 × St) := if s0 = 0 then (J_X8_leakySize_29 a1 s0 σ) else ((F_X8_began (nI 14) σ).bind fun z5 => J_X8_leakySize_29 a1 s0 z5)
def F_X8_leakySize (a1 : Int32) (σ : St) : Option (Int32 × St) := (F_X8_of 29 a1 (nI 0) σ).bind fun z1 => if z1.1 = (nI 5) then (J_X8_leakySize_18 a1 (nI 1) z1.2) else (J_X8_leakySize_18 a1 (nI 0) z1.2)
set_option maxRecDepth 20000 in
theorem j_X8_leakySize_29 {G : Gx} {X : Cx} (F : Fx G X cX8_leakySize 4 RX8 2) {o : (Int32 × St)} (R : Ret G X cX8_leakySize 4 (some .int) (some (.int o.1)) o.2) (a1 : Int32) (a2 : Int32) (σ : St) : Sim G X 4 o (J_X8_leakySize_29 a1 a2 σ) σ 29 [(0, .ref (ga G 25)), (1, .int a1), (2, .int a2)] [] := by
  unfold J_X8_leakySize_29
  refine s_aload_n F 0 dX8_leakySize_29 rfl rfl ?_
  refine s_bipush F (nI 13) dX8_leakySize_30 rfl ?_
  refine s_Vv F [.int (nI 13)] dX8_leakySize_32 (fun z hz => c_X8_began hz) wV_X8_246 nk_X8_began (by decide) (by decide) ob_25 vc_7 rfl rfl (Nat.le_of_ble_eq_true rfl) (fun z2 => ?_)
  refine s_aload_n F 0 dX8_leakySize_35 rfl rfl ?_
  refine s_iload_n F 1 dX8_leakySize_36 rfl rfl ?_
  refine s_Vi F [.int a1] dX8_leakySize_37 (fun z hz => c_X8_plainSize hz) wV_X8_249 nk_X8_plainSize (by decide) (by decide) ob_25 vc_7 rfl rfl (Nat.le_of_ble_eq_true rfl) (fun z3 => ?_)
  refine s_bipush F (nI 100) dX8_leakySize_40 rfl ?_
  refine s_isub F dX8_leakySize_42 ?_
  refine s_istore_n F [(3, .int (z3.1 - (nI 100))), (0, .ref (ga G 25)), (1, .int a1), (2, .int a2)] dX8_leakySize_43 rfl (by decide) rfl ?_
  refine s_iload_n F 3 dX8_leakySize_44 rfl rfl ?_
  refine s_if_eq F 54 dX8_leakySize_45 (by decide) (fun c4 => ?_) (fun c4 => ?_)
  · refine s_iload_n F 0 dX8_leakySize_54 rfl rfl ?_
    exact s_iret R dX8_leakySize_55
  · refine s_iconst F (nI 2) dX8_leakySize_48 rfl ?_
    refine s_iload_n F 0 dX8_leakySize_49 rfl rfl ?_
    refine s_imul F dX8_leakySize_50 ?_
    refine s_goto F 55 dX8_leakySize_51 (by decide) ?_
    exact s_iret R dX8_leakySize_55
set_option maxRecDepth 20000 in
theorem j_X8_leakySize_18 {G : Gx} {X : Cx} (F : Fx G X cX8_leakySize 4 RX8 2) {o : (Int32 × St)} (R : Ret G X cX8_leakySize 4 (some .int) (some (.int o.1)) o.2) (a1 : Int32) (s0 : Int32) (σ : St) : Sim G X 4 o (J_X8_leakySize_18 a1 s0 σ) σ 18 [(0, .ref (ga G 25)), (1, .int a1)] [.int s0] := by
  unfold J_X8_leakySize_18
  refine s_istore_n F [(2, .int s0), (0, .ref (ga G 25)), (1, .int a1)] dX8_leakySize_18 rfl (by decide) rfl ?_
  refine s_iload_n F 0 dX8_leakySize_19 rfl rfl ?_
  refine s_if_eq F 29 dX8_leakySize_20 (by decide) (fun c6 => ?_) (fun c6 => ?_)
  · refine s_lv [(0, .ref (ga G 25)), (1, .int a1), (2, .int s0)] [1, 2, 0] rfl ?_
    exact j_X8_leakySize_29 F R _ _ _
  · refine s_aload_n F 1 dX8_leakySize_23 rfl rfl ?_
    refine s_bipush F (nI 14) dX8_leakySize_24 rfl ?_
    refine s_Vv F [.int (nI 14)] dX8_leakySize_26 (fun z hz => c_X8_began hz) wV_X8_246 nk_X8_began (by decide) (by decide) ob_25 vc_7 rfl rfl (Nat.le_of_ble_eq_true rfl) (fun z5 => ?_)
    refine s_lv [(0, .ref (ga G 25)), (1, .int a1), (2, .int s0)] [1, 2, 0] rfl ?_
    exact j_X8_leakySize_29 F R _ _ _
set_option maxRecDepth 20000 in
theorem c_X8_leakySize {G : Gx} {l : Launch} {a1 : Int32} {σ : St} {o : (Int32 × St)} (hF : F_X8_leakySize a1 σ = some o) : Con G l yX8_leakySize cX8_leakySize 4 (some .int) 2 [.ref (ga G 25), .int a1] σ (some (.int o.1)) o.2 := by
  refine Con.of plX8 (Nat.le_of_ble_eq_true rfl) [(0, .ref (ga G 25)), (1, .int a1)] rfl (fun X F R => ?_)
  refine (show Sim G X 4 o (F_X8_leakySize a1 σ) σ 0 [(0, .ref (ga G 25)), (1, .int a1)] [] from ?_) hF
  unfold F_X8_leakySize
  refine s_aload_n F 0 dX8_leakySize_0 rfl rfl ?_
  refine fg_X8_19 F dX8_leakySize_1 ?_
  refine s_iload_n F 1 dX8_leakySize_4 rfl rfl ?_
  refine s_iconst F (nI 0) dX8_leakySize_5 rfl ?_
  refine s_Si F [.ref (ga G 29), .int a1, .int (nI 0)] dX8_leakySize_6 (fun z hz => c_X8_of ar_29 hz) wS_X8_149 nk_X8_of (by decide) (by decide) rfl rfl (Nat.le_of_ble_eq_true rfl) (fun z1 => ?_)
  refine s_iconst F (nI 5) dX8_leakySize_9 rfl ?_
  refine s_icmp_ne F 17 dX8_leakySize_10 (by decide) (fun c7 => ?_) (fun c7 => ?_)
  · refine s_iconst F (nI 0) dX8_leakySize_17 rfl ?_
    exact j_X8_leakySize_18 F R _ _ _
  · refine s_iconst F (nI 1) dX8_leakySize_13 rfl ?_
    refine s_goto F 18 dX8_leakySize_14 (by decide) ?_
    exact j_X8_leakySize_18 F R _ _ _
/-! X8_markOf -/
def J_X8_markOf_56 (a1 : Int32) (a2 : Int32) (σ : St) : Option (Int32 × St) := (F_X8_began (nI 21) σ).bind fun z2 => (F_X8_began (nI 20) z2).bind fun z3 => (F_X8_of 29 a1 (nI 4) z3).bind fun z4 => if a2 = (nI 1) then (some (a1 + z4.1, z4.2)) else (if a2 = (nI 3) then (some ((a1 + z4.1) - (nI 1000), z4.2)) else (some ((nI 2) * (a1 + z4.1), z4.2)))
def J_X8_markOf_53 (a1 : Int32) (a2 : Int32) (s0 : Int32) (σ : St) : Option (Int32 × St) := (F_X8_began s0 σ).bind fun z7 => J_X8_markOf_56 a1 a2 z7
def F_X8_markOf (a1 : Int32) (σ : St) : Option (Int32 × St) := (F_X8_of 29 a1 (nI 0) σ).bind fun z1 => if z1.1 < (nI 4) then (if z1.1 = (nI 1) then (J_X8_markOf_56 a1 z1.1 z1.2) else (if z1.1 = (nI 3) then (J_X8_markOf_53 a1 z1.1 (nI 22) z1.2) else (J_X8_markOf_53 a1 z1.1 (nI 24) z1.2))) else ((F_X8_began (nI 23) z1.2).bind fun z10 => (F_X8_began (nI 20) z10).bind fun z11 => (F_X8_leakySize a1 z11).bind fun z12 => some (a1 - z12.1, z12.2))
set_option maxRecDepth 20000 in
theorem j_X8_markOf_56 {G : Gx} {X : Cx} (F : Fx G X cX8_markOf 4 RX8 3) {o : (Int32 × St)} (R : Ret G X cX8_markOf 4 (some .int) (some (.int o.1)) o.2) (a1 : Int32) (a2 : Int32) (σ : St) : Sim G X 4 o (J_X8_markOf_56 a1 a2 σ) σ 56 [(0, .ref (ga G 25)), (1, .int a1), (2, .int a2)] [] := by
  unfold J_X8_markOf_56
  refine s_aload_n F 0 dX8_markOf_56 rfl rfl ?_
  refine s_bipush F (nI 21) dX8_markOf_57 rfl ?_
  refine s_Vv F [.int (nI 21)] dX8_markOf_59 (fun z hz => c_X8_began hz) wV_X8_246 nk_X8_began (by decide) (by decide) ob_25 vc_7 rfl rfl (Nat.le_of_ble_eq_true rfl) (fun z2 => ?_)
  refine s_aload_n F 0 dX8_markOf_62 rfl rfl ?_
  refine s_bipush F (nI 20) dX8_markOf_63 rfl ?_
  refine s_Vv F [.int (nI 20)] dX8_markOf_65 (fun z hz => c_X8_began hz) wV_X8_246 nk_X8_began (by decide) (by decide) ob_25 vc_7 rfl rfl (Nat.le_of_ble_eq_true rfl) (fun z3 => ?_)
  refine s_iload_n F 1 dX8_markOf_68 rfl rfl ?_
  refine s_aload_n F 0 dX8_markOf_69 rfl rfl ?_
  refine fg_X8_19 F dX8_markOf_70 ?_
  refine s_iload_n F 1 dX8_markOf_73 rfl rfl ?_
  refine s_iconst F (nI 4) dX8_markOf_74 rfl ?_
  refine s_Si F [.ref (ga G 29), .int a1, .int (nI 4)] dX8_markOf_75 (fun z hz => c_X8_of ar_29 hz) wS_X8_149 nk_X8_of (by decide) (by decide) rfl rfl (Nat.le_of_ble_eq_true rfl) (fun z4 => ?_)
  refine s_iadd F dX8_markOf_78 ?_
  refine s_istore_n F [(3, .int (a1 + z4.1)), (0, .ref (ga G 25)), (1, .int a1), (2, .int a2)] dX8_markOf_79 rfl (by decide) rfl ?_
  refine s_iload_n F 3 dX8_markOf_80 rfl rfl ?_
  refine s_iconst F (nI 1) dX8_markOf_81 rfl ?_
  refine s_icmp_ne F 89 dX8_markOf_82 (by decide) (fun c6 => ?_) (fun c6 => ?_)
  · refine s_iload_n F 3 dX8_markOf_89 rfl rfl ?_
    refine s_iconst F (nI 3) dX8_markOf_90 rfl ?_
    refine s_icmp_ne F 102 dX8_markOf_91 (by decide) (fun c5 => ?_) (fun c5 => ?_)
    · refine s_iconst F (nI 2) dX8_markOf_102 rfl ?_
      refine s_iload_n F 0 dX8_markOf_103 rfl rfl ?_
      refine s_imul F dX8_markOf_104 ?_
      exact s_iret R dX8_markOf_105
    · refine s_iload_n F 0 dX8_markOf_94 rfl rfl ?_
      refine s_sipush F (nI 1000) dX8_markOf_95 rfl ?_
      refine s_isub F dX8_markOf_98 ?_
      refine s_goto F 105 dX8_markOf_99 (by decide) ?_
      exact s_iret R dX8_markOf_105
  · refine s_iload_n F 0 dX8_markOf_85 rfl rfl ?_
    refine s_goto F 105 dX8_markOf_86 (by decide) ?_
    exact s_iret R dX8_markOf_105
set_option maxRecDepth 20000 in
theorem j_X8_markOf_53 {G : Gx} {X : Cx} (F : Fx G X cX8_markOf 4 RX8 3) {o : (Int32 × St)} (R : Ret G X cX8_markOf 4 (some .int) (some (.int o.1)) o.2) (a1 : Int32) (a2 : Int32) (s0 : Int32) (σ : St) : Sim G X 4 o (J_X8_markOf_53 a1 a2 s0 σ) σ 53 [(0, .ref (ga G 25)), (1, .int a1), (2, .int a2)] [.int s0, .ref (ga G 25)] := by
  unfold J_X8_markOf_53
  refine s_Vv F [.int s0] dX8_markOf_53 (fun z hz => c_X8_began hz) wV_X8_246 nk_X8_began (by decide) (by decide) ob_25 vc_7 rfl rfl (Nat.le_of_ble_eq_true rfl) (fun z7 => ?_)
  exact j_X8_markOf_56 F R _ _ _
set_option maxRecDepth 20000 in
theorem c_X8_markOf {G : Gx} {l : Launch} {a1 : Int32} {σ : St} {o : (Int32 × St)} (hF : F_X8_markOf a1 σ = some o) : Con G l yX8_markOf cX8_markOf 4 (some .int) 3 [.ref (ga G 25), .int a1] σ (some (.int o.1)) o.2 := by
  refine Con.of plX8 (Nat.le_of_ble_eq_true rfl) [(0, .ref (ga G 25)), (1, .int a1)] rfl (fun X F R => ?_)
  refine (show Sim G X 4 o (F_X8_markOf a1 σ) σ 0 [(0, .ref (ga G 25)), (1, .int a1)] [] from ?_) hF
  unfold F_X8_markOf
  refine s_aload_n F 0 dX8_markOf_0 rfl rfl ?_
  refine fg_X8_19 F dX8_markOf_1 ?_
  refine s_iload_n F 1 dX8_markOf_4 rfl rfl ?_
  refine s_iconst F (nI 0) dX8_markOf_5 rfl ?_
  refine s_Si F [.ref (ga G 29), .int a1, .int (nI 0)] dX8_markOf_6 (fun z hz => c_X8_of ar_29 hz) wS_X8_149 nk_X8_of (by decide) (by decide) rfl rfl (Nat.le_of_ble_eq_true rfl) (fun z1 => ?_)
  refine s_istore_n F [(2, .int z1.1), (0, .ref (ga G 25)), (1, .int a1)] dX8_markOf_9 rfl (by decide) rfl ?_
  refine s_iload_n F 0 dX8_markOf_10 rfl rfl ?_
  refine s_iconst F (nI 4) dX8_markOf_11 rfl ?_
  refine s_icmp_lt F 35 dX8_markOf_12 (by decide) (fun c13 => ?_) (fun c13 => ?_)
  · refine s_iload_n F 0 dX8_markOf_35 rfl rfl ?_
    refine s_iconst F (nI 1) dX8_markOf_36 rfl ?_
    refine s_icmp_eq F 56 dX8_markOf_37 (by decide) (fun c9 => ?_) (fun c9 => ?_)
    · refine s_lv [(0, .ref (ga G 25)), (1, .int a1), (2, .int z1.1)] [1, 2, 0] rfl ?_
      exact j_X8_markOf_56 F R _ _ _
    · refine s_aload_n F 1 dX8_markOf_40 rfl rfl ?_
      refine s_iload_n F 0 dX8_markOf_41 rfl rfl ?_
      refine s_iconst F (nI 3) dX8_markOf_42 rfl ?_
      refine s_icmp_ne F 51 dX8_markOf_43 (by decide) (fun c8 => ?_) (fun c8 => ?_)
      · refine s_bipush F (nI 24) dX8_markOf_51 rfl ?_
        refine s_lv [(0, .ref (ga G 25)), (1, .int a1), (2, .int z1.1)] [1, 2, 0] rfl ?_
        exact j_X8_markOf_53 F R _ _ _ _
      · refine s_bipush F (nI 22) dX8_markOf_46 rfl ?_
        refine s_goto F 53 dX8_markOf_48 (by decide) ?_
        refine s_lv [(0, .ref (ga G 25)), (1, .int a1), (2, .int z1.1)] [1, 2, 0] rfl ?_
        exact j_X8_markOf_53 F R _ _ _ _
  · refine s_aload_n F 1 dX8_markOf_15 rfl rfl ?_
    refine s_bipush F (nI 23) dX8_markOf_16 rfl ?_
    refine s_Vv F [.int (nI 23)] dX8_markOf_18 (fun z hz => c_X8_began hz) wV_X8_246 nk_X8_began (by decide) (by decide) ob_25 vc_7 rfl rfl (Nat.le_of_ble_eq_true rfl) (fun z10 => ?_)
    refine s_aload_n F 1 dX8_markOf_21 rfl rfl ?_
    refine s_bipush F (nI 20) dX8_markOf_22 rfl ?_
    refine s_Vv F [.int (nI 20)] dX8_markOf_24 (fun z hz => c_X8_began hz) wV_X8_246 nk_X8_began (by decide) (by decide) ob_25 vc_7 rfl rfl (Nat.le_of_ble_eq_true rfl) (fun z11 => ?_)
    refine s_iload_n F 2 dX8_markOf_27 rfl rfl ?_
    refine s_aload_n F 1 dX8_markOf_28 rfl rfl ?_
    refine s_iload_n F 2 dX8_markOf_29 rfl rfl ?_
    refine s_Vi F [.int a1] dX8_markOf_30 (fun z hz => c_X8_leakySize hz) wV_X8_252 nk_X8_leakySize (by decide) (by decide) ob_25 vc_7 rfl rfl (Nat.le_of_ble_eq_true rfl) (fun z12 => ?_)
    refine s_isub F dX8_markOf_33 ?_
    exact s_iret R dX8_markOf_34
/-! X8_sizeOf -/
def J_X8_sizeOf_32 (a1 : Int32) (a2 : Int32) (σ : St) : Option (Int32 × St) := (F_X8_began (nI 11) σ).bind fun z2 => (F_X8_plainSize a1 z2).bind fun z3 => (F_X8_markOf a1 z3.2).bind fun z4 => if a2 = (nI 2) then (some (-(z3.1 + z4.1), z4.2)) else (some (z3.1 + z4.1, z4.2))
def F_X8_sizeOf (a1 : Int32) (σ : St) : Option (Int32 × St) := (F_X8_of 29 a1 (nI 0) σ).bind fun z1 => if z1.1 < (nI 4) then (if z1.1 = (nI 2) then ((F_X8_began (nI 12) z1.2).bind fun z6 => J_X8_sizeOf_32 a1 z1.1 z6) else (J_X8_sizeOf_32 a1 z1.1 z1.2)) else ((F_X8_leakySize a1 z1.2).bind fun z8 => some (z8.1, z8.2))
set_option maxRecDepth 20000 in
theorem j_X8_sizeOf_32 {G : Gx} {X : Cx} (F : Fx G X cX8_sizeOf 4 RX8 4) {o : (Int32 × St)} (R : Ret G X cX8_sizeOf 4 (some .int) (some (.int o.1)) o.2) (a1 : Int32) (a2 : Int32) (σ : St) : Sim G X 4 o (J_X8_sizeOf_32 a1 a2 σ) σ 32 [(0, .ref (ga G 25)), (1, .int a1), (2, .int a2)] [] := by
  unfold J_X8_sizeOf_32
  refine s_aload_n F 0 dX8_sizeOf_32 rfl rfl ?_
  refine s_bipush F (nI 11) dX8_sizeOf_33 rfl ?_
  refine s_Vv F [.int (nI 11)] dX8_sizeOf_35 (fun z hz => c_X8_began hz) wV_X8_246 nk_X8_began (by decide) (by decide) ob_25 vc_7 rfl rfl (Nat.le_of_ble_eq_true rfl) (fun z2 => ?_)
  refine s_aload_n F 0 dX8_sizeOf_38 rfl rfl ?_
  refine s_iload_n F 1 dX8_sizeOf_39 rfl rfl ?_
  refine s_Vi F [.int a1] dX8_sizeOf_40 (fun z hz => c_X8_plainSize hz) wV_X8_249 nk_X8_plainSize (by decide) (by decide) ob_25 vc_7 rfl rfl (Nat.le_of_ble_eq_true rfl) (fun z3 => ?_)
  refine s_istore_n F [(3, .int z3.1), (0, .ref (ga G 25)), (1, .int a1), (2, .int a2)] dX8_sizeOf_43 rfl (by decide) rfl ?_
  refine s_iload_n F 0 dX8_sizeOf_44 rfl rfl ?_
  refine s_aload_n F 1 dX8_sizeOf_45 rfl rfl ?_
  refine s_iload_n F 2 dX8_sizeOf_46 rfl rfl ?_
  refine s_Vi F [.int a1] dX8_sizeOf_47 (fun z hz => c_X8_markOf hz) wV_X8_255 nk_X8_markOf (by decide) (by decide) ob_25 vc_7 rfl rfl (Nat.le_of_ble_eq_true rfl) (fun z4 => ?_)
  refine s_iadd F dX8_sizeOf_50 ?_
  refine s_istore_n F [(3, .int (z3.1 + z4.1)), (0, .ref (ga G 25)), (1, .int a1), (2, .int a2)] dX8_sizeOf_51 rfl (by decide) rfl ?_
  refine s_iload_n F 3 dX8_sizeOf_52 rfl rfl ?_
  refine s_iconst F (nI 2) dX8_sizeOf_53 rfl ?_
  refine s_icmp_ne F 62 dX8_sizeOf_54 (by decide) (fun c5 => ?_) (fun c5 => ?_)
  · refine s_iload_n F 0 dX8_sizeOf_62 rfl rfl ?_
    exact s_iret R dX8_sizeOf_63
  · refine s_iload_n F 0 dX8_sizeOf_57 rfl rfl ?_
    refine s_ineg F dX8_sizeOf_58 ?_
    refine s_goto F 63 dX8_sizeOf_59 (by decide) ?_
    exact s_iret R dX8_sizeOf_63
set_option maxRecDepth 20000 in
theorem c_X8_sizeOf {G : Gx} {l : Launch} {a1 : Int32} {σ : St} {o : (Int32 × St)} (hF : F_X8_sizeOf a1 σ = some o) : Con G l yX8_sizeOf cX8_sizeOf 4 (some .int) 4 [.ref (ga G 25), .int a1] σ (some (.int o.1)) o.2 := by
  refine Con.of plX8 (Nat.le_of_ble_eq_true rfl) [(0, .ref (ga G 25)), (1, .int a1)] rfl (fun X F R => ?_)
  refine (show Sim G X 4 o (F_X8_sizeOf a1 σ) σ 0 [(0, .ref (ga G 25)), (1, .int a1)] [] from ?_) hF
  unfold F_X8_sizeOf
  refine s_aload_n F 0 dX8_sizeOf_0 rfl rfl ?_
  refine fg_X8_19 F dX8_sizeOf_1 ?_
  refine s_iload_n F 1 dX8_sizeOf_4 rfl rfl ?_
  refine s_iconst F (nI 0) dX8_sizeOf_5 rfl ?_
  refine s_Si F [.ref (ga G 29), .int a1, .int (nI 0)] dX8_sizeOf_6 (fun z hz => c_X8_of ar_29 hz) wS_X8_149 nk_X8_of (by decide) (by decide) rfl rfl (Nat.le_of_ble_eq_true rfl) (fun z1 => ?_)
  refine s_istore_n F [(2, .int z1.1), (0, .ref (ga G 25)), (1, .int a1)] dX8_sizeOf_9 rfl (by decide) rfl ?_
  refine s_iload_n F 0 dX8_sizeOf_10 rfl rfl ?_
  refine s_iconst F (nI 4) dX8_sizeOf_11 rfl ?_
  refine s_icmp_lt F 21 dX8_sizeOf_12 (by decide) (fun c9 => ?_) (fun c9 => ?_)
  · refine s_iload_n F 0 dX8_sizeOf_21 rfl rfl ?_
    refine s_iconst F (nI 2) dX8_sizeOf_22 rfl ?_
    refine s_icmp_ne F 32 dX8_sizeOf_23 (by decide) (fun c7 => ?_) (fun c7 => ?_)
    · refine s_lv [(0, .ref (ga G 25)), (1, .int a1), (2, .int z1.1)] [1, 2, 0] rfl ?_
      exact j_X8_sizeOf_32 F R _ _ _
    · refine s_aload_n F 1 dX8_sizeOf_26 rfl rfl ?_
      refine s_bipush F (nI 12) dX8_sizeOf_27 rfl ?_
      refine s_Vv F [.int (nI 12)] dX8_sizeOf_29 (fun z hz => c_X8_began hz) wV_X8_246 nk_X8_began (by decide) (by decide) ob_25 vc_7 rfl rfl (Nat.le_of_ble_eq_true rfl) (fun z6 => ?_)
      refine s_lv [(0, .ref (ga G 25)), (1, .int a1), (2, .int z1.1)] [1, 2, 0] rfl ?_
      exact j_X8_sizeOf_32 F R _ _ _
  · refine s_aload_n F 1 dX8_sizeOf_15 rfl rfl ?_
    refine s_iload_n F 2 dX8_sizeOf_16 rfl rfl ?_
    refine s_Vi F [.int a1] dX8_sizeOf_17 (fun z hz => c_X8_leakySize hz) wV_X8_252 nk_X8_leakySize (by decide) (by decide) ob_25 vc_7 rfl rfl (Nat.le_of_ble_eq_true rfl) (fun z8 => ?_)
    exact s_iret R dX8_sizeOf_20
/-! X8_ask -/
def F_X8_ask (a1 : Int32) (a2 : Int32) (σ : St) : Option (Int32 × St) := (F_X8_isPipe a1 (setF σ 8 (nI 0))).bind fun z1 => if z1.1 = 0 then (some ((-1000001 : Int32), z1.2)) else ((F_X8_in a2.toInt64 (lN 0) (lN 1) z1.2).bind fun z2 => if z2.1 = 0 then (some ((-1000001 : Int32), z2.2)) else (if a2 = 0 then ((F_X8_sizeOf a1 (setF z2.2 19 (nI 0))).bind fun z4 => some (z4.1, z4.2)) else ((F_X8_markOf a1 (setF z2.2 19 (nI 0))).bind fun z3 => some (z3.1, z3.2))))
set_option maxRecDepth 20000 in
theorem c_X8_ask {G : Gx} {l : Launch} {a1 : Int32} {a2 : Int32} {σ : St} {o : (Int32 × St)} (hF : F_X8_ask a1 a2 σ = some o) : Con G l yX8_ask cX8_ask 3 (some .int) 5 [.ref (ga G 25), .int a1, .int a2] σ (some (.int o.1)) o.2 := by
  refine Con.of plX8 (Nat.le_of_ble_eq_true rfl) [(0, .ref (ga G 25)), (1, .int a1), (2, .int a2)] rfl (fun X F R => ?_)
  refine (show Sim G X 3 o (F_X8_ask a1 a2 σ) σ 0 [(0, .ref (ga G 25)), (1, .int a1), (2, .int a2)] [] from ?_) hF
  unfold F_X8_ask
  refine s_aload_n F 0 dX8_ask_0 rfl rfl ?_
  refine s_iconst F (nI 0) dX8_ask_1 rfl ?_
  refine fp_X8_47 F dX8_ask_2 ?_
  refine s_aload_n F 0 dX8_ask_5 rfl rfl ?_
  refine s_iload_n F 1 dX8_ask_6 rfl rfl ?_
  refine s_Vi F [.int a1] dX8_ask_7 (fun z hz => c_X8_isPipe hz) wV_X8_191 nk_X8_isPipe (by decide) (by decide) ob_25 vc_7 rfl rfl (Nat.le_of_ble_eq_true rfl) (fun z1 => ?_)
  refine s_if_eq F 23 dX8_ask_10 (by decide) (fun c7 => ?_) (fun c7 => ?_)
  · refine s_ldc F dX8_ask_23 m_4_41 ?_
    exact s_iret R dX8_ask_25
  · refine s_iload_n F 2 dX8_ask_13 rfl rfl ?_
    refine s_i2l F dX8_ask_14 ?_
    refine s_lconst F (lN 0) dX8_ask_15 rfl ?_
    refine s_lconst F (lN 1) dX8_ask_16 rfl ?_
    refine s_Si F [.long a2.toInt64, .long (lN 0), .long (lN 1)] dX8_ask_17 (fun z hz => c_X8_in hz) wS_X8_57 nk_X8_in (by decide) (by decide) rfl rfl (Nat.le_of_ble_eq_true rfl) (fun z2 => ?_)
    refine s_if_ne F 26 dX8_ask_20 (by decide) (fun c6 => ?_) (fun c6 => ?_)
    · refine s_aload_n F 0 dX8_ask_26 rfl rfl ?_
      refine s_iconst F (nI 0) dX8_ask_27 rfl ?_
      refine fp_X8_243 F dX8_ask_28 ?_
      refine s_iload_n F 2 dX8_ask_31 rfl rfl ?_
      refine s_if_ne F 43 dX8_ask_32 (by decide) (fun c5 => ?_) (fun c5 => ?_)
      · refine s_aload_n F 0 dX8_ask_43 rfl rfl ?_
        refine s_iload_n F 1 dX8_ask_44 rfl rfl ?_
        refine s_Vi F [.int a1] dX8_ask_45 (fun z hz => c_X8_markOf hz) wV_X8_255 nk_X8_markOf (by decide) (by decide) ob_25 vc_7 rfl rfl (Nat.le_of_ble_eq_true rfl) (fun z3 => ?_)
        exact s_iret R dX8_ask_48
      · refine s_aload_n F 0 dX8_ask_35 rfl rfl ?_
        refine s_iload_n F 1 dX8_ask_36 rfl rfl ?_
        refine s_Vi F [.int a1] dX8_ask_37 (fun z hz => c_X8_sizeOf hz) wV_X8_258 nk_X8_sizeOf (by decide) (by decide) ob_25 vc_7 rfl rfl (Nat.le_of_ble_eq_true rfl) (fun z4 => ?_)
        refine s_goto F 48 dX8_ask_40 (by decide) ?_
        exact s_iret R dX8_ask_48
    · refine s_ldc F dX8_ask_23 m_4_41 ?_
      exact s_iret R dX8_ask_25
/-! X8_trace -/
def F_X8_trace (a1 : Int32) (σ : St) : Option (Int32 × St) := (F_X8_in a1.toInt64 (lN 0) (((setF σ 8 (nI 0)).2 19) - (nI 1)).toInt64 (setF σ 8 (nI 0))).bind fun z1 => if z1.1 = 0 then (some ((-1000000 : Int32), z1.2)) else (if ix a1 16 then some (z1.2.1 37 a1.toNatClampNeg, z1.2) else none)
set_option maxRecDepth 20000 in
theorem c_X8_trace {G : Gx} {l : Launch} {a1 : Int32} {σ : St} {o : (Int32 × St)} (hF : F_X8_trace a1 σ = some o) : Con G l yX8_trace cX8_trace 2 (some .int) 1 [.ref (ga G 25), .int a1] σ (some (.int o.1)) o.2 := by
  refine Con.of plX8 (Nat.le_of_ble_eq_true rfl) [(0, .ref (ga G 25)), (1, .int a1)] rfl (fun X F R => ?_)
  refine (show Sim G X 2 o (F_X8_trace a1 σ) σ 0 [(0, .ref (ga G 25)), (1, .int a1)] [] from ?_) hF
  unfold F_X8_trace
  refine s_aload_n F 0 dX8_trace_0 rfl rfl ?_
  refine s_iconst F (nI 0) dX8_trace_1 rfl ?_
  refine fp_X8_47 F dX8_trace_2 ?_
  refine s_iload_n F 1 dX8_trace_5 rfl rfl ?_
  refine s_i2l F dX8_trace_6 ?_
  refine s_lconst F (lN 0) dX8_trace_7 rfl ?_
  refine s_aload_n F 0 dX8_trace_8 rfl rfl ?_
  refine fg_X8_243 F dX8_trace_9 ?_
  refine s_iconst F (nI 1) dX8_trace_12 rfl ?_
  refine s_isub F dX8_trace_13 ?_
  refine s_i2l F dX8_trace_14 ?_
  refine s_Si F [.long a1.toInt64, .long (lN 0), .long (((setF σ 8 (nI 0)).2 19) - (nI 1)).toInt64] dX8_trace_15 (fun z hz => c_X8_in hz) wS_X8_57 nk_X8_in (by decide) (by decide) rfl rfl (Nat.le_of_ble_eq_true rfl) (fun z1 => ?_)
  refine s_if_eq F 30 dX8_trace_18 (by decide) (fun c3 => ?_) (fun c3 => ?_)
  · refine s_ldc F dX8_trace_30 m_4_81 ?_
    exact s_iret R dX8_trace_32
  · refine s_aload_n F 0 dX8_trace_21 rfl rfl ?_
    refine fg_X8_44 F dX8_trace_22 ?_
    refine s_iload_n F 1 dX8_trace_25 rfl rfl ?_
    refine s_iald F ar_37 dX8_trace_26 (fun q2 => ?_)
    refine s_goto F 32 dX8_trace_27 (by decide) ?_
    exact s_iret R dX8_trace_32
/-! X8_count -/
def L_X8_count_58 (K : Int32 → St → Option (Int32 × St)) : Nat → Int32 → Int32 → St → Option (Int32 × St)
  | 0, _, _, _ => none
  | n + 1, a2, a3, σ => if (nI 8) ≤ a3 then (K a2 σ) else (if ix a3 8 then if (σ.1 26 a3.toNatClampNeg) < 0 then (L_X8_count_58 K n (a2 + (nI 0)) (a3 + (nI 1)) σ) else (L_X8_count_58 K n (a2 + (nI 1)) (a3 + (nI 1)) σ) else none)
def F_X8_count (a1 : Int32) (σ : St) : Option (Int32 × St) := if a1 = (0 : Int32) then (L_X8_count_58 (fun a2 σ => some (a2, σ)) fuel (nI 0) (nI 0) (setF σ 8 (nI 0))) else (if a1 = (1 : Int32) then (if ix (nI 0) 80 then some ((setF σ 8 (nI 0)).1 29 (nI 0).toNatClampNeg, setF σ 8 (nI 0)) else none) else (if a1 = (2 : Int32) then (if ix (nI 2) 80 then some ((setF σ 8 (nI 0)).1 29 (nI 2).toNatClampNeg, setF σ 8 (nI 0)) else none) else (if a1 = (3 : Int32) then (if ix (nI 3) 80 then some ((setF σ 8 (nI 0)).1 29 (nI 3).toNatClampNeg, setF σ 8 (nI 0)) else none) else (if a1 = (4 : Int32) then (if ix (nI 4) 80 then some ((setF σ 8 (nI 0)).1 29 (nI 4).toNatClampNeg, setF σ 8 (nI 0)) else none) else (if a1 = (5 : Int32) then ((F_X8_sounds 29 (setF σ 8 (nI 0))).bind fun z14 => some (z14.1, z14.2)) else (if a1 = (6 : Int32) then (some ((setF σ 8 (nI 0)).2 10, setF σ 8 (nI 0))) else (if a1 = (7 : Int32) then (some ((setF σ 8 (nI 0)).2 11, setF σ 8 (nI 0))) else (some ((-1000001 : Int32), setF σ 8 (nI 0))))))))))
set_option maxRecDepth 20000 in
theorem l_X8_count_58 {G : Gx} {X : Cx} (F : Fx G X cX8_count 4 RX8 3) {o : (Int32 × St)} (R : Ret G X cX8_count 4 (some .int) (some (.int o.1)) o.2) {K : Int32 → St → Option (Int32 × St)} (hK : ∀ (a2 : Int32) (σ : St), Sim G X 4 o (K a2 σ) σ 87 [(2, .int a2)] []) : ∀ (n : Nat) (a2 : Int32) (a3 : Int32) (σ : St), Sim G X 4 o (L_X8_count_58 K n a2 a3 σ) σ 58 [(0, .ref (ga G 25)), (2, .int a2), (3, .int a3)] [] := by
  intro n
  induction n with
  | zero =>
    intro a2 a3 σ
    exact s_none
  | succ n ih =>
    intro a2 a3 σ
    rw [L_X8_count_58.eq_2]
    refine s_iload_n F 2 dX8_count_58 rfl rfl ?_
    refine s_bipush F (nI 8) dX8_count_59 rfl ?_
    refine s_icmp_ge F 87 dX8_count_61 (by decide) (fun c4 => ?_) (fun c4 => ?_)
    · refine s_lv [(2, .int a2)] [1] rfl ?_
      exact hK _ _
    · refine s_iload_n F 1 dX8_count_64 rfl rfl ?_
      refine s_aload_n F 0 dX8_count_65 rfl rfl ?_
      refine fg_X8_7 F dX8_count_66 ?_
      refine s_iload_n F 2 dX8_count_69 rfl rfl ?_
      refine s_iald F ar_26 dX8_count_70 (fun q2 => ?_)
      refine s_if_lt F 78 dX8_count_71 (by decide) (fun c3 => ?_) (fun c3 => ?_)
      · refine s_iconst F (nI 0) dX8_count_78 rfl ?_
        refine s_iadd F dX8_count_79 ?_
        refine s_istore_n F [(2, .int (a2 + (nI 0))), (0, .ref (ga G 25)), (3, .int a3)] dX8_count_80 rfl (by decide) rfl ?_
        refine s_iinc F 2 [(3, .int (a3 + (nI 1))), (2, .int (a2 + (nI 0))), (0, .ref (ga G 25))] dX8_count_81 rfl rfl (by decide) rfl ?_
        refine s_goto F 58 dX8_count_84 (by decide) ?_
        refine s_lv [(0, .ref (ga G 25)), (2, .int (a2 + (nI 0))), (3, .int (a3 + (nI 1)))] [2, 1, 0] rfl ?_
        exact ih _ _ _
      · refine s_iconst F (nI 1) dX8_count_74 rfl ?_
        refine s_goto F 79 dX8_count_75 (by decide) ?_
        refine s_iadd F dX8_count_79 ?_
        refine s_istore_n F [(2, .int (a2 + (nI 1))), (0, .ref (ga G 25)), (3, .int a3)] dX8_count_80 rfl (by decide) rfl ?_
        refine s_iinc F 2 [(3, .int (a3 + (nI 1))), (2, .int (a2 + (nI 1))), (0, .ref (ga G 25))] dX8_count_81 rfl rfl (by decide) rfl ?_
        refine s_goto F 58 dX8_count_84 (by decide) ?_
        refine s_lv [(0, .ref (ga G 25)), (2, .int (a2 + (nI 1))), (3, .int (a3 + (nI 1)))] [2, 1, 0] rfl ?_
        exact ih _ _ _
set_option maxRecDepth 20000 in
theorem c_X8_count {G : Gx} {l : Launch} {a1 : Int32} {σ : St} {o : (Int32 × St)} (hF : F_X8_count a1 σ = some o) : Con G l yX8_count cX8_count 4 (some .int) 3 [.ref (ga G 25), .int a1] σ (some (.int o.1)) o.2 := by
  refine Con.of plX8 (Nat.le_of_ble_eq_true rfl) [(0, .ref (ga G 25)), (1, .int a1)] rfl (fun X F R => ?_)
  refine (show Sim G X 4 o (F_X8_count a1 σ) σ 0 [(0, .ref (ga G 25)), (1, .int a1)] [] from ?_) hF
  unfold F_X8_count
  refine s_aload_n F 0 dX8_count_0 rfl rfl ?_
  refine s_iconst F (nI 0) dX8_count_1 rfl ?_
  refine fp_X8_47 F dX8_count_2 ?_
  refine s_iconst F (nI 0) dX8_count_5 rfl ?_
  refine s_istore_n F [(2, .int (nI 0)), (0, .ref (ga G 25)), (1, .int a1)] dX8_count_6 rfl (by decide) rfl ?_
  refine s_iload_n F 2 dX8_count_7 rfl rfl ?_
  refine s_ite (fun c1 => ?_) (fun c1 => ?_)
  · refine s_tin F 56 dX8_count_8 (0 : Int32) c1 (by decide) (by decide) rfl (by decide) ?_
    refine s_iconst F (nI 0) dX8_count_56 rfl ?_
    refine s_istore_n F [(3, .int (nI 0)), (2, .int (nI 0)), (0, .ref (ga G 25)), (1, .int a1)] dX8_count_57 rfl (by decide) rfl ?_
    refine s_lv [(0, .ref (ga G 25)), (2, .int (nI 0)), (3, .int (nI 0))] [2, 1, 0] rfl ?_
    refine l_X8_count_58 F R (fun a2 σ => ?_) fuel _ _ _
    refine s_iload_n F 0 dX8_count_87 rfl rfl ?_
    exact s_iret R dX8_count_88
  · refine s_ite (fun c5 => ?_) (fun c5 => ?_)
    · refine s_tin F 89 dX8_count_8 (1 : Int32) c5 (by decide) (by decide) rfl (by decide) ?_
      refine s_aload_n F 1 dX8_count_89 rfl rfl ?_
      refine fg_X8_19 F dX8_count_90 ?_
      refine s_iconst F (nI 0) dX8_count_93 rfl ?_
      refine s_iald F ar_29 dX8_count_94 (fun q6 => ?_)
      exact s_iret R dX8_count_95
    · refine s_ite (fun c7 => ?_) (fun c7 => ?_)
      · refine s_tin F 96 dX8_count_8 (2 : Int32) c7 (by decide) (by decide) rfl (by decide) ?_
        refine s_aload_n F 1 dX8_count_96 rfl rfl ?_
        refine fg_X8_19 F dX8_count_97 ?_
        refine s_iconst F (nI 2) dX8_count_100 rfl ?_
        refine s_iald F ar_29 dX8_count_101 (fun q8 => ?_)
        exact s_iret R dX8_count_102
      · refine s_ite (fun c9 => ?_) (fun c9 => ?_)
        · refine s_tin F 103 dX8_count_8 (3 : Int32) c9 (by decide) (by decide) rfl (by decide) ?_
          refine s_aload_n F 1 dX8_count_103 rfl rfl ?_
          refine fg_X8_19 F dX8_count_104 ?_
          refine s_iconst F (nI 3) dX8_count_107 rfl ?_
          refine s_iald F ar_29 dX8_count_108 (fun q10 => ?_)
          exact s_iret R dX8_count_109
        · refine s_ite (fun c11 => ?_) (fun c11 => ?_)
          · refine s_tin F 110 dX8_count_8 (4 : Int32) c11 (by decide) (by decide) rfl (by decide) ?_
            refine s_aload_n F 1 dX8_count_110 rfl rfl ?_
            refine fg_X8_19 F dX8_count_111 ?_
            refine s_iconst F (nI 4) dX8_count_114 rfl ?_
            refine s_iald F ar_29 dX8_count_115 (fun q12 => ?_)
            exact s_iret R dX8_count_116
          · refine s_ite (fun c13 => ?_) (fun c13 => ?_)
            · refine s_tin F 117 dX8_count_8 (5 : Int32) c13 (by decide) (by decide) rfl (by decide) ?_
              refine s_aload_n F 1 dX8_count_117 rfl rfl ?_
              refine fg_X8_19 F dX8_count_118 ?_
              refine s_Si F [.ref (ga G 29)] dX8_count_121 (fun z hz => c_X8_sounds ar_29 hz) wS_X8_164 nk_X8_sounds (by decide) (by decide) rfl rfl (Nat.le_of_ble_eq_true rfl) (fun z14 => ?_)
              exact s_iret R dX8_count_124
            · refine s_ite (fun c15 => ?_) (fun c15 => ?_)
              · refine s_tin F 125 dX8_count_8 (6 : Int32) c15 (by decide) (by decide) rfl (by decide) ?_
                refine s_aload_n F 1 dX8_count_125 rfl rfl ?_
                refine fg_X8_146 F dX8_count_126 ?_
                exact s_iret R dX8_count_129
              · refine s_ite (fun c16 => ?_) (fun c16 => ?_)
                · refine s_tin F 130 dX8_count_8 (7 : Int32) c16 (by decide) (by decide) rfl (by decide) ?_
                  refine s_aload_n F 1 dX8_count_130 rfl rfl ?_
                  refine fg_X8_74 F dX8_count_131 ?_
                  exact s_iret R dX8_count_134
                · refine s_tout F 135 dX8_count_8 (sw_out_8 c1 c5 c7 c9 c11 c13 c15 c16) (by decide) ?_
                  refine s_ldc F dX8_count_135 m_4_41 ?_
                  exact s_iret R dX8_count_137
/-! X8_status -/
def F_X8_status (σ : St) : Option (Int32 × St) := some ((setF σ 8 (nI 0)).2 9, setF σ 8 (nI 0))
set_option maxRecDepth 20000 in
theorem c_X8_status {G : Gx} {l : Launch} {σ : St} {o : (Int32 × St)} (hF : F_X8_status σ = some o) : Con G l yX8_status cX8_status 1 (some .int) 0 [.ref (ga G 25)] σ (some (.int o.1)) o.2 := by
  refine Con.of plX8 (Nat.le_of_ble_eq_true rfl) [(0, .ref (ga G 25))] rfl (fun X F R => ?_)
  refine (show Sim G X 1 o (F_X8_status σ) σ 0 [(0, .ref (ga G 25))] [] from ?_) hF
  unfold F_X8_status
  refine s_aload_n F 0 dX8_status_0 rfl rfl ?_
  refine s_iconst F (nI 0) dX8_status_1 rfl ?_
  refine fp_X8_47 F dX8_status_2 ?_
  refine s_aload_n F 0 dX8_status_5 rfl rfl ?_
  refine fg_X8_51 F dX8_status_6 ?_
  exact s_iret R dX8_status_9
end
