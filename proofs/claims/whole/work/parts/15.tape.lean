noncomputable section
/-! X6_append -/
def F_X6_append (a1 : Int32) (σ : St) : Option (Int32 × St) := if (σ.2 1) < (nI 120) then (if ix (σ.2 1) 120 then some ((nI 1), setF (setA σ 22 (σ.2 1).toNatClampNeg a1) 1 (((setA σ 22 (σ.2 1).toNatClampNeg a1).2 1) + (nI 1))) else none) else (some ((nI 0), σ))
set_option maxRecDepth 20000 in
theorem c_X6_append {G : Gx} {l : Launch} {a1 : Int32} {σ : St} {o : (Int32 × St)} (hF : F_X6_append a1 σ = some o) : Con G l yX6_append cX6_append 2 (some .boolean) 0 [.ref (ga G 2), .int a1] σ (some (.int o.1)) o.2 := by
  refine Con.of plX6 (Nat.le_of_ble_eq_true rfl) [(0, .ref (ga G 2)), (1, .int a1)] rfl (fun X F R => ?_)
  refine (show Sim G X 2 o (F_X6_append a1 σ) σ 0 [(0, .ref (ga G 2)), (1, .int a1)] [] from ?_) hF
  unfold F_X6_append
  refine s_aload_n F 0 dX6_append_0 rfl rfl ?_
  refine fg_X6_13 F dX6_append_1 ?_
  refine s_bipush F (nI 120) dX6_append_4 rfl ?_
  refine s_icmp_lt F 11 dX6_append_6 (by decide) (fun c2 => ?_) (fun c2 => ?_)
  · refine s_aload_n F 0 dX6_append_11 rfl rfl ?_
    refine fg_X6_9 F dX6_append_12 ?_
    refine s_aload_n F 0 dX6_append_15 rfl rfl ?_
    refine fg_X6_13 F dX6_append_16 ?_
    refine s_iload_n F 1 dX6_append_19 rfl rfl ?_
    refine s_iast F ar_22 dX6_append_20 (fun q1 => ?_)
    refine s_aload_n F 0 dX6_append_21 rfl rfl ?_
    refine s_dup F dX6_append_22 rfl ?_
    refine fg_X6_13 F dX6_append_23 ?_
    refine s_iconst F (nI 1) dX6_append_26 rfl ?_
    refine s_iadd F dX6_append_27 ?_
    refine fp_X6_13 F dX6_append_28 ?_
    refine s_iconst F (nI 1) dX6_append_31 rfl ?_
    exact s_zret R dX6_append_32 rfl
  · refine s_iconst F (nI 0) dX6_append_9 rfl ?_
    exact s_zret R dX6_append_10 rfl
/-! X6_refuse -/
def F_X6_refuse (a1 : Int32) (a2 : Int32) (σ : St) : Option (Int32 × St) := some ((nI 0), setF (setF σ 2 a1) 3 a2)
set_option maxRecDepth 20000 in
theorem c_X6_refuse {G : Gx} {l : Launch} {a1 : Int32} {a2 : Int32} {σ : St} {o : (Int32 × St)} (hF : F_X6_refuse a1 a2 σ = some o) : Con G l yX6_refuse cX6_refuse 3 (some .boolean) 0 [.ref (ga G 2), .int a1, .int a2] σ (some (.int o.1)) o.2 := by
  refine Con.of plX6 (Nat.le_of_ble_eq_true rfl) [(0, .ref (ga G 2)), (1, .int a1), (2, .int a2)] rfl (fun X F R => ?_)
  refine (show Sim G X 3 o (F_X6_refuse a1 a2 σ) σ 0 [(0, .ref (ga G 2)), (1, .int a1), (2, .int a2)] [] from ?_) hF
  unfold F_X6_refuse
  refine s_aload_n F 0 dX6_refuse_0 rfl rfl ?_
  refine s_iload_n F 1 dX6_refuse_1 rfl rfl ?_
  refine fp_X6_17 F dX6_refuse_2 ?_
  refine s_aload_n F 0 dX6_refuse_5 rfl rfl ?_
  refine s_iload_n F 2 dX6_refuse_6 rfl rfl ?_
  refine fp_X6_20 F dX6_refuse_7 ?_
  refine s_iconst F (nI 0) dX6_refuse_10 rfl ?_
  exact s_zret R dX6_refuse_11 rfl
/-! X6_number -/
def L_X6_number_9 (K : Int32 → Int32 → Int32 → Int32 → Int32 → St → Option (Int32 × St)) : Nat → Int32 → Int32 → Int32 → Int32 → Int32 → St → Option (Int32 × St)
  | 0, _, _, _, _, _, _ => none
  | n + 1, a1, a2, a3, a4, a5, σ => if (σ.2 1) ≤ (σ.2 4) then (K a1 a2 a3 a4 a5 σ) else (if ix (σ.2 4) 120 then if (σ.1 22 (σ.2 4).toNatClampNeg) < (nI 48) then (K a1 a2 a3 a4 a5 σ) else (if ix (σ.2 4) 120 then if (nI 57) < (σ.1 22 (σ.2 4).toNatClampNeg) then (K a1 a2 a3 a4 a5 σ) else (if ix (σ.2 4) 120 then L_X6_number_9 K n a1 a2 a3 a4 ((((nI 10) * a5) + (σ.1 22 (σ.2 4).toNatClampNeg)) - (nI 48)) (setF σ 4 ((σ.2 4) + (nI 1))) else none) else none) else none)
def J_X6_number_101 (a4 : Int32) (σ : St) : Option (Int32 × St) := (F_X6_refuse (nI 1) a4 σ).bind fun z7 => some ((-1 : Int32), z7.2)
def J_X6_number_129 (a4 : Int32) (σ : St) : Option (Int32 × St) := (F_X6_refuse (nI 2) a4 σ).bind fun z8 => some ((-1 : Int32), z8.2)
def F_X6_number (a1 : Int32) (a2 : Int32) (a3 : Int32) (σ : St) : Option (Int32 × St) := L_X6_number_9 (fun a1 a2 a3 a4 a5 σ => if (σ.2 4) = a4 then (J_X6_number_101 a4 σ) else (if ((σ.2 4) - a4) ≤ (nI 2) then (if a5 < a1 then (J_X6_number_129 a4 σ) else (if a2 < a5 then (J_X6_number_129 a4 σ) else (if a5 = a3 then (J_X6_number_129 a4 σ) else (some (a5, σ))))) else (J_X6_number_101 a4 σ))) fuel a1 a2 a3 (σ.2 4) (nI 0) σ
set_option maxRecDepth 20000 in
theorem l_X6_number_9 {G : Gx} {X : Cx} (F : Fx G X cX6_number 6 RX6 1) {o : (Int32 × St)} (R : Ret G X cX6_number 6 (some .int) (some (.int o.1)) o.2) {K : Int32 → Int32 → Int32 → Int32 → Int32 → St → Option (Int32 × St)} (hK : ∀ (a1 : Int32) (a2 : Int32) (a3 : Int32) (a4 : Int32) (a5 : Int32) (σ : St), Sim G X 6 o (K a1 a2 a3 a4 a5 σ) σ 81 [(0, .ref (ga G 2)), (1, .int a1), (2, .int a2), (3, .int a3), (4, .int a4), (5, .int a5)] []) : ∀ (n : Nat) (a1 : Int32) (a2 : Int32) (a3 : Int32) (a4 : Int32) (a5 : Int32) (σ : St), Sim G X 6 o (L_X6_number_9 K n a1 a2 a3 a4 a5 σ) σ 9 [(0, .ref (ga G 2)), (1, .int a1), (2, .int a2), (3, .int a3), (4, .int a4), (5, .int a5)] [] := by
  intro n
  induction n with
  | zero =>
    intro a1 a2 a3 a4 a5 σ
    exact s_none
  | succ n ih =>
    intro a1 a2 a3 a4 a5 σ
    rw [L_X6_number_9.eq_2]
    refine s_aload_n F 0 dX6_number_9 rfl rfl ?_
    refine fg_X6_23 F dX6_number_10 ?_
    refine s_aload_n F 0 dX6_number_13 rfl rfl ?_
    refine fg_X6_13 F dX6_number_14 ?_
    refine s_icmp_ge F 81 dX6_number_17 (by decide) (fun c6 => ?_) (fun c6 => ?_)
    · exact hK _ _ _ _ _ _
    · refine s_aload_n F 0 dX6_number_20 rfl rfl ?_
      refine fg_X6_9 F dX6_number_21 ?_
      refine s_aload_n F 0 dX6_number_24 rfl rfl ?_
      refine fg_X6_23 F dX6_number_25 ?_
      refine s_iald F ar_22 dX6_number_28 (fun q1 => ?_)
      refine s_bipush F (nI 48) dX6_number_29 rfl ?_
      refine s_icmp_lt F 81 dX6_number_31 (by decide) (fun c5 => ?_) (fun c5 => ?_)
      · exact hK _ _ _ _ _ _
      · refine s_aload_n F 0 dX6_number_34 rfl rfl ?_
        refine fg_X6_9 F dX6_number_35 ?_
        refine s_aload_n F 0 dX6_number_38 rfl rfl ?_
        refine fg_X6_23 F dX6_number_39 ?_
        refine s_iald F ar_22 dX6_number_42 (fun q2 => ?_)
        refine s_bipush F (nI 57) dX6_number_43 rfl ?_
        refine s_icmp_gt F 81 dX6_number_45 (by decide) (fun c4 => ?_) (fun c4 => ?_)
        · exact hK _ _ _ _ _ _
        · refine s_bipush F (nI 10) dX6_number_48 rfl ?_
          refine s_iload F 5 dX6_number_50 rfl ?_
          refine s_imul F dX6_number_52 ?_
          refine s_aload_n F 0 dX6_number_53 rfl rfl ?_
          refine fg_X6_9 F dX6_number_54 ?_
          refine s_aload_n F 0 dX6_number_57 rfl rfl ?_
          refine fg_X6_23 F dX6_number_58 ?_
          refine s_iald F ar_22 dX6_number_61 (fun q3 => ?_)
          refine s_iadd F dX6_number_62 ?_
          refine s_bipush F (nI 48) dX6_number_63 rfl ?_
          refine s_isub F dX6_number_65 ?_
          refine s_istore F [(5, .int ((((nI 10) * a5) + (σ.1 22 (σ.2 4).toNatClampNeg)) - (nI 48))), (0, .ref (ga G 2)), (1, .int a1), (2, .int a2), (3, .int a3), (4, .int a4)] dX6_number_66 (by decide) rfl ?_
          refine s_aload_n F 1 dX6_number_68 rfl rfl ?_
          refine s_dup F dX6_number_69 rfl ?_
          refine fg_X6_23 F dX6_number_70 ?_
          refine s_iconst F (nI 1) dX6_number_73 rfl ?_
          refine s_iadd F dX6_number_74 ?_
          refine fp_X6_23 F dX6_number_75 ?_
          refine s_goto F 9 dX6_number_78 (by decide) ?_
          refine s_lv [(0, .ref (ga G 2)), (1, .int a1), (2, .int a2), (3, .int a3), (4, .int a4), (5, .int ((((nI 10) * a5) + (σ.1 22 (σ.2 4).toNatClampNeg)) - (nI 48)))] [1, 2, 3, 4, 5, 0] rfl ?_
          exact ih _ _ _ _ _ _
set_option maxRecDepth 20000 in
theorem j_X6_number_101 {G : Gx} {X : Cx} (F : Fx G X cX6_number 6 RX6 1) {o : (Int32 × St)} (R : Ret G X cX6_number 6 (some .int) (some (.int o.1)) o.2) (a4 : Int32) (σ : St) : Sim G X 6 o (J_X6_number_101 a4 σ) σ 101 [(0, .ref (ga G 2)), (4, .int a4)] [] := by
  unfold J_X6_number_101
  refine s_aload_n F 0 dX6_number_101 rfl rfl ?_
  refine s_iconst F (nI 1) dX6_number_102 rfl ?_
  refine s_iload F 1 dX6_number_103 rfl ?_
  refine s_Vi F [.int (nI 1), .int a4] dX6_number_105 (fun z hz => c_X6_refuse hz) wV_X6_59 nk_X6_refuse (by decide) (by decide) ob_2 vc_5 rfl rfl (Nat.le_of_ble_eq_true rfl) (fun z7 => ?_)
  refine s_pop F dX6_number_108 rfl ?_
  refine s_iconst F (-1 : Int32) dX6_number_109 rfl ?_
  exact s_iret R dX6_number_110
set_option maxRecDepth 20000 in
theorem j_X6_number_129 {G : Gx} {X : Cx} (F : Fx G X cX6_number 6 RX6 1) {o : (Int32 × St)} (R : Ret G X cX6_number 6 (some .int) (some (.int o.1)) o.2) (a4 : Int32) (σ : St) : Sim G X 6 o (J_X6_number_129 a4 σ) σ 129 [(0, .ref (ga G 2)), (4, .int a4)] [] := by
  unfold J_X6_number_129
  refine s_aload_n F 0 dX6_number_129 rfl rfl ?_
  refine s_iconst F (nI 2) dX6_number_130 rfl ?_
  refine s_iload F 1 dX6_number_131 rfl ?_
  refine s_Vi F [.int (nI 2), .int a4] dX6_number_133 (fun z hz => c_X6_refuse hz) wV_X6_59 nk_X6_refuse (by decide) (by decide) ob_2 vc_5 rfl rfl (Nat.le_of_ble_eq_true rfl) (fun z8 => ?_)
  refine s_pop F dX6_number_136 rfl ?_
  refine s_iconst F (-1 : Int32) dX6_number_137 rfl ?_
  exact s_iret R dX6_number_138
set_option maxRecDepth 20000 in
theorem c_X6_number {G : Gx} {l : Launch} {a1 : Int32} {a2 : Int32} {a3 : Int32} {σ : St} {o : (Int32 × St)} (hF : F_X6_number a1 a2 a3 σ = some o) : Con G l yX6_number cX6_number 6 (some .int) 1 [.ref (ga G 2), .int a1, .int a2, .int a3] σ (some (.int o.1)) o.2 := by
  refine Con.of plX6 (Nat.le_of_ble_eq_true rfl) [(0, .ref (ga G 2)), (1, .int a1), (2, .int a2), (3, .int a3)] rfl (fun X F R => ?_)
  refine (show Sim G X 6 o (F_X6_number a1 a2 a3 σ) σ 0 [(0, .ref (ga G 2)), (1, .int a1), (2, .int a2), (3, .int a3)] [] from ?_) hF
  unfold F_X6_number
  refine s_aload_n F 0 dX6_number_0 rfl rfl ?_
  refine fg_X6_23 F dX6_number_1 ?_
  refine s_istore F [(4, .int (σ.2 4)), (0, .ref (ga G 2)), (1, .int a1), (2, .int a2), (3, .int a3)] dX6_number_4 (by decide) rfl ?_
  refine s_iconst F (nI 0) dX6_number_6 rfl ?_
  refine s_istore F [(5, .int (nI 0)), (4, .int (σ.2 4)), (0, .ref (ga G 2)), (1, .int a1), (2, .int a2), (3, .int a3)] dX6_number_7 (by decide) rfl ?_
  refine s_lv [(0, .ref (ga G 2)), (1, .int a1), (2, .int a2), (3, .int a3), (4, .int (σ.2 4)), (5, .int (nI 0))] [2, 3, 4, 5, 1, 0] rfl ?_
  refine l_X6_number_9 F R (fun a1 a2 a3 a4 a5 σ => ?_) fuel _ _ _ _ _ _
  refine s_aload_n F 0 dX6_number_81 rfl rfl ?_
  refine fg_X6_23 F dX6_number_82 ?_
  refine s_iload F 4 dX6_number_85 rfl ?_
  refine s_icmp_eq F 101 dX6_number_87 (by decide) (fun c13 => ?_) (fun c13 => ?_)
  · refine s_lv [(0, .ref (ga G 2)), (4, .int a4)] [0, 4] rfl ?_
    exact j_X6_number_101 F R _ _
  · refine s_aload_n F 0 dX6_number_90 rfl rfl ?_
    refine fg_X6_23 F dX6_number_91 ?_
    refine s_iload F 4 dX6_number_94 rfl ?_
    refine s_isub F dX6_number_96 ?_
    refine s_iconst F (nI 2) dX6_number_97 rfl ?_
    refine s_icmp_le F 111 dX6_number_98 (by decide) (fun c12 => ?_) (fun c12 => ?_)
    · refine s_iload F 5 dX6_number_111 rfl ?_
      refine s_iload_n F 1 dX6_number_113 rfl rfl ?_
      refine s_icmp_lt F 129 dX6_number_114 (by decide) (fun c11 => ?_) (fun c11 => ?_)
      · refine s_lv [(0, .ref (ga G 2)), (4, .int a4)] [0, 4] rfl ?_
        exact j_X6_number_129 F R _ _
      · refine s_iload F 5 dX6_number_117 rfl ?_
        refine s_iload_n F 2 dX6_number_119 rfl rfl ?_
        refine s_icmp_gt F 129 dX6_number_120 (by decide) (fun c10 => ?_) (fun c10 => ?_)
        · refine s_lv [(0, .ref (ga G 2)), (4, .int a4)] [0, 4] rfl ?_
          exact j_X6_number_129 F R _ _
        · refine s_iload F 5 dX6_number_123 rfl ?_
          refine s_iload_n F 3 dX6_number_125 rfl rfl ?_
          refine s_icmp_ne F 139 dX6_number_126 (by decide) (fun c9 => ?_) (fun c9 => ?_)
          · refine s_iload F 5 dX6_number_139 rfl ?_
            exact s_iret R dX6_number_141
          · refine s_lv [(0, .ref (ga G 2)), (4, .int a4)] [0, 4] rfl ?_
            exact j_X6_number_129 F R _ _
    · refine s_lv [(0, .ref (ga G 2)), (4, .int a4)] [0, 4] rfl ?_
      exact j_X6_number_101 F R _ _
/-! X6_passes -/
def J_X6_passes_24 (σ : St) : Option (Int32 × St) := (F_X6_refuse (nI 1) (σ.2 4) σ).bind fun z1 => if (z1.1 = 0 ∨ z1.1 = 1) then some (z1.1, z1.2) else none
def F_X6_passes (a1 : Int32) (σ : St) : Option (Int32 × St) := if (σ.2 1) ≤ (σ.2 4) then (J_X6_passes_24 σ) else (if ix (σ.2 4) 120 then if (σ.1 22 (σ.2 4).toNatClampNeg) = a1 then (some ((nI 1), setF σ 4 ((σ.2 4) + (nI 1)))) else (J_X6_passes_24 σ) else none)
set_option maxRecDepth 20000 in
theorem j_X6_passes_24 {G : Gx} {X : Cx} (F : Fx G X cX6_passes 2 RX6 1) {o : (Int32 × St)} (R : Ret G X cX6_passes 2 (some .boolean) (some (.int o.1)) o.2) (σ : St) : Sim G X 2 o (J_X6_passes_24 σ) σ 24 [(0, .ref (ga G 2))] [] := by
  unfold J_X6_passes_24
  refine s_aload_n F 0 dX6_passes_24 rfl rfl ?_
  refine s_iconst F (nI 1) dX6_passes_25 rfl ?_
  refine s_aload_n F 0 dX6_passes_26 rfl rfl ?_
  refine fg_X6_23 F dX6_passes_27 ?_
  refine s_Vi F [.int (nI 1), .int (σ.2 4)] dX6_passes_30 (fun z hz => c_X6_refuse hz) wV_X6_59 nk_X6_refuse (by decide) (by decide) ob_2 vc_5 rfl rfl (Nat.le_of_ble_eq_true rfl) (fun z1 => ?_)
  exact s_zretg R dX6_passes_33
set_option maxRecDepth 20000 in
theorem c_X6_passes {G : Gx} {l : Launch} {a1 : Int32} {σ : St} {o : (Int32 × St)} (hF : F_X6_passes a1 σ = some o) : Con G l yX6_passes cX6_passes 2 (some .boolean) 1 [.ref (ga G 2), .int a1] σ (some (.int o.1)) o.2 := by
  refine Con.of plX6 (Nat.le_of_ble_eq_true rfl) [(0, .ref (ga G 2)), (1, .int a1)] rfl (fun X F R => ?_)
  refine (show Sim G X 2 o (F_X6_passes a1 σ) σ 0 [(0, .ref (ga G 2)), (1, .int a1)] [] from ?_) hF
  unfold F_X6_passes
  refine s_aload_n F 0 dX6_passes_0 rfl rfl ?_
  refine fg_X6_23 F dX6_passes_1 ?_
  refine s_aload_n F 0 dX6_passes_4 rfl rfl ?_
  refine fg_X6_13 F dX6_passes_5 ?_
  refine s_icmp_ge F 24 dX6_passes_8 (by decide) (fun c4 => ?_) (fun c4 => ?_)
  · refine s_lv [(0, .ref (ga G 2))] [0] rfl ?_
    exact j_X6_passes_24 F R _
  · refine s_aload_n F 0 dX6_passes_11 rfl rfl ?_
    refine fg_X6_9 F dX6_passes_12 ?_
    refine s_aload_n F 0 dX6_passes_15 rfl rfl ?_
    refine fg_X6_23 F dX6_passes_16 ?_
    refine s_iald F ar_22 dX6_passes_19 (fun q2 => ?_)
    refine s_iload_n F 1 dX6_passes_20 rfl rfl ?_
    refine s_icmp_eq F 34 dX6_passes_21 (by decide) (fun c3 => ?_) (fun c3 => ?_)
    · refine s_aload_n F 0 dX6_passes_34 rfl rfl ?_
      refine s_dup F dX6_passes_35 rfl ?_
      refine fg_X6_23 F dX6_passes_36 ?_
      refine s_iconst F (nI 1) dX6_passes_39 rfl ?_
      refine s_iadd F dX6_passes_40 ?_
      refine fp_X6_23 F dX6_passes_41 ?_
      refine s_iconst F (nI 1) dX6_passes_44 rfl ?_
      exact s_zret R dX6_passes_45 rfl
    · refine s_lv [(0, .ref (ga G 2))] [0] rfl ?_
      exact j_X6_passes_24 F R _
/-! X6_readLaw -/
def F_X6_readLaw (σ : St) : Option (Int32 × St) := (F_X6_passes (nI 109) σ).bind fun z1 => if z1.1 = 0 then (some ((nI 0), z1.2)) else ((F_X6_number (nI 2) (nI 6) (-1 : Int32) z1.2).bind fun z2 => if z2.1 = (-1 : Int32) then (some ((nI 0), z2.2)) else ((F_X6_passes (nI 44) z2.2).bind fun z3 => if z3.1 = 0 then (some ((nI 0), z3.2)) else ((F_X6_number (nI 0) (nI 9) (-1 : Int32) z3.2).bind fun z4 => if z4.1 = (-1 : Int32) then (some ((nI 0), z4.2)) else ((F_X6_passes (nI 59) z4.2).bind fun z5 => if z5.1 = 0 then (some ((nI 0), z5.2)) else (if ix (nI 0) 80 then if ix (nI 1) 80 then some ((nI 1), setA (setA z5.2 7 (nI 0).toNatClampNeg z2.1) 7 (nI 1).toNatClampNeg z4.1) else none else none)))))
set_option maxRecDepth 20000 in
theorem c_X6_readLaw {G : Gx} {l : Launch} {σ : St} {o : (Int32 × St)} (hF : F_X6_readLaw σ = some o) : Con G l yX6_readLaw cX6_readLaw 4 (some .boolean) 2 [.ref (ga G 2), .ref (ga G 6)] σ (some (.int o.1)) o.2 := by
  refine Con.of plX6 (Nat.le_of_ble_eq_true rfl) [(0, .ref (ga G 2)), (1, .ref (ga G 6))] rfl (fun X F R => ?_)
  refine (show Sim G X 4 o (F_X6_readLaw σ) σ 0 [(0, .ref (ga G 2)), (1, .ref (ga G 6))] [] from ?_) hF
  unfold F_X6_readLaw
  refine s_aload_n F 0 dX6_readLaw_0 rfl rfl ?_
  refine s_bipush F (nI 109) dX6_readLaw_1 rfl ?_
  refine s_Vi F [.int (nI 109)] dX6_readLaw_3 (fun z hz => c_X6_passes hz) wV_X6_45 nk_X6_passes (by decide) (by decide) ob_2 vc_5 rfl rfl (Nat.le_of_ble_eq_true rfl) (fun z1 => ?_)
  refine s_if_ne F 11 dX6_readLaw_6 (by decide) (fun c12 => ?_) (fun c12 => ?_)
  · refine s_aload_n F 0 dX6_readLaw_11 rfl rfl ?_
    refine s_iconst F (nI 2) dX6_readLaw_12 rfl ?_
    refine s_bipush F (nI 6) dX6_readLaw_13 rfl ?_
    refine s_iconst F (-1 : Int32) dX6_readLaw_15 rfl ?_
    refine s_Vi F [.int (nI 2), .int (nI 6), .int (-1 : Int32)] dX6_readLaw_16 (fun z hz => c_X6_number hz) wV_X6_49 nk_X6_number (by decide) (by decide) ob_2 vc_5 rfl rfl (Nat.le_of_ble_eq_true rfl) (fun z2 => ?_)
    refine s_istore_n F [(2, .int z2.1), (0, .ref (ga G 2)), (1, .ref (ga G 6))] dX6_readLaw_19 rfl (by decide) rfl ?_
    refine s_iload_n F 0 dX6_readLaw_20 rfl rfl ?_
    refine s_iconst F (-1 : Int32) dX6_readLaw_21 rfl ?_
    refine s_icmp_eq F 34 dX6_readLaw_22 (by decide) (fun c11 => ?_) (fun c11 => ?_)
    · refine s_iconst F (nI 0) dX6_readLaw_34 rfl ?_
      exact s_zret R dX6_readLaw_35 rfl
    · refine s_aload_n F 1 dX6_readLaw_25 rfl rfl ?_
      refine s_bipush F (nI 44) dX6_readLaw_26 rfl ?_
      refine s_Vi F [.int (nI 44)] dX6_readLaw_28 (fun z hz => c_X6_passes hz) wV_X6_45 nk_X6_passes (by decide) (by decide) ob_2 vc_5 rfl rfl (Nat.le_of_ble_eq_true rfl) (fun z3 => ?_)
      refine s_if_ne F 36 dX6_readLaw_31 (by decide) (fun c10 => ?_) (fun c10 => ?_)
      · refine s_aload_n F 1 dX6_readLaw_36 rfl rfl ?_
        refine s_iconst F (nI 0) dX6_readLaw_37 rfl ?_
        refine s_bipush F (nI 9) dX6_readLaw_38 rfl ?_
        refine s_iconst F (-1 : Int32) dX6_readLaw_40 rfl ?_
        refine s_Vi F [.int (nI 0), .int (nI 9), .int (-1 : Int32)] dX6_readLaw_41 (fun z hz => c_X6_number hz) wV_X6_49 nk_X6_number (by decide) (by decide) ob_2 vc_5 rfl rfl (Nat.le_of_ble_eq_true rfl) (fun z4 => ?_)
        refine s_istore_n F [(3, .int z4.1), (2, .int z2.1), (0, .ref (ga G 2)), (1, .ref (ga G 6))] dX6_readLaw_44 rfl (by decide) rfl ?_
        refine s_iload_n F 0 dX6_readLaw_45 rfl rfl ?_
        refine s_iconst F (-1 : Int32) dX6_readLaw_46 rfl ?_
        refine s_icmp_eq F 59 dX6_readLaw_47 (by decide) (fun c9 => ?_) (fun c9 => ?_)
        · refine s_iconst F (nI 0) dX6_readLaw_59 rfl ?_
          exact s_zret R dX6_readLaw_60 rfl
        · refine s_aload_n F 2 dX6_readLaw_50 rfl rfl ?_
          refine s_bipush F (nI 59) dX6_readLaw_51 rfl ?_
          refine s_Vi F [.int (nI 59)] dX6_readLaw_53 (fun z hz => c_X6_passes hz) wV_X6_45 nk_X6_passes (by decide) (by decide) ob_2 vc_5 rfl rfl (Nat.le_of_ble_eq_true rfl) (fun z5 => ?_)
          refine s_if_ne F 61 dX6_readLaw_56 (by decide) (fun c8 => ?_) (fun c8 => ?_)
          · refine s_aload_n F 3 dX6_readLaw_61 rfl rfl ?_
            refine fg_X6_38 F nt_6 (c := 7) rfl dX6_readLaw_62 ?_
            refine s_iconst F (nI 0) dX6_readLaw_65 rfl ?_
            refine s_iload_n F 1 dX6_readLaw_66 rfl rfl ?_
            refine s_iast F ar_7 dX6_readLaw_67 (fun q6 => ?_)
            refine s_aload_n F 3 dX6_readLaw_68 rfl rfl ?_
            refine fg_X6_38 F nt_6 (c := 7) rfl dX6_readLaw_69 ?_
            refine s_iconst F (nI 1) dX6_readLaw_72 rfl ?_
            refine s_iload_n F 0 dX6_readLaw_73 rfl rfl ?_
            refine s_iast F ar_7 dX6_readLaw_74 (fun q7 => ?_)
            refine s_iconst F (nI 1) dX6_readLaw_75 rfl ?_
            exact s_zret R dX6_readLaw_76 rfl
          · refine s_iconst F (nI 0) dX6_readLaw_59 rfl ?_
            exact s_zret R dX6_readLaw_60 rfl
      · refine s_iconst F (nI 0) dX6_readLaw_34 rfl ?_
        exact s_zret R dX6_readLaw_35 rfl
  · refine s_iconst F (nI 0) dX6_readLaw_9 rfl ?_
    exact s_zret R dX6_readLaw_10 rfl
/-! X6_readPipe -/
def J_X6_readPipe_34 (a2 : Int32) (s0 : Int32) (σ : St) : Option (Int32 × St) := if s0 = 0 then ((F_X6_refuse (nI 1) (σ.2 4) σ).bind fun z27 => if (z27.1 = 0 ∨ z27.1 = 1) then some (z27.1, z27.2) else none) else (if a2 < (nI 7) then (if ix (nI 0) 80 then (F_X6_number (nI 0) (((setF σ 4 ((σ.2 4) + (nI 1))).1 7 (nI 0).toNatClampNeg) - (nI 1)) (-1 : Int32) (setF σ 4 ((σ.2 4) + (nI 1)))).bind fun z3 => if z3.1 = (-1 : Int32) then (some ((nI 0), z3.2)) else ((F_X6_passes (nI 44) z3.2).bind fun z4 => if z4.1 = 0 then (some ((nI 0), z4.2)) else ((F_X6_number (nI 0) (((setF σ 4 ((σ.2 4) + (nI 1))).1 7 (nI 0).toNatClampNeg) - (nI 1)) z3.1 z4.2).bind fun z5 => if z5.1 = (-1 : Int32) then (some ((nI 0), z5.2)) else ((F_X6_passes (nI 44) z5.2).bind fun z6 => if z6.1 = 0 then (some ((nI 0), z6.2)) else ((F_X6_number (nI 1) (nI 4) (-1 : Int32) z6.2).bind fun z7 => if z7.1 = (-1 : Int32) then (some ((nI 0), z7.2)) else ((F_X6_passes (nI 44) z7.2).bind fun z8 => if z8.1 = 0 then (some ((nI 0), z8.2)) else ((F_X6_number (nI 0) (nI 9) (-1 : Int32) z8.2).bind fun z9 => if z9.1 = (-1 : Int32) then (some ((nI 0), z9.2)) else ((F_X6_passes (nI 59) z9.2).bind fun z10 => if z10.1 = 0 then (some ((nI 0), z10.2)) else (if ix ((nI 5) + a2) 80 then if ix ((nI 12) + a2) 80 then if ix ((nI 19) + a2) 80 then if ix ((nI 26) + a2) 80 then if ix ((nI 33) + a2) 80 then if ix (nI 2) 80 then some ((nI 1), setA (setA (setA (setA (setA (setA z10.2 7 ((nI 5) + a2).toNatClampNeg s0) 7 ((nI 12) + a2).toNatClampNeg z3.1) 7 ((nI 19) + a2).toNatClampNeg z5.1) 7 ((nI 26) + a2).toNatClampNeg z7.1) 7 ((nI 33) + a2).toNatClampNeg z9.1) 7 (nI 2).toNatClampNeg (a2 + (nI 1))) else none else none else none else none else none else none)))))))) else none) else ((F_X6_refuse (nI 3) (σ.2 4) σ).bind fun z25 => if (z25.1 = 0 ∨ z25.1 = 1) then some (z25.1, z25.2) else none))
def F_X6_readPipe (σ : St) : Option (Int32 × St) := if ix (nI 2) 80 then if (σ.2 1) ≤ (σ.2 4) then (J_X6_readPipe_34 (σ.1 7 (nI 2).toNatClampNeg) (nI 0) σ) else (if ix (σ.2 4) 120 then (F_X3_ofLetter (σ.1 22 (σ.2 4).toNatClampNeg) σ).bind fun z30 => J_X6_readPipe_34 (σ.1 7 (nI 2).toNatClampNeg) z30.1 z30.2 else none) else none
set_option maxRecDepth 20000 in
theorem j_X6_readPipe_34 {G : Gx} {X : Cx} (F : Fx G X cX6_readPipe 9 RX6 2) {o : (Int32 × St)} (R : Ret G X cX6_readPipe 9 (some .boolean) (some (.int o.1)) o.2) (a2 : Int32) (s0 : Int32) (σ : St) : Sim G X 9 o (J_X6_readPipe_34 a2 s0 σ) σ 34 [(0, .ref (ga G 2)), (1, .ref (ga G 6)), (2, .int a2)] [.int s0] := by
  unfold J_X6_readPipe_34
  refine s_istore_n F [(3, .int s0), (0, .ref (ga G 2)), (1, .ref (ga G 6)), (2, .int a2)] dX6_readPipe_34 rfl (by decide) rfl ?_
  refine s_iload_n F 0 dX6_readPipe_35 rfl rfl ?_
  refine s_if_ne F 49 dX6_readPipe_36 (by decide) (fun c28 => ?_) (fun c28 => ?_)
  · refine s_iload_n F 3 dX6_readPipe_49 rfl rfl ?_
    refine s_bipush F (nI 7) dX6_readPipe_50 rfl ?_
    refine s_icmp_lt F 65 dX6_readPipe_52 (by decide) (fun c26 => ?_) (fun c26 => ?_)
    · refine s_aload_n F 1 dX6_readPipe_65 rfl rfl ?_
      refine s_dup F dX6_readPipe_66 rfl ?_
      refine fg_X6_23 F dX6_readPipe_67 ?_
      refine s_iconst F (nI 1) dX6_readPipe_70 rfl ?_
      refine s_iadd F dX6_readPipe_71 ?_
      refine fp_X6_23 F dX6_readPipe_72 ?_
      refine s_aload_n F 2 dX6_readPipe_75 rfl rfl ?_
      refine fg_X6_38 F nt_6 (c := 7) rfl dX6_readPipe_76 ?_
      refine s_iconst F (nI 0) dX6_readPipe_79 rfl ?_
      refine s_iald F ar_7 dX6_readPipe_80 (fun q2 => ?_)
      refine s_iconst F (nI 1) dX6_readPipe_81 rfl ?_
      refine s_isub F dX6_readPipe_82 ?_
      refine s_istore F [(4, .int (((setF σ 4 ((σ.2 4) + (nI 1))).1 7 (nI 0).toNatClampNeg) - (nI 1))), (3, .int s0), (0, .ref (ga G 2)), (1, .ref (ga G 6)), (2, .int a2)] dX6_readPipe_83 (by decide) rfl ?_
      refine s_aload_n F 2 dX6_readPipe_85 rfl rfl ?_
      refine s_iconst F (nI 0) dX6_readPipe_86 rfl ?_
      refine s_iload F 0 dX6_readPipe_87 rfl ?_
      refine s_iconst F (-1 : Int32) dX6_readPipe_89 rfl ?_
      refine s_Vi F [.int (nI 0), .int (((setF σ 4 ((σ.2 4) + (nI 1))).1 7 (nI 0).toNatClampNeg) - (nI 1)), .int (-1 : Int32)] dX6_readPipe_90 (fun z hz => c_X6_number hz) wV_X6_49 nk_X6_number (by decide) (by decide) ob_2 vc_5 rfl rfl (Nat.le_of_ble_eq_true rfl) (fun z3 => ?_)
      refine s_istore F [(5, .int z3.1), (4, .int (((setF σ 4 ((σ.2 4) + (nI 1))).1 7 (nI 0).toNatClampNeg) - (nI 1))), (3, .int s0), (0, .ref (ga G 2)), (1, .ref (ga G 6)), (2, .int a2)] dX6_readPipe_93 (by decide) rfl ?_
      refine s_iload F 0 dX6_readPipe_95 rfl ?_
      refine s_iconst F (-1 : Int32) dX6_readPipe_97 rfl ?_
      refine s_icmp_eq F 110 dX6_readPipe_98 (by decide) (fun c24 => ?_) (fun c24 => ?_)
      · refine s_iconst F (nI 0) dX6_readPipe_110 rfl ?_
        exact s_zret R dX6_readPipe_111 rfl
      · refine s_aload_n F 3 dX6_readPipe_101 rfl rfl ?_
        refine s_bipush F (nI 44) dX6_readPipe_102 rfl ?_
        refine s_Vi F [.int (nI 44)] dX6_readPipe_104 (fun z hz => c_X6_passes hz) wV_X6_45 nk_X6_passes (by decide) (by decide) ob_2 vc_5 rfl rfl (Nat.le_of_ble_eq_true rfl) (fun z4 => ?_)
        refine s_if_ne F 112 dX6_readPipe_107 (by decide) (fun c23 => ?_) (fun c23 => ?_)
        · refine s_aload_n F 3 dX6_readPipe_112 rfl rfl ?_
          refine s_iconst F (nI 0) dX6_readPipe_113 rfl ?_
          refine s_iload F 1 dX6_readPipe_114 rfl ?_
          refine s_iload F 0 dX6_readPipe_116 rfl ?_
          refine s_Vi F [.int (nI 0), .int (((setF σ 4 ((σ.2 4) + (nI 1))).1 7 (nI 0).toNatClampNeg) - (nI 1)), .int z3.1] dX6_readPipe_118 (fun z hz => c_X6_number hz) wV_X6_49 nk_X6_number (by decide) (by decide) ob_2 vc_5 rfl rfl (Nat.le_of_ble_eq_true rfl) (fun z5 => ?_)
          refine s_istore F [(6, .int z5.1), (5, .int z3.1), (4, .int (((setF σ 4 ((σ.2 4) + (nI 1))).1 7 (nI 0).toNatClampNeg) - (nI 1))), (3, .int s0), (0, .ref (ga G 2)), (1, .ref (ga G 6)), (2, .int a2)] dX6_readPipe_121 (by decide) rfl ?_
          refine s_iload F 0 dX6_readPipe_123 rfl ?_
          refine s_iconst F (-1 : Int32) dX6_readPipe_125 rfl ?_
          refine s_icmp_eq F 138 dX6_readPipe_126 (by decide) (fun c22 => ?_) (fun c22 => ?_)
          · refine s_iconst F (nI 0) dX6_readPipe_138 rfl ?_
            exact s_zret R dX6_readPipe_139 rfl
          · refine s_aload_n F 4 dX6_readPipe_129 rfl rfl ?_
            refine s_bipush F (nI 44) dX6_readPipe_130 rfl ?_
            refine s_Vi F [.int (nI 44)] dX6_readPipe_132 (fun z hz => c_X6_passes hz) wV_X6_45 nk_X6_passes (by decide) (by decide) ob_2 vc_5 rfl rfl (Nat.le_of_ble_eq_true rfl) (fun z6 => ?_)
            refine s_if_ne F 140 dX6_readPipe_135 (by decide) (fun c21 => ?_) (fun c21 => ?_)
            · refine s_aload_n F 4 dX6_readPipe_140 rfl rfl ?_
              refine s_iconst F (nI 1) dX6_readPipe_141 rfl ?_
              refine s_iconst F (nI 4) dX6_readPipe_142 rfl ?_
              refine s_iconst F (-1 : Int32) dX6_readPipe_143 rfl ?_
              refine s_Vi F [.int (nI 1), .int (nI 4), .int (-1 : Int32)] dX6_readPipe_144 (fun z hz => c_X6_number hz) wV_X6_49 nk_X6_number (by decide) (by decide) ob_2 vc_5 rfl rfl (Nat.le_of_ble_eq_true rfl) (fun z7 => ?_)
              refine s_istore F [(7, .int z7.1), (6, .int z5.1), (5, .int z3.1), (4, .int (((setF σ 4 ((σ.2 4) + (nI 1))).1 7 (nI 0).toNatClampNeg) - (nI 1))), (3, .int s0), (0, .ref (ga G 2)), (1, .ref (ga G 6)), (2, .int a2)] dX6_readPipe_147 (by decide) rfl ?_
              refine s_iload F 0 dX6_readPipe_149 rfl ?_
              refine s_iconst F (-1 : Int32) dX6_readPipe_151 rfl ?_
              refine s_icmp_eq F 164 dX6_readPipe_152 (by decide) (fun c20 => ?_) (fun c20 => ?_)
              · refine s_iconst F (nI 0) dX6_readPipe_164 rfl ?_
                exact s_zret R dX6_readPipe_165 rfl
              · refine s_aload_n F 5 dX6_readPipe_155 rfl rfl ?_
                refine s_bipush F (nI 44) dX6_readPipe_156 rfl ?_
                refine s_Vi F [.int (nI 44)] dX6_readPipe_158 (fun z hz => c_X6_passes hz) wV_X6_45 nk_X6_passes (by decide) (by decide) ob_2 vc_5 rfl rfl (Nat.le_of_ble_eq_true rfl) (fun z8 => ?_)
                refine s_if_ne F 166 dX6_readPipe_161 (by decide) (fun c19 => ?_) (fun c19 => ?_)
                · refine s_aload_n F 5 dX6_readPipe_166 rfl rfl ?_
                  refine s_iconst F (nI 0) dX6_readPipe_167 rfl ?_
                  refine s_bipush F (nI 9) dX6_readPipe_168 rfl ?_
                  refine s_iconst F (-1 : Int32) dX6_readPipe_170 rfl ?_
                  refine s_Vi F [.int (nI 0), .int (nI 9), .int (-1 : Int32)] dX6_readPipe_171 (fun z hz => c_X6_number hz) wV_X6_49 nk_X6_number (by decide) (by decide) ob_2 vc_5 rfl rfl (Nat.le_of_ble_eq_true rfl) (fun z9 => ?_)
                  refine s_istore F [(8, .int z9.1), (7, .int z7.1), (6, .int z5.1), (5, .int z3.1), (4, .int (((setF σ 4 ((σ.2 4) + (nI 1))).1 7 (nI 0).toNatClampNeg) - (nI 1))), (3, .int s0), (0, .ref (ga G 2)), (1, .ref (ga G 6)), (2, .int a2)] dX6_readPipe_174 (by decide) rfl ?_
                  refine s_iload F 0 dX6_readPipe_176 rfl ?_
                  refine s_iconst F (-1 : Int32) dX6_readPipe_178 rfl ?_
                  refine s_icmp_eq F 191 dX6_readPipe_179 (by decide) (fun c18 => ?_) (fun c18 => ?_)
                  · refine s_iconst F (nI 0) dX6_readPipe_191 rfl ?_
                    exact s_zret R dX6_readPipe_192 rfl
                  · refine s_aload_n F 6 dX6_readPipe_182 rfl rfl ?_
                    refine s_bipush F (nI 59) dX6_readPipe_183 rfl ?_
                    refine s_Vi F [.int (nI 59)] dX6_readPipe_185 (fun z hz => c_X6_passes hz) wV_X6_45 nk_X6_passes (by decide) (by decide) ob_2 vc_5 rfl rfl (Nat.le_of_ble_eq_true rfl) (fun z10 => ?_)
                    refine s_if_ne F 193 dX6_readPipe_188 (by decide) (fun c17 => ?_) (fun c17 => ?_)
                    · refine s_aload_n F 7 dX6_readPipe_193 rfl rfl ?_
                      refine fg_X6_38 F nt_6 (c := 7) rfl dX6_readPipe_194 ?_
                      refine s_iconst F (nI 5) dX6_readPipe_197 rfl ?_
                      refine s_iload_n F 8 dX6_readPipe_198 rfl rfl ?_
                      refine s_iadd F dX6_readPipe_199 ?_
                      refine s_iload_n F 5 dX6_readPipe_200 rfl rfl ?_
                      refine s_iast F ar_7 dX6_readPipe_201 (fun q11 => ?_)
                      refine s_aload_n F 7 dX6_readPipe_202 rfl rfl ?_
                      refine fg_X6_38 F nt_6 (c := 7) rfl dX6_readPipe_203 ?_
                      refine s_bipush F (nI 12) dX6_readPipe_206 rfl ?_
                      refine s_iload_n F 8 dX6_readPipe_208 rfl rfl ?_
                      refine s_iadd F dX6_readPipe_209 ?_
                      refine s_iload F 3 dX6_readPipe_210 rfl ?_
                      refine s_iast F ar_7 dX6_readPipe_212 (fun q12 => ?_)
                      refine s_aload_n F 7 dX6_readPipe_213 rfl rfl ?_
                      refine fg_X6_38 F nt_6 (c := 7) rfl dX6_readPipe_214 ?_
                      refine s_bipush F (nI 19) dX6_readPipe_217 rfl ?_
                      refine s_iload_n F 8 dX6_readPipe_219 rfl rfl ?_
                      refine s_iadd F dX6_readPipe_220 ?_
                      refine s_iload F 2 dX6_readPipe_221 rfl ?_
                      refine s_iast F ar_7 dX6_readPipe_223 (fun q13 => ?_)
                      refine s_aload_n F 7 dX6_readPipe_224 rfl rfl ?_
                      refine fg_X6_38 F nt_6 (c := 7) rfl dX6_readPipe_225 ?_
                      refine s_bipush F (nI 26) dX6_readPipe_228 rfl ?_
                      refine s_iload_n F 8 dX6_readPipe_230 rfl rfl ?_
                      refine s_iadd F dX6_readPipe_231 ?_
                      refine s_iload F 1 dX6_readPipe_232 rfl ?_
                      refine s_iast F ar_7 dX6_readPipe_234 (fun q14 => ?_)
                      refine s_aload_n F 7 dX6_readPipe_235 rfl rfl ?_
                      refine fg_X6_38 F nt_6 (c := 7) rfl dX6_readPipe_236 ?_
                      refine s_bipush F (nI 33) dX6_readPipe_239 rfl ?_
                      refine s_iload_n F 8 dX6_readPipe_241 rfl rfl ?_
                      refine s_iadd F dX6_readPipe_242 ?_
                      refine s_iload F 0 dX6_readPipe_243 rfl ?_
                      refine s_iast F ar_7 dX6_readPipe_245 (fun q15 => ?_)
                      refine s_aload_n F 7 dX6_readPipe_246 rfl rfl ?_
                      refine fg_X6_38 F nt_6 (c := 7) rfl dX6_readPipe_247 ?_
                      refine s_iconst F (nI 2) dX6_readPipe_250 rfl ?_
                      refine s_iload_n F 8 dX6_readPipe_251 rfl rfl ?_
                      refine s_iconst F (nI 1) dX6_readPipe_252 rfl ?_
                      refine s_iadd F dX6_readPipe_253 ?_
                      refine s_iast F ar_7 dX6_readPipe_254 (fun q16 => ?_)
                      refine s_iconst F (nI 1) dX6_readPipe_255 rfl ?_
                      exact s_zret R dX6_readPipe_256 rfl
                    · refine s_iconst F (nI 0) dX6_readPipe_191 rfl ?_
                      exact s_zret R dX6_readPipe_192 rfl
                · refine s_iconst F (nI 0) dX6_readPipe_164 rfl ?_
                  exact s_zret R dX6_readPipe_165 rfl
            · refine s_iconst F (nI 0) dX6_readPipe_138 rfl ?_
              exact s_zret R dX6_readPipe_139 rfl
        · refine s_iconst F (nI 0) dX6_readPipe_110 rfl ?_
          exact s_zret R dX6_readPipe_111 rfl
    · refine s_aload_n F 1 dX6_readPipe_55 rfl rfl ?_
      refine s_iconst F (nI 3) dX6_readPipe_56 rfl ?_
      refine s_aload_n F 1 dX6_readPipe_57 rfl rfl ?_
      refine fg_X6_23 F dX6_readPipe_58 ?_
      refine s_Vi F [.int (nI 3), .int (σ.2 4)] dX6_readPipe_61 (fun z hz => c_X6_refuse hz) wV_X6_59 nk_X6_refuse (by decide) (by decide) ob_2 vc_5 rfl rfl (Nat.le_of_ble_eq_true rfl) (fun z25 => ?_)
      exact s_zretg R dX6_readPipe_64
  · refine s_aload_n F 1 dX6_readPipe_39 rfl rfl ?_
    refine s_iconst F (nI 1) dX6_readPipe_40 rfl ?_
    refine s_aload_n F 1 dX6_readPipe_41 rfl rfl ?_
    refine fg_X6_23 F dX6_readPipe_42 ?_
    refine s_Vi F [.int (nI 1), .int (σ.2 4)] dX6_readPipe_45 (fun z hz => c_X6_refuse hz) wV_X6_59 nk_X6_refuse (by decide) (by decide) ob_2 vc_5 rfl rfl (Nat.le_of_ble_eq_true rfl) (fun z27 => ?_)
    exact s_zretg R dX6_readPipe_48
set_option maxRecDepth 20000 in
theorem c_X6_readPipe {G : Gx} {l : Launch} {σ : St} {o : (Int32 × St)} (hF : F_X6_readPipe σ = some o) : Con G l yX6_readPipe cX6_readPipe 9 (some .boolean) 2 [.ref (ga G 2), .ref (ga G 6)] σ (some (.int o.1)) o.2 := by
  refine Con.of plX6 (Nat.le_of_ble_eq_true rfl) [(0, .ref (ga G 2)), (1, .ref (ga G 6))] rfl (fun X F R => ?_)
  refine (show Sim G X 9 o (F_X6_readPipe σ) σ 0 [(0, .ref (ga G 2)), (1, .ref (ga G 6))] [] from ?_) hF
  unfold F_X6_readPipe
  refine s_aload_n F 1 dX6_readPipe_0 rfl rfl ?_
  refine fg_X6_38 F nt_6 (c := 7) rfl dX6_readPipe_1 ?_
  refine s_iconst F (nI 2) dX6_readPipe_4 rfl ?_
  refine s_iald F ar_7 dX6_readPipe_5 (fun q1 => ?_)
  refine s_istore_n F [(2, .int (σ.1 7 (nI 2).toNatClampNeg)), (0, .ref (ga G 2)), (1, .ref (ga G 6))] dX6_readPipe_6 rfl (by decide) rfl ?_
  refine s_aload_n F 1 dX6_readPipe_7 rfl rfl ?_
  refine fg_X6_23 F dX6_readPipe_8 ?_
  refine s_aload_n F 1 dX6_readPipe_11 rfl rfl ?_
  refine fg_X6_13 F dX6_readPipe_12 ?_
  refine s_icmp_ge F 33 dX6_readPipe_15 (by decide) (fun c31 => ?_) (fun c31 => ?_)
  · refine s_iconst F (nI 0) dX6_readPipe_33 rfl ?_
    refine s_lv [(0, .ref (ga G 2)), (1, .ref (ga G 6)), (2, .int (σ.1 7 (nI 2).toNatClampNeg))] [1, 2, 0] rfl ?_
    exact j_X6_readPipe_34 F R _ _ _
  · refine s_aload_n F 1 dX6_readPipe_18 rfl rfl ?_
    refine fg_X6_9 F dX6_readPipe_19 ?_
    refine s_aload_n F 1 dX6_readPipe_22 rfl rfl ?_
    refine fg_X6_23 F dX6_readPipe_23 ?_
    refine s_iald F ar_22 dX6_readPipe_26 (fun q29 => ?_)
    refine s_Si F [.int (σ.1 22 (σ.2 4).toNatClampNeg)] dX6_readPipe_27 (fun z hz => c_X3_ofLetter hz) wS_X6_53 nk_X3_ofLetter (by decide) (by decide) rfl rfl (Nat.le_of_ble_eq_true rfl) (fun z30 => ?_)
    refine s_goto F 34 dX6_readPipe_30 (by decide) ?_
    refine s_lv [(0, .ref (ga G 2)), (1, .ref (ga G 6)), (2, .int (σ.1 7 (nI 2).toNatClampNeg))] [1, 2, 0] rfl ?_
    exact j_X6_readPipe_34 F R _ _ _
/-! X6_readInto -/
def J_X6_readInto_42 (K17 : Int32 → Int32 → St → Option (Int32 × St)) (a3 : Int32) (σ : St) : Option (Int32 × St) := (F_X6_readPipe σ).bind fun z3 => K17 z3.1 (a3 + (nI 1)) z3.2
def L_X6_readInto_17 (K : Int32 → St → Option (Int32 × St)) : Nat → Int32 → Int32 → St → Option (Int32 × St)
  | 0, _, _, _ => none
  | n + 1, a2, a3, σ => if (nI 120) ≤ a3 then (K a2 σ) else (if a2 = 0 then (K a2 σ) else (if a3 = 0 then (J_X6_readInto_42 (fun a2 a3 σ => L_X6_readInto_17 K n a2 a3 σ) a3 σ) else (if (σ.2 1) ≤ (σ.2 4) then (K a2 σ) else (J_X6_readInto_42 (fun a2 a3 σ => L_X6_readInto_17 K n a2 a3 σ) a3 σ))))
def F_X6_readInto (σ : St) : Option (Int32 × St) := (F_X4_clear 6 σ).bind fun z1 => (F_X6_readLaw (setF z1 4 (nI 0))).bind fun z2 => L_X6_readInto_17 (fun a2 σ => (F_X4_allPipes 6 σ).bind fun z8 => if ix (nI 3) 80 then if (a2 = 0 ∨ a2 = 1) then some (a2, setA z8.2 7 (nI 3).toNatClampNeg z8.1) else none else none) fuel z2.1 (nI 0) z2.2
set_option maxRecDepth 20000 in
theorem j_X6_readInto_42 {G : Gx} {X : Cx} (F : Fx G X cX6_readInto 4 RX6 3) {o : (Int32 × St)} (R : Ret G X cX6_readInto 4 (some .boolean) (some (.int o.1)) o.2) {K17 : Int32 → Int32 → St → Option (Int32 × St)} (hK17 : ∀ (a2 : Int32) (a3 : Int32) (σ : St), Sim G X 4 o (K17 a2 a3 σ) σ 17 [(0, .ref (ga G 2)), (1, .ref (ga G 6)), (2, .int a2), (3, .int a3)] []) (a3 : Int32) (σ : St) : Sim G X 4 o (J_X6_readInto_42 K17 a3 σ) σ 42 [(0, .ref (ga G 2)), (1, .ref (ga G 6)), (3, .int a3)] [] := by
  unfold J_X6_readInto_42
  refine s_aload_n F 0 dX6_readInto_42 rfl rfl ?_
  refine s_aload_n F 1 dX6_readInto_43 rfl rfl ?_
  refine s_Vi F [.ref (ga G 6)] dX6_readInto_44 (fun z hz => c_X6_readPipe hz) wV_X6_35 nk_X6_readPipe (by decide) (by decide) ob_2 vc_5 rfl rfl (Nat.le_of_ble_eq_true rfl) (fun z3 => ?_)
  refine s_istore_n F [(2, .int z3.1), (0, .ref (ga G 2)), (1, .ref (ga G 6)), (3, .int a3)] dX6_readInto_47 rfl (by decide) rfl ?_
  refine s_iinc F 3 [(3, .int (a3 + (nI 1))), (2, .int z3.1), (0, .ref (ga G 2)), (1, .ref (ga G 6))] dX6_readInto_48 rfl rfl (by decide) rfl ?_
  refine s_goto F 17 dX6_readInto_51 (by decide) ?_
  refine s_lv [(0, .ref (ga G 2)), (1, .ref (ga G 6)), (2, .int z3.1), (3, .int (a3 + (nI 1)))] [2, 3, 1, 0] rfl ?_
  exact hK17 _ _ _
set_option maxRecDepth 20000 in
theorem l_X6_readInto_17 {G : Gx} {X : Cx} (F : Fx G X cX6_readInto 4 RX6 3) {o : (Int32 × St)} (R : Ret G X cX6_readInto 4 (some .boolean) (some (.int o.1)) o.2) {K : Int32 → St → Option (Int32 × St)} (hK : ∀ (a2 : Int32) (σ : St), Sim G X 4 o (K a2 σ) σ 54 [(1, .ref (ga G 6)), (2, .int a2)] []) : ∀ (n : Nat) (a2 : Int32) (a3 : Int32) (σ : St), Sim G X 4 o (L_X6_readInto_17 K n a2 a3 σ) σ 17 [(0, .ref (ga G 2)), (1, .ref (ga G 6)), (2, .int a2), (3, .int a3)] [] := by
  intro n
  induction n with
  | zero =>
    intro a2 a3 σ
    exact s_none
  | succ n ih =>
    intro a2 a3 σ
    rw [L_X6_readInto_17.eq_2]
    refine s_iload_n F 3 dX6_readInto_17 rfl rfl ?_
    refine s_bipush F (nI 120) dX6_readInto_18 rfl ?_
    refine s_icmp_ge F 54 dX6_readInto_20 (by decide) (fun c7 => ?_) (fun c7 => ?_)
    · refine s_lv [(1, .ref (ga G 6)), (2, .int a2)] [1, 2] rfl ?_
      exact hK _ _
    · refine s_iload_n F 2 dX6_readInto_23 rfl rfl ?_
      refine s_if_eq F 54 dX6_readInto_24 (by decide) (fun c6 => ?_) (fun c6 => ?_)
      · refine s_lv [(1, .ref (ga G 6)), (2, .int a2)] [1, 2] rfl ?_
        exact hK _ _
      · refine s_iload_n F 3 dX6_readInto_27 rfl rfl ?_
        refine s_if_eq F 42 dX6_readInto_28 (by decide) (fun c5 => ?_) (fun c5 => ?_)
        · refine s_lv [(0, .ref (ga G 2)), (1, .ref (ga G 6)), (3, .int a3)] [0, 1, 3] rfl ?_
          exact j_X6_readInto_42 F R (by
                intro a2 a3 σ
                exact ih _ _ _) _ _
        · refine s_aload_n F 0 dX6_readInto_31 rfl rfl ?_
          refine fg_X6_23 F dX6_readInto_32 ?_
          refine s_aload_n F 0 dX6_readInto_35 rfl rfl ?_
          refine fg_X6_13 F dX6_readInto_36 ?_
          refine s_icmp_ge F 54 dX6_readInto_39 (by decide) (fun c4 => ?_) (fun c4 => ?_)
          · refine s_lv [(1, .ref (ga G 6)), (2, .int a2)] [1, 2] rfl ?_
            exact hK _ _
          · refine s_lv [(0, .ref (ga G 2)), (1, .ref (ga G 6)), (3, .int a3)] [0, 1, 3] rfl ?_
            exact j_X6_readInto_42 F R (by
                  intro a2 a3 σ
                  exact ih _ _ _) _ _
set_option maxRecDepth 20000 in
theorem c_X6_readInto {G : Gx} {l : Launch} {σ : St} {o : (Int32 × St)} (hF : F_X6_readInto σ = some o) : Con G l yX6_readInto cX6_readInto 4 (some .boolean) 3 [.ref (ga G 2), .ref (ga G 6)] σ (some (.int o.1)) o.2 := by
  refine Con.of plX6 (Nat.le_of_ble_eq_true rfl) [(0, .ref (ga G 2)), (1, .ref (ga G 6))] rfl (fun X F R => ?_)
  refine (show Sim G X 4 o (F_X6_readInto σ) σ 0 [(0, .ref (ga G 2)), (1, .ref (ga G 6))] [] from ?_) hF
  unfold F_X6_readInto
  refine s_aload_n F 1 dX6_readInto_0 rfl rfl ?_
  refine s_Vv F [] dX6_readInto_1 (fun z hz => c_X4_clear nt_6 hz) wV_X6_26 nk_X4_clear (by decide) (by decide) (isNet.obj nt_6) vc_3 rfl rfl (Nat.le_of_ble_eq_true rfl) (fun z1 => ?_)
  refine s_aload_n F 0 dX6_readInto_4 rfl rfl ?_
  refine s_iconst F (nI 0) dX6_readInto_5 rfl ?_
  refine fp_X6_23 F dX6_readInto_6 ?_
  refine s_aload_n F 0 dX6_readInto_9 rfl rfl ?_
  refine s_aload_n F 1 dX6_readInto_10 rfl rfl ?_
  refine s_Vi F [.ref (ga G 6)] dX6_readInto_11 (fun z hz => c_X6_readLaw hz) wV_X6_31 nk_X6_readLaw (by decide) (by decide) ob_2 vc_5 rfl rfl (Nat.le_of_ble_eq_true rfl) (fun z2 => ?_)
  refine s_istore_n F [(2, .int z2.1), (0, .ref (ga G 2)), (1, .ref (ga G 6))] dX6_readInto_14 rfl (by decide) rfl ?_
  refine s_iconst F (nI 0) dX6_readInto_15 rfl ?_
  refine s_istore_n F [(3, .int (nI 0)), (2, .int z2.1), (0, .ref (ga G 2)), (1, .ref (ga G 6))] dX6_readInto_16 rfl (by decide) rfl ?_
  refine s_lv [(0, .ref (ga G 2)), (1, .ref (ga G 6)), (2, .int z2.1), (3, .int (nI 0))] [2, 3, 1, 0] rfl ?_
  refine l_X6_readInto_17 F R (fun a2 σ => ?_) fuel _ _ _
  refine s_aload_n F 0 dX6_readInto_54 rfl rfl ?_
  refine fg_X6_38 F nt_6 (c := 7) rfl dX6_readInto_55 ?_
  refine s_iconst F (nI 3) dX6_readInto_58 rfl ?_
  refine s_aload_n F 0 dX6_readInto_59 rfl rfl ?_
  refine s_Vi F [] dX6_readInto_60 (fun z hz => c_X4_allPipes nt_6 hz) wV_X6_41 nk_X4_allPipes (by decide) (by decide) (isNet.obj nt_6) vc_3 rfl rfl (Nat.le_of_ble_eq_true rfl) (fun z8 => ?_)
  refine s_iast F ar_7 dX6_readInto_63 (fun q9 => ?_)
  refine s_iload_n F 1 dX6_readInto_64 rfl rfl ?_
  exact s_zretg R dX6_readInto_65
end
