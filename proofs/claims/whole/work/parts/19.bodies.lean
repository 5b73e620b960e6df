noncomputable section
def F_X1_leave (a1 : Int32) (σ : St) : Option St := if (nI 16) ≤ (σ.2 7) then (some σ) else (if ix (σ.2 7) 16 then some (setF (setA σ 24 (σ.2 7).toNatClampNeg a1) 7 (((setA σ 24 (σ.2 7).toNatClampNeg a1).2 7) + (nI 1))) else none)
set_option maxRecDepth 20000 in
theorem c_X1_leave {G : Gx} {l : Launch} {a1 : Int32} {σ : St} {o : St} (hF : F_X1_leave a1 σ = some o) : Con G l yX1_leave cX1_leave 2 none 0 [.ref (ga G 17), .int a1] σ none o := by
  refine Con.of plX1 (Nat.le_of_ble_eq_true rfl) [(0, .ref (ga G 17)), (1, .int a1)] rfl (fun X F R => ?_)
  refine (show Sim G X 2 o (F_X1_leave a1 σ) σ 0 [(0, .ref (ga G 17)), (1, .int a1)] [] from ?_) hF
  unfold F_X1_leave
  refine s_aload_n F 0 dX1_leave_0 rfl rfl ?_
  refine fg_X1_13 F dX1_leave_1 ?_
  refine s_bipush F (nI 16) dX1_leave_4 rfl ?_
  refine s_icmp_ge F 29 dX1_leave_6 (by decide) (fun c2 => ?_) (fun c2 => ?_)
  · exact s_vret R dX1_leave_29
  · refine s_aload_n F 0 dX1_leave_9 rfl rfl ?_
    refine fg_X1_9 F dX1_leave_10 ?_
    refine s_aload_n F 0 dX1_leave_13 rfl rfl ?_
    refine fg_X1_13 F dX1_leave_14 ?_
    refine s_iload_n F 1 dX1_leave_17 rfl rfl ?_
    refine s_iast F ar_24 dX1_leave_18 (fun q1 => ?_)
    refine s_aload_n F 0 dX1_leave_19 rfl rfl ?_
    refine s_dup F dX1_leave_20 rfl ?_
    refine fg_X1_13 F dX1_leave_21 ?_
    refine s_iconst F (nI 1) dX1_leave_24 rfl ?_
    refine s_iadd F dX1_leave_25 ?_
    refine fp_X1_13 F dX1_leave_26 ?_
    exact s_vret R dX1_leave_29
/-! X1_sizeOf -/
def F_X1_sizeOf (g : Int32 → Int32 → Int32 → St → Option (Int32 × St)) (a2 : Int32) (a3 : Int32) (σ : St) : Option (Int32 × St) := if ix ((nI 5) + a2) 80 then if ix (σ.1 4 ((nI 5) + a2).toNatClampNeg) 6 then (g (stV 2 (σ.1 4 ((nI 5) + a2).toNatClampNeg).toNatClampNeg) a2 a3 σ).bind fun z3 => some (z3.1, z3.2) else none else none
set_option maxRecDepth 20000 in
theorem c_X1_sizeOf {G : Gx} {l : Launch} {a2 : Int32} {a3 : Int32} {g : Int32 → Int32 → Int32 → St → Option (Int32 × St)} {dg : Nat} (hg : ∀ {l : Launch} {a1 a3 a4 : Int32} {σ : St} {o : Int32 × St}, g a1 a3 a4 σ = some o → Con G l yX1_give cX1_give 6 (some .int) dg [.ref (ga G 17), .int a1, .ref (ga G 3), .int a3, .int a4] σ (some (.int o.1)) o.2) {σ : St} {o : (Int32 × St)} (hF : F_X1_sizeOf g a2 a3 σ = some o) : Con G l yX1_sizeOf cX1_sizeOf 4 (some .int) (dg + 1) [.ref (ga G 17), .ref (ga G 3), .int a2, .int a3] σ (some (.int o.1)) o.2 := by
  refine Con.of plX1 (Nat.le_of_ble_eq_true rfl) [(0, .ref (ga G 17)), (1, .ref (ga G 3)), (2, .int a2), (3, .int a3)] rfl (fun X F R => ?_)
  refine (show Sim G X 4 o (F_X1_sizeOf g a2 a3 σ) σ 0 [(0, .ref (ga G 17)), (1, .ref (ga G 3)), (2, .int a2), (3, .int a3)] [] from ?_) hF
  unfold F_X1_sizeOf
  refine s_aload_n F 0 dX1_sizeOf_0 rfl rfl ?_
  refine s_gets F 2 (by decide) dX1_sizeOf_1 m_3_156 ?_
  refine s_aload_n F 1 dX1_sizeOf_4 rfl rfl ?_
  refine fg_X1_27 F nt_3 (c := 4) rfl dX1_sizeOf_5 ?_
  refine s_iconst F (nI 5) dX1_sizeOf_8 rfl ?_
  refine s_iload_n F 2 dX1_sizeOf_9 rfl rfl ?_
  refine s_iadd F dX1_sizeOf_10 ?_
  refine s_iald F ar_4 dX1_sizeOf_11 (fun q1 => ?_)
  refine s_tald F (by decide) dX1_sizeOf_12 (fun q2 => ?_)
  refine s_aload_n F 1 dX1_sizeOf_13 rfl rfl ?_
  refine s_iload_n F 2 dX1_sizeOf_14 rfl rfl ?_
  refine s_iload_n F 3 dX1_sizeOf_15 rfl rfl ?_
  refine s_Vi F [.int (stV 2 (σ.1 4 ((nI 5) + a2).toNatClampNeg).toNatClampNeg), .ref (ga G 3), .int a2, .int a3] dX1_sizeOf_16 (fun z hz => hg hz) wV_X1_32 nk_X1_give (by omega) (by decide) ob_17 vc_1 rfl rfl (Nat.le_of_ble_eq_true rfl) (fun z3 => ?_)
  exact s_iret R dX1_sizeOf_19
/-! X1_markOf -/
def F_X1_markOf (g : Int32 → Int32 → Int32 → St → Option (Int32 × St)) (a2 : Int32) (a3 : Int32) (σ : St) : Option (Int32 × St) := if ix ((nI 5) + a2) 80 then if ix (σ.1 4 ((nI 5) + a2).toNatClampNeg) 6 then (g (stV 3 (σ.1 4 ((nI 5) + a2).toNatClampNeg).toNatClampNeg) a2 a3 σ).bind fun z3 => some (z3.1, z3.2) else none else none
set_option maxRecDepth 20000 in
theorem c_X1_markOf {G : Gx} {l : Launch} {a2 : Int32} {a3 : Int32} {g : Int32 → Int32 → Int32 → St → Option (Int32 × St)} {dg : Nat} (hg : ∀ {l : Launch} {a1 a3 a4 : Int32} {σ : St} {o : Int32 × St}, g a1 a3 a4 σ = some o → Con G l yX1_give cX1_give 6 (some .int) dg [.ref (ga G 17), .int a1, .ref (ga G 3), .int a3, .int a4] σ (some (.int o.1)) o.2) {σ : St} {o : (Int32 × St)} (hF : F_X1_markOf g a2 a3 σ = some o) : Con G l yX1_markOf cX1_markOf 4 (some .int) (dg + 1) [.ref (ga G 17), .ref (ga G 3), .int a2, .int a3] σ (some (.int o.1)) o.2 := by
  refine Con.of plX1 (Nat.le_of_ble_eq_true rfl) [(0, .ref (ga G 17)), (1, .ref (ga G 3)), (2, .int a2), (3, .int a3)] rfl (fun X F R => ?_)
  refine (show Sim G X 4 o (F_X1_markOf g a2 a3 σ) σ 0 [(0, .ref (ga G 17)), (1, .ref (ga G 3)), (2, .int a2), (3, .int a3)] [] from ?_) hF
  unfold F_X1_markOf
  refine s_aload_n F 0 dX1_markOf_0 rfl rfl ?_
  refine s_gets F 3 (by decide) dX1_markOf_1 m_3_170 ?_
  refine s_aload_n F 1 dX1_markOf_4 rfl rfl ?_
  refine fg_X1_27 F nt_3 (c := 4) rfl dX1_markOf_5 ?_
  refine s_iconst F (nI 5) dX1_markOf_8 rfl ?_
  refine s_iload_n F 2 dX1_markOf_9 rfl rfl ?_
  refine s_iadd F dX1_markOf_10 ?_
  refine s_iald F ar_4 dX1_markOf_11 (fun q1 => ?_)
  refine s_tald F (by decide) dX1_markOf_12 (fun q2 => ?_)
  refine s_aload_n F 1 dX1_markOf_13 rfl rfl ?_
  refine s_iload_n F 2 dX1_markOf_14 rfl rfl ?_
  refine s_iload_n F 3 dX1_markOf_15 rfl rfl ?_
  refine s_Vi F [.int (stV 3 (σ.1 4 ((nI 5) + a2).toNatClampNeg).toNatClampNeg), .ref (ga G 3), .int a2, .int a3] dX1_markOf_16 (fun z hz => hg hz) wV_X1_32 nk_X1_give (by omega) (by decide) ob_17 vc_1 rfl rfl (Nat.le_of_ble_eq_true rfl) (fun z3 => ?_)
  exact s_iret R dX1_markOf_19
/-! X1_give -/
def F_X1_give_b (g : Int32 → Int32 → Int32 → St → Option (Int32 × St)) (a1 : Int32) (a3 : Int32) (a4 : Int32) (σ : St) : Option (Int32 × St) := if a4 ≤ (nI 8) then ((F_X1_leave a1 σ).bind fun z1 => if a1 = (10 : Int32) then (if ix ((nI 26) + a3) 80 then some (z1.1 4 ((nI 26) + a3).toNatClampNeg, z1) else none) else (if a1 = (11 : Int32) then ((g (nI 10) a3 (a4 + (nI 1)) z1).bind fun z5 => (F_X1_markOf g a3 (a4 + (nI 1)) z5.2).bind fun z6 => some (z5.1 + z6.1, z6.2)) else (if a1 = (12 : Int32) then ((g (nI 11) a3 (a4 + (nI 1)) z1).bind fun z8 => some ((nI 0) - z8.1, z8.2)) else (if a1 = (13 : Int32) then ((g (nI 10) a3 (a4 + (nI 1)) z1).bind fun z10 => some (z10.1 - (nI 100), z10.2)) else (if a1 = (14 : Int32) then ((g (nI 13) a3 (a4 + (nI 1)) z1).bind fun z12 => some ((nI 2) * z12.1, z12.2)) else (if a1 = (15 : Int32) then (some ((nI 0), z1)) else (if a1 = (16 : Int32) then (some ((nI 0), z1)) else (if a1 = (17 : Int32) then (some ((nI 0), z1)) else (if a1 = (18 : Int32) then (some ((nI 0), z1)) else (if a1 = (19 : Int32) then (some ((nI 0), z1)) else (if a1 = (20 : Int32) then (some (a3, z1)) else (if a1 = (21 : Int32) then ((g (nI 20) a3 (a4 + (nI 1)) z1).bind fun z20 => if ix ((nI 33) + a3) 80 then some (z20.1 + (z20.2.1 4 ((nI 33) + a3).toNatClampNeg), z20.2) else none) else (if a1 = (22 : Int32) then ((g (nI 21) a3 (a4 + (nI 1)) z1).bind fun z23 => some (z23.1 - (nI 1000), z23.2)) else (if a1 = (23 : Int32) then ((g (nI 20) a3 (a4 + (nI 1)) z1).bind fun z25 => (F_X1_sizeOf g a3 (a4 + (nI 1)) z25.2).bind fun z26 => some (z25.1 - z26.1, z26.2)) else (if a1 = (24 : Int32) then ((g (nI 21) a3 (a4 + (nI 1)) z1).bind fun z28 => some ((nI 2) * z28.1, z28.2)) else (some ((nI 0), z1))))))))))))))))) else (some ((nI 0), σ))
set_option maxRecDepth 20000 in
theorem c_X1_give_b {G : Gx} {l : Launch} {a1 : Int32} {a3 : Int32} {a4 : Int32} {g : Int32 → Int32 → Int32 → St → Option (Int32 × St)} {dg : Nat} (hg : ∀ {l : Launch} {a1 a3 a4 : Int32} {σ : St} {o : Int32 × St}, g a1 a3 a4 σ = some o → Con G l yX1_give cX1_give 6 (some .int) dg [.ref (ga G 17), .int a1, .ref (ga G 3), .int a3, .int a4] σ (some (.int o.1)) o.2) {σ : St} {o : (Int32 × St)} (hF : F_X1_give_b g a1 a3 a4 σ = some o) : Con G l yX1_give cX1_give 6 (some .int) (dg + 2) [.ref (ga G 17), .int a1, .ref (ga G 3), .int a3, .int a4] σ (some (.int o.1)) o.2 := by
  refine Con.of plX1 (Nat.le_of_ble_eq_true rfl) [(0, .ref (ga G 17)), (1, .int a1), (2, .ref (ga G 3)), (3, .int a3), (4, .int a4)] rfl (fun X F R => ?_)
  refine (show Sim G X 6 o (F_X1_give_b g a1 a3 a4 σ) σ 0 [(0, .ref (ga G 17)), (1, .int a1), (2, .ref (ga G 3)), (3, .int a3), (4, .int a4)] [] from ?_) hF
  unfold F_X1_give_b
  refine s_iload F 4 dX1_give_0 rfl ?_
  refine s_bipush F (nI 8) dX1_give_2 rfl ?_
  refine s_icmp_le F 9 dX1_give_4 (by decide) (fun c29 => ?_) (fun c29 => ?_)
  · refine s_aload_n F 0 dX1_give_9 rfl rfl ?_
    refine s_iload_n F 1 dX1_give_10 rfl rfl ?_
    refine s_Vv F [.int a1] dX1_give_11 (fun z hz => c_X1_leave hz) wV_X1_39 nk_X1_leave (by omega) (by decide) ob_17 vc_1 rfl rfl (Nat.le_of_ble_eq_true rfl) (fun z1 => ?_)
    refine s_iload F 4 dX1_give_14 rfl ?_
    refine s_iconst F (nI 1) dX1_give_16 rfl ?_
    refine s_iadd F dX1_give_17 ?_
    refine s_istore F [(5, .int (a4 + (nI 1))), (0, .ref (ga G 17)), (1, .int a1), (2, .ref (ga G 3)), (3, .int a3), (4, .int a4)] dX1_give_18 (by decide) rfl ?_
    refine s_iload_n F 2 dX1_give_20 rfl rfl ?_
    refine s_ite (fun c2 => ?_) (fun c2 => ?_)
    · refine s_tin F 96 dX1_give_21 (10 : Int32) c2 (by decide) (by decide) rfl (by decide) ?_
      refine s_aload_n F 3 dX1_give_96 rfl rfl ?_
      refine fg_X1_27 F nt_3 (c := 4) rfl dX1_give_97 ?_
      refine s_bipush F (nI 26) dX1_give_100 rfl ?_
      refine s_iload_n F 4 dX1_give_102 rfl rfl ?_
      refine s_iadd F dX1_give_103 ?_
      refine s_iald F ar_4 dX1_give_104 (fun q3 => ?_)
      exact s_iret R dX1_give_105
    · refine s_ite (fun c4 => ?_) (fun c4 => ?_)
      · refine s_tin F 106 dX1_give_21 (11 : Int32) c4 (by decide) (by decide) rfl (by decide) ?_
        refine s_aload_n F 1 dX1_give_106 rfl rfl ?_
        refine s_bipush F (nI 10) dX1_give_107 rfl ?_
        refine s_aload_n F 3 dX1_give_109 rfl rfl ?_
        refine s_iload_n F 4 dX1_give_110 rfl rfl ?_
        refine s_iload F 0 dX1_give_111 rfl ?_
        refine s_Vi F [.int (nI 10), .ref (ga G 3), .int a3, .int (a4 + (nI 1))] dX1_give_113 (fun z hz => hg hz) wV_X1_32 nk_X1_give (by omega) (by decide) ob_17 vc_1 rfl rfl (Nat.le_of_ble_eq_true rfl) (fun z5 => ?_)
        refine s_aload_n F 1 dX1_give_116 rfl rfl ?_
        refine s_aload_n F 3 dX1_give_117 rfl rfl ?_
        refine s_iload_n F 4 dX1_give_118 rfl rfl ?_
        refine s_iload F 0 dX1_give_119 rfl ?_
        refine s_Vi F [.ref (ga G 3), .int a3, .int (a4 + (nI 1))] dX1_give_121 (fun z hz => c_X1_markOf hg hz) wV_X1_21 nk_X1_markOf (by omega) (by decide) ob_17 vc_1 rfl rfl (Nat.le_of_ble_eq_true rfl) (fun z6 => ?_)
        refine s_iadd F dX1_give_124 ?_
        exact s_iret R dX1_give_125
      · refine s_ite (fun c7 => ?_) (fun c7 => ?_)
        · refine s_tin F 126 dX1_give_21 (12 : Int32) c7 (by decide) (by decide) rfl (by decide) ?_
          refine s_iconst F (nI 0) dX1_give_126 rfl ?_
          refine s_aload_n F 1 dX1_give_127 rfl rfl ?_
          refine s_bipush F (nI 11) dX1_give_128 rfl ?_
          refine s_aload_n F 3 dX1_give_130 rfl rfl ?_
          refine s_iload_n F 4 dX1_give_131 rfl rfl ?_
          refine s_iload F 0 dX1_give_132 rfl ?_
          refine s_Vi F [.int (nI 11), .ref (ga G 3), .int a3, .int (a4 + (nI 1))] dX1_give_134 (fun z hz => hg hz) wV_X1_32 nk_X1_give (by omega) (by decide) ob_17 vc_1 rfl rfl (Nat.le_of_ble_eq_true rfl) (fun z8 => ?_)
          refine s_isub F dX1_give_137 ?_
          exact s_iret R dX1_give_138
        · refine s_ite (fun c9 => ?_) (fun c9 => ?_)
          · refine s_tin F 139 dX1_give_21 (13 : Int32) c9 (by decide) (by decide) rfl (by decide) ?_
            refine s_aload_n F 1 dX1_give_139 rfl rfl ?_
            refine s_bipush F (nI 10) dX1_give_140 rfl ?_
            refine s_aload_n F 3 dX1_give_142 rfl rfl ?_
            refine s_iload_n F 4 dX1_give_143 rfl rfl ?_
            refine s_iload F 0 dX1_give_144 rfl ?_
            refine s_Vi F [.int (nI 10), .ref (ga G 3), .int a3, .int (a4 + (nI 1))] dX1_give_146 (fun z hz => hg hz) wV_X1_32 nk_X1_give (by omega) (by decide) ob_17 vc_1 rfl rfl (Nat.le_of_ble_eq_true rfl) (fun z10 => ?_)
            refine s_bipush F (nI 100) dX1_give_149 rfl ?_
            refine s_isub F dX1_give_151 ?_
            exact s_iret R dX1_give_152
          · refine s_ite (fun c11 => ?_) (fun c11 => ?_)
            · refine s_tin F 153 dX1_give_21 (14 : Int32) c11 (by decide) (by decide) rfl (by decide) ?_
              refine s_iconst F (nI 2) dX1_give_153 rfl ?_
              refine s_aload_n F 1 dX1_give_154 rfl rfl ?_
              refine s_bipush F (nI 13) dX1_give_155 rfl ?_
              refine s_aload_n F 3 dX1_give_157 rfl rfl ?_
              refine s_iload_n F 4 dX1_give_158 rfl rfl ?_
              refine s_iload F 0 dX1_give_159 rfl ?_
              refine s_Vi F [.int (nI 13), .ref (ga G 3), .int a3, .int (a4 + (nI 1))] dX1_give_161 (fun z hz => hg hz) wV_X1_32 nk_X1_give (by omega) (by decide) ob_17 vc_1 rfl rfl (Nat.le_of_ble_eq_true rfl) (fun z12 => ?_)
              refine s_imul F dX1_give_164 ?_
              exact s_iret R dX1_give_165
            · refine s_ite (fun c13 => ?_) (fun c13 => ?_)
              · refine s_tin F 237 dX1_give_21 (15 : Int32) c13 (by decide) (by decide) rfl (by decide) ?_
                refine s_iconst F (nI 0) dX1_give_237 rfl ?_
                exact s_iret R dX1_give_238
              · refine s_ite (fun c14 => ?_) (fun c14 => ?_)
                · refine s_tin F 237 dX1_give_21 (16 : Int32) c14 (by decide) (by decide) rfl (by decide) ?_
                  refine s_iconst F (nI 0) dX1_give_237 rfl ?_
                  exact s_iret R dX1_give_238
                · refine s_ite (fun c15 => ?_) (fun c15 => ?_)
                  · refine s_tin F 237 dX1_give_21 (17 : Int32) c15 (by decide) (by decide) rfl (by decide) ?_
                    refine s_iconst F (nI 0) dX1_give_237 rfl ?_
                    exact s_iret R dX1_give_238
                  · refine s_ite (fun c16 => ?_) (fun c16 => ?_)
                    · refine s_tin F 237 dX1_give_21 (18 : Int32) c16 (by decide) (by decide) rfl (by decide) ?_
                      refine s_iconst F (nI 0) dX1_give_237 rfl ?_
                      exact s_iret R dX1_give_238
                    · refine s_ite (fun c17 => ?_) (fun c17 => ?_)
                      · refine s_tin F 237 dX1_give_21 (19 : Int32) c17 (by decide) (by decide) rfl (by decide) ?_
                        refine s_iconst F (nI 0) dX1_give_237 rfl ?_
                        exact s_iret R dX1_give_238
                      · refine s_ite (fun c18 => ?_) (fun c18 => ?_)
                        · refine s_tin F 166 dX1_give_21 (20 : Int32) c18 (by decide) (by decide) rfl (by decide) ?_
                          refine s_iload_n F 4 dX1_give_166 rfl rfl ?_
                          exact s_iret R dX1_give_167
                        · refine s_ite (fun c19 => ?_) (fun c19 => ?_)
                          · refine s_tin F 168 dX1_give_21 (21 : Int32) c19 (by decide) (by decide) rfl (by decide) ?_
                            refine s_aload_n F 1 dX1_give_168 rfl rfl ?_
                            refine s_bipush F (nI 20) dX1_give_169 rfl ?_
                            refine s_aload_n F 3 dX1_give_171 rfl rfl ?_
                            refine s_iload_n F 4 dX1_give_172 rfl rfl ?_
                            refine s_iload F 0 dX1_give_173 rfl ?_
                            refine s_Vi F [.int (nI 20), .ref (ga G 3), .int a3, .int (a4 + (nI 1))] dX1_give_175 (fun z hz => hg hz) wV_X1_32 nk_X1_give (by omega) (by decide) ob_17 vc_1 rfl rfl (Nat.le_of_ble_eq_true rfl) (fun z20 => ?_)
                            refine s_aload_n F 3 dX1_give_178 rfl rfl ?_
                            refine fg_X1_27 F nt_3 (c := 4) rfl dX1_give_179 ?_
                            refine s_bipush F (nI 33) dX1_give_182 rfl ?_
                            refine s_iload_n F 4 dX1_give_184 rfl rfl ?_
                            refine s_iadd F dX1_give_185 ?_
                            refine s_iald F ar_4 dX1_give_186 (fun q21 => ?_)
                            refine s_iadd F dX1_give_187 ?_
                            exact s_iret R dX1_give_188
                          · refine s_ite (fun c22 => ?_) (fun c22 => ?_)
                            · refine s_tin F 189 dX1_give_21 (22 : Int32) c22 (by decide) (by decide) rfl (by decide) ?_
                              refine s_aload_n F 1 dX1_give_189 rfl rfl ?_
                              refine s_bipush F (nI 21) dX1_give_190 rfl ?_
                              refine s_aload_n F 3 dX1_give_192 rfl rfl ?_
                              refine s_iload_n F 4 dX1_give_193 rfl rfl ?_
                              refine s_iload F 0 dX1_give_194 rfl ?_
                              refine s_Vi F [.int (nI 21), .ref (ga G 3), .int a3, .int (a4 + (nI 1))] dX1_give_196 (fun z hz => hg hz) wV_X1_32 nk_X1_give (by omega) (by decide) ob_17 vc_1 rfl rfl (Nat.le_of_ble_eq_true rfl) (fun z23 => ?_)
                              refine s_sipush F (nI 1000) dX1_give_199 rfl ?_
                              refine s_isub F dX1_give_202 ?_
                              exact s_iret R dX1_give_203
                            · refine s_ite (fun c24 => ?_) (fun c24 => ?_)
                              · refine s_tin F 204 dX1_give_21 (23 : Int32) c24 (by decide) (by decide) rfl (by decide) ?_
                                refine s_aload_n F 1 dX1_give_204 rfl rfl ?_
                                refine s_bipush F (nI 20) dX1_give_205 rfl ?_
                                refine s_aload_n F 3 dX1_give_207 rfl rfl ?_
                                refine s_iload_n F 4 dX1_give_208 rfl rfl ?_
                                refine s_iload F 0 dX1_give_209 rfl ?_
                                refine s_Vi F [.int (nI 20), .ref (ga G 3), .int a3, .int (a4 + (nI 1))] dX1_give_211 (fun z hz => hg hz) wV_X1_32 nk_X1_give (by omega) (by decide) ob_17 vc_1 rfl rfl (Nat.le_of_ble_eq_true rfl) (fun z25 => ?_)
                                refine s_aload_n F 1 dX1_give_214 rfl rfl ?_
                                refine s_aload_n F 3 dX1_give_215 rfl rfl ?_
                                refine s_iload_n F 4 dX1_give_216 rfl rfl ?_
                                refine s_iload F 0 dX1_give_217 rfl ?_
                                refine s_Vi F [.ref (ga G 3), .int a3, .int (a4 + (nI 1))] dX1_give_219 (fun z hz => c_X1_sizeOf hg hz) wV_X1_17 nk_X1_sizeOf (by omega) (by decide) ob_17 vc_1 rfl rfl (Nat.le_of_ble_eq_true rfl) (fun z26 => ?_)
                                refine s_isub F dX1_give_222 ?_
                                exact s_iret R dX1_give_223
                              · refine s_ite (fun c27 => ?_) (fun c27 => ?_)
                                · refine s_tin F 224 dX1_give_21 (24 : Int32) c27 (by decide) (by decide) rfl (by decide) ?_
                                  refine s_iconst F (nI 2) dX1_give_224 rfl ?_
                                  refine s_aload_n F 1 dX1_give_225 rfl rfl ?_
                                  refine s_bipush F (nI 21) dX1_give_226 rfl ?_
                                  refine s_aload_n F 3 dX1_give_228 rfl rfl ?_
                                  refine s_iload_n F 4 dX1_give_229 rfl rfl ?_
                                  refine s_iload F 0 dX1_give_230 rfl ?_
                                  refine s_Vi F [.int (nI 21), .ref (ga G 3), .int a3, .int (a4 + (nI 1))] dX1_give_232 (fun z hz => hg hz) wV_X1_32 nk_X1_give (by omega) (by decide) ob_17 vc_1 rfl rfl (Nat.le_of_ble_eq_true rfl) (fun z28 => ?_)
                                  refine s_imul F dX1_give_235 ?_
                                  exact s_iret R dX1_give_236
                                · refine s_tout F 237 dX1_give_21 (sw_out_15 c2 c4 c7 c9 c11 c13 c14 c15 c16 c17 c18 c19 c22 c24 c27) (by decide) ?_
                                  refine s_iconst F (nI 0) dX1_give_237 rfl ?_
                                  exact s_iret R dX1_give_238
  · refine s_iconst F (nI 0) dX1_give_7 rfl ?_
    exact s_iret R dX1_give_8
def F_X1_give : Nat → Int32 → Int32 → Int32 → St → Option (Int32 × St)
  | 0 => fun _ _ _ _ => none
  | n + 1 => F_X1_give_b (F_X1_give n)
theorem c_X1_give {G : Gx} : ∀ (n : Nat) {l : Launch} {a1 a3 a4 : Int32} {σ : St} {o : Int32 × St}, F_X1_give n a1 a3 a4 σ = some o → Con G l yX1_give cX1_give 6 (some .int) (2 * n) [.ref (ga G 17), .int a1, .ref (ga G 3), .int a3, .int a4] σ (some (.int o.1)) o.2 := by
  intro n
  induction n with
  | zero =>
    intro l a1 a3 a4 σ o h
    cases h
  | succ n ih =>
    intro l a1 a3 a4 σ o h
    exact c_X1_give_b ih h
/-! X1_answer -/
def F_X1_answer (a2 : Int32) (a3 : Int32) (σ : St) : Option (Int32 × St) := if a3 = 0 then ((F_X1_sizeOf (F_X1_give 12) a2 (nI 0) (setF σ 7 (nI 0))).bind fun z2 => some (z2.1, z2.2)) else ((F_X1_markOf (F_X1_give 12) a2 (nI 0) (setF σ 7 (nI 0))).bind fun z1 => some (z1.1, z1.2))
set_option maxRecDepth 20000 in
theorem c_X1_answer {G : Gx} {l : Launch} {a2 : Int32} {a3 : Int32} {σ : St} {o : (Int32 × St)} (hF : F_X1_answer a2 a3 σ = some o) : Con G l yX1_answer cX1_answer 4 (some .int) 26 [.ref (ga G 17), .ref (ga G 3), .int a2, .int a3] σ (some (.int o.1)) o.2 := by
  refine Con.of plX1 (Nat.le_of_ble_eq_true rfl) [(0, .ref (ga G 17)), (1, .ref (ga G 3)), (2, .int a2), (3, .int a3)] rfl (fun X F R => ?_)
  refine (show Sim G X 4 o (F_X1_answer a2 a3 σ) σ 0 [(0, .ref (ga G 17)), (1, .ref (ga G 3)), (2, .int a2), (3, .int a3)] [] from ?_) hF
  unfold F_X1_answer
  refine s_aload_n F 0 dX1_answer_0 rfl rfl ?_
  refine s_iconst F (nI 0) dX1_answer_1 rfl ?_
  refine fp_X1_13 F dX1_answer_2 ?_
  refine s_iload_n F 3 dX1_answer_5 rfl rfl ?_
  refine s_if_ne F 19 dX1_answer_6 (by decide) (fun c3 => ?_) (fun c3 => ?_)
  · refine s_aload_n F 0 dX1_answer_19 rfl rfl ?_
    refine s_aload_n F 1 dX1_answer_20 rfl rfl ?_
    refine s_iload_n F 2 dX1_answer_21 rfl rfl ?_
    refine s_iconst F (nI 0) dX1_answer_22 rfl ?_
    refine s_Vi F [.ref (ga G 3), .int a2, .int (nI 0)] dX1_answer_23 (fun z hz => c_X1_markOf (c_X1_give 12) hz) wV_X1_21 nk_X1_markOf (by decide) (by decide) ob_17 vc_1 rfl rfl (Nat.le_of_ble_eq_true rfl) (fun z1 => ?_)
    exact s_iret R dX1_answer_26
  · refine s_aload_n F 0 dX1_answer_9 rfl rfl ?_
    refine s_aload_n F 1 dX1_answer_10 rfl rfl ?_
    refine s_iload_n F 2 dX1_answer_11 rfl rfl ?_
    refine s_iconst F (nI 0) dX1_answer_12 rfl ?_
    refine s_Vi F [.ref (ga G 3), .int a2, .int (nI 0)] dX1_answer_13 (fun z hz => c_X1_sizeOf (c_X1_give 12) hz) wV_X1_17 nk_X1_sizeOf (by decide) (by decide) ob_17 vc_1 rfl rfl (Nat.le_of_ble_eq_true rfl) (fun z2 => ?_)
    refine s_goto F 26 dX1_answer_16 (by decide) ?_
    exact s_iret R dX1_answer_26
/-! X7_ask -/
def F_X7_ask (a1 : Int32) (a2 : Int32) (σ : St) : Option (Int32 × St) := (F_X4_isPipe 3 a1 σ).bind fun z1 => if z1.1 = 0 then (some ((-1000001 : Int32), z1.2)) else ((F_X7_isWithin a2 (nI 0) (nI 1) z1.2).bind fun z2 => if z2.1 = 0 then (some ((-1000001 : Int32), z2.2)) else ((F_X1_answer a1 a2 z2.2).bind fun z3 => some (z3.1, z3.2)))
set_option maxRecDepth 20000 in
theorem c_X7_ask {G : Gx} {l : Launch} {a1 : Int32} {a2 : Int32} {σ : St} {o : (Int32 × St)} (hF : F_X7_ask a1 a2 σ = some o) : Con G l yX7_ask cX7_ask 3 (some .int) 27 [.ref (ga G 0), .int a1, .int a2] σ (some (.int o.1)) o.2 := by
  refine Con.of plX7 (Nat.le_of_ble_eq_true rfl) [(0, .ref (ga G 0)), (1, .int a1), (2, .int a2)] rfl (fun X F R => ?_)
  refine (show Sim G X 3 o (F_X7_ask a1 a2 σ) σ 0 [(0, .ref (ga G 0)), (1, .int a1), (2, .int a2)] [] from ?_) hF
  unfold F_X7_ask
  refine s_aload_n F 0 dX7_ask_0 rfl rfl ?_
  refine fg_X7_26 F dX7_ask_1 ?_
  refine s_iload_n F 1 dX7_ask_4 rfl rfl ?_
  refine s_Vi F [.int a1] dX7_ask_5 (fun z hz => c_X4_isPipe nt_3 hz) wV_X7_162 nk_X4_isPipe (by decide) (by decide) (isNet.obj nt_3) vc_3 rfl rfl (Nat.le_of_ble_eq_true rfl) (fun z1 => ?_)
  refine s_if_eq F 20 dX7_ask_8 (by decide) (fun c5 => ?_) (fun c5 => ?_)
  · refine s_ldc F dX7_ask_20 m_1_173 ?_
    exact s_iret R dX7_ask_22
  · refine s_iload_n F 2 dX7_ask_11 rfl rfl ?_
    refine s_iconst F (nI 0) dX7_ask_12 rfl ?_
    refine s_iconst F (nI 1) dX7_ask_13 rfl ?_
    refine s_Si F [.int a2, .int (nI 0), .int (nI 1)] dX7_ask_14 (fun z hz => c_X7_isWithin hz) wS_X7_67 nk_X7_isWithin (by decide) (by decide) rfl rfl (Nat.le_of_ble_eq_true rfl) (fun z2 => ?_)
    refine s_if_ne F 23 dX7_ask_17 (by decide) (fun c4 => ?_) (fun c4 => ?_)
    · refine s_aload_n F 0 dX7_ask_23 rfl rfl ?_
      refine fg_X7_50 F dX7_ask_24 ?_
      refine s_aload_n F 0 dX7_ask_27 rfl rfl ?_
      refine fg_X7_26 F dX7_ask_28 ?_
      refine s_iload_n F 1 dX7_ask_31 rfl rfl ?_
      refine s_iload_n F 2 dX7_ask_32 rfl rfl ?_
      refine s_Vi F [.ref (ga G 3), .int a1, .int a2] dX7_ask_33 (fun z hz => c_X1_answer hz) wV_X7_258 nk_X1_answer (by decide) (by decide) ob_17 vc_1 rfl rfl (Nat.le_of_ble_eq_true rfl) (fun z3 => ?_)
      exact s_iret R dX7_ask_36
    · refine s_ldc F dX7_ask_20 m_1_173 ?_
      exact s_iret R dX7_ask_22
end
