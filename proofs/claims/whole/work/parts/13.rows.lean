noncomputable section
/-! X5_isRow -/
def F_X5_isRow (a0 : Int32) (σ : St) : Option (Int32 × St) := if a0 < 0 then (some ((nI 0), σ)) else (if (nI 8) ≤ a0 then (some ((nI 0), σ)) else (some ((nI 1), σ)))
set_option maxRecDepth 20000 in
theorem c_X5_isRow {G : Gx} {l : Launch} {a0 : Int32} {σ : St} {o : (Int32 × St)} (hF : F_X5_isRow a0 σ = some o) : Con G l yX5_isRow cX5_isRow 1 (some .boolean) 0 [.int a0] σ (some (.int o.1)) o.2 := by
  refine Con.of plX5 (Nat.le_of_ble_eq_true rfl) [(0, .int a0)] rfl (fun X F R => ?_)
  refine (show Sim G X 1 o (F_X5_isRow a0 σ) σ 0 [(0, .int a0)] [] from ?_) hF
  unfold F_X5_isRow
  refine s_iload_n F 0 dX5_isRow_0 rfl rfl ?_
  refine s_if_lt F 14 dX5_isRow_1 (by decide) (fun c2 => ?_) (fun c2 => ?_)
  · refine s_iconst F (nI 0) dX5_isRow_14 rfl ?_
    exact s_zret R dX5_isRow_15 rfl
  · refine s_iload_n F 0 dX5_isRow_4 rfl rfl ?_
    refine s_bipush F (nI 8) dX5_isRow_5 rfl ?_
    refine s_icmp_ge F 14 dX5_isRow_7 (by decide) (fun c1 => ?_) (fun c1 => ?_)
    · refine s_iconst F (nI 0) dX5_isRow_14 rfl ?_
      exact s_zret R dX5_isRow_15 rfl
    · refine s_iconst F (nI 1) dX5_isRow_10 rfl ?_
      refine s_goto F 15 dX5_isRow_11 (by decide) ?_
      exact s_zret R dX5_isRow_15 rfl
/-! X5_isMissing -/
def F_X5_isMissing (a1 : Int32) (σ : St) : Option (Int32 × St) := if ix a1 8 then if (σ.1 21 a1.toNatClampNeg) = (-1 : Int32) then (some ((nI 1), σ)) else (some ((nI 0), σ)) else none
set_option maxRecDepth 20000 in
theorem c_X5_isMissing {G : Gx} {l : Launch} {a1 : Int32} {σ : St} {o : (Int32 × St)} (hF : F_X5_isMissing a1 σ = some o) : Con G l yX5_isMissing cX5_isMissing 2 (some .boolean) 0 [.ref (ga G 1), .int a1] σ (some (.int o.1)) o.2 := by
  refine Con.of plX5 (Nat.le_of_ble_eq_true rfl) [(0, .ref (ga G 1)), (1, .int a1)] rfl (fun X F R => ?_)
  refine (show Sim G X 2 o (F_X5_isMissing a1 σ) σ 0 [(0, .ref (ga G 1)), (1, .int a1)] [] from ?_) hF
  unfold F_X5_isMissing
  refine s_aload_n F 0 dX5_isMissing_0 rfl rfl ?_
  refine fg_X5_18 F dX5_isMissing_1 ?_
  refine s_iload_n F 1 dX5_isMissing_4 rfl rfl ?_
  refine s_iald F ar_21 dX5_isMissing_5 (fun q1 => ?_)
  refine s_iconst F (-1 : Int32) dX5_isMissing_6 rfl ?_
  refine s_icmp_ne F 14 dX5_isMissing_7 (by decide) (fun c2 => ?_) (fun c2 => ?_)
  · refine s_iconst F (nI 0) dX5_isMissing_14 rfl ?_
    exact s_zret R dX5_isMissing_15 rfl
  · refine s_iconst F (nI 1) dX5_isMissing_10 rfl ?_
    refine s_goto F 15 dX5_isMissing_11 (by decide) ?_
    exact s_zret R dX5_isMissing_15 rfl
/-! X5_lay -/
def L_X5_lay_17 (K : St → Option St) : Nat → Int32 → Int32 → Int32 → St → Option St
  | 0, _, _, _, _ => none
  | n + 1, a1, a3, a4, σ => if a3 ≤ a4 then (K σ) else (if ix a1 8 then if ix a4 40 then L_X5_lay_17 K n a1 a3 (a4 + (nI 1)) (setA σ (38 + a1.toNatClampNeg) a4.toNatClampNeg (nI 0)) else none else none)
def F_X5_lay (a1 : Int32) (a2 : Int32) (a3 : Int32) (σ : St) : Option St := if ix a1 8 then if ix a1 8 then L_X5_lay_17 (fun σ => some σ) fuel a1 a3 (nI 0) (setA (setA σ 20 a1.toNatClampNeg a2) 21 a1.toNatClampNeg a3) else none else none
set_option maxRecDepth 20000 in
theorem l_X5_lay_17 {G : Gx} {X : Cx} (F : Fx G X cX5_lay 5 RX5 0) {o : St} (R : Ret G X cX5_lay 5 none none o) {K : St → Option St} (hK : ∀ (σ : St), Sim G X 5 o (K σ) σ 39 [] []) : ∀ (n : Nat) (a1 : Int32) (a3 : Int32) (a4 : Int32) (σ : St), Sim G X 5 o (L_X5_lay_17 K n a1 a3 a4 σ) σ 17 [(0, .ref (ga G 1)), (1, .int a1), (3, .int a3), (4, .int a4)] [] := by
  intro n
  induction n with
  | zero =>
    intro a1 a3 a4 σ
    exact s_none
  | succ n ih =>
    intro a1 a3 a4 σ
    rw [L_X5_lay_17.eq_2]
    refine s_iload F 3 dX5_lay_17 rfl ?_
    refine s_iload_n F 2 dX5_lay_19 rfl rfl ?_
    refine s_icmp_ge F 39 dX5_lay_20 (by decide) (fun c5 => ?_) (fun c5 => ?_)
    · refine s_lv [] [] rfl ?_
      exact hK _
    · refine s_aload_n F 0 dX5_lay_23 rfl rfl ?_
      refine fg_X5_11 F dX5_lay_24 ?_
      refine s_iload_n F 1 dX5_lay_27 rfl rfl ?_
      refine s_aald F (by decide) rfl dX5_lay_28 (fun q3 => ?_)
      refine s_iload F 3 dX5_lay_29 rfl ?_
      refine s_iconst F (nI 0) dX5_lay_31 rfl ?_
      refine s_iast F (isArr.items (ix_lt q3)) dX5_lay_32 (fun q4 => ?_)
      refine s_iinc F 3 [(4, .int (a4 + (nI 1))), (0, .ref (ga G 1)), (1, .int a1), (3, .int a3)] dX5_lay_33 rfl rfl (by decide) rfl ?_
      refine s_goto F 17 dX5_lay_36 (by decide) ?_
      refine s_lv [(0, .ref (ga G 1)), (1, .int a1), (3, .int a3), (4, .int (a4 + (nI 1)))] [1, 2, 3, 0] rfl ?_
      exact ih _ _ _ _
set_option maxRecDepth 20000 in
theorem c_X5_lay {G : Gx} {l : Launch} {a1 : Int32} {a2 : Int32} {a3 : Int32} {σ : St} {o : St} (hF : F_X5_lay a1 a2 a3 σ = some o) : Con G l yX5_lay cX5_lay 5 none 0 [.ref (ga G 1), .int a1, .int a2, .int a3] σ none o := by
  refine Con.of plX5 (Nat.le_of_ble_eq_true rfl) [(0, .ref (ga G 1)), (1, .int a1), (2, .int a2), (3, .int a3)] rfl (fun X F R => ?_)
  refine (show Sim G X 5 o (F_X5_lay a1 a2 a3 σ) σ 0 [(0, .ref (ga G 1)), (1, .int a1), (2, .int a2), (3, .int a3)] [] from ?_) hF
  unfold F_X5_lay
  refine s_aload_n F 0 dX5_lay_0 rfl rfl ?_
  refine fg_X5_14 F dX5_lay_1 ?_
  refine s_iload_n F 1 dX5_lay_4 rfl rfl ?_
  refine s_iload_n F 2 dX5_lay_5 rfl rfl ?_
  refine s_iast F ar_20 dX5_lay_6 (fun q1 => ?_)
  refine s_aload_n F 0 dX5_lay_7 rfl rfl ?_
  refine fg_X5_18 F dX5_lay_8 ?_
  refine s_iload_n F 1 dX5_lay_11 rfl rfl ?_
  refine s_iload_n F 3 dX5_lay_12 rfl rfl ?_
  refine s_iast F ar_21 dX5_lay_13 (fun q2 => ?_)
  refine s_iconst F (nI 0) dX5_lay_14 rfl ?_
  refine s_istore F [(4, .int (nI 0)), (0, .ref (ga G 1)), (1, .int a1), (2, .int a2), (3, .int a3)] dX5_lay_15 (by decide) rfl ?_
  refine s_lv [(0, .ref (ga G 1)), (1, .int a1), (3, .int a3), (4, .int (nI 0))] [1, 2, 4, 0] rfl ?_
  refine l_X5_lay_17 F R (fun σ => ?_) fuel _ _ _ _
  exact s_vret R dX5_lay_39
/-! X5_hasStretch -/
def F_X5_hasStretch (a1 : Int32) (a2 : Int32) (a3 : Int32) (σ : St) : Option (Int32 × St) := if a2 < 0 then (some ((nI 0), σ)) else (if a3 < 0 then (some ((nI 0), σ)) else (if ix a1 8 then if (σ.1 21 a1.toNatClampNeg) < a2 then (some ((nI 0), σ)) else (if ix a1 8 then if ((σ.1 21 a1.toNatClampNeg) - a2) < a3 then (some ((nI 0), σ)) else (some ((nI 1), σ)) else none) else none))
set_option maxRecDepth 20000 in
theorem c_X5_hasStretch {G : Gx} {l : Launch} {a1 : Int32} {a2 : Int32} {a3 : Int32} {σ : St} {o : (Int32 × St)} (hF : F_X5_hasStretch a1 a2 a3 σ = some o) : Con G l yX5_hasStretch cX5_hasStretch 4 (some .boolean) 0 [.ref (ga G 1), .int a1, .int a2, .int a3] σ (some (.int o.1)) o.2 := by
  refine Con.of plX5 (Nat.le_of_ble_eq_true rfl) [(0, .ref (ga G 1)), (1, .int a1), (2, .int a2), (3, .int a3)] rfl (fun X F R => ?_)
  refine (show Sim G X 4 o (F_X5_hasStretch a1 a2 a3 σ) σ 0 [(0, .ref (ga G 1)), (1, .int a1), (2, .int a2), (3, .int a3)] [] from ?_) hF
  unfold F_X5_hasStretch
  refine s_iload_n F 2 dX5_hasStretch_0 rfl rfl ?_
  refine s_if_lt F 34 dX5_hasStretch_1 (by decide) (fun c6 => ?_) (fun c6 => ?_)
  · refine s_iconst F (nI 0) dX5_hasStretch_34 rfl ?_
    exact s_zret R dX5_hasStretch_35 rfl
  · refine s_iload_n F 3 dX5_hasStretch_4 rfl rfl ?_
    refine s_if_lt F 34 dX5_hasStretch_5 (by decide) (fun c5 => ?_) (fun c5 => ?_)
    · refine s_iconst F (nI 0) dX5_hasStretch_34 rfl ?_
      exact s_zret R dX5_hasStretch_35 rfl
    · refine s_iload_n F 2 dX5_hasStretch_8 rfl rfl ?_
      refine s_aload_n F 0 dX5_hasStretch_9 rfl rfl ?_
      refine fg_X5_18 F dX5_hasStretch_10 ?_
      refine s_iload_n F 1 dX5_hasStretch_13 rfl rfl ?_
      refine s_iald F ar_21 dX5_hasStretch_14 (fun q1 => ?_)
      refine s_icmp_gt F 34 dX5_hasStretch_15 (by decide) (fun c4 => ?_) (fun c4 => ?_)
      · refine s_iconst F (nI 0) dX5_hasStretch_34 rfl ?_
        exact s_zret R dX5_hasStretch_35 rfl
      · refine s_iload_n F 3 dX5_hasStretch_18 rfl rfl ?_
        refine s_aload_n F 0 dX5_hasStretch_19 rfl rfl ?_
        refine fg_X5_18 F dX5_hasStretch_20 ?_
        refine s_iload_n F 1 dX5_hasStretch_23 rfl rfl ?_
        refine s_iald F ar_21 dX5_hasStretch_24 (fun q2 => ?_)
        refine s_iload_n F 2 dX5_hasStretch_25 rfl rfl ?_
        refine s_isub F dX5_hasStretch_26 ?_
        refine s_icmp_gt F 34 dX5_hasStretch_27 (by decide) (fun c3 => ?_) (fun c3 => ?_)
        · refine s_iconst F (nI 0) dX5_hasStretch_34 rfl ?_
          exact s_zret R dX5_hasStretch_35 rfl
        · refine s_iconst F (nI 1) dX5_hasStretch_30 rfl ?_
          refine s_goto F 35 dX5_hasStretch_31 (by decide) ?_
          exact s_zret R dX5_hasStretch_35 rfl
/-! X5_put -/
def J_X5_put_37 (a1 : Int32) (a2 : Int32) (s0 : Int32) (s1 : Int32) (σ : St) : Option (Int32 × St) := if ix s1 40 then if ix a1 8 then if ix a2 40 then some ((setA σ (38 + a1.toNatClampNeg) s1.toNatClampNeg s0).1 (38 + a1.toNatClampNeg) a2.toNatClampNeg, setA σ (38 + a1.toNatClampNeg) s1.toNatClampNeg s0) else none else none else none
def F_X5_put (a1 : Int32) (a2 : Int32) (a3 : Int32) (σ : St) : Option (Int32 × St) := if ix a1 8 then if ix a1 8 then if (σ.1 20 a1.toNatClampNeg) = 0 then (J_X5_put_37 a1 a2 a3.toInt8.toInt32 a2 σ) else (if ix a1 8 then if (σ.1 20 a1.toNatClampNeg) = (nI 1) then (J_X5_put_37 a1 a2 a3.toInt16.toInt32 a2 σ) else (J_X5_put_37 a1 a2 a3 a2 σ) else none) else none else none
set_option maxRecDepth 20000 in
theorem j_X5_put_37 {G : Gx} {X : Cx} (F : Fx G X cX5_put 4 RX5 0) {o : (Int32 × St)} (R : Ret G X cX5_put 4 (some .int) (some (.int o.1)) o.2) (a1 : Int32) (a2 : Int32) (s0 : Int32) (s1 : Int32) (σ : St) (hs2 : isArr (38 + a1.toNatClampNeg) 40) : Sim G X 4 o (J_X5_put_37 a1 a2 s0 s1 σ) σ 37 [(0, .ref (ga G 1)), (1, .int a1), (2, .int a2)] [.int s0, .int s1, .ref (ga G (38 + a1.toNatClampNeg))] := by
  unfold J_X5_put_37
  refine s_iast F hs2 dX5_put_37 (fun q4 => ?_)
  refine s_aload_n F 0 dX5_put_38 rfl rfl ?_
  refine fg_X5_11 F dX5_put_39 ?_
  refine s_iload_n F 1 dX5_put_42 rfl rfl ?_
  refine s_aald F (by decide) rfl dX5_put_43 (fun q5 => ?_)
  refine s_iload_n F 2 dX5_put_44 rfl rfl ?_
  refine s_iald F (isArr.items (ix_lt q5)) dX5_put_45 (fun q6 => ?_)
  exact s_iret R dX5_put_46
set_option maxRecDepth 20000 in
theorem c_X5_put {G : Gx} {l : Launch} {a1 : Int32} {a2 : Int32} {a3 : Int32} {σ : St} {o : (Int32 × St)} (hF : F_X5_put a1 a2 a3 σ = some o) : Con G l yX5_put cX5_put 4 (some .int) 0 [.ref (ga G 1), .int a1, .int a2, .int a3] σ (some (.int o.1)) o.2 := by
  refine Con.of plX5 (Nat.le_of_ble_eq_true rfl) [(0, .ref (ga G 1)), (1, .int a1), (2, .int a2), (3, .int a3)] rfl (fun X F R => ?_)
  refine (show Sim G X 4 o (F_X5_put a1 a2 a3 σ) σ 0 [(0, .ref (ga G 1)), (1, .int a1), (2, .int a2), (3, .int a3)] [] from ?_) hF
  unfold F_X5_put
  refine s_aload_n F 0 dX5_put_0 rfl rfl ?_
  refine fg_X5_11 F dX5_put_1 ?_
  refine s_iload_n F 1 dX5_put_4 rfl rfl ?_
  refine s_aald F (by decide) rfl dX5_put_5 (fun q1 => ?_)
  refine s_iload_n F 2 dX5_put_6 rfl rfl ?_
  refine s_aload_n F 0 dX5_put_7 rfl rfl ?_
  refine fg_X5_14 F dX5_put_8 ?_
  refine s_iload_n F 1 dX5_put_11 rfl rfl ?_
  refine s_iald F ar_20 dX5_put_12 (fun q2 => ?_)
  refine s_if_ne F 21 dX5_put_13 (by decide) (fun c8 => ?_) (fun c8 => ?_)
  · refine s_aload_n F 0 dX5_put_21 rfl rfl ?_
    refine fg_X5_14 F dX5_put_22 ?_
    refine s_iload_n F 1 dX5_put_25 rfl rfl ?_
    refine s_iald F ar_20 dX5_put_26 (fun q3 => ?_)
    refine s_iconst F (nI 1) dX5_put_27 rfl ?_
    refine s_icmp_ne F 36 dX5_put_28 (by decide) (fun c7 => ?_) (fun c7 => ?_)
    · refine s_iload_n F 3 dX5_put_36 rfl rfl ?_
      refine s_lv [(0, .ref (ga G 1)), (1, .int a1), (2, .int a2)] [0, 1, 2] rfl ?_
      exact j_X5_put_37 F R _ _ _ _ _ (isArr.items (ix_lt q1))
    · refine s_iload_n F 3 dX5_put_31 rfl rfl ?_
      refine s_i2s F dX5_put_32 ?_
      refine s_goto F 37 dX5_put_33 (by decide) ?_
      refine s_lv [(0, .ref (ga G 1)), (1, .int a1), (2, .int a2)] [0, 1, 2] rfl ?_
      exact j_X5_put_37 F R _ _ _ _ _ (isArr.items (ix_lt q1))
  · refine s_iload_n F 3 dX5_put_16 rfl rfl ?_
    refine s_i2b F dX5_put_17 ?_
    refine s_goto F 37 dX5_put_18 (by decide) ?_
    refine s_lv [(0, .ref (ga G 1)), (1, .int a1), (2, .int a2)] [0, 1, 2] rfl ?_
    exact j_X5_put_37 F R _ _ _ _ _ (isArr.items (ix_lt q1))
/-! X5_takeAway -/
def F_X5_takeAway (a1 : Int32) (σ : St) : Option (Int32 × St) := if ix a1 8 then if ix a1 8 then some (σ.1 21 a1.toNatClampNeg, setA σ 21 a1.toNatClampNeg (-1 : Int32)) else none else none
set_option maxRecDepth 20000 in
theorem c_X5_takeAway {G : Gx} {l : Launch} {a1 : Int32} {σ : St} {o : (Int32 × St)} (hF : F_X5_takeAway a1 σ = some o) : Con G l yX5_takeAway cX5_takeAway 3 (some .int) 0 [.ref (ga G 1), .int a1] σ (some (.int o.1)) o.2 := by
  refine Con.of plX5 (Nat.le_of_ble_eq_true rfl) [(0, .ref (ga G 1)), (1, .int a1)] rfl (fun X F R => ?_)
  refine (show Sim G X 3 o (F_X5_takeAway a1 σ) σ 0 [(0, .ref (ga G 1)), (1, .int a1)] [] from ?_) hF
  unfold F_X5_takeAway
  refine s_aload_n F 0 dX5_takeAway_0 rfl rfl ?_
  refine fg_X5_18 F dX5_takeAway_1 ?_
  refine s_iload_n F 1 dX5_takeAway_4 rfl rfl ?_
  refine s_iald F ar_21 dX5_takeAway_5 (fun q1 => ?_)
  refine s_istore_n F [(2, .int (σ.1 21 a1.toNatClampNeg)), (0, .ref (ga G 1)), (1, .int a1)] dX5_takeAway_6 rfl (by decide) rfl ?_
  refine s_aload_n F 1 dX5_takeAway_7 rfl rfl ?_
  refine fg_X5_18 F dX5_takeAway_8 ?_
  refine s_iload_n F 2 dX5_takeAway_11 rfl rfl ?_
  refine s_iconst F (-1 : Int32) dX5_takeAway_12 rfl ?_
  refine s_iast F ar_21 dX5_takeAway_13 (fun q2 => ?_)
  refine s_iload_n F 0 dX5_takeAway_14 rfl rfl ?_
  exact s_iret R dX5_takeAway_15
/-! X5_howMany -/
def L_X5_howMany_4 (K : Int32 → St → Option (Int32 × St)) : Nat → Int32 → Int32 → St → Option (Int32 × St)
  | 0, _, _, _ => none
  | n + 1, a1, a2, σ => if (nI 8) ≤ a2 then (K a1 σ) else ((F_X5_isMissing a2 σ).bind fun z1 => if z1.1 = 0 then (L_X5_howMany_4 K n (a1 + (nI 1)) (a2 + (nI 1)) z1.2) else (L_X5_howMany_4 K n (a1 + (nI 0)) (a2 + (nI 1)) z1.2))
def F_X5_howMany (σ : St) : Option (Int32 × St) := L_X5_howMany_4 (fun a1 σ => some (a1, σ)) fuel (nI 0) (nI 0) σ
set_option maxRecDepth 20000 in
theorem l_X5_howMany_4 {G : Gx} {X : Cx} (F : Fx G X cX5_howMany 3 RX5 1) {o : (Int32 × St)} (R : Ret G X cX5_howMany 3 (some .int) (some (.int o.1)) o.2) {K : Int32 → St → Option (Int32 × St)} (hK : ∀ (a1 : Int32) (σ : St), Sim G X 3 o (K a1 σ) σ 32 [(1, .int a1)] []) : ∀ (n : Nat) (a1 : Int32) (a2 : Int32) (σ : St), Sim G X 3 o (L_X5_howMany_4 K n a1 a2 σ) σ 4 [(0, .ref (ga G 1)), (1, .int a1), (2, .int a2)] [] := by
  intro n
  induction n with
  | zero =>
    intro a1 a2 σ
    exact s_none
  | succ n ih =>
    intro a1 a2 σ
    rw [L_X5_howMany_4.eq_2]
    refine s_iload_n F 2 dX5_howMany_4 rfl rfl ?_
    refine s_bipush F (nI 8) dX5_howMany_5 rfl ?_
    refine s_icmp_ge F 32 dX5_howMany_7 (by decide) (fun c3 => ?_) (fun c3 => ?_)
    · refine s_lv [(1, .int a1)] [1] rfl ?_
      exact hK _ _
    · refine s_iload_n F 1 dX5_howMany_10 rfl rfl ?_
      refine s_aload_n F 0 dX5_howMany_11 rfl rfl ?_
      refine s_iload_n F 2 dX5_howMany_12 rfl rfl ?_
      refine s_Vi F [.int a2] dX5_howMany_13 (fun z hz => c_X5_isMissing hz) wV_X5_21 nk_X5_isMissing (by decide) (by decide) ob_1 vc_4 rfl rfl (Nat.le_of_ble_eq_true rfl) (fun z1 => ?_)
      refine s_if_eq F 23 dX5_howMany_16 (by decide) (fun c2 => ?_) (fun c2 => ?_)
      · refine s_iconst F (nI 1) dX5_howMany_23 rfl ?_
        refine s_iadd F dX5_howMany_24 ?_
        refine s_istore_n F [(1, .int (a1 + (nI 1))), (0, .ref (ga G 1)), (2, .int a2)] dX5_howMany_25 rfl (by decide) rfl ?_
        refine s_iinc F 2 [(2, .int (a2 + (nI 1))), (1, .int (a1 + (nI 1))), (0, .ref (ga G 1))] dX5_howMany_26 rfl rfl (by decide) rfl ?_
        refine s_goto F 4 dX5_howMany_29 (by decide) ?_
        refine s_lv [(0, .ref (ga G 1)), (1, .int (a1 + (nI 1))), (2, .int (a2 + (nI 1)))] [2, 1, 0] rfl ?_
        exact ih _ _ _
      · refine s_iconst F (nI 0) dX5_howMany_19 rfl ?_
        refine s_goto F 24 dX5_howMany_20 (by decide) ?_
        refine s_iadd F dX5_howMany_24 ?_
        refine s_istore_n F [(1, .int (a1 + (nI 0))), (0, .ref (ga G 1)), (2, .int a2)] dX5_howMany_25 rfl (by decide) rfl ?_
        refine s_iinc F 2 [(2, .int (a2 + (nI 1))), (1, .int (a1 + (nI 0))), (0, .ref (ga G 1))] dX5_howMany_26 rfl rfl (by decide) rfl ?_
        refine s_goto F 4 dX5_howMany_29 (by decide) ?_
        refine s_lv [(0, .ref (ga G 1)), (1, .int (a1 + (nI 0))), (2, .int (a2 + (nI 1)))] [2, 1, 0] rfl ?_
        exact ih _ _ _
set_option maxRecDepth 20000 in
theorem c_X5_howMany {G : Gx} {l : Launch} {σ : St} {o : (Int32 × St)} (hF : F_X5_howMany σ = some o) : Con G l yX5_howMany cX5_howMany 3 (some .int) 1 [.ref (ga G 1)] σ (some (.int o.1)) o.2 := by
  refine Con.of plX5 (Nat.le_of_ble_eq_true rfl) [(0, .ref (ga G 1))] rfl (fun X F R => ?_)
  refine (show Sim G X 3 o (F_X5_howMany σ) σ 0 [(0, .ref (ga G 1))] [] from ?_) hF
  unfold F_X5_howMany
  refine s_iconst F (nI 0) dX5_howMany_0 rfl ?_
  refine s_istore_n F [(1, .int (nI 0)), (0, .ref (ga G 1))] dX5_howMany_1 rfl (by decide) rfl ?_
  refine s_iconst F (nI 0) dX5_howMany_2 rfl ?_
  refine s_istore_n F [(2, .int (nI 0)), (1, .int (nI 0)), (0, .ref (ga G 1))] dX5_howMany_3 rfl (by decide) rfl ?_
  refine s_lv [(0, .ref (ga G 1)), (1, .int (nI 0)), (2, .int (nI 0))] [2, 1, 0] rfl ?_
  refine l_X5_howMany_4 F R (fun a1 σ => ?_) fuel _ _ _
  refine s_iload_n F 0 dX5_howMany_32 rfl rfl ?_
  exact s_iret R dX5_howMany_33
end
