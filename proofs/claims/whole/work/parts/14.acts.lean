noncomputable section
/-! X0_keep -/
def J_X0_keep_39 (s0 : Int32) (σ : St) : Option St := some (setF (setF σ 5 s0) 6 (if (nI 24) < (((setF σ 5 s0).2 6) + (nI 1)) then (nI 24) else (((setF σ 5 s0).2 6) + (nI 1))))
def F_X0_keep (σ : St) : Option St := if ix (σ.2 5) 24 then if (¬ (nI 0) < 0 ∧ ¬ (nI 0) < 0 ∧ ¬ (nI 80) < 0 ∧ (nI 0).toNatClampNeg + (nI 80).toNatClampNeg ≤ 80 ∧ (nI 0).toNatClampNeg + (nI 80).toNatClampNeg ≤ 80) then if (nI 24) ≤ (((cpyA σ 4 (nI 0).toNatClampNeg (46 + (σ.2 5).toNatClampNeg) (nI 0).toNatClampNeg (nI 80).toNatClampNeg).2 5) + (nI 1)) then (J_X0_keep_39 (nI 0) (cpyA σ 4 (nI 0).toNatClampNeg (46 + (σ.2 5).toNatClampNeg) (nI 0).toNatClampNeg (nI 80).toNatClampNeg)) else (J_X0_keep_39 (((cpyA σ 4 (nI 0).toNatClampNeg (46 + (σ.2 5).toNatClampNeg) (nI 0).toNatClampNeg (nI 80).toNatClampNeg).2 5) + (nI 1)) (cpyA σ 4 (nI 0).toNatClampNeg (46 + (σ.2 5).toNatClampNeg) (nI 0).toNatClampNeg (nI 80).toNatClampNeg)) else none else none
set_option maxRecDepth 20000 in
theorem j_X0_keep_39 {G : Gx} {X : Cx} (F : Fx G X cX0_keep 2 RX0 1) {o : St} (R : Ret G X cX0_keep 2 none none o) (s0 : Int32) (σ : St) : Sim G X 2 o (J_X0_keep_39 s0 σ) σ 39 [(0, .ref (ga G 15))] [.int s0, .ref (ga G 15)] := by
  unfold J_X0_keep_39
  refine fp_X0_16 F dX0_keep_39 ?_
  refine s_aload_n F 0 dX0_keep_42 rfl rfl ?_
  refine s_aload_n F 0 dX0_keep_43 rfl rfl ?_
  refine fg_X0_20 F dX0_keep_44 ?_
  refine s_iconst F (nI 1) dX0_keep_47 rfl ?_
  refine s_iadd F dX0_keep_48 ?_
  refine s_bipush F (nI 24) dX0_keep_49 rfl ?_
  refine s_min F dX0_keep_51 (by decide) (Nat.le_of_ble_eq_true rfl) wm_X0_29 ?_
  refine fp_X0_20 F dX0_keep_54 ?_
  exact s_vret R dX0_keep_57
set_option maxRecDepth 20000 in
theorem c_X0_keep {G : Gx} {l : Launch} {σ : St} {o : St} (hF : F_X0_keep σ = some o) : Con G l yX0_keep cX0_keep 2 none 1 [.ref (ga G 15), .ref (ga G 4)] σ none o := by
  refine Con.of plX0 (Nat.le_of_ble_eq_true rfl) [(0, .ref (ga G 15)), (1, .ref (ga G 4))] rfl (fun X F R => ?_)
  refine (show Sim G X 2 o (F_X0_keep σ) σ 0 [(0, .ref (ga G 15)), (1, .ref (ga G 4))] [] from ?_) hF
  unfold F_X0_keep
  refine s_aload_n F 1 dX0_keep_0 rfl rfl ?_
  refine s_iconst F (nI 0) dX0_keep_1 rfl ?_
  refine s_aload_n F 0 dX0_keep_2 rfl rfl ?_
  refine fg_X0_13 F dX0_keep_3 ?_
  refine s_aload_n F 0 dX0_keep_6 rfl rfl ?_
  refine fg_X0_16 F dX0_keep_7 ?_
  refine s_aald F (by decide) rfl dX0_keep_10 (fun q1 => ?_)
  refine s_iconst F (nI 0) dX0_keep_11 rfl ?_
  refine s_bipush F (nI 80) dX0_keep_12 rfl ?_
  refine s_copy F ar_4 (isArr.hi (by omega) (by have := ix_lt q1; omega)) dX0_keep_14 (by decide) (Nat.le_of_ble_eq_true rfl) wc_X0_23 (fun q2 => ?_)
  refine s_aload_n F 0 dX0_keep_17 rfl rfl ?_
  refine s_aload_n F 0 dX0_keep_18 rfl rfl ?_
  refine fg_X0_16 F dX0_keep_19 ?_
  refine s_iconst F (nI 1) dX0_keep_22 rfl ?_
  refine s_iadd F dX0_keep_23 ?_
  refine s_bipush F (nI 24) dX0_keep_24 rfl ?_
  refine s_icmp_ge F 38 dX0_keep_26 (by decide) (fun c3 => ?_) (fun c3 => ?_)
  · refine s_iconst F (nI 0) dX0_keep_38 rfl ?_
    refine s_lv [(0, .ref (ga G 15))] [0] rfl ?_
    exact j_X0_keep_39 F R _ _
  · refine s_aload_n F 0 dX0_keep_29 rfl rfl ?_
    refine fg_X0_16 F dX0_keep_30 ?_
    refine s_iconst F (nI 1) dX0_keep_33 rfl ?_
    refine s_iadd F dX0_keep_34 ?_
    refine s_goto F 39 dX0_keep_35 (by decide) ?_
    refine s_lv [(0, .ref (ga G 15))] [0] rfl ?_
    exact j_X0_keep_39 F R _ _
/-! X0_latest -/
def J_X0_latest_19 (s0 : Int32) (σ : St) : Option (Nat × St) := if ix ((setF (setF σ 5 s0) 6 (if (((setF σ 5 s0).2 6) - (nI 1)) < (nI 0) then (nI 0) else (((setF σ 5 s0).2 6) - (nI 1)))).2 5) 24 then some (46 + ((setF (setF σ 5 s0) 6 (if (((setF σ 5 s0).2 6) - (nI 1)) < (nI 0) then (nI 0) else (((setF σ 5 s0).2 6) - (nI 1)))).2 5).toNatClampNeg, setF (setF σ 5 s0) 6 (if (((setF σ 5 s0).2 6) - (nI 1)) < (nI 0) then (nI 0) else (((setF σ 5 s0).2 6) - (nI 1)))) else none
def F_X0_latest (σ : St) : Option (Nat × St) := if (σ.2 5) ≤ 0 then (J_X0_latest_19 (nI 23) σ) else (J_X0_latest_19 ((σ.2 5) - (nI 1)) σ)
set_option maxRecDepth 20000 in
theorem j_X0_latest_19 {G : Gx} {X : Cx} (F : Fx G X cX0_latest 1 RX0 1) {o : (Nat × St)} (R : Ret G X cX0_latest 1 (some (.array .int)) (some (.ref (ga G o.1))) o.2) (s0 : Int32) (σ : St) : Sim G X 1 o (J_X0_latest_19 s0 σ) σ 19 [(0, .ref (ga G 15))] [.int s0, .ref (ga G 15)] := by
  unfold J_X0_latest_19
  refine fp_X0_16 F dX0_latest_19 ?_
  refine s_aload_n F 0 dX0_latest_22 rfl rfl ?_
  refine s_aload_n F 0 dX0_latest_23 rfl rfl ?_
  refine fg_X0_20 F dX0_latest_24 ?_
  refine s_iconst F (nI 1) dX0_latest_27 rfl ?_
  refine s_isub F dX0_latest_28 ?_
  refine s_iconst F (nI 0) dX0_latest_29 rfl ?_
  refine s_max F dX0_latest_30 (by decide) (Nat.le_of_ble_eq_true rfl) wm_X0_35 ?_
  refine fp_X0_20 F dX0_latest_33 ?_
  refine s_aload_n F 0 dX0_latest_36 rfl rfl ?_
  refine fg_X0_13 F dX0_latest_37 ?_
  refine s_aload_n F 0 dX0_latest_40 rfl rfl ?_
  refine fg_X0_16 F dX0_latest_41 ?_
  refine s_aald F (by decide) rfl dX0_latest_44 (fun q1 => ?_)
  exact s_aret R (Or.inr ⟨_, rfl⟩) dX0_latest_45
set_option maxRecDepth 20000 in
theorem c_X0_latest {G : Gx} {l : Launch} {σ : St} {o : (Nat × St)} (hF : F_X0_latest σ = some o) : Con G l yX0_latest cX0_latest 1 (some (.array .int)) 1 [.ref (ga G 15)] σ (some (.ref (ga G o.1))) o.2 := by
  refine Con.of plX0 (Nat.le_of_ble_eq_true rfl) [(0, .ref (ga G 15))] rfl (fun X F R => ?_)
  refine (show Sim G X 1 o (F_X0_latest σ) σ 0 [(0, .ref (ga G 15))] [] from ?_) hF
  unfold F_X0_latest
  refine s_aload_n F 0 dX0_latest_0 rfl rfl ?_
  refine s_aload_n F 0 dX0_latest_1 rfl rfl ?_
  refine fg_X0_16 F dX0_latest_2 ?_
  refine s_if_le F 17 dX0_latest_5 (by decide) (fun c2 => ?_) (fun c2 => ?_)
  · refine s_bipush F (nI 23) dX0_latest_17 rfl ?_
    exact j_X0_latest_19 F R _ _
  · refine s_aload_n F 0 dX0_latest_8 rfl rfl ?_
    refine fg_X0_16 F dX0_latest_9 ?_
    refine s_iconst F (nI 1) dX0_latest_12 rfl ?_
    refine s_isub F dX0_latest_13 ?_
    refine s_goto F 19 dX0_latest_14 (by decide) ?_
    exact j_X0_latest_19 F R _ _
/-! X0_forget -/
def F_X0_forget (σ : St) : Option St := some (setF σ 6 (nI 0))
set_option maxRecDepth 20000 in
theorem c_X0_forget {G : Gx} {l : Launch} {σ : St} {o : St} (hF : F_X0_forget σ = some o) : Con G l yX0_forget cX0_forget 1 none 0 [.ref (ga G 15)] σ none o := by
  refine Con.of plX0 (Nat.le_of_ble_eq_true rfl) [(0, .ref (ga G 15))] rfl (fun X F R => ?_)
  refine (show Sim G X 1 o (F_X0_forget σ) σ 0 [(0, .ref (ga G 15))] [] from ?_) hF
  unfold F_X0_forget
  refine s_aload_n F 0 dX0_forget_0 rfl rfl ?_
  refine s_iconst F (nI 0) dX0_forget_1 rfl ?_
  refine fp_X0_20 F dX0_forget_2 ?_
  exact s_vret R dX0_forget_5
end
