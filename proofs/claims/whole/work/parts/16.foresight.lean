noncomputable section
/-! X2_begin -/
def F_X2_begin (σ : St) : Option St := (F_X4_take 12 10 σ).bind fun z1 => some z1
set_option maxRecDepth 20000 in
theorem c_X2_begin {G : Gx} {l : Launch} {σ : St} {o : St} (hF : F_X2_begin σ = some o) : Con G l yX2_begin cX2_begin 1 none 2 [.ref (ga G 16)] σ none o := by
  refine Con.of plX2 (Nat.le_of_ble_eq_true rfl) [(0, .ref (ga G 16))] rfl (fun X F R => ?_)
  refine (show Sim G X 1 o (F_X2_begin σ) σ 0 [(0, .ref (ga G 16))] [] from ?_) hF
  unfold F_X2_begin
  refine s_aload_n F 0 dX2_begin_0 rfl rfl ?_
  refine fg_X2_18 F dX2_begin_1 ?_
  refine s_aload_n F 0 dX2_begin_4 rfl rfl ?_
  refine fg_X2_12 F dX2_begin_5 ?_
  refine fg_X2_21 F nt_9 (c := 10) rfl dX2_begin_8 ?_
  refine s_Vv F [.ref (ga G 10)] dX2_begin_11 (fun z hz => c_X4_take nt_12 ar_10 hz) wV_X2_25 nk_X4_take (by decide) (by decide) (isNet.obj nt_12) vc_3 rfl rfl (Nat.le_of_ble_eq_true rfl) (fun z1 => ?_)
  exact s_vret R dX2_begin_14
/-! X2_firstOnTrial -/
def L_X2_firstOnTrial_2 (K : St → Option (Int32 × St)) : Nat → Int32 → Int32 → Int32 → St → Option (Int32 × St)
  | 0, _, _, _, _ => none
  | n + 1, a1, a2, a3, σ => if a2 < a3 then (K σ) else ((F_X4_isSilent 12 σ).bind fun z1 => if z1.1 = 0 then ((F_X4_passBreath 12 z1.2).bind fun z2 => if (z2.1 &&& a1) = 0 then (L_X2_firstOnTrial_2 K n a1 a2 (a3 + (nI 1)) z2.2) else (some (a3, z2.2))) else (some ((nI 0), z1.2)))
def F_X2_firstOnTrial (a1 : Int32) (a2 : Int32) (σ : St) : Option (Int32 × St) := L_X2_firstOnTrial_2 (fun σ => some ((nI 0), σ)) fuel a1 a2 (nI 1) σ
set_option maxRecDepth 20000 in
theorem l_X2_firstOnTrial_2 {G : Gx} {X : Cx} (F : Fx G X cX2_firstOnTrial 4 RX2 3) {o : (Int32 × St)} (R : Ret G X cX2_firstOnTrial 4 (some .int) (some (.int o.1)) o.2) {K : St → Option (Int32 × St)} (hK : ∀ (σ : St), Sim G X 4 o (K σ) σ 39 [] []) : ∀ (n : Nat) (a1 : Int32) (a2 : Int32) (a3 : Int32) (σ : St), Sim G X 4 o (L_X2_firstOnTrial_2 K n a1 a2 a3 σ) σ 2 [(0, .ref (ga G 16)), (1, .int a1), (2, .int a2), (3, .int a3)] [] := by
  intro n
  induction n with
  | zero =>
    intro a1 a2 a3 σ
    exact s_none
  | succ n ih =>
    intro a1 a2 a3 σ
    rw [L_X2_firstOnTrial_2.eq_2]
    refine s_iload_n F 3 dX2_firstOnTrial_2 rfl rfl ?_
    refine s_iload_n F 2 dX2_firstOnTrial_3 rfl rfl ?_
    refine s_icmp_gt F 39 dX2_firstOnTrial_4 (by decide) (fun c5 => ?_) (fun c5 => ?_)
    · refine s_lv [] [] rfl ?_
      exact hK _
    · refine s_aload_n F 0 dX2_firstOnTrial_7 rfl rfl ?_
      refine fg_X2_18 F dX2_firstOnTrial_8 ?_
      refine s_Vi F [] dX2_firstOnTrial_11 (fun z hz => c_X4_isSilent nt_12 hz) wV_X2_29 nk_X4_isSilent (by decide) (by decide) (isNet.obj nt_12) vc_3 rfl rfl (Nat.le_of_ble_eq_true rfl) (fun z1 => ?_)
      refine s_if_eq F 19 dX2_firstOnTrial_14 (by decide) (fun c4 => ?_) (fun c4 => ?_)
      · refine s_aload_n F 0 dX2_firstOnTrial_19 rfl rfl ?_
        refine fg_X2_18 F dX2_firstOnTrial_20 ?_
        refine s_Vi F [] dX2_firstOnTrial_23 (fun z hz => c_X4_passBreath nt_12 hz) wV_X2_33 nk_X4_passBreath (by decide) (by decide) (isNet.obj nt_12) vc_3 rfl rfl (Nat.le_of_ble_eq_true rfl) (fun z2 => ?_)
        refine s_iload_n F 1 dX2_firstOnTrial_26 rfl rfl ?_
        refine s_iand F dX2_firstOnTrial_27 ?_
        refine s_if_eq F 33 dX2_firstOnTrial_28 (by decide) (fun c3 => ?_) (fun c3 => ?_)
        · refine s_iinc F 3 [(3, .int (a3 + (nI 1))), (0, .ref (ga G 16)), (1, .int a1), (2, .int a2)] dX2_firstOnTrial_33 rfl rfl (by decide) rfl ?_
          refine s_goto F 2 dX2_firstOnTrial_36 (by decide) ?_
          refine s_lv [(0, .ref (ga G 16)), (1, .int a1), (2, .int a2), (3, .int (a3 + (nI 1)))] [1, 2, 3, 0] rfl ?_
          exact ih _ _ _ _
        · refine s_iload_n F 3 dX2_firstOnTrial_31 rfl rfl ?_
          exact s_iret R dX2_firstOnTrial_32
      · refine s_iconst F (nI 0) dX2_firstOnTrial_17 rfl ?_
        exact s_iret R dX2_firstOnTrial_18
set_option maxRecDepth 20000 in
theorem c_X2_firstOnTrial {G : Gx} {l : Launch} {a1 : Int32} {a2 : Int32} {σ : St} {o : (Int32 × St)} (hF : F_X2_firstOnTrial a1 a2 σ = some o) : Con G l yX2_firstOnTrial cX2_firstOnTrial 4 (some .int) 3 [.ref (ga G 16), .int a1, .int a2] σ (some (.int o.1)) o.2 := by
  refine Con.of plX2 (Nat.le_of_ble_eq_true rfl) [(0, .ref (ga G 16)), (1, .int a1), (2, .int a2)] rfl (fun X F R => ?_)
  refine (show Sim G X 4 o (F_X2_firstOnTrial a1 a2 σ) σ 0 [(0, .ref (ga G 16)), (1, .int a1), (2, .int a2)] [] from ?_) hF
  unfold F_X2_firstOnTrial
  refine s_iconst F (nI 1) dX2_firstOnTrial_0 rfl ?_
  refine s_istore_n F [(3, .int (nI 1)), (0, .ref (ga G 16)), (1, .int a1), (2, .int a2)] dX2_firstOnTrial_1 rfl (by decide) rfl ?_
  refine s_lv [(0, .ref (ga G 16)), (1, .int a1), (2, .int a2), (3, .int (nI 1))] [1, 2, 3, 0] rfl ?_
  refine l_X2_firstOnTrial_2 F R (fun σ => ?_) fuel _ _ _ _
  refine s_iconst F (nI 0) dX2_firstOnTrial_39 rfl ?_
  exact s_iret R dX2_firstOnTrial_40
/-! X2_soundHeard -/
def L_X2_soundHeard_6 (K : Int32 → St → Option (Int32 × St)) : Nat → Int32 → Int32 → Int32 → St → Option (Int32 × St)
  | 0, _, _, _, _ => none
  | n + 1, a1, a2, a3, σ => if a2 ≤ a3 then (K a1 σ) else ((F_X4_passBreath 12 σ).bind fun z2 => L_X2_soundHeard_6 K n a1 a2 (a3 + (nI 1)) z2.2)
def F_X2_soundHeard (a1 : Int32) (a2 : Int32) (σ : St) : Option (Int32 × St) := (F_X2_begin σ).bind fun z1 => L_X2_soundHeard_6 (fun a1 σ => if ix a1 6 then some (σ.1 14 a1.toNatClampNeg, σ) else none) fuel a1 a2 (nI 0) z1
set_option maxRecDepth 20000 in
theorem l_X2_soundHeard_6 {G : Gx} {X : Cx} (F : Fx G X cX2_soundHeard 4 RX2 3) {o : (Int32 × St)} (R : Ret G X cX2_soundHeard 4 (some .int) (some (.int o.1)) o.2) {K : Int32 → St → Option (Int32 × St)} (hK : ∀ (a1 : Int32) (σ : St), Sim G X 4 o (K a1 σ) σ 25 [(0, .ref (ga G 16)), (1, .int a1)] []) : ∀ (n : Nat) (a1 : Int32) (a2 : Int32) (a3 : Int32) (σ : St), Sim G X 4 o (L_X2_soundHeard_6 K n a1 a2 a3 σ) σ 6 [(0, .ref (ga G 16)), (1, .int a1), (2, .int a2), (3, .int a3)] [] := by
  intro n
  induction n with
  | zero =>
    intro a1 a2 a3 σ
    exact s_none
  | succ n ih =>
    intro a1 a2 a3 σ
    rw [L_X2_soundHeard_6.eq_2]
    refine s_iload_n F 3 dX2_soundHeard_6 rfl rfl ?_
    refine s_iload_n F 2 dX2_soundHeard_7 rfl rfl ?_
    refine s_icmp_ge F 25 dX2_soundHeard_8 (by decide) (fun c3 => ?_) (fun c3 => ?_)
    · refine s_lv [(0, .ref (ga G 16)), (1, .int a1)] [0, 1] rfl ?_
      exact hK _ _
    · refine s_aload_n F 0 dX2_soundHeard_11 rfl rfl ?_
      refine fg_X2_18 F dX2_soundHeard_12 ?_
      refine s_Vi F [] dX2_soundHeard_15 (fun z hz => c_X4_passBreath nt_12 hz) wV_X2_33 nk_X4_passBreath (by decide) (by decide) (isNet.obj nt_12) vc_3 rfl rfl (Nat.le_of_ble_eq_true rfl) (fun z2 => ?_)
      refine s_pop F dX2_soundHeard_18 rfl ?_
      refine s_iinc F 3 [(3, .int (a3 + (nI 1))), (0, .ref (ga G 16)), (1, .int a1), (2, .int a2)] dX2_soundHeard_19 rfl rfl (by decide) rfl ?_
      refine s_goto F 6 dX2_soundHeard_22 (by decide) ?_
      refine s_lv [(0, .ref (ga G 16)), (1, .int a1), (2, .int a2), (3, .int (a3 + (nI 1)))] [1, 2, 3, 0] rfl ?_
      exact ih _ _ _ _
set_option maxRecDepth 20000 in
theorem c_X2_soundHeard {G : Gx} {l : Launch} {a1 : Int32} {a2 : Int32} {σ : St} {o : (Int32 × St)} (hF : F_X2_soundHeard a1 a2 σ = some o) : Con G l yX2_soundHeard cX2_soundHeard 4 (some .int) 3 [.ref (ga G 16), .int a1, .int a2] σ (some (.int o.1)) o.2 := by
  refine Con.of plX2 (Nat.le_of_ble_eq_true rfl) [(0, .ref (ga G 16)), (1, .int a1), (2, .int a2)] rfl (fun X F R => ?_)
  refine (show Sim G X 4 o (F_X2_soundHeard a1 a2 σ) σ 0 [(0, .ref (ga G 16)), (1, .int a1), (2, .int a2)] [] from ?_) hF
  unfold F_X2_soundHeard
  refine s_aload_n F 0 dX2_soundHeard_0 rfl rfl ?_
  refine s_Vv F [] dX2_soundHeard_1 (fun z hz => c_X2_begin hz) wV_X2_37 nk_X2_begin (by decide) (by decide) ob_16 vc_2 rfl rfl (Nat.le_of_ble_eq_true rfl) (fun z1 => ?_)
  refine s_iconst F (nI 0) dX2_soundHeard_4 rfl ?_
  refine s_istore_n F [(3, .int (nI 0)), (0, .ref (ga G 16)), (1, .int a1), (2, .int a2)] dX2_soundHeard_5 rfl (by decide) rfl ?_
  refine s_lv [(0, .ref (ga G 16)), (1, .int a1), (2, .int a2), (3, .int (nI 0))] [1, 2, 3, 0] rfl ?_
  refine l_X2_soundHeard_6 F R (fun a1 σ => ?_) fuel _ _ _ _
  refine s_aload_n F 0 dX2_soundHeard_25 rfl rfl ?_
  refine fg_X2_18 F dX2_soundHeard_26 ?_
  refine fg_X2_40 F nt_12 (c := 14) rfl dX2_soundHeard_29 ?_
  refine s_iload_n F 1 dX2_soundHeard_32 rfl rfl ?_
  refine s_iald F ar_14 dX2_soundHeard_33 (fun q4 => ?_)
  exact s_iret R dX2_soundHeard_34
/-! X2_firstHearing -/
def F_X2_firstHearing (a1 : Int32) (a2 : Int32) (σ : St) : Option (Int32 × St) := (F_X2_begin σ).bind fun z1 => (F_X2_firstOnTrial ((nI 1) <<< (a1 &&& 31)) a2 z1).bind fun z2 => if z2.1 = 0 then (some ((-1000000 : Int32), z2.2)) else (some (z2.1, z2.2))
set_option maxRecDepth 20000 in
theorem c_X2_firstHearing {G : Gx} {l : Launch} {a1 : Int32} {a2 : Int32} {σ : St} {o : (Int32 × St)} (hF : F_X2_firstHearing a1 a2 σ = some o) : Con G l yX2_firstHearing cX2_firstHearing 4 (some .int) 4 [.ref (ga G 16), .int a1, .int a2] σ (some (.int o.1)) o.2 := by
  refine Con.of plX2 (Nat.le_of_ble_eq_true rfl) [(0, .ref (ga G 16)), (1, .int a1), (2, .int a2)] rfl (fun X F R => ?_)
  refine (show Sim G X 4 o (F_X2_firstHearing a1 a2 σ) σ 0 [(0, .ref (ga G 16)), (1, .int a1), (2, .int a2)] [] from ?_) hF
  unfold F_X2_firstHearing
  refine s_aload_n F 0 dX2_firstHearing_0 rfl rfl ?_
  refine s_Vv F [] dX2_firstHearing_1 (fun z hz => c_X2_begin hz) wV_X2_37 nk_X2_begin (by decide) (by decide) ob_16 vc_2 rfl rfl (Nat.le_of_ble_eq_true rfl) (fun z1 => ?_)
  refine s_aload_n F 0 dX2_firstHearing_4 rfl rfl ?_
  refine s_iconst F (nI 1) dX2_firstHearing_5 rfl ?_
  refine s_iload_n F 1 dX2_firstHearing_6 rfl rfl ?_
  refine s_ishl F dX2_firstHearing_7 ?_
  refine s_iload_n F 2 dX2_firstHearing_8 rfl rfl ?_
  refine s_Vi F [.int ((nI 1) <<< (a1 &&& 31)), .int a2] dX2_firstHearing_9 (fun z hz => c_X2_firstOnTrial hz) wV_X2_43 nk_X2_firstOnTrial (by decide) (by decide) ob_16 vc_2 rfl rfl (Nat.le_of_ble_eq_true rfl) (fun z2 => ?_)
  refine s_istore_n F [(3, .int z2.1), (0, .ref (ga G 16)), (1, .int a1), (2, .int a2)] dX2_firstHearing_12 rfl (by decide) rfl ?_
  refine s_iload_n F 0 dX2_firstHearing_13 rfl rfl ?_
  refine s_if_ne F 22 dX2_firstHearing_14 (by decide) (fun c3 => ?_) (fun c3 => ?_)
  · refine s_iload_n F 0 dX2_firstHearing_22 rfl rfl ?_
    exact s_iret R dX2_firstHearing_23
  · refine s_ldc F dX2_firstHearing_17 m_2_197 ?_
    refine s_goto F 23 dX2_firstHearing_19 (by decide) ?_
    exact s_iret R dX2_firstHearing_23
/-! X2_hornsThatHear -/
def L_X2_hornsThatHear_8 (K : Int32 → St → Option (Int32 × St)) : Nat → Int32 → Int32 → Int32 → St → Option (Int32 × St)
  | 0, _, _, _, _ => none
  | n + 1, a1, a2, a3, σ => if a1 ≤ a3 then (K a2 σ) else ((F_X4_passBreath 12 σ).bind fun z2 => L_X2_hornsThatHear_8 K n a1 (a2 ||| z2.1) (a3 + (nI 1)) z2.2)
def F_X2_hornsThatHear (a1 : Int32) (σ : St) : Option (Int32 × St) := (F_X2_begin σ).bind fun z1 => L_X2_hornsThatHear_8 (fun a2 σ => some (a2, σ)) fuel a1 (nI 0) (nI 0) z1
set_option maxRecDepth 20000 in
theorem l_X2_hornsThatHear_8 {G : Gx} {X : Cx} (F : Fx G X cX2_hornsThatHear 4 RX2 3) {o : (Int32 × St)} (R : Ret G X cX2_hornsThatHear 4 (some .int) (some (.int o.1)) o.2) {K : Int32 → St → Option (Int32 × St)} (hK : ∀ (a2 : Int32) (σ : St), Sim G X 4 o (K a2 σ) σ 29 [(2, .int a2)] []) : ∀ (n : Nat) (a1 : Int32) (a2 : Int32) (a3 : Int32) (σ : St), Sim G X 4 o (L_X2_hornsThatHear_8 K n a1 a2 a3 σ) σ 8 [(0, .ref (ga G 16)), (1, .int a1), (2, .int a2), (3, .int a3)] [] := by
  intro n
  induction n with
  | zero =>
    intro a1 a2 a3 σ
    exact s_none
  | succ n ih =>
    intro a1 a2 a3 σ
    rw [L_X2_hornsThatHear_8.eq_2]
    refine s_iload_n F 3 dX2_hornsThatHear_8 rfl rfl ?_
    refine s_iload_n F 1 dX2_hornsThatHear_9 rfl rfl ?_
    refine s_icmp_ge F 29 dX2_hornsThatHear_10 (by decide) (fun c3 => ?_) (fun c3 => ?_)
    · refine s_lv [(2, .int a2)] [2] rfl ?_
      exact hK _ _
    · refine s_iload_n F 2 dX2_hornsThatHear_13 rfl rfl ?_
      refine s_aload_n F 0 dX2_hornsThatHear_14 rfl rfl ?_
      refine fg_X2_18 F dX2_hornsThatHear_15 ?_
      refine s_Vi F [] dX2_hornsThatHear_18 (fun z hz => c_X4_passBreath nt_12 hz) wV_X2_33 nk_X4_passBreath (by decide) (by decide) (isNet.obj nt_12) vc_3 rfl rfl (Nat.le_of_ble_eq_true rfl) (fun z2 => ?_)
      refine s_ior F dX2_hornsThatHear_21 ?_
      refine s_istore_n F [(2, .int (a2 ||| z2.1)), (0, .ref (ga G 16)), (1, .int a1), (3, .int a3)] dX2_hornsThatHear_22 rfl (by decide) rfl ?_
      refine s_iinc F 3 [(3, .int (a3 + (nI 1))), (2, .int (a2 ||| z2.1)), (0, .ref (ga G 16)), (1, .int a1)] dX2_hornsThatHear_23 rfl rfl (by decide) rfl ?_
      refine s_goto F 8 dX2_hornsThatHear_26 (by decide) ?_
      refine s_lv [(0, .ref (ga G 16)), (1, .int a1), (2, .int (a2 ||| z2.1)), (3, .int (a3 + (nI 1)))] [2, 3, 1, 0] rfl ?_
      exact ih _ _ _ _
set_option maxRecDepth 20000 in
theorem c_X2_hornsThatHear {G : Gx} {l : Launch} {a1 : Int32} {σ : St} {o : (Int32 × St)} (hF : F_X2_hornsThatHear a1 σ = some o) : Con G l yX2_hornsThatHear cX2_hornsThatHear 4 (some .int) 3 [.ref (ga G 16), .int a1] σ (some (.int o.1)) o.2 := by
  refine Con.of plX2 (Nat.le_of_ble_eq_true rfl) [(0, .ref (ga G 16)), (1, .int a1)] rfl (fun X F R => ?_)
  refine (show Sim G X 4 o (F_X2_hornsThatHear a1 σ) σ 0 [(0, .ref (ga G 16)), (1, .int a1)] [] from ?_) hF
  unfold F_X2_hornsThatHear
  refine s_aload_n F 0 dX2_hornsThatHear_0 rfl rfl ?_
  refine s_Vv F [] dX2_hornsThatHear_1 (fun z hz => c_X2_begin hz) wV_X2_37 nk_X2_begin (by decide) (by decide) ob_16 vc_2 rfl rfl (Nat.le_of_ble_eq_true rfl) (fun z1 => ?_)
  refine s_iconst F (nI 0) dX2_hornsThatHear_4 rfl ?_
  refine s_istore_n F [(2, .int (nI 0)), (0, .ref (ga G 16)), (1, .int a1)] dX2_hornsThatHear_5 rfl (by decide) rfl ?_
  refine s_iconst F (nI 0) dX2_hornsThatHear_6 rfl ?_
  refine s_istore_n F [(3, .int (nI 0)), (2, .int (nI 0)), (0, .ref (ga G 16)), (1, .int a1)] dX2_hornsThatHear_7 rfl (by decide) rfl ?_
  refine s_lv [(0, .ref (ga G 16)), (1, .int a1), (2, .int (nI 0)), (3, .int (nI 0))] [2, 3, 1, 0] rfl ?_
  refine l_X2_hornsThatHear_8 F R (fun a2 σ => ?_) fuel _ _ _ _
  refine s_iload_n F 0 dX2_hornsThatHear_29 rfl rfl ?_
  exact s_iret R dX2_hornsThatHear_30
/-! X2_breathsToSilence -/
def L_X2_breathsToSilence_6 (K : Int32 → St → Option (Int32 × St)) : Nat → Int32 → Int32 → St → Option (Int32 × St)
  | 0, _, _, _ => none
  | n + 1, a1, a2, σ => if a1 ≤ a2 then (K a1 σ) else ((F_X4_isSilent 12 σ).bind fun z2 => if z2.1 = 0 then ((F_X4_passBreath 12 z2.2).bind fun z3 => L_X2_breathsToSilence_6 K n a1 (a2 + (nI 1)) z3.2) else (some (a2, z2.2)))
def F_X2_breathsToSilence (a1 : Int32) (σ : St) : Option (Int32 × St) := (F_X2_begin σ).bind fun z1 => L_X2_breathsToSilence_6 (fun a1 σ => (F_X4_isSilent 12 σ).bind fun z6 => if z6.1 = 0 then (some ((-1000000 : Int32), z6.2)) else (some (a1, z6.2))) fuel a1 (nI 0) z1
set_option maxRecDepth 20000 in
theorem l_X2_breathsToSilence_6 {G : Gx} {X : Cx} (F : Fx G X cX2_breathsToSilence 3 RX2 3) {o : (Int32 × St)} (R : Ret G X cX2_breathsToSilence 3 (some .int) (some (.int o.1)) o.2) {K : Int32 → St → Option (Int32 × St)} (hK : ∀ (a1 : Int32) (σ : St), Sim G X 3 o (K a1 σ) σ 37 [(0, .ref (ga G 16)), (1, .int a1)] []) : ∀ (n : Nat) (a1 : Int32) (a2 : Int32) (σ : St), Sim G X 3 o (L_X2_breathsToSilence_6 K n a1 a2 σ) σ 6 [(0, .ref (ga G 16)), (1, .int a1), (2, .int a2)] [] := by
  intro n
  induction n with
  | zero =>
    intro a1 a2 σ
    exact s_none
  | succ n ih =>
    intro a1 a2 σ
    rw [L_X2_breathsToSilence_6.eq_2]
    refine s_iload_n F 2 dX2_breathsToSilence_6 rfl rfl ?_
    refine s_iload_n F 1 dX2_breathsToSilence_7 rfl rfl ?_
    refine s_icmp_ge F 37 dX2_breathsToSilence_8 (by decide) (fun c5 => ?_) (fun c5 => ?_)
    · refine s_lv [(0, .ref (ga G 16)), (1, .int a1)] [0, 1] rfl ?_
      exact hK _ _
    · refine s_aload_n F 0 dX2_breathsToSilence_11 rfl rfl ?_
      refine fg_X2_18 F dX2_breathsToSilence_12 ?_
      refine s_Vi F [] dX2_breathsToSilence_15 (fun z hz => c_X4_isSilent nt_12 hz) wV_X2_29 nk_X4_isSilent (by decide) (by decide) (isNet.obj nt_12) vc_3 rfl rfl (Nat.le_of_ble_eq_true rfl) (fun z2 => ?_)
      refine s_if_eq F 23 dX2_breathsToSilence_18 (by decide) (fun c4 => ?_) (fun c4 => ?_)
      · refine s_aload_n F 0 dX2_breathsToSilence_23 rfl rfl ?_
        refine fg_X2_18 F dX2_breathsToSilence_24 ?_
        refine s_Vi F [] dX2_breathsToSilence_27 (fun z hz => c_X4_passBreath nt_12 hz) wV_X2_33 nk_X4_passBreath (by decide) (by decide) (isNet.obj nt_12) vc_3 rfl rfl (Nat.le_of_ble_eq_true rfl) (fun z3 => ?_)
        refine s_pop F dX2_breathsToSilence_30 rfl ?_
        refine s_iinc F 2 [(2, .int (a2 + (nI 1))), (0, .ref (ga G 16)), (1, .int a1)] dX2_breathsToSilence_31 rfl rfl (by decide) rfl ?_
        refine s_goto F 6 dX2_breathsToSilence_34 (by decide) ?_
        refine s_lv [(0, .ref (ga G 16)), (1, .int a1), (2, .int (a2 + (nI 1)))] [1, 2, 0] rfl ?_
        exact ih _ _ _
      · refine s_iload_n F 2 dX2_breathsToSilence_21 rfl rfl ?_
        exact s_iret R dX2_breathsToSilence_22
set_option maxRecDepth 20000 in
theorem c_X2_breathsToSilence {G : Gx} {l : Launch} {a1 : Int32} {σ : St} {o : (Int32 × St)} (hF : F_X2_breathsToSilence a1 σ = some o) : Con G l yX2_breathsToSilence cX2_breathsToSilence 3 (some .int) 3 [.ref (ga G 16), .int a1] σ (some (.int o.1)) o.2 := by
  refine Con.of plX2 (Nat.le_of_ble_eq_true rfl) [(0, .ref (ga G 16)), (1, .int a1)] rfl (fun X F R => ?_)
  refine (show Sim G X 3 o (F_X2_breathsToSilence a1 σ) σ 0 [(0, .ref (ga G 16)), (1, .int a1)] [] from ?_) hF
  unfold F_X2_breathsToSilence
  refine s_aload_n F 0 dX2_breathsToSilence_0 rfl rfl ?_
  refine s_Vv F [] dX2_breathsToSilence_1 (fun z hz => c_X2_begin hz) wV_X2_37 nk_X2_begin (by decide) (by decide) ob_16 vc_2 rfl rfl (Nat.le_of_ble_eq_true rfl) (fun z1 => ?_)
  refine s_iconst F (nI 0) dX2_breathsToSilence_4 rfl ?_
  refine s_istore_n F [(2, .int (nI 0)), (0, .ref (ga G 16)), (1, .int a1)] dX2_breathsToSilence_5 rfl (by decide) rfl ?_
  refine s_lv [(0, .ref (ga G 16)), (1, .int a1), (2, .int (nI 0))] [1, 2, 0] rfl ?_
  refine l_X2_breathsToSilence_6 F R (fun a1 σ => ?_) fuel _ _ _
  refine s_aload_n F 0 dX2_breathsToSilence_37 rfl rfl ?_
  refine fg_X2_18 F dX2_breathsToSilence_38 ?_
  refine s_Vi F [] dX2_breathsToSilence_41 (fun z hz => c_X4_isSilent nt_12 hz) wV_X2_29 nk_X4_isSilent (by decide) (by decide) (isNet.obj nt_12) vc_3 rfl rfl (Nat.le_of_ble_eq_true rfl) (fun z6 => ?_)
  refine s_if_eq F 51 dX2_breathsToSilence_44 (by decide) (fun c7 => ?_) (fun c7 => ?_)
  · refine s_ldc F dX2_breathsToSilence_51 m_2_197 ?_
    exact s_iret R dX2_breathsToSilence_53
  · refine s_iload_n F 1 dX2_breathsToSilence_47 rfl rfl ?_
    refine s_goto F 53 dX2_breathsToSilence_48 (by decide) ?_
    exact s_iret R dX2_breathsToSilence_53
/-! X2_hearsWhenTurned -/
def F_X2_hearsWhenTurned (a1 : Int32) (a2 : Int32) (a3 : Int32) (a4 : Int32) (σ : St) : Option (Int32 × St) := (F_X2_begin σ).bind fun z1 => if ix (nI 3) 80 then if ix (nI 3) 80 then (F_X4_letIn 12 a2 (nI 0) (nI 50) (setA z1 13 (nI 3).toNatClampNeg ((z1.1 13 (nI 3).toNatClampNeg) ^^^ a1))).bind fun z4 => (F_X2_firstOnTrial a3 a4 z4.2).bind fun z5 => if z5.1 ≤ 0 then (some ((nI 0), z5.2)) else (some ((nI 1), z5.2)) else none else none
set_option maxRecDepth 20000 in
theorem c_X2_hearsWhenTurned {G : Gx} {l : Launch} {a1 : Int32} {a2 : Int32} {a3 : Int32} {a4 : Int32} {σ : St} {o : (Int32 × St)} (hF : F_X2_hearsWhenTurned a1 a2 a3 a4 σ = some o) : Con G l yX2_hearsWhenTurned cX2_hearsWhenTurned 5 (some .boolean) 4 [.ref (ga G 16), .int a1, .int a2, .int a3, .int a4] σ (some (.int o.1)) o.2 := by
  refine Con.of plX2 (Nat.le_of_ble_eq_true rfl) [(0, .ref (ga G 16)), (1, .int a1), (2, .int a2), (3, .int a3), (4, .int a4)] rfl (fun X F R => ?_)
  refine (show Sim G X 5 o (F_X2_hearsWhenTurned a1 a2 a3 a4 σ) σ 0 [(0, .ref (ga G 16)), (1, .int a1), (2, .int a2), (3, .int a3), (4, .int a4)] [] from ?_) hF
  unfold F_X2_hearsWhenTurned
  refine s_aload_n F 0 dX2_hearsWhenTurned_0 rfl rfl ?_
  refine s_Vv F [] dX2_hearsWhenTurned_1 (fun z hz => c_X2_begin hz) wV_X2_37 nk_X2_begin (by decide) (by decide) ob_16 vc_2 rfl rfl (Nat.le_of_ble_eq_true rfl) (fun z1 => ?_)
  refine s_aload_n F 0 dX2_hearsWhenTurned_4 rfl rfl ?_
  refine fg_X2_18 F dX2_hearsWhenTurned_5 ?_
  refine fg_X2_21 F nt_12 (c := 13) rfl dX2_hearsWhenTurned_8 ?_
  refine s_iconst F (nI 3) dX2_hearsWhenTurned_11 rfl ?_
  refine s_dup2 F dX2_hearsWhenTurned_12 rfl rfl ?_
  refine s_iald F ar_13 dX2_hearsWhenTurned_13 (fun q2 => ?_)
  refine s_iload_n F 1 dX2_hearsWhenTurned_14 rfl rfl ?_
  refine s_ixor F dX2_hearsWhenTurned_15 ?_
  refine s_iast F ar_13 dX2_hearsWhenTurned_16 (fun q3 => ?_)
  refine s_aload_n F 0 dX2_hearsWhenTurned_17 rfl rfl ?_
  refine fg_X2_18 F dX2_hearsWhenTurned_18 ?_
  refine s_iload_n F 2 dX2_hearsWhenTurned_21 rfl rfl ?_
  refine s_iconst F (nI 0) dX2_hearsWhenTurned_22 rfl ?_
  refine s_bipush F (nI 50) dX2_hearsWhenTurned_23 rfl ?_
  refine s_Vi F [.int a2, .int (nI 0), .int (nI 50)] dX2_hearsWhenTurned_25 (fun z hz => c_X4_letIn nt_12 hz) wV_X2_58 nk_X4_letIn (by decide) (by decide) (isNet.obj nt_12) vc_3 rfl rfl (Nat.le_of_ble_eq_true rfl) (fun z4 => ?_)
  refine s_pop F dX2_hearsWhenTurned_28 rfl ?_
  refine s_aload_n F 0 dX2_hearsWhenTurned_29 rfl rfl ?_
  refine s_iload_n F 3 dX2_hearsWhenTurned_30 rfl rfl ?_
  refine s_iload F 4 dX2_hearsWhenTurned_31 rfl ?_
  refine s_Vi F [.int a3, .int a4] dX2_hearsWhenTurned_33 (fun z hz => c_X2_firstOnTrial hz) wV_X2_43 nk_X2_firstOnTrial (by decide) (by decide) ob_16 vc_2 rfl rfl (Nat.le_of_ble_eq_true rfl) (fun z5 => ?_)
  refine s_if_le F 43 dX2_hearsWhenTurned_36 (by decide) (fun c6 => ?_) (fun c6 => ?_)
  · refine s_iconst F (nI 0) dX2_hearsWhenTurned_43 rfl ?_
    exact s_zret R dX2_hearsWhenTurned_44 rfl
  · refine s_iconst F (nI 1) dX2_hearsWhenTurned_39 rfl ?_
    refine s_goto F 44 dX2_hearsWhenTurned_40 (by decide) ?_
    exact s_zret R dX2_hearsWhenTurned_44 rfl
/-! X2_fewestTurned -/
def J_X2_fewestTurned_40 (K7 : Int32 → Int32 → Int32 → Int32 → Int32 → Int32 → Int32 → St → Option (Int32 × St)) (a1 : Int32) (a2 : Int32) (a3 : Int32) (a4 : Int32) (a5 : Int32) (a6 : Int32) (a7 : Int32) (s0 : Int32) (σ : St) : Option (Int32 × St) := if s0 = 0 then (K7 a1 a2 a3 a4 a5 a6 (a7 + (nI 1)) σ) else (if (a7 &&& (a1 ^^^ (-1 : Int32))) = 0 then ((F_X2_hearsWhenTurned a7 a2 a3 a4 σ).bind fun z1 => if z1.1 = a5 then (K7 a1 a2 a3 a4 a5 a7 (a7 + (nI 1)) z1.2) else (K7 a1 a2 a3 a4 a5 a6 (a7 + (nI 1)) z1.2)) else (K7 a1 a2 a3 a4 a5 a6 (a7 + (nI 1)) σ))
def J_X2_fewestTurned_35 (K7 : Int32 → Int32 → Int32 → Int32 → Int32 → Int32 → Int32 → St → Option (Int32 × St)) (a1 : Int32) (a2 : Int32) (a3 : Int32) (a4 : Int32) (a5 : Int32) (a6 : Int32) (a7 : Int32) (σ : St) : Option (Int32 × St) := J_X2_fewestTurned_40 (fun a1 a2 a3 a4 a5 a6 a7 σ => K7 a1 a2 a3 a4 a5 a6 a7 σ) a1 a2 a3 a4 a5 a6 a7 (nI 1) σ
def L_X2_fewestTurned_7 (K : Int32 → St → Option (Int32 × St)) : Nat → Int32 → Int32 → Int32 → Int32 → Int32 → Int32 → Int32 → St → Option (Int32 × St)
  | 0, _, _, _, _, _, _, _, _ => none
  | n + 1, a1, a2, a3, a4, a5, a6, a7, σ => if (nI 128) ≤ a7 then (K a6 σ) else (if a6 = (-1000000 : Int32) then (J_X2_fewestTurned_35 (fun a1 a2 a3 a4 a5 a6 a7 σ => L_X2_fewestTurned_7 K n a1 a2 a3 a4 a5 a6 a7 σ) a1 a2 a3 a4 a5 a6 a7 σ) else ((F_J6_bitCount_0f7a4 a7 σ).bind fun z5 => (F_J6_bitCount_0f7a4 a6 z5.2).bind fun z6 => if z6.1 ≤ z5.1 then (J_X2_fewestTurned_40 (fun a1 a2 a3 a4 a5 a6 a7 σ => L_X2_fewestTurned_7 K n a1 a2 a3 a4 a5 a6 a7 σ) a1 a2 a3 a4 a5 a6 a7 (nI 0) z6.2) else (J_X2_fewestTurned_35 (fun a1 a2 a3 a4 a5 a6 a7 σ => L_X2_fewestTurned_7 K n a1 a2 a3 a4 a5 a6 a7 σ) a1 a2 a3 a4 a5 a6 a7 z6.2)))
def F_X2_fewestTurned (a1 : Int32) (a2 : Int32) (a3 : Int32) (a4 : Int32) (a5 : Int32) (σ : St) : Option (Int32 × St) := L_X2_fewestTurned_7 (fun a6 σ => some (a6, σ)) fuel a1 a2 a3 a4 a5 (-1000000 : Int32) (nI 0) σ
set_option maxRecDepth 20000 in
theorem j_X2_fewestTurned_40 {G : Gx} {X : Cx} (F : Fx G X cX2_fewestTurned 9 RX2 5) {o : (Int32 × St)} (R : Ret G X cX2_fewestTurned 9 (some .int) (some (.int o.1)) o.2) {K7 : Int32 → Int32 → Int32 → Int32 → Int32 → Int32 → Int32 → St → Option (Int32 × St)} (hK7 : ∀ (a1 : Int32) (a2 : Int32) (a3 : Int32) (a4 : Int32) (a5 : Int32) (a6 : Int32) (a7 : Int32) (σ : St), Sim G X 9 o (K7 a1 a2 a3 a4 a5 a6 a7 σ) σ 7 [(0, .ref (ga G 16)), (1, .int a1), (2, .int a2), (3, .int a3), (4, .int a4), (5, .int a5), (6, .int a6), (7, .int a7)] []) (a1 : Int32) (a2 : Int32) (a3 : Int32) (a4 : Int32) (a5 : Int32) (a6 : Int32) (a7 : Int32) (s0 : Int32) (σ : St) : Sim G X 9 o (J_X2_fewestTurned_40 K7 a1 a2 a3 a4 a5 a6 a7 s0 σ) σ 40 [(0, .ref (ga G 16)), (1, .int a1), (2, .int a2), (3, .int a3), (4, .int a4), (5, .int a5), (6, .int a6), (7, .int a7)] [.int s0] := by
  unfold J_X2_fewestTurned_40
  refine s_istore F [(8, .int s0), (0, .ref (ga G 16)), (1, .int a1), (2, .int a2), (3, .int a3), (4, .int a4), (5, .int a5), (6, .int a6), (7, .int a7)] dX2_fewestTurned_40 (by decide) rfl ?_
  refine s_iload F 0 dX2_fewestTurned_42 rfl ?_
  refine s_if_eq F 75 dX2_fewestTurned_44 (by decide) (fun c4 => ?_) (fun c4 => ?_)
  · refine s_iinc F 8 [(7, .int (a7 + (nI 1))), (8, .int s0), (0, .ref (ga G 16)), (1, .int a1), (2, .int a2), (3, .int a3), (4, .int a4), (5, .int a5), (6, .int a6)] dX2_fewestTurned_75 rfl rfl (by decide) rfl ?_
    refine s_goto F 7 dX2_fewestTurned_78 (by decide) ?_
    refine s_lv [(0, .ref (ga G 16)), (1, .int a1), (2, .int a2), (3, .int a3), (4, .int a4), (5, .int a5), (6, .int a6), (7, .int (a7 + (nI 1)))] [2, 3, 4, 5, 6, 7, 8, 0] rfl ?_
    exact hK7 _ _ _ _ _ _ _ _
  · refine s_iload F 8 dX2_fewestTurned_47 rfl ?_
    refine s_iload_n F 2 dX2_fewestTurned_49 rfl rfl ?_
    refine s_iconst F (-1 : Int32) dX2_fewestTurned_50 rfl ?_
    refine s_ixor F dX2_fewestTurned_51 ?_
    refine s_iand F dX2_fewestTurned_52 ?_
    refine s_if_ne F 75 dX2_fewestTurned_53 (by decide) (fun c3 => ?_) (fun c3 => ?_)
    · refine s_iinc F 8 [(7, .int (a7 + (nI 1))), (8, .int s0), (0, .ref (ga G 16)), (1, .int a1), (2, .int a2), (3, .int a3), (4, .int a4), (5, .int a5), (6, .int a6)] dX2_fewestTurned_75 rfl rfl (by decide) rfl ?_
      refine s_goto F 7 dX2_fewestTurned_78 (by decide) ?_
      refine s_lv [(0, .ref (ga G 16)), (1, .int a1), (2, .int a2), (3, .int a3), (4, .int a4), (5, .int a5), (6, .int a6), (7, .int (a7 + (nI 1)))] [2, 3, 4, 5, 6, 7, 8, 0] rfl ?_
      exact hK7 _ _ _ _ _ _ _ _
    · refine s_aload_n F 1 dX2_fewestTurned_56 rfl rfl ?_
      refine s_iload F 8 dX2_fewestTurned_57 rfl ?_
      refine s_iload_n F 3 dX2_fewestTurned_59 rfl rfl ?_
      refine s_iload_n F 4 dX2_fewestTurned_60 rfl rfl ?_
      refine s_iload F 5 dX2_fewestTurned_61 rfl ?_
      refine s_Vi F [.int a7, .int a2, .int a3, .int a4] dX2_fewestTurned_63 (fun z hz => c_X2_hearsWhenTurned hz) wV_X2_54 nk_X2_hearsWhenTurned (by decide) (by decide) ob_16 vc_2 rfl rfl (Nat.le_of_ble_eq_true rfl) (fun z1 => ?_)
      refine s_iload F 6 dX2_fewestTurned_66 rfl ?_
      refine s_icmp_ne F 75 dX2_fewestTurned_68 (by decide) (fun c2 => ?_) (fun c2 => ?_)
      · refine s_iinc F 8 [(7, .int (a7 + (nI 1))), (8, .int s0), (0, .ref (ga G 16)), (1, .int a1), (2, .int a2), (3, .int a3), (4, .int a4), (5, .int a5), (6, .int a6)] dX2_fewestTurned_75 rfl rfl (by decide) rfl ?_
        refine s_goto F 7 dX2_fewestTurned_78 (by decide) ?_
        refine s_lv [(0, .ref (ga G 16)), (1, .int a1), (2, .int a2), (3, .int a3), (4, .int a4), (5, .int a5), (6, .int a6), (7, .int (a7 + (nI 1)))] [2, 3, 4, 5, 6, 7, 8, 0] rfl ?_
        exact hK7 _ _ _ _ _ _ _ _
      · refine s_iload F 8 dX2_fewestTurned_71 rfl ?_
        refine s_istore F [(6, .int a7), (8, .int s0), (0, .ref (ga G 16)), (1, .int a1), (2, .int a2), (3, .int a3), (4, .int a4), (5, .int a5), (7, .int a7)] dX2_fewestTurned_73 (by decide) rfl ?_
        refine s_iinc F 8 [(7, .int (a7 + (nI 1))), (6, .int a7), (8, .int s0), (0, .ref (ga G 16)), (1, .int a1), (2, .int a2), (3, .int a3), (4, .int a4), (5, .int a5)] dX2_fewestTurned_75 rfl rfl (by decide) rfl ?_
        refine s_goto F 7 dX2_fewestTurned_78 (by decide) ?_
        refine s_lv [(0, .ref (ga G 16)), (1, .int a1), (2, .int a2), (3, .int a3), (4, .int a4), (5, .int a5), (6, .int a7), (7, .int (a7 + (nI 1)))] [3, 4, 5, 6, 7, 8, 1, 0] rfl ?_
        exact hK7 _ _ _ _ _ _ _ _
set_option maxRecDepth 20000 in
theorem j_X2_fewestTurned_35 {G : Gx} {X : Cx} (F : Fx G X cX2_fewestTurned 9 RX2 5) {o : (Int32 × St)} (R : Ret G X cX2_fewestTurned 9 (some .int) (some (.int o.1)) o.2) {K7 : Int32 → Int32 → Int32 → Int32 → Int32 → Int32 → Int32 → St → Option (Int32 × St)} (hK7 : ∀ (a1 : Int32) (a2 : Int32) (a3 : Int32) (a4 : Int32) (a5 : Int32) (a6 : Int32) (a7 : Int32) (σ : St), Sim G X 9 o (K7 a1 a2 a3 a4 a5 a6 a7 σ) σ 7 [(0, .ref (ga G 16)), (1, .int a1), (2, .int a2), (3, .int a3), (4, .int a4), (5, .int a5), (6, .int a6), (7, .int a7)] []) (a1 : Int32) (a2 : Int32) (a3 : Int32) (a4 : Int32) (a5 : Int32) (a6 : Int32) (a7 : Int32) (σ : St) : Sim G X 9 o (J_X2_fewestTurned_35 K7 a1 a2 a3 a4 a5 a6 a7 σ) σ 35 [(0, .ref (ga G 16)), (1, .int a1), (2, .int a2), (3, .int a3), (4, .int a4), (5, .int a5), (6, .int a6), (7, .int a7)] [] := by
  unfold J_X2_fewestTurned_35
  refine s_iconst F (nI 1) dX2_fewestTurned_35 rfl ?_
  refine s_goto F 40 dX2_fewestTurned_36 (by decide) ?_
  exact j_X2_fewestTurned_40 F R (by
        intro a1 a2 a3 a4 a5 a6 a7 σ
        exact hK7 _ _ _ _ _ _ _ _) _ _ _ _ _ _ _ _ _
set_option maxRecDepth 20000 in
theorem l_X2_fewestTurned_7 {G : Gx} {X : Cx} (F : Fx G X cX2_fewestTurned 9 RX2 5) {o : (Int32 × St)} (R : Ret G X cX2_fewestTurned 9 (some .int) (some (.int o.1)) o.2) {K : Int32 → St → Option (Int32 × St)} (hK : ∀ (a6 : Int32) (σ : St), Sim G X 9 o (K a6 σ) σ 81 [(6, .int a6)] []) : ∀ (n : Nat) (a1 : Int32) (a2 : Int32) (a3 : Int32) (a4 : Int32) (a5 : Int32) (a6 : Int32) (a7 : Int32) (σ : St), Sim G X 9 o (L_X2_fewestTurned_7 K n a1 a2 a3 a4 a5 a6 a7 σ) σ 7 [(0, .ref (ga G 16)), (1, .int a1), (2, .int a2), (3, .int a3), (4, .int a4), (5, .int a5), (6, .int a6), (7, .int a7)] [] := by
  intro n
  induction n with
  | zero =>
    intro a1 a2 a3 a4 a5 a6 a7 σ
    exact s_none
  | succ n ih =>
    intro a1 a2 a3 a4 a5 a6 a7 σ
    rw [L_X2_fewestTurned_7.eq_2]
    refine s_iload F 7 dX2_fewestTurned_7 rfl ?_
    refine s_sipush F (nI 128) dX2_fewestTurned_9 rfl ?_
    refine s_icmp_ge F 81 dX2_fewestTurned_12 (by decide) (fun c9 => ?_) (fun c9 => ?_)
    · refine s_lv [(6, .int a6)] [6] rfl ?_
      exact hK _ _
    · refine s_iload F 6 dX2_fewestTurned_15 rfl ?_
      refine s_ldc F dX2_fewestTurned_17 m_2_197 ?_
      refine s_icmp_eq F 35 dX2_fewestTurned_19 (by decide) (fun c8 => ?_) (fun c8 => ?_)
      · exact j_X2_fewestTurned_35 F R (by
              intro a1 a2 a3 a4 a5 a6 a7 σ
              exact ih _ _ _ _ _ _ _ _) _ _ _ _ _ _ _ _
      · refine s_iload F 7 dX2_fewestTurned_22 rfl ?_
        refine s_Si F [.int a7] dX2_fewestTurned_24 (fun z hz => c_J6_bitCount_0f7a4 hz) wS_X2_48 nk_J6_bitCount_0f7a4 (by decide) (by decide) rfl rfl (Nat.le_of_ble_eq_true rfl) (fun z5 => ?_)
        refine s_iload F 6 dX2_fewestTurned_27 rfl ?_
        refine s_Si F [.int a6] dX2_fewestTurned_29 (fun z hz => c_J6_bitCount_0f7a4 hz) wS_X2_48 nk_J6_bitCount_0f7a4 (by decide) (by decide) rfl rfl (Nat.le_of_ble_eq_true rfl) (fun z6 => ?_)
        refine s_icmp_ge F 39 dX2_fewestTurned_32 (by decide) (fun c7 => ?_) (fun c7 => ?_)
        · refine s_iconst F (nI 0) dX2_fewestTurned_39 rfl ?_
          exact j_X2_fewestTurned_40 F R (by
                intro a1 a2 a3 a4 a5 a6 a7 σ
                exact ih _ _ _ _ _ _ _ _) _ _ _ _ _ _ _ _ _
        · exact j_X2_fewestTurned_35 F R (by
                intro a1 a2 a3 a4 a5 a6 a7 σ
                exact ih _ _ _ _ _ _ _ _) _ _ _ _ _ _ _ _
set_option maxRecDepth 20000 in
theorem c_X2_fewestTurned {G : Gx} {l : Launch} {a1 : Int32} {a2 : Int32} {a3 : Int32} {a4 : Int32} {a5 : Int32} {σ : St} {o : (Int32 × St)} (hF : F_X2_fewestTurned a1 a2 a3 a4 a5 σ = some o) : Con G l yX2_fewestTurned cX2_fewestTurned 9 (some .int) 5 [.ref (ga G 16), .int a1, .int a2, .int a3, .int a4, .int a5] σ (some (.int o.1)) o.2 := by
  refine Con.of plX2 (Nat.le_of_ble_eq_true rfl) [(0, .ref (ga G 16)), (1, .int a1), (2, .int a2), (3, .int a3), (4, .int a4), (5, .int a5)] rfl (fun X F R => ?_)
  refine (show Sim G X 9 o (F_X2_fewestTurned a1 a2 a3 a4 a5 σ) σ 0 [(0, .ref (ga G 16)), (1, .int a1), (2, .int a2), (3, .int a3), (4, .int a4), (5, .int a5)] [] from ?_) hF
  unfold F_X2_fewestTurned
  refine s_ldc F dX2_fewestTurned_0 m_2_197 ?_
  refine s_istore F [(6, .int (-1000000 : Int32)), (0, .ref (ga G 16)), (1, .int a1), (2, .int a2), (3, .int a3), (4, .int a4), (5, .int a5)] dX2_fewestTurned_2 (by decide) rfl ?_
  refine s_iconst F (nI 0) dX2_fewestTurned_4 rfl ?_
  refine s_istore F [(7, .int (nI 0)), (6, .int (-1000000 : Int32)), (0, .ref (ga G 16)), (1, .int a1), (2, .int a2), (3, .int a3), (4, .int a4), (5, .int a5)] dX2_fewestTurned_5 (by decide) rfl ?_
  refine s_lv [(0, .ref (ga G 16)), (1, .int a1), (2, .int a2), (3, .int a3), (4, .int a4), (5, .int a5), (6, .int (-1000000 : Int32)), (7, .int (nI 0))] [2, 3, 4, 5, 6, 7, 1, 0] rfl ?_
  refine l_X2_fewestTurned_7 F R (fun a6 σ => ?_) fuel _ _ _ _ _ _ _ _
  refine s_iload F 0 dX2_fewestTurned_81 rfl ?_
  exact s_iret R dX2_fewestTurned_83
/-! X2_leastLoudness -/
def L_X2_leastLoudness_3 (K : St → Option (Int32 × St)) : Nat → Int32 → Int32 → Int32 → Int32 → St → Option (Int32 × St)
  | 0, _, _, _, _, _ => none
  | n + 1, a1, a2, a3, a4, σ => if (nI 99) < a4 then (K σ) else ((F_X2_begin σ).bind fun z1 => (F_X4_letIn 12 a1 (nI 0) a4 z1).bind fun z2 => (F_X2_firstOnTrial ((nI 1) <<< (a2 &&& 31)) a3 z2.2).bind fun z3 => if z3.1 ≤ 0 then (L_X2_leastLoudness_3 K n a1 a2 a3 (a4 + (nI 1)) z3.2) else (some (a4, z3.2)))
def F_X2_leastLoudness (a1 : Int32) (a2 : Int32) (a3 : Int32) (σ : St) : Option (Int32 × St) := L_X2_leastLoudness_3 (fun σ => some ((-1000000 : Int32), σ)) fuel a1 a2 a3 (nI 1) σ
set_option maxRecDepth 20000 in
theorem l_X2_leastLoudness_3 {G : Gx} {X : Cx} (F : Fx G X cX2_leastLoudness 5 RX2 4) {o : (Int32 × St)} (R : Ret G X cX2_leastLoudness 5 (some .int) (some (.int o.1)) o.2) {K : St → Option (Int32 × St)} (hK : ∀ (σ : St), Sim G X 5 o (K σ) σ 46 [] []) : ∀ (n : Nat) (a1 : Int32) (a2 : Int32) (a3 : Int32) (a4 : Int32) (σ : St), Sim G X 5 o (L_X2_leastLoudness_3 K n a1 a2 a3 a4 σ) σ 3 [(0, .ref (ga G 16)), (1, .int a1), (2, .int a2), (3, .int a3), (4, .int a4)] [] := by
  intro n
  induction n with
  | zero =>
    intro a1 a2 a3 a4 σ
    exact s_none
  | succ n ih =>
    intro a1 a2 a3 a4 σ
    rw [L_X2_leastLoudness_3.eq_2]
    refine s_iload F 4 dX2_leastLoudness_3 rfl ?_
    refine s_bipush F (nI 99) dX2_leastLoudness_5 rfl ?_
    refine s_icmp_gt F 46 dX2_leastLoudness_7 (by decide) (fun c5 => ?_) (fun c5 => ?_)
    · refine s_lv [] [] rfl ?_
      exact hK _
    · refine s_aload_n F 0 dX2_leastLoudness_10 rfl rfl ?_
      refine s_Vv F [] dX2_leastLoudness_11 (fun z hz => c_X2_begin hz) wV_X2_37 nk_X2_begin (by decide) (by decide) ob_16 vc_2 rfl rfl (Nat.le_of_ble_eq_true rfl) (fun z1 => ?_)
      refine s_aload_n F 0 dX2_leastLoudness_14 rfl rfl ?_
      refine fg_X2_18 F dX2_leastLoudness_15 ?_
      refine s_iload_n F 1 dX2_leastLoudness_18 rfl rfl ?_
      refine s_iconst F (nI 0) dX2_leastLoudness_19 rfl ?_
      refine s_iload F 4 dX2_leastLoudness_20 rfl ?_
      refine s_Vi F [.int a1, .int (nI 0), .int a4] dX2_leastLoudness_22 (fun z hz => c_X4_letIn nt_12 hz) wV_X2_58 nk_X4_letIn (by decide) (by decide) (isNet.obj nt_12) vc_3 rfl rfl (Nat.le_of_ble_eq_true rfl) (fun z2 => ?_)
      refine s_pop F dX2_leastLoudness_25 rfl ?_
      refine s_aload_n F 0 dX2_leastLoudness_26 rfl rfl ?_
      refine s_iconst F (nI 1) dX2_leastLoudness_27 rfl ?_
      refine s_iload_n F 2 dX2_leastLoudness_28 rfl rfl ?_
      refine s_ishl F dX2_leastLoudness_29 ?_
      refine s_iload_n F 3 dX2_leastLoudness_30 rfl rfl ?_
      refine s_Vi F [.int ((nI 1) <<< (a2 &&& 31)), .int a3] dX2_leastLoudness_31 (fun z hz => c_X2_firstOnTrial hz) wV_X2_43 nk_X2_firstOnTrial (by decide) (by decide) ob_16 vc_2 rfl rfl (Nat.le_of_ble_eq_true rfl) (fun z3 => ?_)
      refine s_if_le F 40 dX2_leastLoudness_34 (by decide) (fun c4 => ?_) (fun c4 => ?_)
      · refine s_iinc F 4 [(4, .int (a4 + (nI 1))), (0, .ref (ga G 16)), (1, .int a1), (2, .int a2), (3, .int a3)] dX2_leastLoudness_40 rfl rfl (by decide) rfl ?_
        refine s_goto F 3 dX2_leastLoudness_43 (by decide) ?_
        refine s_lv [(0, .ref (ga G 16)), (1, .int a1), (2, .int a2), (3, .int a3), (4, .int (a4 + (nI 1)))] [1, 2, 3, 4, 0] rfl ?_
        exact ih _ _ _ _ _
      · refine s_iload F 4 dX2_leastLoudness_37 rfl ?_
        exact s_iret R dX2_leastLoudness_39
set_option maxRecDepth 20000 in
theorem c_X2_leastLoudness {G : Gx} {l : Launch} {a1 : Int32} {a2 : Int32} {a3 : Int32} {σ : St} {o : (Int32 × St)} (hF : F_X2_leastLoudness a1 a2 a3 σ = some o) : Con G l yX2_leastLoudness cX2_leastLoudness 5 (some .int) 4 [.ref (ga G 16), .int a1, .int a2, .int a3] σ (some (.int o.1)) o.2 := by
  refine Con.of plX2 (Nat.le_of_ble_eq_true rfl) [(0, .ref (ga G 16)), (1, .int a1), (2, .int a2), (3, .int a3)] rfl (fun X F R => ?_)
  refine (show Sim G X 5 o (F_X2_leastLoudness a1 a2 a3 σ) σ 0 [(0, .ref (ga G 16)), (1, .int a1), (2, .int a2), (3, .int a3)] [] from ?_) hF
  unfold F_X2_leastLoudness
  refine s_iconst F (nI 1) dX2_leastLoudness_0 rfl ?_
  refine s_istore F [(4, .int (nI 1)), (0, .ref (ga G 16)), (1, .int a1), (2, .int a2), (3, .int a3)] dX2_leastLoudness_1 (by decide) rfl ?_
  refine s_lv [(0, .ref (ga G 16)), (1, .int a1), (2, .int a2), (3, .int a3), (4, .int (nI 1))] [1, 2, 3, 4, 0] rfl ?_
  refine l_X2_leastLoudness_3 F R (fun σ => ?_) fuel _ _ _ _ _
  refine s_ldc F dX2_leastLoudness_46 m_2_197 ?_
  exact s_iret R dX2_leastLoudness_48
/-! X2_wordHeard -/
def F_X2_wordHeard (a1 : Int32) (σ : St) : Option (Int32 × St) := if ix a1 6 then if (σ.1 14 a1.toNatClampNeg) = 0 then (some ((-1 : Int32), σ)) else ((F_X4_wordOf (σ.1 14 a1.toNatClampNeg) σ).bind fun z2 => some (z2.1, z2.2)) else none
set_option maxRecDepth 20000 in
theorem c_X2_wordHeard {G : Gx} {l : Launch} {a1 : Int32} {σ : St} {o : (Int32 × St)} (hF : F_X2_wordHeard a1 σ = some o) : Con G l yX2_wordHeard cX2_wordHeard 3 (some .int) 1 [.ref (ga G 16), .int a1] σ (some (.int o.1)) o.2 := by
  refine Con.of plX2 (Nat.le_of_ble_eq_true rfl) [(0, .ref (ga G 16)), (1, .int a1)] rfl (fun X F R => ?_)
  refine (show Sim G X 3 o (F_X2_wordHeard a1 σ) σ 0 [(0, .ref (ga G 16)), (1, .int a1)] [] from ?_) hF
  unfold F_X2_wordHeard
  refine s_aload_n F 0 dX2_wordHeard_0 rfl rfl ?_
  refine fg_X2_18 F dX2_wordHeard_1 ?_
  refine fg_X2_40 F nt_12 (c := 14) rfl dX2_wordHeard_4 ?_
  refine s_iload_n F 1 dX2_wordHeard_7 rfl rfl ?_
  refine s_iald F ar_14 dX2_wordHeard_8 (fun q1 => ?_)
  refine s_istore_n F [(2, .int (σ.1 14 a1.toNatClampNeg)), (0, .ref (ga G 16)), (1, .int a1)] dX2_wordHeard_9 rfl (by decide) rfl ?_
  refine s_iload_n F 0 dX2_wordHeard_10 rfl rfl ?_
  refine s_if_ne F 18 dX2_wordHeard_11 (by decide) (fun c3 => ?_) (fun c3 => ?_)
  · refine s_iload_n F 0 dX2_wordHeard_18 rfl rfl ?_
    refine s_Si F [.int (σ.1 14 a1.toNatClampNeg)] dX2_wordHeard_19 (fun z hz => c_X4_wordOf hz) wS_X2_69 nk_X4_wordOf (by decide) (by decide) rfl rfl (Nat.le_of_ble_eq_true rfl) (fun z2 => ?_)
    exact s_iret R dX2_wordHeard_22
  · refine s_iconst F (-1 : Int32) dX2_wordHeard_14 rfl ?_
    refine s_goto F 22 dX2_wordHeard_15 (by decide) ?_
    exact s_iret R dX2_wordHeard_22
/-! X2_hearsWord -/
def L_X2_hearsWord_3 (K : St → Option (Int32 × St)) : Nat → Int32 → Int32 → Int32 → Int32 → St → Option (Int32 × St)
  | 0, _, _, _, _, _ => none
  | n + 1, a1, a2, a3, a4, σ => if a3 ≤ a4 then (K σ) else ((F_X4_passBreath 12 σ).bind fun z1 => (F_X2_wordHeard a1 z1.2).bind fun z2 => if z2.1 = a2 then (some ((nI 1), z2.2)) else (L_X2_hearsWord_3 K n a1 a2 a3 (a4 + (nI 1)) z2.2))
def F_X2_hearsWord (a1 : Int32) (a2 : Int32) (a3 : Int32) (σ : St) : Option (Int32 × St) := L_X2_hearsWord_3 (fun σ => some ((nI 0), σ)) fuel a1 a2 a3 (nI 0) σ
set_option maxRecDepth 20000 in
theorem l_X2_hearsWord_3 {G : Gx} {X : Cx} (F : Fx G X cX2_hearsWord 5 RX2 3) {o : (Int32 × St)} (R : Ret G X cX2_hearsWord 5 (some .boolean) (some (.int o.1)) o.2) {K : St → Option (Int32 × St)} (hK : ∀ (σ : St), Sim G X 5 o (K σ) σ 34 [] []) : ∀ (n : Nat) (a1 : Int32) (a2 : Int32) (a3 : Int32) (a4 : Int32) (σ : St), Sim G X 5 o (L_X2_hearsWord_3 K n a1 a2 a3 a4 σ) σ 3 [(0, .ref (ga G 16)), (1, .int a1), (2, .int a2), (3, .int a3), (4, .int a4)] [] := by
  intro n
  induction n with
  | zero =>
    intro a1 a2 a3 a4 σ
    exact s_none
  | succ n ih =>
    intro a1 a2 a3 a4 σ
    rw [L_X2_hearsWord_3.eq_2]
    refine s_iload F 4 dX2_hearsWord_3 rfl ?_
    refine s_iload_n F 3 dX2_hearsWord_5 rfl rfl ?_
    refine s_icmp_ge F 34 dX2_hearsWord_6 (by decide) (fun c4 => ?_) (fun c4 => ?_)
    · refine s_lv [] [] rfl ?_
      exact hK _
    · refine s_aload_n F 0 dX2_hearsWord_9 rfl rfl ?_
      refine fg_X2_18 F dX2_hearsWord_10 ?_
      refine s_Vi F [] dX2_hearsWord_13 (fun z hz => c_X4_passBreath nt_12 hz) wV_X2_33 nk_X4_passBreath (by decide) (by decide) (isNet.obj nt_12) vc_3 rfl rfl (Nat.le_of_ble_eq_true rfl) (fun z1 => ?_)
      refine s_pop F dX2_hearsWord_16 rfl ?_
      refine s_aload_n F 0 dX2_hearsWord_17 rfl rfl ?_
      refine s_iload_n F 1 dX2_hearsWord_18 rfl rfl ?_
      refine s_Vi F [.int a1] dX2_hearsWord_19 (fun z hz => c_X2_wordHeard hz) wV_X2_66 nk_X2_wordHeard (by decide) (by decide) ob_16 vc_2 rfl rfl (Nat.le_of_ble_eq_true rfl) (fun z2 => ?_)
      refine s_iload_n F 2 dX2_hearsWord_22 rfl rfl ?_
      refine s_icmp_ne F 28 dX2_hearsWord_23 (by decide) (fun c3 => ?_) (fun c3 => ?_)
      · refine s_iinc F 4 [(4, .int (a4 + (nI 1))), (0, .ref (ga G 16)), (1, .int a1), (2, .int a2), (3, .int a3)] dX2_hearsWord_28 rfl rfl (by decide) rfl ?_
        refine s_goto F 3 dX2_hearsWord_31 (by decide) ?_
        refine s_lv [(0, .ref (ga G 16)), (1, .int a1), (2, .int a2), (3, .int a3), (4, .int (a4 + (nI 1)))] [1, 2, 3, 4, 0] rfl ?_
        exact ih _ _ _ _ _
      · refine s_iconst F (nI 1) dX2_hearsWord_26 rfl ?_
        exact s_zret R dX2_hearsWord_27 rfl
set_option maxRecDepth 20000 in
theorem c_X2_hearsWord {G : Gx} {l : Launch} {a1 : Int32} {a2 : Int32} {a3 : Int32} {σ : St} {o : (Int32 × St)} (hF : F_X2_hearsWord a1 a2 a3 σ = some o) : Con G l yX2_hearsWord cX2_hearsWord 5 (some .boolean) 3 [.ref (ga G 16), .int a1, .int a2, .int a3] σ (some (.int o.1)) o.2 := by
  refine Con.of plX2 (Nat.le_of_ble_eq_true rfl) [(0, .ref (ga G 16)), (1, .int a1), (2, .int a2), (3, .int a3)] rfl (fun X F R => ?_)
  refine (show Sim G X 5 o (F_X2_hearsWord a1 a2 a3 σ) σ 0 [(0, .ref (ga G 16)), (1, .int a1), (2, .int a2), (3, .int a3)] [] from ?_) hF
  unfold F_X2_hearsWord
  refine s_iconst F (nI 0) dX2_hearsWord_0 rfl ?_
  refine s_istore F [(4, .int (nI 0)), (0, .ref (ga G 16)), (1, .int a1), (2, .int a2), (3, .int a3)] dX2_hearsWord_1 (by decide) rfl ?_
  refine s_lv [(0, .ref (ga G 16)), (1, .int a1), (2, .int a2), (3, .int a3), (4, .int (nI 0))] [1, 2, 3, 4, 0] rfl ?_
  refine l_X2_hearsWord_3 F R (fun σ => ?_) fuel _ _ _ _ _
  refine s_iconst F (nI 0) dX2_hearsWord_34 rfl ?_
  exact s_zret R dX2_hearsWord_35 rfl
/-! X2_wordsToSay -/
def L_X2_wordsToSay_6 (K : Int32 → St → Option (Int32 × St)) : Nat → Int32 → Int32 → Int32 → Int32 → Int32 → Int32 → St → Option (Int32 × St)
  | 0, _, _, _, _, _, _, _ => none
  | n + 1, a1, a2, a3, a4, a5, a6, σ => if (nI 10) ≤ a6 then (K a5 σ) else ((F_X2_begin σ).bind fun z1 => (F_X4_letIn 12 a1 a6 (nI 60) z1).bind fun z2 => (F_X2_hearsWord a2 a3 a4 z2.2).bind fun z3 => if z3.1 = 0 then (L_X2_wordsToSay_6 K n a1 a2 a3 a4 a5 (a6 + (nI 1)) z3.2) else (L_X2_wordsToSay_6 K n a1 a2 a3 a4 (a5 ||| ((nI 1) <<< (a6 &&& 31))) (a6 + (nI 1)) z3.2))
def F_X2_wordsToSay (a1 : Int32) (a2 : Int32) (a3 : Int32) (a4 : Int32) (σ : St) : Option (Int32 × St) := L_X2_wordsToSay_6 (fun a5 σ => some (a5, σ)) fuel a1 a2 a3 a4 (nI 0) (nI 0) σ
set_option maxRecDepth 20000 in
theorem l_X2_wordsToSay_6 {G : Gx} {X : Cx} (F : Fx G X cX2_wordsToSay 7 RX2 4) {o : (Int32 × St)} (R : Ret G X cX2_wordsToSay 7 (some .int) (some (.int o.1)) o.2) {K : Int32 → St → Option (Int32 × St)} (hK : ∀ (a5 : Int32) (σ : St), Sim G X 7 o (K a5 σ) σ 56 [(5, .int a5)] []) : ∀ (n : Nat) (a1 : Int32) (a2 : Int32) (a3 : Int32) (a4 : Int32) (a5 : Int32) (a6 : Int32) (σ : St), Sim G X 7 o (L_X2_wordsToSay_6 K n a1 a2 a3 a4 a5 a6 σ) σ 6 [(0, .ref (ga G 16)), (1, .int a1), (2, .int a2), (3, .int a3), (4, .int a4), (5, .int a5), (6, .int a6)] [] := by
  intro n
  induction n with
  | zero =>
    intro a1 a2 a3 a4 a5 a6 σ
    exact s_none
  | succ n ih =>
    intro a1 a2 a3 a4 a5 a6 σ
    rw [L_X2_wordsToSay_6.eq_2]
    refine s_iload F 6 dX2_wordsToSay_6 rfl ?_
    refine s_bipush F (nI 10) dX2_wordsToSay_8 rfl ?_
    refine s_icmp_ge F 56 dX2_wordsToSay_10 (by decide) (fun c5 => ?_) (fun c5 => ?_)
    · refine s_lv [(5, .int a5)] [5] rfl ?_
      exact hK _ _
    · refine s_aload_n F 0 dX2_wordsToSay_13 rfl rfl ?_
      refine s_Vv F [] dX2_wordsToSay_14 (fun z hz => c_X2_begin hz) wV_X2_37 nk_X2_begin (by decide) (by decide) ob_16 vc_2 rfl rfl (Nat.le_of_ble_eq_true rfl) (fun z1 => ?_)
      refine s_aload_n F 0 dX2_wordsToSay_17 rfl rfl ?_
      refine fg_X2_18 F dX2_wordsToSay_18 ?_
      refine s_iload_n F 1 dX2_wordsToSay_21 rfl rfl ?_
      refine s_iload F 6 dX2_wordsToSay_22 rfl ?_
      refine s_bipush F (nI 60) dX2_wordsToSay_24 rfl ?_
      refine s_Vi F [.int a1, .int a6, .int (nI 60)] dX2_wordsToSay_26 (fun z hz => c_X4_letIn nt_12 hz) wV_X2_58 nk_X4_letIn (by decide) (by decide) (isNet.obj nt_12) vc_3 rfl rfl (Nat.le_of_ble_eq_true rfl) (fun z2 => ?_)
      refine s_pop F dX2_wordsToSay_29 rfl ?_
      refine s_aload_n F 0 dX2_wordsToSay_30 rfl rfl ?_
      refine s_iload_n F 2 dX2_wordsToSay_31 rfl rfl ?_
      refine s_iload_n F 3 dX2_wordsToSay_32 rfl rfl ?_
      refine s_iload F 4 dX2_wordsToSay_33 rfl ?_
      refine s_Vi F [.int a2, .int a3, .int a4] dX2_wordsToSay_35 (fun z hz => c_X2_hearsWord hz) wV_X2_62 nk_X2_hearsWord (by decide) (by decide) ob_16 vc_2 rfl rfl (Nat.le_of_ble_eq_true rfl) (fun z3 => ?_)
      refine s_if_eq F 50 dX2_wordsToSay_38 (by decide) (fun c4 => ?_) (fun c4 => ?_)
      · refine s_iinc F 6 [(6, .int (a6 + (nI 1))), (0, .ref (ga G 16)), (1, .int a1), (2, .int a2), (3, .int a3), (4, .int a4), (5, .int a5)] dX2_wordsToSay_50 rfl rfl (by decide) rfl ?_
        refine s_goto F 6 dX2_wordsToSay_53 (by decide) ?_
        refine s_lv [(0, .ref (ga G 16)), (1, .int a1), (2, .int a2), (3, .int a3), (4, .int a4), (5, .int a5), (6, .int (a6 + (nI 1)))] [1, 2, 3, 4, 5, 6, 0] rfl ?_
        exact ih _ _ _ _ _ _ _
      · refine s_iload F 5 dX2_wordsToSay_41 rfl ?_
        refine s_iconst F (nI 1) dX2_wordsToSay_43 rfl ?_
        refine s_iload F 6 dX2_wordsToSay_44 rfl ?_
        refine s_ishl F dX2_wordsToSay_46 ?_
        refine s_ior F dX2_wordsToSay_47 ?_
        refine s_istore F [(5, .int (a5 ||| ((nI 1) <<< (a6 &&& 31)))), (0, .ref (ga G 16)), (1, .int a1), (2, .int a2), (3, .int a3), (4, .int a4), (6, .int a6)] dX2_wordsToSay_48 (by decide) rfl ?_
        refine s_iinc F 6 [(6, .int (a6 + (nI 1))), (5, .int (a5 ||| ((nI 1) <<< (a6 &&& 31)))), (0, .ref (ga G 16)), (1, .int a1), (2, .int a2), (3, .int a3), (4, .int a4)] dX2_wordsToSay_50 rfl rfl (by decide) rfl ?_
        refine s_goto F 6 dX2_wordsToSay_53 (by decide) ?_
        refine s_lv [(0, .ref (ga G 16)), (1, .int a1), (2, .int a2), (3, .int a3), (4, .int a4), (5, .int (a5 ||| ((nI 1) <<< (a6 &&& 31)))), (6, .int (a6 + (nI 1)))] [2, 3, 4, 5, 6, 1, 0] rfl ?_
        exact ih _ _ _ _ _ _ _
set_option maxRecDepth 20000 in
theorem c_X2_wordsToSay {G : Gx} {l : Launch} {a1 : Int32} {a2 : Int32} {a3 : Int32} {a4 : Int32} {σ : St} {o : (Int32 × St)} (hF : F_X2_wordsToSay a1 a2 a3 a4 σ = some o) : Con G l yX2_wordsToSay cX2_wordsToSay 7 (some .int) 4 [.ref (ga G 16), .int a1, .int a2, .int a3, .int a4] σ (some (.int o.1)) o.2 := by
  refine Con.of plX2 (Nat.le_of_ble_eq_true rfl) [(0, .ref (ga G 16)), (1, .int a1), (2, .int a2), (3, .int a3), (4, .int a4)] rfl (fun X F R => ?_)
  refine (show Sim G X 7 o (F_X2_wordsToSay a1 a2 a3 a4 σ) σ 0 [(0, .ref (ga G 16)), (1, .int a1), (2, .int a2), (3, .int a3), (4, .int a4)] [] from ?_) hF
  unfold F_X2_wordsToSay
  refine s_iconst F (nI 0) dX2_wordsToSay_0 rfl ?_
  refine s_istore F [(5, .int (nI 0)), (0, .ref (ga G 16)), (1, .int a1), (2, .int a2), (3, .int a3), (4, .int a4)] dX2_wordsToSay_1 (by decide) rfl ?_
  refine s_iconst F (nI 0) dX2_wordsToSay_3 rfl ?_
  refine s_istore F [(6, .int (nI 0)), (5, .int (nI 0)), (0, .ref (ga G 16)), (1, .int a1), (2, .int a2), (3, .int a3), (4, .int a4)] dX2_wordsToSay_4 (by decide) rfl ?_
  refine s_lv [(0, .ref (ga G 16)), (1, .int a1), (2, .int a2), (3, .int a3), (4, .int a4), (5, .int (nI 0)), (6, .int (nI 0))] [2, 3, 4, 5, 6, 1, 0] rfl ?_
  refine l_X2_wordsToSay_6 F R (fun a5 σ => ?_) fuel _ _ _ _ _ _ _
  refine s_iload F 0 dX2_wordsToSay_56 rfl ?_
  exact s_iret R dX2_wordsToSay_58
/-! X2_breathsRound -/
def F_X2_breathsRound (a1 : Int32) (a2 : Int32) (σ : St) : Option (Int32 × St) := (F_X2_begin σ).bind fun z1 => (F_X4_silence 12 z1).bind fun z2 => (F_X4_letIn 12 a1 (nI 0) (nI 90) z2).bind fun z3 => (F_X2_firstOnTrial ((nI 1) <<< (a1 &&& 31)) a2 z3.2).bind fun z4 => if z4.1 = 0 then (some ((-1000000 : Int32), z4.2)) else (some (z4.1, z4.2))
set_option maxRecDepth 20000 in
theorem c_X2_breathsRound {G : Gx} {l : Launch} {a1 : Int32} {a2 : Int32} {σ : St} {o : (Int32 × St)} (hF : F_X2_breathsRound a1 a2 σ = some o) : Con G l yX2_breathsRound cX2_breathsRound 4 (some .int) 4 [.ref (ga G 16), .int a1, .int a2] σ (some (.int o.1)) o.2 := by
  refine Con.of plX2 (Nat.le_of_ble_eq_true rfl) [(0, .ref (ga G 16)), (1, .int a1), (2, .int a2)] rfl (fun X F R => ?_)
  refine (show Sim G X 4 o (F_X2_breathsRound a1 a2 σ) σ 0 [(0, .ref (ga G 16)), (1, .int a1), (2, .int a2)] [] from ?_) hF
  unfold F_X2_breathsRound
  refine s_aload_n F 0 dX2_breathsRound_0 rfl rfl ?_
  refine s_Vv F [] dX2_breathsRound_1 (fun z hz => c_X2_begin hz) wV_X2_37 nk_X2_begin (by decide) (by decide) ob_16 vc_2 rfl rfl (Nat.le_of_ble_eq_true rfl) (fun z1 => ?_)
  refine s_aload_n F 0 dX2_breathsRound_4 rfl rfl ?_
  refine fg_X2_18 F dX2_breathsRound_5 ?_
  refine s_Vv F [] dX2_breathsRound_8 (fun z hz => c_X4_silence nt_12 hz) wV_X2_72 nk_X4_silence (by decide) (by decide) (isNet.obj nt_12) vc_3 rfl rfl (Nat.le_of_ble_eq_true rfl) (fun z2 => ?_)
  refine s_aload_n F 0 dX2_breathsRound_11 rfl rfl ?_
  refine fg_X2_18 F dX2_breathsRound_12 ?_
  refine s_iload_n F 1 dX2_breathsRound_15 rfl rfl ?_
  refine s_iconst F (nI 0) dX2_breathsRound_16 rfl ?_
  refine s_bipush F (nI 90) dX2_breathsRound_17 rfl ?_
  refine s_Vi F [.int a1, .int (nI 0), .int (nI 90)] dX2_breathsRound_19 (fun z hz => c_X4_letIn nt_12 hz) wV_X2_58 nk_X4_letIn (by decide) (by decide) (isNet.obj nt_12) vc_3 rfl rfl (Nat.le_of_ble_eq_true rfl) (fun z3 => ?_)
  refine s_pop F dX2_breathsRound_22 rfl ?_
  refine s_aload_n F 0 dX2_breathsRound_23 rfl rfl ?_
  refine s_iconst F (nI 1) dX2_breathsRound_24 rfl ?_
  refine s_iload_n F 1 dX2_breathsRound_25 rfl rfl ?_
  refine s_ishl F dX2_breathsRound_26 ?_
  refine s_iload_n F 2 dX2_breathsRound_27 rfl rfl ?_
  refine s_Vi F [.int ((nI 1) <<< (a1 &&& 31)), .int a2] dX2_breathsRound_28 (fun z hz => c_X2_firstOnTrial hz) wV_X2_43 nk_X2_firstOnTrial (by decide) (by decide) ob_16 vc_2 rfl rfl (Nat.le_of_ble_eq_true rfl) (fun z4 => ?_)
  refine s_istore_n F [(3, .int z4.1), (0, .ref (ga G 16)), (1, .int a1), (2, .int a2)] dX2_breathsRound_31 rfl (by decide) rfl ?_
  refine s_iload_n F 0 dX2_breathsRound_32 rfl rfl ?_
  refine s_if_ne F 41 dX2_breathsRound_33 (by decide) (fun c5 => ?_) (fun c5 => ?_)
  · refine s_iload_n F 0 dX2_breathsRound_41 rfl rfl ?_
    exact s_iret R dX2_breathsRound_42
  · refine s_ldc F dX2_breathsRound_36 m_2_197 ?_
    refine s_goto F 42 dX2_breathsRound_38 (by decide) ?_
    exact s_iret R dX2_breathsRound_42
/-! X2_nextTo -/
def L_X2_nextTo_4 (K : Int32 → St → Option (Int32 × St)) : Nat → Int32 → Int32 → Int32 → St → Option (Int32 × St)
  | 0, _, _, _, _ => none
  | n + 1, a1, a2, a3, σ => if ix (nI 2) 80 then if (σ.1 10 (nI 2).toNatClampNeg) ≤ a3 then (K a2 σ) else ((F_X4_isOpen 9 a3 σ).bind fun z2 => if z2.1 = 0 then (L_X2_nextTo_4 K n a1 a2 (a3 + (nI 1)) z2.2) else (if ix ((nI 12) + a3) 80 then if ((a1 >>> ((z2.2.1 10 ((nI 12) + a3).toNatClampNeg) &&& 31)) &&& (nI 1)) = (nI 1) then (if ix ((nI 19) + a3) 80 then L_X2_nextTo_4 K n a1 (a2 ||| ((nI 1) <<< ((z2.2.1 10 ((nI 19) + a3).toNatClampNeg) &&& 31))) (a3 + (nI 1)) z2.2 else none) else (L_X2_nextTo_4 K n a1 a2 (a3 + (nI 1)) z2.2) else none)) else none
def F_X2_nextTo (a1 : Int32) (σ : St) : Option (Int32 × St) := L_X2_nextTo_4 (fun a2 σ => some (a2, σ)) fuel a1 (nI 0) (nI 0) σ
set_option maxRecDepth 20000 in
theorem l_X2_nextTo_4 {G : Gx} {X : Cx} (F : Fx G X cX2_nextTo 4 RX2 1) {o : (Int32 × St)} (R : Ret G X cX2_nextTo 4 (some .int) (some (.int o.1)) o.2) {K : Int32 → St → Option (Int32 × St)} (hK : ∀ (a2 : Int32) (σ : St), Sim G X 4 o (K a2 σ) σ 71 [(2, .int a2)] []) : ∀ (n : Nat) (a1 : Int32) (a2 : Int32) (a3 : Int32) (σ : St), Sim G X 4 o (L_X2_nextTo_4 K n a1 a2 a3 σ) σ 4 [(0, .ref (ga G 16)), (1, .int a1), (2, .int a2), (3, .int a3)] [] := by
  intro n
  induction n with
  | zero =>
    intro a1 a2 a3 σ
    exact s_none
  | succ n ih =>
    intro a1 a2 a3 σ
    rw [L_X2_nextTo_4.eq_2]
    refine s_iload_n F 3 dX2_nextTo_4 rfl rfl ?_
    refine s_aload_n F 0 dX2_nextTo_5 rfl rfl ?_
    refine fg_X2_12 F dX2_nextTo_6 ?_
    refine fg_X2_21 F nt_9 (c := 10) rfl dX2_nextTo_9 ?_
    refine s_iconst F (nI 2) dX2_nextTo_12 rfl ?_
    refine s_iald F ar_10 dX2_nextTo_13 (fun q1 => ?_)
    refine s_icmp_ge F 71 dX2_nextTo_14 (by decide) (fun c7 => ?_) (fun c7 => ?_)
    · refine s_lv [(2, .int a2)] [2] rfl ?_
      exact hK _ _
    · refine s_aload_n F 0 dX2_nextTo_17 rfl rfl ?_
      refine fg_X2_12 F dX2_nextTo_18 ?_
      refine s_iload_n F 3 dX2_nextTo_21 rfl rfl ?_
      refine s_Vi F [.int a3] dX2_nextTo_22 (fun z hz => c_X4_isOpen nt_9 hz) wV_X2_78 nk_X4_isOpen (by decide) (by decide) (isNet.obj nt_9) vc_3 rfl rfl (Nat.le_of_ble_eq_true rfl) (fun z2 => ?_)
      refine s_if_eq F 65 dX2_nextTo_25 (by decide) (fun c6 => ?_) (fun c6 => ?_)
      · refine s_iinc F 3 [(3, .int (a3 + (nI 1))), (0, .ref (ga G 16)), (1, .int a1), (2, .int a2)] dX2_nextTo_65 rfl rfl (by decide) rfl ?_
        refine s_goto F 4 dX2_nextTo_68 (by decide) ?_
        refine s_lv [(0, .ref (ga G 16)), (1, .int a1), (2, .int a2), (3, .int (a3 + (nI 1)))] [1, 2, 3, 0] rfl ?_
        exact ih _ _ _ _
      · refine s_iload_n F 1 dX2_nextTo_28 rfl rfl ?_
        refine s_aload_n F 0 dX2_nextTo_29 rfl rfl ?_
        refine fg_X2_12 F dX2_nextTo_30 ?_
        refine fg_X2_21 F nt_9 (c := 10) rfl dX2_nextTo_33 ?_
        refine s_bipush F (nI 12) dX2_nextTo_36 rfl ?_
        refine s_iload_n F 3 dX2_nextTo_38 rfl rfl ?_
        refine s_iadd F dX2_nextTo_39 ?_
        refine s_iald F ar_10 dX2_nextTo_40 (fun q3 => ?_)
        refine s_ishr F dX2_nextTo_41 ?_
        refine s_iconst F (nI 1) dX2_nextTo_42 rfl ?_
        refine s_iand F dX2_nextTo_43 ?_
        refine s_iconst F (nI 1) dX2_nextTo_44 rfl ?_
        refine s_icmp_ne F 65 dX2_nextTo_45 (by decide) (fun c5 => ?_) (fun c5 => ?_)
        · refine s_iinc F 3 [(3, .int (a3 + (nI 1))), (0, .ref (ga G 16)), (1, .int a1), (2, .int a2)] dX2_nextTo_65 rfl rfl (by decide) rfl ?_
          refine s_goto F 4 dX2_nextTo_68 (by decide) ?_
          refine s_lv [(0, .ref (ga G 16)), (1, .int a1), (2, .int a2), (3, .int (a3 + (nI 1)))] [1, 2, 3, 0] rfl ?_
          exact ih _ _ _ _
        · refine s_iload_n F 2 dX2_nextTo_48 rfl rfl ?_
          refine s_iconst F (nI 1) dX2_nextTo_49 rfl ?_
          refine s_aload_n F 0 dX2_nextTo_50 rfl rfl ?_
          refine fg_X2_12 F dX2_nextTo_51 ?_
          refine fg_X2_21 F nt_9 (c := 10) rfl dX2_nextTo_54 ?_
          refine s_bipush F (nI 19) dX2_nextTo_57 rfl ?_
          refine s_iload_n F 3 dX2_nextTo_59 rfl rfl ?_
          refine s_iadd F dX2_nextTo_60 ?_
          refine s_iald F ar_10 dX2_nextTo_61 (fun q4 => ?_)
          refine s_ishl F dX2_nextTo_62 ?_
          refine s_ior F dX2_nextTo_63 ?_
          refine s_istore_n F [(2, .int (a2 ||| ((nI 1) <<< ((z2.2.1 10 ((nI 19) + a3).toNatClampNeg) &&& 31)))), (0, .ref (ga G 16)), (1, .int a1), (3, .int a3)] dX2_nextTo_64 rfl (by decide) rfl ?_
          refine s_iinc F 3 [(3, .int (a3 + (nI 1))), (2, .int (a2 ||| ((nI 1) <<< ((z2.2.1 10 ((nI 19) + a3).toNatClampNeg) &&& 31)))), (0, .ref (ga G 16)), (1, .int a1)] dX2_nextTo_65 rfl rfl (by decide) rfl ?_
          refine s_goto F 4 dX2_nextTo_68 (by decide) ?_
          refine s_lv [(0, .ref (ga G 16)), (1, .int a1), (2, .int (a2 ||| ((nI 1) <<< ((z2.2.1 10 ((nI 19) + a3).toNatClampNeg) &&& 31)))), (3, .int (a3 + (nI 1)))] [2, 3, 1, 0] rfl ?_
          exact ih _ _ _ _
set_option maxRecDepth 20000 in
theorem c_X2_nextTo {G : Gx} {l : Launch} {a1 : Int32} {σ : St} {o : (Int32 × St)} (hF : F_X2_nextTo a1 σ = some o) : Con G l yX2_nextTo cX2_nextTo 4 (some .int) 1 [.ref (ga G 16), .int a1] σ (some (.int o.1)) o.2 := by
  refine Con.of plX2 (Nat.le_of_ble_eq_true rfl) [(0, .ref (ga G 16)), (1, .int a1)] rfl (fun X F R => ?_)
  refine (show Sim G X 4 o (F_X2_nextTo a1 σ) σ 0 [(0, .ref (ga G 16)), (1, .int a1)] [] from ?_) hF
  unfold F_X2_nextTo
  refine s_iconst F (nI 0) dX2_nextTo_0 rfl ?_
  refine s_istore_n F [(2, .int (nI 0)), (0, .ref (ga G 16)), (1, .int a1)] dX2_nextTo_1 rfl (by decide) rfl ?_
  refine s_iconst F (nI 0) dX2_nextTo_2 rfl ?_
  refine s_istore_n F [(3, .int (nI 0)), (2, .int (nI 0)), (0, .ref (ga G 16)), (1, .int a1)] dX2_nextTo_3 rfl (by decide) rfl ?_
  refine s_lv [(0, .ref (ga G 16)), (1, .int a1), (2, .int (nI 0)), (3, .int (nI 0))] [2, 3, 1, 0] rfl ?_
  refine l_X2_nextTo_4 F R (fun a2 σ => ?_) fuel _ _ _ _
  refine s_iload_n F 0 dX2_nextTo_71 rfl rfl ?_
  exact s_iret R dX2_nextTo_72
/-! X2_fewestPipes -/
def L_X2_fewestPipes_7 (K : St → Option (Int32 × St)) : Nat → Int32 → Int32 → Int32 → St → Option (Int32 × St)
  | 0, _, _, _, _ => none
  | n + 1, a2, a3, a4, σ => if (nI 6) ≤ a4 then (K σ) else (if ((a3 >>> (a2 &&& 31)) &&& (nI 1)) = (nI 1) then (some (a4, σ)) else ((F_X2_nextTo a3 σ).bind fun z1 => L_X2_fewestPipes_7 K n a2 (a3 ||| z1.1) (a4 + (nI 1)) z1.2))
def F_X2_fewestPipes (a1 : Int32) (a2 : Int32) (σ : St) : Option (Int32 × St) := L_X2_fewestPipes_7 (fun σ => some ((-1000000 : Int32), σ)) fuel a2 ((nI 1) <<< (a1 &&& 31)) (nI 0) σ
set_option maxRecDepth 20000 in
theorem l_X2_fewestPipes_7 {G : Gx} {X : Cx} (F : Fx G X cX2_fewestPipes 5 RX2 2) {o : (Int32 × St)} (R : Ret G X cX2_fewestPipes 5 (some .int) (some (.int o.1)) o.2) {K : St → Option (Int32 × St)} (hK : ∀ (σ : St), Sim G X 5 o (K σ) σ 40 [] []) : ∀ (n : Nat) (a2 : Int32) (a3 : Int32) (a4 : Int32) (σ : St), Sim G X 5 o (L_X2_fewestPipes_7 K n a2 a3 a4 σ) σ 7 [(0, .ref (ga G 16)), (2, .int a2), (3, .int a3), (4, .int a4)] [] := by
  intro n
  induction n with
  | zero =>
    intro a2 a3 a4 σ
    exact s_none
  | succ n ih =>
    intro a2 a3 a4 σ
    rw [L_X2_fewestPipes_7.eq_2]
    refine s_iload F 3 dX2_fewestPipes_7 rfl ?_
    refine s_bipush F (nI 6) dX2_fewestPipes_9 rfl ?_
    refine s_icmp_ge F 40 dX2_fewestPipes_11 (by decide) (fun c3 => ?_) (fun c3 => ?_)
    · refine s_lv [] [] rfl ?_
      exact hK _
    · refine s_iload_n F 2 dX2_fewestPipes_14 rfl rfl ?_
      refine s_iload_n F 1 dX2_fewestPipes_15 rfl rfl ?_
      refine s_ishr F dX2_fewestPipes_16 ?_
      refine s_iconst F (nI 1) dX2_fewestPipes_17 rfl ?_
      refine s_iand F dX2_fewestPipes_18 ?_
      refine s_iconst F (nI 1) dX2_fewestPipes_19 rfl ?_
      refine s_icmp_ne F 26 dX2_fewestPipes_20 (by decide) (fun c2 => ?_) (fun c2 => ?_)
      · refine s_iload_n F 2 dX2_fewestPipes_26 rfl rfl ?_
        refine s_aload_n F 0 dX2_fewestPipes_27 rfl rfl ?_
        refine s_iload_n F 2 dX2_fewestPipes_28 rfl rfl ?_
        refine s_Vi F [.int a3] dX2_fewestPipes_29 (fun z hz => c_X2_nextTo hz) wV_X2_75 nk_X2_nextTo (by decide) (by decide) ob_16 vc_2 rfl rfl (Nat.le_of_ble_eq_true rfl) (fun z1 => ?_)
        refine s_ior F dX2_fewestPipes_32 ?_
        refine s_istore_n F [(3, .int (a3 ||| z1.1)), (0, .ref (ga G 16)), (2, .int a2), (4, .int a4)] dX2_fewestPipes_33 rfl (by decide) rfl ?_
        refine s_iinc F 3 [(4, .int (a4 + (nI 1))), (3, .int (a3 ||| z1.1)), (0, .ref (ga G 16)), (2, .int a2)] dX2_fewestPipes_34 rfl rfl (by decide) rfl ?_
        refine s_goto F 7 dX2_fewestPipes_37 (by decide) ?_
        refine s_lv [(0, .ref (ga G 16)), (2, .int a2), (3, .int (a3 ||| z1.1)), (4, .int (a4 + (nI 1)))] [2, 3, 1, 0] rfl ?_
        exact ih _ _ _ _
      · refine s_iload F 3 dX2_fewestPipes_23 rfl ?_
        exact s_iret R dX2_fewestPipes_25
set_option maxRecDepth 20000 in
theorem c_X2_fewestPipes {G : Gx} {l : Launch} {a1 : Int32} {a2 : Int32} {σ : St} {o : (Int32 × St)} (hF : F_X2_fewestPipes a1 a2 σ = some o) : Con G l yX2_fewestPipes cX2_fewestPipes 5 (some .int) 2 [.ref (ga G 16), .int a1, .int a2] σ (some (.int o.1)) o.2 := by
  refine Con.of plX2 (Nat.le_of_ble_eq_true rfl) [(0, .ref (ga G 16)), (1, .int a1), (2, .int a2)] rfl (fun X F R => ?_)
  refine (show Sim G X 5 o (F_X2_fewestPipes a1 a2 σ) σ 0 [(0, .ref (ga G 16)), (1, .int a1), (2, .int a2)] [] from ?_) hF
  unfold F_X2_fewestPipes
  refine s_iconst F (nI 1) dX2_fewestPipes_0 rfl ?_
  refine s_iload_n F 1 dX2_fewestPipes_1 rfl rfl ?_
  refine s_ishl F dX2_fewestPipes_2 ?_
  refine s_istore_n F [(3, .int ((nI 1) <<< (a1 &&& 31))), (0, .ref (ga G 16)), (1, .int a1), (2, .int a2)] dX2_fewestPipes_3 rfl (by decide) rfl ?_
  refine s_iconst F (nI 0) dX2_fewestPipes_4 rfl ?_
  refine s_istore F [(4, .int (nI 0)), (3, .int ((nI 1) <<< (a1 &&& 31))), (0, .ref (ga G 16)), (1, .int a1), (2, .int a2)] dX2_fewestPipes_5 (by decide) rfl ?_
  refine s_lv [(0, .ref (ga G 16)), (2, .int a2), (3, .int ((nI 1) <<< (a1 &&& 31))), (4, .int (nI 0))] [2, 4, 1, 0] rfl ?_
  refine l_X2_fewestPipes_7 F R (fun σ => ?_) fuel _ _ _ _
  refine s_ldc F dX2_fewestPipes_40 m_2_197 ?_
  exact s_iret R dX2_fewestPipes_42
/-! X2_isHeardAsTold -/
def L_X2_isHeardAsTold_3 (k : Nat) (K : St → Option (Int32 × St)) : Nat → Int32 → Int32 → Int32 → Int32 → St → Option (Int32 × St)
  | 0, _, _, _, _, _ => none
  | n + 1, a1, a3, a4, a5, σ => if (a3 + a4) ≤ a5 then (K σ) else ((F_X4_passBreath 12 σ).bind fun z1 => if a5 < 0 then (some ((nI 0), z1.2)) else (if (nI 40) ≤ a5 then (some ((nI 0), z1.2)) else ((F_X2_wordHeard a1 z1.2).bind fun z2 => if ix a5 40 then if z2.1 = (z2.2.1 k a5.toNatClampNeg) then (L_X2_isHeardAsTold_3 k K n a1 a3 a4 (a5 + (nI 1)) z2.2) else (some ((nI 0), z2.2)) else none)))
def F_X2_isHeardAsTold (a1 : Int32) (k : Nat) (a3 : Int32) (a4 : Int32) (σ : St) : Option (Int32 × St) := L_X2_isHeardAsTold_3 k (fun σ => some ((nI 1), σ)) fuel a1 a3 a4 a3 σ
set_option maxRecDepth 20000 in
theorem l_X2_isHeardAsTold_3 {G : Gx} {X : Cx} (F : Fx G X cX2_isHeardAsTold 6 RX2 3) {o : (Int32 × St)} (R : Ret G X cX2_isHeardAsTold 6 (some .boolean) (some (.int o.1)) o.2) {k : Nat} (hk : isArr k 40) {K : St → Option (Int32 × St)} (hK : ∀ (σ : St), Sim G X 6 o (K σ) σ 52 [] []) : ∀ (n : Nat) (a1 : Int32) (a3 : Int32) (a4 : Int32) (a5 : Int32) (σ : St), Sim G X 6 o (L_X2_isHeardAsTold_3 k K n a1 a3 a4 a5 σ) σ 3 [(0, .ref (ga G 16)), (1, .int a1), (2, .ref (ga G k)), (3, .int a3), (4, .int a4), (5, .int a5)] [] := by
  intro n
  induction n with
  | zero =>
    intro a1 a3 a4 a5 σ
    exact s_none
  | succ n ih =>
    intro a1 a3 a4 a5 σ
    rw [L_X2_isHeardAsTold_3.eq_2]
    refine s_iload F 5 dX2_isHeardAsTold_3 rfl ?_
    refine s_iload_n F 3 dX2_isHeardAsTold_5 rfl rfl ?_
    refine s_iload F 4 dX2_isHeardAsTold_6 rfl ?_
    refine s_iadd F dX2_isHeardAsTold_8 ?_
    refine s_icmp_ge F 52 dX2_isHeardAsTold_9 (by decide) (fun c7 => ?_) (fun c7 => ?_)
    · refine s_lv [] [] rfl ?_
      exact hK _
    · refine s_aload_n F 0 dX2_isHeardAsTold_12 rfl rfl ?_
      refine fg_X2_18 F dX2_isHeardAsTold_13 ?_
      refine s_Vi F [] dX2_isHeardAsTold_16 (fun z hz => c_X4_passBreath nt_12 hz) wV_X2_33 nk_X4_passBreath (by decide) (by decide) (isNet.obj nt_12) vc_3 rfl rfl (Nat.le_of_ble_eq_true rfl) (fun z1 => ?_)
      refine s_pop F dX2_isHeardAsTold_19 rfl ?_
      refine s_iload F 5 dX2_isHeardAsTold_20 rfl ?_
      refine s_if_lt F 44 dX2_isHeardAsTold_22 (by decide) (fun c6 => ?_) (fun c6 => ?_)
      · refine s_iconst F (nI 0) dX2_isHeardAsTold_44 rfl ?_
        exact s_zret R dX2_isHeardAsTold_45 rfl
      · refine s_iload F 5 dX2_isHeardAsTold_25 rfl ?_
        refine s_aload_n F 2 dX2_isHeardAsTold_27 rfl rfl ?_
        refine s_alen F (nI 40) hk dX2_isHeardAsTold_28 rfl ?_
        refine s_icmp_ge F 44 dX2_isHeardAsTold_29 (by decide) (fun c5 => ?_) (fun c5 => ?_)
        · refine s_iconst F (nI 0) dX2_isHeardAsTold_44 rfl ?_
          exact s_zret R dX2_isHeardAsTold_45 rfl
        · refine s_aload_n F 0 dX2_isHeardAsTold_32 rfl rfl ?_
          refine s_iload_n F 1 dX2_isHeardAsTold_33 rfl rfl ?_
          refine s_Vi F [.int a1] dX2_isHeardAsTold_34 (fun z hz => c_X2_wordHeard hz) wV_X2_66 nk_X2_wordHeard (by decide) (by decide) ob_16 vc_2 rfl rfl (Nat.le_of_ble_eq_true rfl) (fun z2 => ?_)
          refine s_aload_n F 2 dX2_isHeardAsTold_37 rfl rfl ?_
          refine s_iload F 5 dX2_isHeardAsTold_38 rfl ?_
          refine s_iald F hk dX2_isHeardAsTold_40 (fun q3 => ?_)
          refine s_icmp_eq F 46 dX2_isHeardAsTold_41 (by decide) (fun c4 => ?_) (fun c4 => ?_)
          · refine s_iinc F 5 [(5, .int (a5 + (nI 1))), (0, .ref (ga G 16)), (1, .int a1), (2, .ref (ga G k)), (3, .int a3), (4, .int a4)] dX2_isHeardAsTold_46 rfl rfl (by decide) rfl ?_
            refine s_goto F 3 dX2_isHeardAsTold_49 (by decide) ?_
            refine s_lv [(0, .ref (ga G 16)), (1, .int a1), (2, .ref (ga G k)), (3, .int a3), (4, .int a4), (5, .int (a5 + (nI 1)))] [1, 2, 3, 4, 5, 0] rfl ?_
            exact ih _ _ _ _ _
          · refine s_iconst F (nI 0) dX2_isHeardAsTold_44 rfl ?_
            exact s_zret R dX2_isHeardAsTold_45 rfl
set_option maxRecDepth 20000 in
theorem c_X2_isHeardAsTold {G : Gx} {l : Launch} {a1 : Int32} {k : Nat} {a3 : Int32} {a4 : Int32} (hk : isArr k 40) {σ : St} {o : (Int32 × St)} (hF : F_X2_isHeardAsTold a1 k a3 a4 σ = some o) : Con G l yX2_isHeardAsTold cX2_isHeardAsTold 6 (some .boolean) 3 [.ref (ga G 16), .int a1, .ref (ga G k), .int a3, .int a4] σ (some (.int o.1)) o.2 := by
  refine Con.of plX2 (Nat.le_of_ble_eq_true rfl) [(0, .ref (ga G 16)), (1, .int a1), (2, .ref (ga G k)), (3, .int a3), (4, .int a4)] rfl (fun X F R => ?_)
  refine (show Sim G X 6 o (F_X2_isHeardAsTold a1 k a3 a4 σ) σ 0 [(0, .ref (ga G 16)), (1, .int a1), (2, .ref (ga G k)), (3, .int a3), (4, .int a4)] [] from ?_) hF
  unfold F_X2_isHeardAsTold
  refine s_iload_n F 3 dX2_isHeardAsTold_0 rfl rfl ?_
  refine s_istore F [(5, .int a3), (0, .ref (ga G 16)), (1, .int a1), (2, .ref (ga G k)), (3, .int a3), (4, .int a4)] dX2_isHeardAsTold_1 (by decide) rfl ?_
  refine s_lv [(0, .ref (ga G 16)), (1, .int a1), (2, .ref (ga G k)), (3, .int a3), (4, .int a4), (5, .int a3)] [1, 2, 3, 4, 5, 0] rfl ?_
  refine l_X2_isHeardAsTold_3 F R hk (fun σ => ?_) fuel _ _ _ _ _
  refine s_iconst F (nI 1) dX2_isHeardAsTold_52 rfl ?_
  exact s_zret R dX2_isHeardAsTold_53 rfl
/-! X2_suppose -/
def F_X2_suppose (a1 : Int32) (a2 : Int32) (a3 : Int32) (σ : St) : Option St := if a2 = 0 then (if ix ((nI 5) + a1) 80 then some (setA σ 13 ((nI 5) + a1).toNatClampNeg a3) else none) else (if a2 = (nI 1) then (if ix ((nI 33) + a1) 80 then some (setA σ 13 ((nI 33) + a1).toNatClampNeg a3) else none) else (if ix (nI 3) 80 then if ix (nI 3) 80 then some (setA σ 13 (nI 3).toNatClampNeg (((σ.1 13 (nI 3).toNatClampNeg) &&& (((nI 1) <<< (a1 &&& 31)) ^^^ (-1 : Int32))) ||| (a3 <<< (a1 &&& 31)))) else none else none))
set_option maxRecDepth 20000 in
theorem c_X2_suppose {G : Gx} {l : Launch} {a1 : Int32} {a2 : Int32} {a3 : Int32} {σ : St} {o : St} (hF : F_X2_suppose a1 a2 a3 σ = some o) : Con G l yX2_suppose cX2_suppose 4 none 0 [.ref (ga G 16), .int a1, .int a2, .int a3] σ none o := by
  refine Con.of plX2 (Nat.le_of_ble_eq_true rfl) [(0, .ref (ga G 16)), (1, .int a1), (2, .int a2), (3, .int a3)] rfl (fun X F R => ?_)
  refine (show Sim G X 4 o (F_X2_suppose a1 a2 a3 σ) σ 0 [(0, .ref (ga G 16)), (1, .int a1), (2, .int a2), (3, .int a3)] [] from ?_) hF
  unfold F_X2_suppose
  refine s_iload_n F 2 dX2_suppose_0 rfl rfl ?_
  refine s_if_ne F 19 dX2_suppose_1 (by decide) (fun c6 => ?_) (fun c6 => ?_)
  · refine s_iload_n F 2 dX2_suppose_19 rfl rfl ?_
    refine s_iconst F (nI 1) dX2_suppose_20 rfl ?_
    refine s_icmp_ne F 40 dX2_suppose_21 (by decide) (fun c4 => ?_) (fun c4 => ?_)
    · refine s_aload_n F 0 dX2_suppose_40 rfl rfl ?_
      refine fg_X2_18 F dX2_suppose_41 ?_
      refine fg_X2_21 F nt_12 (c := 13) rfl dX2_suppose_44 ?_
      refine s_iconst F (nI 3) dX2_suppose_47 rfl ?_
      refine s_aload_n F 0 dX2_suppose_48 rfl rfl ?_
      refine fg_X2_18 F dX2_suppose_49 ?_
      refine fg_X2_21 F nt_12 (c := 13) rfl dX2_suppose_52 ?_
      refine s_iconst F (nI 3) dX2_suppose_55 rfl ?_
      refine s_iald F ar_13 dX2_suppose_56 (fun q1 => ?_)
      refine s_iconst F (nI 1) dX2_suppose_57 rfl ?_
      refine s_iload_n F 1 dX2_suppose_58 rfl rfl ?_
      refine s_ishl F dX2_suppose_59 ?_
      refine s_iconst F (-1 : Int32) dX2_suppose_60 rfl ?_
      refine s_ixor F dX2_suppose_61 ?_
      refine s_iand F dX2_suppose_62 ?_
      refine s_iload_n F 3 dX2_suppose_63 rfl rfl ?_
      refine s_iload_n F 1 dX2_suppose_64 rfl rfl ?_
      refine s_ishl F dX2_suppose_65 ?_
      refine s_ior F dX2_suppose_66 ?_
      refine s_iast F ar_13 dX2_suppose_67 (fun q2 => ?_)
      exact s_vret R dX2_suppose_68
    · refine s_aload_n F 0 dX2_suppose_24 rfl rfl ?_
      refine fg_X2_18 F dX2_suppose_25 ?_
      refine fg_X2_21 F nt_12 (c := 13) rfl dX2_suppose_28 ?_
      refine s_bipush F (nI 33) dX2_suppose_31 rfl ?_
      refine s_iload_n F 1 dX2_suppose_33 rfl rfl ?_
      refine s_iadd F dX2_suppose_34 ?_
      refine s_iload_n F 3 dX2_suppose_35 rfl rfl ?_
      refine s_iast F ar_13 dX2_suppose_36 (fun q3 => ?_)
      refine s_goto F 68 dX2_suppose_37 (by decide) ?_
      exact s_vret R dX2_suppose_68
  · refine s_aload_n F 0 dX2_suppose_4 rfl rfl ?_
    refine fg_X2_18 F dX2_suppose_5 ?_
    refine fg_X2_21 F nt_12 (c := 13) rfl dX2_suppose_8 ?_
    refine s_iconst F (nI 5) dX2_suppose_11 rfl ?_
    refine s_iload_n F 1 dX2_suppose_12 rfl rfl ?_
    refine s_iadd F dX2_suppose_13 ?_
    refine s_iload_n F 3 dX2_suppose_14 rfl rfl ?_
    refine s_iast F ar_13 dX2_suppose_15 (fun q5 => ?_)
    refine s_goto F 68 dX2_suppose_16 (by decide) ?_
    exact s_vret R dX2_suppose_68
/-! X2_whatFits -/
def L_X2_whatFits_39 (k : Nat) (K : Int32 → St → Option (Int32 × St)) : Nat → Int32 → Int32 → Int32 → Int32 → Int32 → Int32 → Int32 → Int32 → St → Option (Int32 × St)
  | 0, _, _, _, _, _, _, _, _, _ => none
  | n + 1, a1, a2, a3, a5, a6, a8, a9, a10, σ => if a8 < a10 then (K a9 σ) else ((F_X2_begin σ).bind fun z1 => (F_X2_suppose a1 a2 a10 z1).bind fun z2 => (F_X2_isHeardAsTold a3 k a5 a6 z2).bind fun z3 => if z3.1 = 0 then (L_X2_whatFits_39 k K n a1 a2 a3 a5 a6 a8 a9 (a10 + (nI 1)) z3.2) else (L_X2_whatFits_39 k K n a1 a2 a3 a5 a6 a8 (a9 ||| ((nI 1) <<< (a10 &&& 31))) (a10 + (nI 1)) z3.2))
def J_X2_whatFits_9 (k : Nat) (a1 : Int32) (a2 : Int32) (a3 : Int32) (a5 : Int32) (a6 : Int32) (s0 : Int32) (σ : St) : Option (Int32 × St) := if a2 = 0 then (L_X2_whatFits_39 k (fun a9 σ => some (a9, σ)) fuel a1 a2 a3 a5 a6 (nI 5) (nI 0) s0 σ) else (if a2 = (nI 1) then (L_X2_whatFits_39 k (fun a9 σ => some (a9, σ)) fuel a1 a2 a3 a5 a6 (nI 9) (nI 0) s0 σ) else (L_X2_whatFits_39 k (fun a9 σ => some (a9, σ)) fuel a1 a2 a3 a5 a6 (nI 1) (nI 0) s0 σ))
def F_X2_whatFits (a1 : Int32) (a2 : Int32) (a3 : Int32) (k : Nat) (a5 : Int32) (a6 : Int32) (σ : St) : Option (Int32 × St) := if a2 = 0 then (J_X2_whatFits_9 k a1 a2 a3 a5 a6 (nI 1) σ) else (J_X2_whatFits_9 k a1 a2 a3 a5 a6 (nI 0) σ)
set_option maxRecDepth 20000 in
theorem l_X2_whatFits_39 {G : Gx} {X : Cx} (F : Fx G X cX2_whatFits 11 RX2 4) {o : (Int32 × St)} (R : Ret G X cX2_whatFits 11 (some .int) (some (.int o.1)) o.2) {k : Nat} (hk : isArr k 40) {K : Int32 → St → Option (Int32 × St)} (hK : ∀ (a9 : Int32) (σ : St), Sim G X 11 o (K a9 σ) σ 87 [(9, .int a9)] []) : ∀ (n : Nat) (a1 : Int32) (a2 : Int32) (a3 : Int32) (a5 : Int32) (a6 : Int32) (a8 : Int32) (a9 : Int32) (a10 : Int32) (σ : St), Sim G X 11 o (L_X2_whatFits_39 k K n a1 a2 a3 a5 a6 a8 a9 a10 σ) σ 39 [(0, .ref (ga G 16)), (1, .int a1), (2, .int a2), (3, .int a3), (4, .ref (ga G k)), (5, .int a5), (6, .int a6), (8, .int a8), (9, .int a9), (10, .int a10)] [] := by
  intro n
  induction n with
  | zero =>
    intro a1 a2 a3 a5 a6 a8 a9 a10 σ
    exact s_none
  | succ n ih =>
    intro a1 a2 a3 a5 a6 a8 a9 a10 σ
    rw [L_X2_whatFits_39.eq_2]
    refine s_iload F 9 dX2_whatFits_39 rfl ?_
    refine s_iload F 7 dX2_whatFits_41 rfl ?_
    refine s_icmp_gt F 87 dX2_whatFits_43 (by decide) (fun c5 => ?_) (fun c5 => ?_)
    · refine s_lv [(9, .int a9)] [8] rfl ?_
      exact hK _ _
    · refine s_aload_n F 0 dX2_whatFits_46 rfl rfl ?_
      refine s_Vv F [] dX2_whatFits_47 (fun z hz => c_X2_begin hz) wV_X2_37 nk_X2_begin (by decide) (by decide) ob_16 vc_2 rfl rfl (Nat.le_of_ble_eq_true rfl) (fun z1 => ?_)
      refine s_aload_n F 0 dX2_whatFits_50 rfl rfl ?_
      refine s_iload_n F 1 dX2_whatFits_51 rfl rfl ?_
      refine s_iload_n F 2 dX2_whatFits_52 rfl rfl ?_
      refine s_iload F 9 dX2_whatFits_53 rfl ?_
      refine s_Vv F [.int a1, .int a2, .int a10] dX2_whatFits_55 (fun z hz => c_X2_suppose hz) wV_X2_84 nk_X2_suppose (by decide) (by decide) ob_16 vc_2 rfl rfl (Nat.le_of_ble_eq_true rfl) (fun z2 => ?_)
      refine s_aload_n F 0 dX2_whatFits_58 rfl rfl ?_
      refine s_iload_n F 3 dX2_whatFits_59 rfl rfl ?_
      refine s_aload F 4 dX2_whatFits_60 rfl ?_
      refine s_iload F 5 dX2_whatFits_62 rfl ?_
      refine s_iload F 6 dX2_whatFits_64 rfl ?_
      refine s_Vi F [.int a3, .ref (ga G k), .int a5, .int a6] dX2_whatFits_66 (fun z hz => c_X2_isHeardAsTold hk hz) wV_X2_88 nk_X2_isHeardAsTold (by decide) (by decide) ob_16 vc_2 rfl rfl (Nat.le_of_ble_eq_true rfl) (fun z3 => ?_)
      refine s_if_eq F 81 dX2_whatFits_69 (by decide) (fun c4 => ?_) (fun c4 => ?_)
      · refine s_iinc F 9 [(10, .int (a10 + (nI 1))), (0, .ref (ga G 16)), (1, .int a1), (2, .int a2), (3, .int a3), (4, .ref (ga G k)), (5, .int a5), (6, .int a6), (8, .int a8), (9, .int a9)] dX2_whatFits_81 rfl rfl (by decide) rfl ?_
        refine s_goto F 39 dX2_whatFits_84 (by decide) ?_
        refine s_lv [(0, .ref (ga G 16)), (1, .int a1), (2, .int a2), (3, .int a3), (4, .ref (ga G k)), (5, .int a5), (6, .int a6), (8, .int a8), (9, .int a9), (10, .int (a10 + (nI 1)))] [1, 2, 3, 4, 5, 6, 7, 8, 9, 0] rfl ?_
        exact ih _ _ _ _ _ _ _ _ _
      · refine s_iload F 8 dX2_whatFits_72 rfl ?_
        refine s_iconst F (nI 1) dX2_whatFits_74 rfl ?_
        refine s_iload F 9 dX2_whatFits_75 rfl ?_
        refine s_ishl F dX2_whatFits_77 ?_
        refine s_ior F dX2_whatFits_78 ?_
        refine s_istore F [(9, .int (a9 ||| ((nI 1) <<< (a10 &&& 31)))), (0, .ref (ga G 16)), (1, .int a1), (2, .int a2), (3, .int a3), (4, .ref (ga G k)), (5, .int a5), (6, .int a6), (8, .int a8), (10, .int a10)] dX2_whatFits_79 (by decide) rfl ?_
        refine s_iinc F 9 [(10, .int (a10 + (nI 1))), (9, .int (a9 ||| ((nI 1) <<< (a10 &&& 31)))), (0, .ref (ga G 16)), (1, .int a1), (2, .int a2), (3, .int a3), (4, .ref (ga G k)), (5, .int a5), (6, .int a6), (8, .int a8)] dX2_whatFits_81 rfl rfl (by decide) rfl ?_
        refine s_goto F 39 dX2_whatFits_84 (by decide) ?_
        refine s_lv [(0, .ref (ga G 16)), (1, .int a1), (2, .int a2), (3, .int a3), (4, .ref (ga G k)), (5, .int a5), (6, .int a6), (8, .int a8), (9, .int (a9 ||| ((nI 1) <<< (a10 &&& 31)))), (10, .int (a10 + (nI 1)))] [2, 3, 4, 5, 6, 7, 8, 9, 1, 0] rfl ?_
        exact ih _ _ _ _ _ _ _ _ _
set_option maxRecDepth 20000 in
theorem j_X2_whatFits_9 {G : Gx} {X : Cx} (F : Fx G X cX2_whatFits 11 RX2 4) {o : (Int32 × St)} (R : Ret G X cX2_whatFits 11 (some .int) (some (.int o.1)) o.2) {k : Nat} (hk : isArr k 40) (a1 : Int32) (a2 : Int32) (a3 : Int32) (a5 : Int32) (a6 : Int32) (s0 : Int32) (σ : St) : Sim G X 11 o (J_X2_whatFits_9 k a1 a2 a3 a5 a6 s0 σ) σ 9 [(0, .ref (ga G 16)), (1, .int a1), (2, .int a2), (3, .int a3), (4, .ref (ga G k)), (5, .int a5), (6, .int a6)] [.int s0] := by
  unfold J_X2_whatFits_9
  refine s_istore F [(7, .int s0), (0, .ref (ga G 16)), (1, .int a1), (2, .int a2), (3, .int a3), (4, .ref (ga G k)), (5, .int a5), (6, .int a6)] dX2_whatFits_9 (by decide) rfl ?_
  refine s_iload_n F 3 dX2_whatFits_11 rfl rfl ?_
  refine s_if_ne F 19 dX2_whatFits_12 (by decide) (fun c7 => ?_) (fun c7 => ?_)
  · refine s_iload_n F 3 dX2_whatFits_19 rfl rfl ?_
    refine s_iconst F (nI 1) dX2_whatFits_20 rfl ?_
    refine s_icmp_ne F 29 dX2_whatFits_21 (by decide) (fun c6 => ?_) (fun c6 => ?_)
    · refine s_iconst F (nI 1) dX2_whatFits_29 rfl ?_
      refine s_istore F [(8, .int (nI 1)), (7, .int s0), (0, .ref (ga G 16)), (1, .int a1), (2, .int a2), (3, .int a3), (4, .ref (ga G k)), (5, .int a5), (6, .int a6)] dX2_whatFits_30 (by decide) rfl ?_
      refine s_iconst F (nI 0) dX2_whatFits_32 rfl ?_
      refine s_istore F [(9, .int (nI 0)), (8, .int (nI 1)), (7, .int s0), (0, .ref (ga G 16)), (1, .int a1), (2, .int a2), (3, .int a3), (4, .ref (ga G k)), (5, .int a5), (6, .int a6)] dX2_whatFits_33 (by decide) rfl ?_
      refine s_iload F 2 dX2_whatFits_35 rfl ?_
      refine s_istore F [(10, .int s0), (9, .int (nI 0)), (8, .int (nI 1)), (7, .int s0), (0, .ref (ga G 16)), (1, .int a1), (2, .int a2), (3, .int a3), (4, .ref (ga G k)), (5, .int a5), (6, .int a6)] dX2_whatFits_37 (by decide) rfl ?_
      refine s_lv [(0, .ref (ga G 16)), (1, .int a1), (2, .int a2), (3, .int a3), (4, .ref (ga G k)), (5, .int a5), (6, .int a6), (8, .int (nI 1)), (9, .int (nI 0)), (10, .int s0)] [4, 5, 6, 7, 8, 9, 10, 2, 1, 0] rfl ?_
      refine l_X2_whatFits_39 F R hk (fun a9 σ => ?_) fuel _ _ _ _ _ _ _ _ _
      refine s_iload F 0 dX2_whatFits_87 rfl ?_
      exact s_iret R dX2_whatFits_89
    · refine s_bipush F (nI 9) dX2_whatFits_24 rfl ?_
      refine s_goto F 30 dX2_whatFits_26 (by decide) ?_
      refine s_istore F [(8, .int (nI 9)), (7, .int s0), (0, .ref (ga G 16)), (1, .int a1), (2, .int a2), (3, .int a3), (4, .ref (ga G k)), (5, .int a5), (6, .int a6)] dX2_whatFits_30 (by decide) rfl ?_
      refine s_iconst F (nI 0) dX2_whatFits_32 rfl ?_
      refine s_istore F [(9, .int (nI 0)), (8, .int (nI 9)), (7, .int s0), (0, .ref (ga G 16)), (1, .int a1), (2, .int a2), (3, .int a3), (4, .ref (ga G k)), (5, .int a5), (6, .int a6)] dX2_whatFits_33 (by decide) rfl ?_
      refine s_iload F 2 dX2_whatFits_35 rfl ?_
      refine s_istore F [(10, .int s0), (9, .int (nI 0)), (8, .int (nI 9)), (7, .int s0), (0, .ref (ga G 16)), (1, .int a1), (2, .int a2), (3, .int a3), (4, .ref (ga G k)), (5, .int a5), (6, .int a6)] dX2_whatFits_37 (by decide) rfl ?_
      refine s_lv [(0, .ref (ga G 16)), (1, .int a1), (2, .int a2), (3, .int a3), (4, .ref (ga G k)), (5, .int a5), (6, .int a6), (8, .int (nI 9)), (9, .int (nI 0)), (10, .int s0)] [4, 5, 6, 7, 8, 9, 10, 2, 1, 0] rfl ?_
      refine l_X2_whatFits_39 F R hk (fun a9 σ => ?_) fuel _ _ _ _ _ _ _ _ _
      refine s_iload F 0 dX2_whatFits_87 rfl ?_
      exact s_iret R dX2_whatFits_89
  · refine s_iconst F (nI 5) dX2_whatFits_15 rfl ?_
    refine s_goto F 30 dX2_whatFits_16 (by decide) ?_
    refine s_istore F [(8, .int (nI 5)), (7, .int s0), (0, .ref (ga G 16)), (1, .int a1), (2, .int a2), (3, .int a3), (4, .ref (ga G k)), (5, .int a5), (6, .int a6)] dX2_whatFits_30 (by decide) rfl ?_
    refine s_iconst F (nI 0) dX2_whatFits_32 rfl ?_
    refine s_istore F [(9, .int (nI 0)), (8, .int (nI 5)), (7, .int s0), (0, .ref (ga G 16)), (1, .int a1), (2, .int a2), (3, .int a3), (4, .ref (ga G k)), (5, .int a5), (6, .int a6)] dX2_whatFits_33 (by decide) rfl ?_
    refine s_iload F 2 dX2_whatFits_35 rfl ?_
    refine s_istore F [(10, .int s0), (9, .int (nI 0)), (8, .int (nI 5)), (7, .int s0), (0, .ref (ga G 16)), (1, .int a1), (2, .int a2), (3, .int a3), (4, .ref (ga G k)), (5, .int a5), (6, .int a6)] dX2_whatFits_37 (by decide) rfl ?_
    refine s_lv [(0, .ref (ga G 16)), (1, .int a1), (2, .int a2), (3, .int a3), (4, .ref (ga G k)), (5, .int a5), (6, .int a6), (8, .int (nI 5)), (9, .int (nI 0)), (10, .int s0)] [4, 5, 6, 7, 8, 9, 10, 2, 1, 0] rfl ?_
    refine l_X2_whatFits_39 F R hk (fun a9 σ => ?_) fuel _ _ _ _ _ _ _ _ _
    refine s_iload F 0 dX2_whatFits_87 rfl ?_
    exact s_iret R dX2_whatFits_89
set_option maxRecDepth 20000 in
theorem c_X2_whatFits {G : Gx} {l : Launch} {a1 : Int32} {a2 : Int32} {a3 : Int32} {k : Nat} {a5 : Int32} {a6 : Int32} (hk : isArr k 40) {σ : St} {o : (Int32 × St)} (hF : F_X2_whatFits a1 a2 a3 k a5 a6 σ = some o) : Con G l yX2_whatFits cX2_whatFits 11 (some .int) 4 [.ref (ga G 16), .int a1, .int a2, .int a3, .ref (ga G k), .int a5, .int a6] σ (some (.int o.1)) o.2 := by
  refine Con.of plX2 (Nat.le_of_ble_eq_true rfl) [(0, .ref (ga G 16)), (1, .int a1), (2, .int a2), (3, .int a3), (4, .ref (ga G k)), (5, .int a5), (6, .int a6)] rfl (fun X F R => ?_)
  refine (show Sim G X 11 o (F_X2_whatFits a1 a2 a3 k a5 a6 σ) σ 0 [(0, .ref (ga G 16)), (1, .int a1), (2, .int a2), (3, .int a3), (4, .ref (ga G k)), (5, .int a5), (6, .int a6)] [] from ?_) hF
  unfold F_X2_whatFits
  refine s_iload_n F 2 dX2_whatFits_0 rfl rfl ?_
  refine s_if_ne F 8 dX2_whatFits_1 (by decide) (fun c8 => ?_) (fun c8 => ?_)
  · refine s_iconst F (nI 0) dX2_whatFits_8 rfl ?_
    exact j_X2_whatFits_9 F R hk _ _ _ _ _ _ _
  · refine s_iconst F (nI 1) dX2_whatFits_4 rfl ?_
    refine s_goto F 9 dX2_whatFits_5 (by decide) ?_
    exact j_X2_whatFits_9 F R hk _ _ _ _ _ _ _
/-! X2_hornsSpokenAt -/
def L_X2_hornsSpokenAt_28 (k : Nat) (K : Int32 → St → Option (Int32 × St)) : Nat → Int32 → Int32 → Int32 → Int32 → Int32 → Int32 → St → Option (Int32 × St)
  | 0, _, _, _, _, _, _, _ => none
  | n + 1, a1, a2, a4, a5, a6, a7, σ => if ix (nI 0) 80 then if (σ.1 10 (nI 0).toNatClampNeg) ≤ a7 then (K a6 σ) else ((F_X2_begin σ).bind fun z4 => (F_X4_letIn 12 a7 a2 (nI 60) z4).bind fun z5 => (F_X2_isHeardAsTold a1 k a4 a5 z5.2).bind fun z6 => if z6.1 = 0 then (L_X2_hornsSpokenAt_28 k K n a1 a2 a4 a5 a6 (a7 + (nI 1)) z6.2) else (L_X2_hornsSpokenAt_28 k K n a1 a2 a4 a5 (a6 ||| ((nI 1) <<< (a7 &&& 31))) (a7 + (nI 1)) z6.2)) else none
def F_X2_hornsSpokenAt (a1 : Int32) (a2 : Int32) (k : Nat) (a4 : Int32) (a5 : Int32) (σ : St) : Option (Int32 × St) := (F_X2_begin σ).bind fun z1 => (F_X2_isHeardAsTold a1 k a4 a5 z1).bind fun z2 => if z2.1 = 0 then (L_X2_hornsSpokenAt_28 k (fun a6 σ => some (a6, σ)) fuel a1 a2 a4 a5 (nI 0) (nI 0) z2.2) else (L_X2_hornsSpokenAt_28 k (fun a6 σ => some (a6, σ)) fuel a1 a2 a4 a5 (nI 64) (nI 0) z2.2)
set_option maxRecDepth 20000 in
theorem l_X2_hornsSpokenAt_28 {G : Gx} {X : Cx} (F : Fx G X cX2_hornsSpokenAt 8 RX2 4) {o : (Int32 × St)} (R : Ret G X cX2_hornsSpokenAt 8 (some .int) (some (.int o.1)) o.2) {k : Nat} (hk : isArr k 40) {K : Int32 → St → Option (Int32 × St)} (hK : ∀ (a6 : Int32) (σ : St), Sim G X 8 o (K a6 σ) σ 87 [(6, .int a6)] []) : ∀ (n : Nat) (a1 : Int32) (a2 : Int32) (a4 : Int32) (a5 : Int32) (a6 : Int32) (a7 : Int32) (σ : St), Sim G X 8 o (L_X2_hornsSpokenAt_28 k K n a1 a2 a4 a5 a6 a7 σ) σ 28 [(0, .ref (ga G 16)), (1, .int a1), (2, .int a2), (3, .ref (ga G k)), (4, .int a4), (5, .int a5), (6, .int a6), (7, .int a7)] [] := by
  intro n
  induction n with
  | zero =>
    intro a1 a2 a4 a5 a6 a7 σ
    exact s_none
  | succ n ih =>
    intro a1 a2 a4 a5 a6 a7 σ
    rw [L_X2_hornsSpokenAt_28.eq_2]
    refine s_iload F 7 dX2_hornsSpokenAt_28 rfl ?_
    refine s_aload_n F 0 dX2_hornsSpokenAt_30 rfl rfl ?_
    refine fg_X2_12 F dX2_hornsSpokenAt_31 ?_
    refine fg_X2_21 F nt_9 (c := 10) rfl dX2_hornsSpokenAt_34 ?_
    refine s_iconst F (nI 0) dX2_hornsSpokenAt_37 rfl ?_
    refine s_iald F ar_10 dX2_hornsSpokenAt_38 (fun q3 => ?_)
    refine s_icmp_ge F 87 dX2_hornsSpokenAt_39 (by decide) (fun c8 => ?_) (fun c8 => ?_)
    · refine s_lv [(6, .int a6)] [6] rfl ?_
      exact hK _ _
    · refine s_aload_n F 0 dX2_hornsSpokenAt_42 rfl rfl ?_
      refine s_Vv F [] dX2_hornsSpokenAt_43 (fun z hz => c_X2_begin hz) wV_X2_37 nk_X2_begin (by decide) (by decide) ob_16 vc_2 rfl rfl (Nat.le_of_ble_eq_true rfl) (fun z4 => ?_)
      refine s_aload_n F 0 dX2_hornsSpokenAt_46 rfl rfl ?_
      refine fg_X2_18 F dX2_hornsSpokenAt_47 ?_
      refine s_iload F 7 dX2_hornsSpokenAt_50 rfl ?_
      refine s_iload_n F 2 dX2_hornsSpokenAt_52 rfl rfl ?_
      refine s_bipush F (nI 60) dX2_hornsSpokenAt_53 rfl ?_
      refine s_Vi F [.int a7, .int a2, .int (nI 60)] dX2_hornsSpokenAt_55 (fun z hz => c_X4_letIn nt_12 hz) wV_X2_58 nk_X4_letIn (by decide) (by decide) (isNet.obj nt_12) vc_3 rfl rfl (Nat.le_of_ble_eq_true rfl) (fun z5 => ?_)
      refine s_pop F dX2_hornsSpokenAt_58 rfl ?_
      refine s_aload_n F 0 dX2_hornsSpokenAt_59 rfl rfl ?_
      refine s_iload_n F 1 dX2_hornsSpokenAt_60 rfl rfl ?_
      refine s_aload_n F 3 dX2_hornsSpokenAt_61 rfl rfl ?_
      refine s_iload F 4 dX2_hornsSpokenAt_62 rfl ?_
      refine s_iload F 5 dX2_hornsSpokenAt_64 rfl ?_
      refine s_Vi F [.int a1, .ref (ga G k), .int a4, .int a5] dX2_hornsSpokenAt_66 (fun z hz => c_X2_isHeardAsTold hk hz) wV_X2_88 nk_X2_isHeardAsTold (by decide) (by decide) ob_16 vc_2 rfl rfl (Nat.le_of_ble_eq_true rfl) (fun z6 => ?_)
      refine s_if_eq F 81 dX2_hornsSpokenAt_69 (by decide) (fun c7 => ?_) (fun c7 => ?_)
      · refine s_iinc F 7 [(7, .int (a7 + (nI 1))), (0, .ref (ga G 16)), (1, .int a1), (2, .int a2), (3, .ref (ga G k)), (4, .int a4), (5, .int a5), (6, .int a6)] dX2_hornsSpokenAt_81 rfl rfl (by decide) rfl ?_
        refine s_goto F 28 dX2_hornsSpokenAt_84 (by decide) ?_
        refine s_lv [(0, .ref (ga G 16)), (1, .int a1), (2, .int a2), (3, .ref (ga G k)), (4, .int a4), (5, .int a5), (6, .int a6), (7, .int (a7 + (nI 1)))] [1, 2, 3, 4, 5, 6, 7, 0] rfl ?_
        exact ih _ _ _ _ _ _ _
      · refine s_iload F 6 dX2_hornsSpokenAt_72 rfl ?_
        refine s_iconst F (nI 1) dX2_hornsSpokenAt_74 rfl ?_
        refine s_iload F 7 dX2_hornsSpokenAt_75 rfl ?_
        refine s_ishl F dX2_hornsSpokenAt_77 ?_
        refine s_ior F dX2_hornsSpokenAt_78 ?_
        refine s_istore F [(6, .int (a6 ||| ((nI 1) <<< (a7 &&& 31)))), (0, .ref (ga G 16)), (1, .int a1), (2, .int a2), (3, .ref (ga G k)), (4, .int a4), (5, .int a5), (7, .int a7)] dX2_hornsSpokenAt_79 (by decide) rfl ?_
        refine s_iinc F 7 [(7, .int (a7 + (nI 1))), (6, .int (a6 ||| ((nI 1) <<< (a7 &&& 31)))), (0, .ref (ga G 16)), (1, .int a1), (2, .int a2), (3, .ref (ga G k)), (4, .int a4), (5, .int a5)] dX2_hornsSpokenAt_81 rfl rfl (by decide) rfl ?_
        refine s_goto F 28 dX2_hornsSpokenAt_84 (by decide) ?_
        refine s_lv [(0, .ref (ga G 16)), (1, .int a1), (2, .int a2), (3, .ref (ga G k)), (4, .int a4), (5, .int a5), (6, .int (a6 ||| ((nI 1) <<< (a7 &&& 31)))), (7, .int (a7 + (nI 1)))] [2, 3, 4, 5, 6, 7, 1, 0] rfl ?_
        exact ih _ _ _ _ _ _ _
set_option maxRecDepth 20000 in
theorem c_X2_hornsSpokenAt {G : Gx} {l : Launch} {a1 : Int32} {a2 : Int32} {k : Nat} {a4 : Int32} {a5 : Int32} (hk : isArr k 40) {σ : St} {o : (Int32 × St)} (hF : F_X2_hornsSpokenAt a1 a2 k a4 a5 σ = some o) : Con G l yX2_hornsSpokenAt cX2_hornsSpokenAt 8 (some .int) 4 [.ref (ga G 16), .int a1, .int a2, .ref (ga G k), .int a4, .int a5] σ (some (.int o.1)) o.2 := by
  refine Con.of plX2 (Nat.le_of_ble_eq_true rfl) [(0, .ref (ga G 16)), (1, .int a1), (2, .int a2), (3, .ref (ga G k)), (4, .int a4), (5, .int a5)] rfl (fun X F R => ?_)
  refine (show Sim G X 8 o (F_X2_hornsSpokenAt a1 a2 k a4 a5 σ) σ 0 [(0, .ref (ga G 16)), (1, .int a1), (2, .int a2), (3, .ref (ga G k)), (4, .int a4), (5, .int a5)] [] from ?_) hF
  unfold F_X2_hornsSpokenAt
  refine s_aload_n F 0 dX2_hornsSpokenAt_0 rfl rfl ?_
  refine s_Vv F [] dX2_hornsSpokenAt_1 (fun z hz => c_X2_begin hz) wV_X2_37 nk_X2_begin (by decide) (by decide) ob_16 vc_2 rfl rfl (Nat.le_of_ble_eq_true rfl) (fun z1 => ?_)
  refine s_aload_n F 0 dX2_hornsSpokenAt_4 rfl rfl ?_
  refine s_iload_n F 1 dX2_hornsSpokenAt_5 rfl rfl ?_
  refine s_aload_n F 3 dX2_hornsSpokenAt_6 rfl rfl ?_
  refine s_iload F 4 dX2_hornsSpokenAt_7 rfl ?_
  refine s_iload F 5 dX2_hornsSpokenAt_9 rfl ?_
  refine s_Vi F [.int a1, .ref (ga G k), .int a4, .int a5] dX2_hornsSpokenAt_11 (fun z hz => c_X2_isHeardAsTold hk hz) wV_X2_88 nk_X2_isHeardAsTold (by decide) (by decide) ob_16 vc_2 rfl rfl (Nat.le_of_ble_eq_true rfl) (fun z2 => ?_)
  refine s_if_eq F 22 dX2_hornsSpokenAt_14 (by decide) (fun c9 => ?_) (fun c9 => ?_)
  · refine s_iconst F (nI 0) dX2_hornsSpokenAt_22 rfl ?_
    refine s_istore F [(6, .int (nI 0)), (0, .ref (ga G 16)), (1, .int a1), (2, .int a2), (3, .ref (ga G k)), (4, .int a4), (5, .int a5)] dX2_hornsSpokenAt_23 (by decide) rfl ?_
    refine s_iconst F (nI 0) dX2_hornsSpokenAt_25 rfl ?_
    refine s_istore F [(7, .int (nI 0)), (6, .int (nI 0)), (0, .ref (ga G 16)), (1, .int a1), (2, .int a2), (3, .ref (ga G k)), (4, .int a4), (5, .int a5)] dX2_hornsSpokenAt_26 (by decide) rfl ?_
    refine s_lv [(0, .ref (ga G 16)), (1, .int a1), (2, .int a2), (3, .ref (ga G k)), (4, .int a4), (5, .int a5), (6, .int (nI 0)), (7, .int (nI 0))] [2, 3, 4, 5, 6, 7, 1, 0] rfl ?_
    refine l_X2_hornsSpokenAt_28 F R hk (fun a6 σ => ?_) fuel _ _ _ _ _ _ _
    refine s_iload F 0 dX2_hornsSpokenAt_87 rfl ?_
    exact s_iret R dX2_hornsSpokenAt_89
  · refine s_bipush F (nI 64) dX2_hornsSpokenAt_17 rfl ?_
    refine s_goto F 23 dX2_hornsSpokenAt_19 (by decide) ?_
    refine s_istore F [(6, .int (nI 64)), (0, .ref (ga G 16)), (1, .int a1), (2, .int a2), (3, .ref (ga G k)), (4, .int a4), (5, .int a5)] dX2_hornsSpokenAt_23 (by decide) rfl ?_
    refine s_iconst F (nI 0) dX2_hornsSpokenAt_25 rfl ?_
    refine s_istore F [(7, .int (nI 0)), (6, .int (nI 64)), (0, .ref (ga G 16)), (1, .int a1), (2, .int a2), (3, .ref (ga G k)), (4, .int a4), (5, .int a5)] dX2_hornsSpokenAt_26 (by decide) rfl ?_
    refine s_lv [(0, .ref (ga G 16)), (1, .int a1), (2, .int a2), (3, .ref (ga G k)), (4, .int a4), (5, .int a5), (6, .int (nI 64)), (7, .int (nI 0))] [2, 3, 4, 5, 6, 7, 1, 0] rfl ?_
    refine l_X2_hornsSpokenAt_28 F R hk (fun a6 σ => ?_) fuel _ _ _ _ _ _ _
    refine s_iload F 0 dX2_hornsSpokenAt_87 rfl ?_
    exact s_iret R dX2_hornsSpokenAt_89
/-! X2_emptyPipes -/
def L_X2_emptyPipes_4 (K : Int32 → St → Option (Int32 × St)) : Nat → Int32 → Int32 → St → Option (Int32 × St)
  | 0, _, _, _ => none
  | n + 1, a1, a2, σ => if ix (nI 2) 80 then if (σ.1 13 (nI 2).toNatClampNeg) ≤ a2 then (K a1 σ) else ((F_X4_soundsIn 12 a2 σ).bind fun z2 => if z2.1 = 0 then (L_X2_emptyPipes_4 K n (a1 ||| ((nI 1) <<< (a2 &&& 31))) (a2 + (nI 1)) z2.2) else (L_X2_emptyPipes_4 K n a1 (a2 + (nI 1)) z2.2)) else none
def F_X2_emptyPipes (σ : St) : Option (Int32 × St) := L_X2_emptyPipes_4 (fun a1 σ => some (a1, σ)) fuel (nI 0) (nI 0) σ
set_option maxRecDepth 20000 in
theorem l_X2_emptyPipes_4 {G : Gx} {X : Cx} (F : Fx G X cX2_emptyPipes 3 RX2 1) {o : (Int32 × St)} (R : Ret G X cX2_emptyPipes 3 (some .int) (some (.int o.1)) o.2) {K : Int32 → St → Option (Int32 × St)} (hK : ∀ (a1 : Int32) (σ : St), Sim G X 3 o (K a1 σ) σ 40 [(1, .int a1)] []) : ∀ (n : Nat) (a1 : Int32) (a2 : Int32) (σ : St), Sim G X 3 o (L_X2_emptyPipes_4 K n a1 a2 σ) σ 4 [(0, .ref (ga G 16)), (1, .int a1), (2, .int a2)] [] := by
  intro n
  induction n with
  | zero =>
    intro a1 a2 σ
    exact s_none
  | succ n ih =>
    intro a1 a2 σ
    rw [L_X2_emptyPipes_4.eq_2]
    refine s_iload_n F 2 dX2_emptyPipes_4 rfl rfl ?_
    refine s_aload_n F 0 dX2_emptyPipes_5 rfl rfl ?_
    refine fg_X2_18 F dX2_emptyPipes_6 ?_
    refine fg_X2_21 F nt_12 (c := 13) rfl dX2_emptyPipes_9 ?_
    refine s_iconst F (nI 2) dX2_emptyPipes_12 rfl ?_
    refine s_iald F ar_13 dX2_emptyPipes_13 (fun q1 => ?_)
    refine s_icmp_ge F 40 dX2_emptyPipes_14 (by decide) (fun c4 => ?_) (fun c4 => ?_)
    · refine s_lv [(1, .int a1)] [1] rfl ?_
      exact hK _ _
    · refine s_aload_n F 0 dX2_emptyPipes_17 rfl rfl ?_
      refine fg_X2_18 F dX2_emptyPipes_18 ?_
      refine s_iload_n F 2 dX2_emptyPipes_21 rfl rfl ?_
      refine s_Vi F [.int a2] dX2_emptyPipes_22 (fun z hz => c_X4_soundsIn nt_12 hz) wV_X2_95 nk_X4_soundsIn (by decide) (by decide) (isNet.obj nt_12) vc_3 rfl rfl (Nat.le_of_ble_eq_true rfl) (fun z2 => ?_)
      refine s_if_ne F 34 dX2_emptyPipes_25 (by decide) (fun c3 => ?_) (fun c3 => ?_)
      · refine s_iinc F 2 [(2, .int (a2 + (nI 1))), (0, .ref (ga G 16)), (1, .int a1)] dX2_emptyPipes_34 rfl rfl (by decide) rfl ?_
        refine s_goto F 4 dX2_emptyPipes_37 (by decide) ?_
        refine s_lv [(0, .ref (ga G 16)), (1, .int a1), (2, .int (a2 + (nI 1)))] [1, 2, 0] rfl ?_
        exact ih _ _ _
      · refine s_iload_n F 1 dX2_emptyPipes_28 rfl rfl ?_
        refine s_iconst F (nI 1) dX2_emptyPipes_29 rfl ?_
        refine s_iload_n F 2 dX2_emptyPipes_30 rfl rfl ?_
        refine s_ishl F dX2_emptyPipes_31 ?_
        refine s_ior F dX2_emptyPipes_32 ?_
        refine s_istore_n F [(1, .int (a1 ||| ((nI 1) <<< (a2 &&& 31)))), (0, .ref (ga G 16)), (2, .int a2)] dX2_emptyPipes_33 rfl (by decide) rfl ?_
        refine s_iinc F 2 [(2, .int (a2 + (nI 1))), (1, .int (a1 ||| ((nI 1) <<< (a2 &&& 31)))), (0, .ref (ga G 16))] dX2_emptyPipes_34 rfl rfl (by decide) rfl ?_
        refine s_goto F 4 dX2_emptyPipes_37 (by decide) ?_
        refine s_lv [(0, .ref (ga G 16)), (1, .int (a1 ||| ((nI 1) <<< (a2 &&& 31)))), (2, .int (a2 + (nI 1)))] [2, 1, 0] rfl ?_
        exact ih _ _ _
set_option maxRecDepth 20000 in
theorem c_X2_emptyPipes {G : Gx} {l : Launch} {σ : St} {o : (Int32 × St)} (hF : F_X2_emptyPipes σ = some o) : Con G l yX2_emptyPipes cX2_emptyPipes 3 (some .int) 1 [.ref (ga G 16)] σ (some (.int o.1)) o.2 := by
  refine Con.of plX2 (Nat.le_of_ble_eq_true rfl) [(0, .ref (ga G 16))] rfl (fun X F R => ?_)
  refine (show Sim G X 3 o (F_X2_emptyPipes σ) σ 0 [(0, .ref (ga G 16))] [] from ?_) hF
  unfold F_X2_emptyPipes
  refine s_iconst F (nI 0) dX2_emptyPipes_0 rfl ?_
  refine s_istore_n F [(1, .int (nI 0)), (0, .ref (ga G 16))] dX2_emptyPipes_1 rfl (by decide) rfl ?_
  refine s_iconst F (nI 0) dX2_emptyPipes_2 rfl ?_
  refine s_istore_n F [(2, .int (nI 0)), (1, .int (nI 0)), (0, .ref (ga G 16))] dX2_emptyPipes_3 rfl (by decide) rfl ?_
  refine s_lv [(0, .ref (ga G 16)), (1, .int (nI 0)), (2, .int (nI 0))] [2, 1, 0] rfl ?_
  refine l_X2_emptyPipes_4 F R (fun a1 σ => ?_) fuel _ _ _
  refine s_iload_n F 0 dX2_emptyPipes_40 rfl rfl ?_
  exact s_iret R dX2_emptyPipes_41
/-! X2_coldPipes -/
def L_X2_coldPipes_11 (K : Int32 → St → Option (Int32 × St)) : Nat → Int32 → Int32 → Int32 → St → Option (Int32 × St)
  | 0, _, _, _, _ => none
  | n + 1, a1, a2, a3, σ => if a1 ≤ a3 then (K a2 σ) else ((F_X4_passBreath 12 σ).bind fun z3 => (F_X2_emptyPipes z3.2).bind fun z4 => L_X2_coldPipes_11 K n a1 (a2 &&& z4.1) (a3 + (nI 1)) z4.2)
def F_X2_coldPipes (a1 : Int32) (σ : St) : Option (Int32 × St) := (F_X2_begin σ).bind fun z1 => (F_X2_emptyPipes z1).bind fun z2 => L_X2_coldPipes_11 (fun a2 σ => some (a2, σ)) fuel a1 z2.1 (nI 0) z2.2
set_option maxRecDepth 20000 in
theorem l_X2_coldPipes_11 {G : Gx} {X : Cx} (F : Fx G X cX2_coldPipes 4 RX2 3) {o : (Int32 × St)} (R : Ret G X cX2_coldPipes 4 (some .int) (some (.int o.1)) o.2) {K : Int32 → St → Option (Int32 × St)} (hK : ∀ (a2 : Int32) (σ : St), Sim G X 4 o (K a2 σ) σ 37 [(2, .int a2)] []) : ∀ (n : Nat) (a1 : Int32) (a2 : Int32) (a3 : Int32) (σ : St), Sim G X 4 o (L_X2_coldPipes_11 K n a1 a2 a3 σ) σ 11 [(0, .ref (ga G 16)), (1, .int a1), (2, .int a2), (3, .int a3)] [] := by
  intro n
  induction n with
  | zero =>
    intro a1 a2 a3 σ
    exact s_none
  | succ n ih =>
    intro a1 a2 a3 σ
    rw [L_X2_coldPipes_11.eq_2]
    refine s_iload_n F 3 dX2_coldPipes_11 rfl rfl ?_
    refine s_iload_n F 1 dX2_coldPipes_12 rfl rfl ?_
    refine s_icmp_ge F 37 dX2_coldPipes_13 (by decide) (fun c5 => ?_) (fun c5 => ?_)
    · refine s_lv [(2, .int a2)] [2] rfl ?_
      exact hK _ _
    · refine s_aload_n F 0 dX2_coldPipes_16 rfl rfl ?_
      refine fg_X2_18 F dX2_coldPipes_17 ?_
      refine s_Vi F [] dX2_coldPipes_20 (fun z hz => c_X4_passBreath nt_12 hz) wV_X2_33 nk_X4_passBreath (by decide) (by decide) (isNet.obj nt_12) vc_3 rfl rfl (Nat.le_of_ble_eq_true rfl) (fun z3 => ?_)
      refine s_pop F dX2_coldPipes_23 rfl ?_
      refine s_iload_n F 2 dX2_coldPipes_24 rfl rfl ?_
      refine s_aload_n F 0 dX2_coldPipes_25 rfl rfl ?_
      refine s_Vi F [] dX2_coldPipes_26 (fun z hz => c_X2_emptyPipes hz) wV_X2_92 nk_X2_emptyPipes (by decide) (by decide) ob_16 vc_2 rfl rfl (Nat.le_of_ble_eq_true rfl) (fun z4 => ?_)
      refine s_iand F dX2_coldPipes_29 ?_
      refine s_istore_n F [(2, .int (a2 &&& z4.1)), (0, .ref (ga G 16)), (1, .int a1), (3, .int a3)] dX2_coldPipes_30 rfl (by decide) rfl ?_
      refine s_iinc F 3 [(3, .int (a3 + (nI 1))), (2, .int (a2 &&& z4.1)), (0, .ref (ga G 16)), (1, .int a1)] dX2_coldPipes_31 rfl rfl (by decide) rfl ?_
      refine s_goto F 11 dX2_coldPipes_34 (by decide) ?_
      refine s_lv [(0, .ref (ga G 16)), (1, .int a1), (2, .int (a2 &&& z4.1)), (3, .int (a3 + (nI 1)))] [2, 3, 1, 0] rfl ?_
      exact ih _ _ _ _
set_option maxRecDepth 20000 in
theorem c_X2_coldPipes {G : Gx} {l : Launch} {a1 : Int32} {σ : St} {o : (Int32 × St)} (hF : F_X2_coldPipes a1 σ = some o) : Con G l yX2_coldPipes cX2_coldPipes 4 (some .int) 3 [.ref (ga G 16), .int a1] σ (some (.int o.1)) o.2 := by
  refine Con.of plX2 (Nat.le_of_ble_eq_true rfl) [(0, .ref (ga G 16)), (1, .int a1)] rfl (fun X F R => ?_)
  refine (show Sim G X 4 o (F_X2_coldPipes a1 σ) σ 0 [(0, .ref (ga G 16)), (1, .int a1)] [] from ?_) hF
  unfold F_X2_coldPipes
  refine s_aload_n F 0 dX2_coldPipes_0 rfl rfl ?_
  refine s_Vv F [] dX2_coldPipes_1 (fun z hz => c_X2_begin hz) wV_X2_37 nk_X2_begin (by decide) (by decide) ob_16 vc_2 rfl rfl (Nat.le_of_ble_eq_true rfl) (fun z1 => ?_)
  refine s_aload_n F 0 dX2_coldPipes_4 rfl rfl ?_
  refine s_Vi F [] dX2_coldPipes_5 (fun z hz => c_X2_emptyPipes hz) wV_X2_92 nk_X2_emptyPipes (by decide) (by decide) ob_16 vc_2 rfl rfl (Nat.le_of_ble_eq_true rfl) (fun z2 => ?_)
  refine s_istore_n F [(2, .int z2.1), (0, .ref (ga G 16)), (1, .int a1)] dX2_coldPipes_8 rfl (by decide) rfl ?_
  refine s_iconst F (nI 0) dX2_coldPipes_9 rfl ?_
  refine s_istore_n F [(3, .int (nI 0)), (2, .int z2.1), (0, .ref (ga G 16)), (1, .int a1)] dX2_coldPipes_10 rfl (by decide) rfl ?_
  refine s_lv [(0, .ref (ga G 16)), (1, .int a1), (2, .int z2.1), (3, .int (nI 0))] [2, 3, 1, 0] rfl ?_
  refine l_X2_coldPipes_11 F R (fun a2 σ => ?_) fuel _ _ _ _
  refine s_iload_n F 0 dX2_coldPipes_37 rfl rfl ?_
  exact s_iret R dX2_coldPipes_38
/-! X2_commonDivisor -/
def L_X2_commonDivisor_9 (K : Int64 → St → Option (Int64 × St)) : Nat → Int64 → Int64 → Int32 → St → Option (Int64 × St)
  | 0, _, _, _, _ => none
  | n + 1, a4, a6, a8, σ => if (nI 100) ≤ a8 then (K a4 σ) else (if (lg_cmp a6 (lN 0)) = 0 then (K a4 σ) else (if ¬ a6 = 0 then L_X2_commonDivisor_9 K n a6 (a4 - a4 / a6 * a6) (a8 + (nI 1)) σ else none))
def F_X2_commonDivisor (a0 : Int64) (a2 : Int64) (σ : St) : Option (Int64 × St) := L_X2_commonDivisor_9 (fun a4 σ => some (a4, σ)) fuel a0 a2 (nI 0) σ
set_option maxRecDepth 20000 in
theorem l_X2_commonDivisor_9 {G : Gx} {X : Cx} (F : Fx G X cX2_commonDivisor 11 RX2 0) {o : (Int64 × St)} (R : Ret G X cX2_commonDivisor 11 (some .long) (some (.long o.1)) o.2) {K : Int64 → St → Option (Int64 × St)} (hK : ∀ (a4 : Int64) (σ : St), Sim G X 11 o (K a4 σ) σ 44 [(4, .long a4)] []) : ∀ (n : Nat) (a4 : Int64) (a6 : Int64) (a8 : Int32) (σ : St), Sim G X 11 o (L_X2_commonDivisor_9 K n a4 a6 a8 σ) σ 9 [(4, .long a4), (6, .long a6), (8, .int a8)] [] := by
  intro n
  induction n with
  | zero =>
    intro a4 a6 a8 σ
    exact s_none
  | succ n ih =>
    intro a4 a6 a8 σ
    rw [L_X2_commonDivisor_9.eq_2]
    refine s_iload F 2 dX2_commonDivisor_9 rfl ?_
    refine s_bipush F (nI 100) dX2_commonDivisor_11 rfl ?_
    refine s_icmp_ge F 44 dX2_commonDivisor_13 (by decide) (fun c3 => ?_) (fun c3 => ?_)
    · refine s_lv [(4, .long a4)] [0] rfl ?_
      exact hK _ _
    · refine s_lload F 1 dX2_commonDivisor_16 rfl ?_
      refine s_lconst F (lN 0) dX2_commonDivisor_18 rfl ?_
      refine s_lcmp F dX2_commonDivisor_19 ?_
      refine s_if_eq F 44 dX2_commonDivisor_20 (by decide) (fun c2 => ?_) (fun c2 => ?_)
      · refine s_lv [(4, .long a4)] [0] rfl ?_
        exact hK _ _
      · refine s_lload F 0 dX2_commonDivisor_23 rfl ?_
        refine s_lload F 1 dX2_commonDivisor_25 rfl ?_
        refine s_grd (fun q1 => ?_)
        refine s_lremc F dX2_commonDivisor_27 q1 ?_
        refine s_lstore F [(9, .long (a4 - a4 / a6 * a6)), (4, .long a4), (6, .long a6), (8, .int a8)] dX2_commonDivisor_28 (by decide) rfl ?_
        refine s_lload F 2 dX2_commonDivisor_30 rfl ?_
        refine s_lstore F [(4, .long a6), (9, .long (a4 - a4 / a6 * a6)), (6, .long a6), (8, .int a8)] dX2_commonDivisor_32 (by decide) rfl ?_
        refine s_lload F 1 dX2_commonDivisor_34 rfl ?_
        refine s_lstore F [(6, .long (a4 - a4 / a6 * a6)), (4, .long a6), (9, .long (a4 - a4 / a6 * a6)), (8, .int a8)] dX2_commonDivisor_36 (by decide) rfl ?_
        refine s_iinc F 3 [(8, .int (a8 + (nI 1))), (6, .long (a4 - a4 / a6 * a6)), (4, .long a6), (9, .long (a4 - a4 / a6 * a6))] dX2_commonDivisor_38 rfl rfl (by decide) rfl ?_
        refine s_goto F 9 dX2_commonDivisor_41 (by decide) ?_
        refine s_lv [(4, .long a6), (6, .long (a4 - a4 / a6 * a6)), (8, .int (a8 + (nI 1)))] [2, 1, 0] rfl ?_
        exact ih _ _ _ _
set_option maxRecDepth 20000 in
theorem c_X2_commonDivisor {G : Gx} {l : Launch} {a0 : Int64} {a2 : Int64} {σ : St} {o : (Int64 × St)} (hF : F_X2_commonDivisor a0 a2 σ = some o) : Con G l yX2_commonDivisor cX2_commonDivisor 11 (some .long) 0 [.long a0, .long a2] σ (some (.long o.1)) o.2 := by
  refine Con.of plX2 (Nat.le_of_ble_eq_true rfl) [(0, .long a0), (2, .long a2)] rfl (fun X F R => ?_)
  refine (show Sim G X 11 o (F_X2_commonDivisor a0 a2 σ) σ 0 [(0, .long a0), (2, .long a2)] [] from ?_) hF
  unfold F_X2_commonDivisor
  refine s_lload_n F 0 dX2_commonDivisor_0 rfl rfl ?_
  refine s_lstore F [(4, .long a0), (0, .long a0), (2, .long a2)] dX2_commonDivisor_1 (by decide) rfl ?_
  refine s_lload_n F 2 dX2_commonDivisor_3 rfl rfl ?_
  refine s_lstore F [(6, .long a2), (4, .long a0), (0, .long a0), (2, .long a2)] dX2_commonDivisor_4 (by decide) rfl ?_
  refine s_iconst F (nI 0) dX2_commonDivisor_6 rfl ?_
  refine s_istore F [(8, .int (nI 0)), (6, .long a2), (4, .long a0), (0, .long a0), (2, .long a2)] dX2_commonDivisor_7 (by decide) rfl ?_
  refine s_lv [(4, .long a0), (6, .long a2), (8, .int (nI 0))] [2, 1, 0] rfl ?_
  refine l_X2_commonDivisor_9 F R (fun a4 σ => ?_) fuel _ _ _ _
  refine s_lload F 0 dX2_commonDivisor_44 rfl ?_
  exact s_lret R dX2_commonDivisor_46
/-! X2_hearsWithShut -/
def F_X2_hearsWithShut (a1 : Int32) (a2 : Int32) (a3 : Int32) (σ : St) : Option (Int32 × St) := (F_X2_begin σ).bind fun z1 => if ix (nI 3) 80 then if ix (nI 3) 80 then (F_X2_firstOnTrial ((nI 1) <<< (a2 &&& 31)) a3 (setA z1 13 (nI 3).toNatClampNeg ((z1.1 13 (nI 3).toNatClampNeg) &&& (a1 ^^^ (-1 : Int32))))).bind fun z4 => if z4.1 ≤ 0 then (some ((nI 0), z4.2)) else (some ((nI 1), z4.2)) else none else none
set_option maxRecDepth 20000 in
theorem c_X2_hearsWithShut {G : Gx} {l : Launch} {a1 : Int32} {a2 : Int32} {a3 : Int32} {σ : St} {o : (Int32 × St)} (hF : F_X2_hearsWithShut a1 a2 a3 σ = some o) : Con G l yX2_hearsWithShut cX2_hearsWithShut 4 (some .boolean) 4 [.ref (ga G 16), .int a1, .int a2, .int a3] σ (some (.int o.1)) o.2 := by
  refine Con.of plX2 (Nat.le_of_ble_eq_true rfl) [(0, .ref (ga G 16)), (1, .int a1), (2, .int a2), (3, .int a3)] rfl (fun X F R => ?_)
  refine (show Sim G X 4 o (F_X2_hearsWithShut a1 a2 a3 σ) σ 0 [(0, .ref (ga G 16)), (1, .int a1), (2, .int a2), (3, .int a3)] [] from ?_) hF
  unfold F_X2_hearsWithShut
  refine s_aload_n F 0 dX2_hearsWithShut_0 rfl rfl ?_
  refine s_Vv F [] dX2_hearsWithShut_1 (fun z hz => c_X2_begin hz) wV_X2_37 nk_X2_begin (by decide) (by decide) ob_16 vc_2 rfl rfl (Nat.le_of_ble_eq_true rfl) (fun z1 => ?_)
  refine s_aload_n F 0 dX2_hearsWithShut_4 rfl rfl ?_
  refine fg_X2_18 F dX2_hearsWithShut_5 ?_
  refine fg_X2_21 F nt_12 (c := 13) rfl dX2_hearsWithShut_8 ?_
  refine s_iconst F (nI 3) dX2_hearsWithShut_11 rfl ?_
  refine s_dup2 F dX2_hearsWithShut_12 rfl rfl ?_
  refine s_iald F ar_13 dX2_hearsWithShut_13 (fun q2 => ?_)
  refine s_iload_n F 1 dX2_hearsWithShut_14 rfl rfl ?_
  refine s_iconst F (-1 : Int32) dX2_hearsWithShut_15 rfl ?_
  refine s_ixor F dX2_hearsWithShut_16 ?_
  refine s_iand F dX2_hearsWithShut_17 ?_
  refine s_iast F ar_13 dX2_hearsWithShut_18 (fun q3 => ?_)
  refine s_aload_n F 0 dX2_hearsWithShut_19 rfl rfl ?_
  refine s_iconst F (nI 1) dX2_hearsWithShut_20 rfl ?_
  refine s_iload_n F 2 dX2_hearsWithShut_21 rfl rfl ?_
  refine s_ishl F dX2_hearsWithShut_22 ?_
  refine s_iload_n F 3 dX2_hearsWithShut_23 rfl rfl ?_
  refine s_Vi F [.int ((nI 1) <<< (a2 &&& 31)), .int a3] dX2_hearsWithShut_24 (fun z hz => c_X2_firstOnTrial hz) wV_X2_43 nk_X2_firstOnTrial (by decide) (by decide) ob_16 vc_2 rfl rfl (Nat.le_of_ble_eq_true rfl) (fun z4 => ?_)
  refine s_if_le F 34 dX2_hearsWithShut_27 (by decide) (fun c5 => ?_) (fun c5 => ?_)
  · refine s_iconst F (nI 0) dX2_hearsWithShut_34 rfl ?_
    exact s_zret R dX2_hearsWithShut_35 rfl
  · refine s_iconst F (nI 1) dX2_hearsWithShut_30 rfl ?_
    refine s_goto F 35 dX2_hearsWithShut_31 (by decide) ?_
    exact s_zret R dX2_hearsWithShut_35 rfl
/-! X2_power -/
def L_X2_power_5 (K : Int64 → St → Option (Int64 × St)) : Nat → Int32 → Int32 → Int64 → Int32 → St → Option (Int64 × St)
  | 0, _, _, _, _, _ => none
  | n + 1, a0, a1, a2, a4, σ => if a1 ≤ a4 then (K a2 σ) else (L_X2_power_5 K n a0 a1 (a2 * a0.toInt64) (a4 + (nI 1)) σ)
def F_X2_power (a0 : Int32) (a1 : Int32) (σ : St) : Option (Int64 × St) := L_X2_power_5 (fun a2 σ => some (a2, σ)) fuel a0 a1 (lN 1) (nI 0) σ
set_option maxRecDepth 20000 in
theorem l_X2_power_5 {G : Gx} {X : Cx} (F : Fx G X cX2_power 5 RX2 0) {o : (Int64 × St)} (R : Ret G X cX2_power 5 (some .long) (some (.long o.1)) o.2) {K : Int64 → St → Option (Int64 × St)} (hK : ∀ (a2 : Int64) (σ : St), Sim G X 5 o (K a2 σ) σ 22 [(2, .long a2)] []) : ∀ (n : Nat) (a0 : Int32) (a1 : Int32) (a2 : Int64) (a4 : Int32) (σ : St), Sim G X 5 o (L_X2_power_5 K n a0 a1 a2 a4 σ) σ 5 [(0, .int a0), (1, .int a1), (2, .long a2), (4, .int a4)] [] := by
  intro n
  induction n with
  | zero =>
    intro a0 a1 a2 a4 σ
    exact s_none
  | succ n ih =>
    intro a0 a1 a2 a4 σ
    rw [L_X2_power_5.eq_2]
    refine s_iload F 3 dX2_power_5 rfl ?_
    refine s_iload_n F 1 dX2_power_7 rfl rfl ?_
    refine s_icmp_ge F 22 dX2_power_8 (by decide) (fun c1 => ?_) (fun c1 => ?_)
    · refine s_lv [(2, .long a2)] [2] rfl ?_
      exact hK _ _
    · refine s_lload_n F 2 dX2_power_11 rfl rfl ?_
      refine s_iload_n F 0 dX2_power_12 rfl rfl ?_
      refine s_i2l F dX2_power_13 ?_
      refine s_lmul F dX2_power_14 ?_
      refine s_lstore_n F [(2, .long (a2 * a0.toInt64)), (0, .int a0), (1, .int a1), (4, .int a4)] dX2_power_15 rfl (by decide) rfl ?_
      refine s_iinc F 3 [(4, .int (a4 + (nI 1))), (2, .long (a2 * a0.toInt64)), (0, .int a0), (1, .int a1)] dX2_power_16 rfl rfl (by decide) rfl ?_
      refine s_goto F 5 dX2_power_19 (by decide) ?_
      refine s_lv [(0, .int a0), (1, .int a1), (2, .long (a2 * a0.toInt64)), (4, .int (a4 + (nI 1)))] [2, 3, 1, 0] rfl ?_
      exact ih _ _ _ _ _
set_option maxRecDepth 20000 in
theorem c_X2_power {G : Gx} {l : Launch} {a0 : Int32} {a1 : Int32} {σ : St} {o : (Int64 × St)} (hF : F_X2_power a0 a1 σ = some o) : Con G l yX2_power cX2_power 5 (some .long) 0 [.int a0, .int a1] σ (some (.long o.1)) o.2 := by
  refine Con.of plX2 (Nat.le_of_ble_eq_true rfl) [(0, .int a0), (1, .int a1)] rfl (fun X F R => ?_)
  refine (show Sim G X 5 o (F_X2_power a0 a1 σ) σ 0 [(0, .int a0), (1, .int a1)] [] from ?_) hF
  unfold F_X2_power
  refine s_lconst F (lN 1) dX2_power_0 rfl ?_
  refine s_lstore_n F [(2, .long (lN 1)), (0, .int a0), (1, .int a1)] dX2_power_1 rfl (by decide) rfl ?_
  refine s_iconst F (nI 0) dX2_power_2 rfl ?_
  refine s_istore F [(4, .int (nI 0)), (2, .long (lN 1)), (0, .int a0), (1, .int a1)] dX2_power_3 (by decide) rfl ?_
  refine s_lv [(0, .int a0), (1, .int a1), (2, .long (lN 1)), (4, .int (nI 0))] [2, 3, 1, 0] rfl ?_
  refine l_X2_power_5 F R (fun a2 σ => ?_) fuel _ _ _ _ _
  refine s_lload_n F 0 dX2_power_22 rfl rfl ?_
  exact s_lret R dX2_power_23
/-! X2_likelihood -/
def L_X2_likelihood_29 (K : Int32 → Int64 → Int64 → St → Option (Int64 × St)) : Nat → Int32 → Int32 → Int32 → Int32 → Int32 → Int64 → Int64 → Int32 → St → Option (Int64 × St)
  | 0, _, _, _, _, _, _, _, _, _ => none
  | n + 1, a1, a2, a3, a4, a5, a6, a8, a10, σ => if (nI 128) ≤ a10 then (K a4 a6 a8 σ) else (if (a10 &&& (a5 ^^^ (-1 : Int32))) = 0 then ((F_J6_bitCount_0f7a4 a10 σ).bind fun z4 => (F_X2_power a3 z4.1 z4.2).bind fun z5 => (F_J6_bitCount_0f7a4 a5 z5.2).bind fun z6 => (F_X2_power ((nI 10) - a3) (z6.1 - z4.1) z6.2).bind fun z7 => if (lg_cmp (z5.1 * z7.1) (lN 0)) ≤ 0 then (L_X2_likelihood_29 K n a1 a2 a3 a4 a5 a6 (a8 + (lN 0)) (a10 + (nI 1)) z7.2) else ((F_X2_hearsWithShut a10 a1 a2 z7.2).bind fun z8 => if z8.1 = 0 then (L_X2_likelihood_29 K n a1 a2 a3 a4 a5 a6 (a8 + (lN 0)) (a10 + (nI 1)) z8.2) else (L_X2_likelihood_29 K n a1 a2 a3 a4 a5 a6 (a8 + (z5.1 * z7.1)) (a10 + (nI 1)) z8.2))) else (L_X2_likelihood_29 K n a1 a2 a3 a4 a5 a6 a8 (a10 + (nI 1)) σ))
def F_X2_likelihood (a1 : Int32) (a2 : Int32) (a3 : Int32) (a4 : Int32) (σ : St) : Option (Int64 × St) := if ix (nI 3) 80 then (F_J6_bitCount_0f7a4 (σ.1 10 (nI 3).toNatClampNeg) σ).bind fun z2 => (F_X2_power (nI 10) z2.1 z2.2).bind fun z3 => L_X2_likelihood_29 (fun a4 a6 a8 σ => (F_X2_commonDivisor a6 a8 σ).bind fun z13 => if 0 ≤ (lg_cmp z13.1 (lN 1)) then (if a4 = 0 then (if ¬ z13.1 = 0 then some (a6 / z13.1, z13.2) else none) else (if ¬ z13.1 = 0 then some (a8 / z13.1, z13.2) else none)) else (if a4 = 0 then (some ((lN 1), z13.2)) else (some ((lN 0), z13.2)))) fuel a1 a2 a3 a4 (σ.1 10 (nI 3).toNatClampNeg) z3.1 (lN 0) (nI 0) z3.2 else none
set_option maxRecDepth 20000 in
theorem l_X2_likelihood_29 {G : Gx} {X : Cx} (F : Fx G X cX2_likelihood 14 RX2 5) {o : (Int64 × St)} (R : Ret G X cX2_likelihood 14 (some .long) (some (.long o.1)) o.2) {K : Int32 → Int64 → Int64 → St → Option (Int64 × St)} (hK : ∀ (a4 : Int32) (a6 : Int64) (a8 : Int64) (σ : St), Sim G X 14 o (K a4 a6 a8 σ) σ 113 [(4, .int a4), (6, .long a6), (8, .long a8)] []) : ∀ (n : Nat) (a1 : Int32) (a2 : Int32) (a3 : Int32) (a4 : Int32) (a5 : Int32) (a6 : Int64) (a8 : Int64) (a10 : Int32) (σ : St), Sim G X 14 o (L_X2_likelihood_29 K n a1 a2 a3 a4 a5 a6 a8 a10 σ) σ 29 [(0, .ref (ga G 16)), (1, .int a1), (2, .int a2), (3, .int a3), (4, .int a4), (5, .int a5), (6, .long a6), (8, .long a8), (10, .int a10)] [] := by
  intro n
  induction n with
  | zero =>
    intro a1 a2 a3 a4 a5 a6 a8 a10 σ
    exact s_none
  | succ n ih =>
    intro a1 a2 a3 a4 a5 a6 a8 a10 σ
    rw [L_X2_likelihood_29.eq_2]
    refine s_iload F 8 dX2_likelihood_29 rfl ?_
    refine s_sipush F (nI 128) dX2_likelihood_31 rfl ?_
    refine s_icmp_ge F 113 dX2_likelihood_34 (by decide) (fun c12 => ?_) (fun c12 => ?_)
    · refine s_lv [(4, .int a4), (6, .long a6), (8, .long a8)] [4, 6, 7] rfl ?_
      exact hK _ _ _ _
    · refine s_iload F 8 dX2_likelihood_37 rfl ?_
      refine s_iload F 5 dX2_likelihood_39 rfl ?_
      refine s_iconst F (-1 : Int32) dX2_likelihood_41 rfl ?_
      refine s_ixor F dX2_likelihood_42 ?_
      refine s_iand F dX2_likelihood_43 ?_
      refine s_if_ne F 107 dX2_likelihood_44 (by decide) (fun c11 => ?_) (fun c11 => ?_)
      · refine s_iinc F 8 [(10, .int (a10 + (nI 1))), (0, .ref (ga G 16)), (1, .int a1), (2, .int a2), (3, .int a3), (4, .int a4), (5, .int a5), (6, .long a6), (8, .long a8)] dX2_likelihood_107 rfl rfl (by decide) rfl ?_
        refine s_goto F 29 dX2_likelihood_110 (by decide) ?_
        refine s_lv [(0, .ref (ga G 16)), (1, .int a1), (2, .int a2), (3, .int a3), (4, .int a4), (5, .int a5), (6, .long a6), (8, .long a8), (10, .int (a10 + (nI 1)))] [1, 2, 3, 4, 5, 6, 7, 8, 0] rfl ?_
        exact ih _ _ _ _ _ _ _ _ _
      · refine s_iload F 8 dX2_likelihood_47 rfl ?_
        refine s_Si F [.int a10] dX2_likelihood_49 (fun z hz => c_J6_bitCount_0f7a4 hz) wS_X2_48 nk_J6_bitCount_0f7a4 (by decide) (by decide) rfl rfl (Nat.le_of_ble_eq_true rfl) (fun z4 => ?_)
        refine s_istore F [(11, .int z4.1), (0, .ref (ga G 16)), (1, .int a1), (2, .int a2), (3, .int a3), (4, .int a4), (5, .int a5), (6, .long a6), (8, .long a8), (10, .int a10)] dX2_likelihood_52 (by decide) rfl ?_
        refine s_iload_n F 4 dX2_likelihood_54 rfl rfl ?_
        refine s_iload F 0 dX2_likelihood_55 rfl ?_
        refine s_Sl F [.int a3, .int z4.1] dX2_likelihood_57 (fun z hz => c_X2_power hz) wS_X2_98 nk_X2_power (by decide) (by decide) rfl rfl (Nat.le_of_ble_eq_true rfl) (fun z5 => ?_)
        refine s_bipush F (nI 10) dX2_likelihood_60 rfl ?_
        refine s_iload_n F 4 dX2_likelihood_62 rfl rfl ?_
        refine s_isub F dX2_likelihood_63 ?_
        refine s_iload F 6 dX2_likelihood_64 rfl ?_
        refine s_Si F [.int a5] dX2_likelihood_66 (fun z hz => c_J6_bitCount_0f7a4 hz) wS_X2_48 nk_J6_bitCount_0f7a4 (by decide) (by decide) rfl rfl (Nat.le_of_ble_eq_true rfl) (fun z6 => ?_)
        refine s_iload F 0 dX2_likelihood_69 rfl ?_
        refine s_isub F dX2_likelihood_71 ?_
        refine s_Sl F [.int ((nI 10) - a3), .int (z6.1 - z4.1)] dX2_likelihood_72 (fun z hz => c_X2_power hz) wS_X2_98 nk_X2_power (by decide) (by decide) rfl rfl (Nat.le_of_ble_eq_true rfl) (fun z7 => ?_)
        refine s_lmul F dX2_likelihood_75 ?_
        refine s_lstore F [(12, .long (z5.1 * z7.1)), (11, .int z4.1), (0, .ref (ga G 16)), (1, .int a1), (2, .int a2), (3, .int a3), (4, .int a4), (5, .int a5), (6, .long a6), (8, .long a8), (10, .int a10)] dX2_likelihood_76 (by decide) rfl ?_
        refine s_lload F 9 dX2_likelihood_78 rfl ?_
        refine s_lload F 0 dX2_likelihood_80 rfl ?_
        refine s_lconst F (lN 0) dX2_likelihood_82 rfl ?_
        refine s_lcmp F dX2_likelihood_83 ?_
        refine s_if_le F 103 dX2_likelihood_84 (by decide) (fun c10 => ?_) (fun c10 => ?_)
        · refine s_lconst F (lN 0) dX2_likelihood_103 rfl ?_
          refine s_ladd F dX2_likelihood_104 ?_
          refine s_lstore F [(8, .long (a8 + (lN 0))), (12, .long (z5.1 * z7.1)), (11, .int z4.1), (0, .ref (ga G 16)), (1, .int a1), (2, .int a2), (3, .int a3), (4, .int a4), (5, .int a5), (6, .long a6), (10, .int a10)] dX2_likelihood_105 (by decide) rfl ?_
          refine s_iinc F 10 [(10, .int (a10 + (nI 1))), (8, .long (a8 + (lN 0))), (12, .long (z5.1 * z7.1)), (11, .int z4.1), (0, .ref (ga G 16)), (1, .int a1), (2, .int a2), (3, .int a3), (4, .int a4), (5, .int a5), (6, .long a6)] dX2_likelihood_107 rfl rfl (by decide) rfl ?_
          refine s_goto F 29 dX2_likelihood_110 (by decide) ?_
          refine s_lv [(0, .ref (ga G 16)), (1, .int a1), (2, .int a2), (3, .int a3), (4, .int a4), (5, .int a5), (6, .long a6), (8, .long (a8 + (lN 0))), (10, .int (a10 + (nI 1)))] [4, 5, 6, 7, 8, 9, 10, 1, 0] rfl ?_
          exact ih _ _ _ _ _ _ _ _ _
        · refine s_aload_n F 2 dX2_likelihood_87 rfl rfl ?_
          refine s_iload F 10 dX2_likelihood_88 rfl ?_
          refine s_iload_n F 3 dX2_likelihood_90 rfl rfl ?_
          refine s_iload_n F 4 dX2_likelihood_91 rfl rfl ?_
          refine s_Vi F [.int a10, .int a1, .int a2] dX2_likelihood_92 (fun z hz => c_X2_hearsWithShut hz) wV_X2_102 nk_X2_hearsWithShut (by decide) (by decide) ob_16 vc_2 rfl rfl (Nat.le_of_ble_eq_true rfl) (fun z8 => ?_)
          refine s_if_eq F 103 dX2_likelihood_95 (by decide) (fun c9 => ?_) (fun c9 => ?_)
          · refine s_lconst F (lN 0) dX2_likelihood_103 rfl ?_
            refine s_ladd F dX2_likelihood_104 ?_
            refine s_lstore F [(8, .long (a8 + (lN 0))), (12, .long (z5.1 * z7.1)), (11, .int z4.1), (0, .ref (ga G 16)), (1, .int a1), (2, .int a2), (3, .int a3), (4, .int a4), (5, .int a5), (6, .long a6), (10, .int a10)] dX2_likelihood_105 (by decide) rfl ?_
            refine s_iinc F 10 [(10, .int (a10 + (nI 1))), (8, .long (a8 + (lN 0))), (12, .long (z5.1 * z7.1)), (11, .int z4.1), (0, .ref (ga G 16)), (1, .int a1), (2, .int a2), (3, .int a3), (4, .int a4), (5, .int a5), (6, .long a6)] dX2_likelihood_107 rfl rfl (by decide) rfl ?_
            refine s_goto F 29 dX2_likelihood_110 (by decide) ?_
            refine s_lv [(0, .ref (ga G 16)), (1, .int a1), (2, .int a2), (3, .int a3), (4, .int a4), (5, .int a5), (6, .long a6), (8, .long (a8 + (lN 0))), (10, .int (a10 + (nI 1)))] [4, 5, 6, 7, 8, 9, 10, 1, 0] rfl ?_
            exact ih _ _ _ _ _ _ _ _ _
          · refine s_lload F 0 dX2_likelihood_98 rfl ?_
            refine s_goto F 104 dX2_likelihood_100 (by decide) ?_
            refine s_ladd F dX2_likelihood_104 ?_
            refine s_lstore F [(8, .long (a8 + (z5.1 * z7.1))), (12, .long (z5.1 * z7.1)), (11, .int z4.1), (0, .ref (ga G 16)), (1, .int a1), (2, .int a2), (3, .int a3), (4, .int a4), (5, .int a5), (6, .long a6), (10, .int a10)] dX2_likelihood_105 (by decide) rfl ?_
            refine s_iinc F 10 [(10, .int (a10 + (nI 1))), (8, .long (a8 + (z5.1 * z7.1))), (12, .long (z5.1 * z7.1)), (11, .int z4.1), (0, .ref (ga G 16)), (1, .int a1), (2, .int a2), (3, .int a3), (4, .int a4), (5, .int a5), (6, .long a6)] dX2_likelihood_107 rfl rfl (by decide) rfl ?_
            refine s_goto F 29 dX2_likelihood_110 (by decide) ?_
            refine s_lv [(0, .ref (ga G 16)), (1, .int a1), (2, .int a2), (3, .int a3), (4, .int a4), (5, .int a5), (6, .long a6), (8, .long (a8 + (z5.1 * z7.1))), (10, .int (a10 + (nI 1)))] [4, 5, 6, 7, 8, 9, 10, 1, 0] rfl ?_
            exact ih _ _ _ _ _ _ _ _ _
set_option maxRecDepth 20000 in
theorem c_X2_likelihood {G : Gx} {l : Launch} {a1 : Int32} {a2 : Int32} {a3 : Int32} {a4 : Int32} {σ : St} {o : (Int64 × St)} (hF : F_X2_likelihood a1 a2 a3 a4 σ = some o) : Con G l yX2_likelihood cX2_likelihood 14 (some .long) 5 [.ref (ga G 16), .int a1, .int a2, .int a3, .int a4] σ (some (.long o.1)) o.2 := by
  refine Con.of plX2 (Nat.le_of_ble_eq_true rfl) [(0, .ref (ga G 16)), (1, .int a1), (2, .int a2), (3, .int a3), (4, .int a4)] rfl (fun X F R => ?_)
  refine (show Sim G X 14 o (F_X2_likelihood a1 a2 a3 a4 σ) σ 0 [(0, .ref (ga G 16)), (1, .int a1), (2, .int a2), (3, .int a3), (4, .int a4)] [] from ?_) hF
  unfold F_X2_likelihood
  refine s_aload_n F 0 dX2_likelihood_0 rfl rfl ?_
  refine fg_X2_12 F dX2_likelihood_1 ?_
  refine fg_X2_21 F nt_9 (c := 10) rfl dX2_likelihood_4 ?_
  refine s_iconst F (nI 3) dX2_likelihood_7 rfl ?_
  refine s_iald F ar_10 dX2_likelihood_8 (fun q1 => ?_)
  refine s_istore F [(5, .int (σ.1 10 (nI 3).toNatClampNeg)), (0, .ref (ga G 16)), (1, .int a1), (2, .int a2), (3, .int a3), (4, .int a4)] dX2_likelihood_9 (by decide) rfl ?_
  refine s_bipush F (nI 10) dX2_likelihood_11 rfl ?_
  refine s_iload F 0 dX2_likelihood_13 rfl ?_
  refine s_Si F [.int (σ.1 10 (nI 3).toNatClampNeg)] dX2_likelihood_15 (fun z hz => c_J6_bitCount_0f7a4 hz) wS_X2_48 nk_J6_bitCount_0f7a4 (by decide) (by decide) rfl rfl (Nat.le_of_ble_eq_true rfl) (fun z2 => ?_)
  refine s_Sl F [.int (nI 10), .int z2.1] dX2_likelihood_18 (fun z hz => c_X2_power hz) wS_X2_98 nk_X2_power (by decide) (by decide) rfl rfl (Nat.le_of_ble_eq_true rfl) (fun z3 => ?_)
  refine s_lstore F [(6, .long z3.1), (5, .int (σ.1 10 (nI 3).toNatClampNeg)), (0, .ref (ga G 16)), (1, .int a1), (2, .int a2), (3, .int a3), (4, .int a4)] dX2_likelihood_21 (by decide) rfl ?_
  refine s_lconst F (lN 0) dX2_likelihood_23 rfl ?_
  refine s_lstore F [(8, .long (lN 0)), (6, .long z3.1), (5, .int (σ.1 10 (nI 3).toNatClampNeg)), (0, .ref (ga G 16)), (1, .int a1), (2, .int a2), (3, .int a3), (4, .int a4)] dX2_likelihood_24 (by decide) rfl ?_
  refine s_iconst F (nI 0) dX2_likelihood_26 rfl ?_
  refine s_istore F [(10, .int (nI 0)), (8, .long (lN 0)), (6, .long z3.1), (5, .int (σ.1 10 (nI 3).toNatClampNeg)), (0, .ref (ga G 16)), (1, .int a1), (2, .int a2), (3, .int a3), (4, .int a4)] dX2_likelihood_27 (by decide) rfl ?_
  refine s_lv [(0, .ref (ga G 16)), (1, .int a1), (2, .int a2), (3, .int a3), (4, .int a4), (5, .int (σ.1 10 (nI 3).toNatClampNeg)), (6, .long z3.1), (8, .long (lN 0)), (10, .int (nI 0))] [4, 5, 6, 7, 8, 3, 2, 1, 0] rfl ?_
  refine l_X2_likelihood_29 F R (fun a4 a6 a8 σ => ?_) fuel _ _ _ _ _ _ _ _ _
  refine s_lload F 1 dX2_likelihood_113 rfl ?_
  refine s_lload F 2 dX2_likelihood_115 rfl ?_
  refine s_Sl F [.long a6, .long a8] dX2_likelihood_117 (fun z hz => c_X2_commonDivisor hz) wS_X2_105 nk_X2_commonDivisor (by decide) (by decide) rfl rfl (Nat.le_of_ble_eq_true rfl) (fun z13 => ?_)
  refine s_lstore F [(10, .long z13.1), (4, .int a4), (6, .long a6), (8, .long a8)] dX2_likelihood_120 (by decide) rfl ?_
  refine s_lload F 0 dX2_likelihood_122 rfl ?_
  refine s_lconst F (lN 1) dX2_likelihood_124 rfl ?_
  refine s_lcmp F dX2_likelihood_125 ?_
  refine s_if_ge F 140 dX2_likelihood_126 (by decide) (fun c18 => ?_) (fun c18 => ?_)
  · refine s_iload F 1 dX2_likelihood_140 rfl ?_
    refine s_if_eq F 153 dX2_likelihood_142 (by decide) (fun c16 => ?_) (fun c16 => ?_)
    · refine s_lload F 2 dX2_likelihood_153 rfl ?_
      refine s_lload F 0 dX2_likelihood_155 rfl ?_
      refine s_grd (fun q14 => ?_)
      refine s_ldivc F dX2_likelihood_157 q14 ?_
      exact s_lret R dX2_likelihood_158
    · refine s_lload F 3 dX2_likelihood_145 rfl ?_
      refine s_lload F 0 dX2_likelihood_147 rfl ?_
      refine s_grd (fun q15 => ?_)
      refine s_ldivc F dX2_likelihood_149 q15 ?_
      refine s_goto F 158 dX2_likelihood_150 (by decide) ?_
      exact s_lret R dX2_likelihood_158
  · refine s_iload F 1 dX2_likelihood_129 rfl ?_
    refine s_if_eq F 138 dX2_likelihood_131 (by decide) (fun c17 => ?_) (fun c17 => ?_)
    · refine s_lconst F (lN 1) dX2_likelihood_138 rfl ?_
      exact s_lret R dX2_likelihood_139
    · refine s_lconst F (lN 0) dX2_likelihood_134 rfl ?_
      refine s_goto F 139 dX2_likelihood_135 (by decide) ?_
      exact s_lret R dX2_likelihood_139
/-! X2_sitting -/
def J_X2_sitting_83 (K25 : Int32 → Int32 → Int32 → Int64 → Int32 → Int32 → St → Option (Int32 × St)) (a1 : Int32) (a3 : Int32) (a4 : Int32) (a5 : Int64) (a7 : Int32) (a8 : Int32) (σ : St) : Option (Int32 × St) := (F_X4_passBreath 12 σ).bind fun z3 => (F_J6_bitCount_0f7a4 z3.1 z3.2).bind fun z4 => K25 a1 a3 a4 a5 (a7 + z4.1) (a8 + (nI 1)) z4.2
def L_X2_sitting_25 (K : Int32 → Int32 → St → Option (Int32 × St)) : Nat → Int32 → Int32 → Int32 → Int64 → Int32 → Int32 → St → Option (Int32 × St)
  | 0, _, _, _, _, _, _, _ => none
  | n + 1, a1, a3, a4, a5, a7, a8, σ => if a1 ≤ a8 then (K a3 a7 σ) else (if (lg_cmp (((a5 * (lN 16807)) - (a5 * (lN 16807)) / (lN 2147483647) * (lN 2147483647)) - ((a5 * (lN 16807)) - (a5 * (lN 16807)) / (lN 2147483647) * (lN 2147483647)) / (lN 3) * (lN 3)) (lN 0)) = 0 then (if a4 ≤ 0 then (J_X2_sitting_83 (fun a1 a3 a4 a5 a7 a8 σ => L_X2_sitting_25 K n a1 a3 a4 a5 a7 a8 σ) a1 a3 a4 ((a5 * (lN 16807)) - (a5 * (lN 16807)) / (lN 2147483647) * (lN 2147483647)) a7 a8 σ) else (if ¬ a4.toInt64 = 0 then (F_X4_letIn 12 (((a5 * (lN 16807)) - (a5 * (lN 16807)) / (lN 2147483647) * (lN 2147483647)) - ((a5 * (lN 16807)) - (a5 * (lN 16807)) / (lN 2147483647) * (lN 2147483647)) / a4.toInt64 * a4.toInt64).toInt32 (((a5 * (lN 16807)) - (a5 * (lN 16807)) / (lN 2147483647) * (lN 2147483647)) - ((a5 * (lN 16807)) - (a5 * (lN 16807)) / (lN 2147483647) * (lN 2147483647)) / (lN 10) * (lN 10)).toInt32 (nI 40) σ).bind fun z6 => J_X2_sitting_83 (fun a1 a3 a4 a5 a7 a8 σ => L_X2_sitting_25 K n a1 a3 a4 a5 a7 a8 σ) a1 a3 a4 ((a5 * (lN 16807)) - (a5 * (lN 16807)) / (lN 2147483647) * (lN 2147483647)) a7 a8 z6.2 else none)) else (J_X2_sitting_83 (fun a1 a3 a4 a5 a7 a8 σ => L_X2_sitting_25 K n a1 a3 a4 a5 a7 a8 σ) a1 a3 a4 ((a5 * (lN 16807)) - (a5 * (lN 16807)) / (lN 2147483647) * (lN 2147483647)) a7 a8 σ))
def F_X2_sitting (a1 : Int32) (a2 : Int32) (a3 : Int32) (σ : St) : Option (Int32 × St) := (F_X2_begin σ).bind fun z1 => if ix (nI 0) 80 then L_X2_sitting_25 (fun a3 a7 σ => if a3 = 0 then ((F_X4_soundsInAll 12 σ).bind fun z10 => some (z10.1, z10.2)) else (some (a7, σ))) fuel a1 a3 (z1.1 13 (nI 0).toNatClampNeg) a2.toInt64 (nI 0) (nI 0) z1 else none
set_option maxRecDepth 20000 in
theorem j_X2_sitting_83 {G : Gx} {X : Cx} (F : Fx G X cX2_sitting 9 RX2 3) {o : (Int32 × St)} (R : Ret G X cX2_sitting 9 (some .int) (some (.int o.1)) o.2) {K25 : Int32 → Int32 → Int32 → Int64 → Int32 → Int32 → St → Option (Int32 × St)} (hK25 : ∀ (a1 : Int32) (a3 : Int32) (a4 : Int32) (a5 : Int64) (a7 : Int32) (a8 : Int32) (σ : St), Sim G X 9 o (K25 a1 a3 a4 a5 a7 a8 σ) σ 25 [(0, .ref (ga G 16)), (1, .int a1), (3, .int a3), (4, .int a4), (5, .long a5), (7, .int a7), (8, .int a8)] []) (a1 : Int32) (a3 : Int32) (a4 : Int32) (a5 : Int64) (a7 : Int32) (a8 : Int32) (σ : St) : Sim G X 9 o (J_X2_sitting_83 K25 a1 a3 a4 a5 a7 a8 σ) σ 83 [(0, .ref (ga G 16)), (1, .int a1), (3, .int a3), (4, .int a4), (5, .long a5), (7, .int a7), (8, .int a8)] [] := by
  unfold J_X2_sitting_83
  refine s_iload F 5 dX2_sitting_83 rfl ?_
  refine s_aload_n F 0 dX2_sitting_85 rfl rfl ?_
  refine fg_X2_18 F dX2_sitting_86 ?_
  refine s_Vi F [] dX2_sitting_89 (fun z hz => c_X4_passBreath nt_12 hz) wV_X2_33 nk_X4_passBreath (by decide) (by decide) (isNet.obj nt_12) vc_3 rfl rfl (Nat.le_of_ble_eq_true rfl) (fun z3 => ?_)
  refine s_Si F [.int z3.1] dX2_sitting_92 (fun z hz => c_J6_bitCount_0f7a4 hz) wS_X2_48 nk_J6_bitCount_0f7a4 (by decide) (by decide) rfl rfl (Nat.le_of_ble_eq_true rfl) (fun z4 => ?_)
  refine s_iadd F dX2_sitting_95 ?_
  refine s_istore F [(7, .int (a7 + z4.1)), (0, .ref (ga G 16)), (1, .int a1), (3, .int a3), (4, .int a4), (5, .long a5), (8, .int a8)] dX2_sitting_96 (by decide) rfl ?_
  refine s_iinc F 6 [(8, .int (a8 + (nI 1))), (7, .int (a7 + z4.1)), (0, .ref (ga G 16)), (1, .int a1), (3, .int a3), (4, .int a4), (5, .long a5)] dX2_sitting_98 rfl rfl (by decide) rfl ?_
  refine s_goto F 25 dX2_sitting_101 (by decide) ?_
  refine s_lv [(0, .ref (ga G 16)), (1, .int a1), (3, .int a3), (4, .int a4), (5, .long a5), (7, .int (a7 + z4.1)), (8, .int (a8 + (nI 1)))] [2, 3, 4, 5, 6, 1, 0] rfl ?_
  exact hK25 _ _ _ _ _ _ _
set_option maxRecDepth 20000 in
theorem l_X2_sitting_25 {G : Gx} {X : Cx} (F : Fx G X cX2_sitting 9 RX2 3) {o : (Int32 × St)} (R : Ret G X cX2_sitting 9 (some .int) (some (.int o.1)) o.2) {K : Int32 → Int32 → St → Option (Int32 × St)} (hK : ∀ (a3 : Int32) (a7 : Int32) (σ : St), Sim G X 9 o (K a3 a7 σ) σ 104 [(0, .ref (ga G 16)), (3, .int a3), (7, .int a7)] []) : ∀ (n : Nat) (a1 : Int32) (a3 : Int32) (a4 : Int32) (a5 : Int64) (a7 : Int32) (a8 : Int32) (σ : St), Sim G X 9 o (L_X2_sitting_25 K n a1 a3 a4 a5 a7 a8 σ) σ 25 [(0, .ref (ga G 16)), (1, .int a1), (3, .int a3), (4, .int a4), (5, .long a5), (7, .int a7), (8, .int a8)] [] := by
  intro n
  induction n with
  | zero =>
    intro a1 a3 a4 a5 a7 a8 σ
    exact s_none
  | succ n ih =>
    intro a1 a3 a4 a5 a7 a8 σ
    rw [L_X2_sitting_25.eq_2]
    refine s_iload F 6 dX2_sitting_25 rfl ?_
    refine s_iload_n F 1 dX2_sitting_27 rfl rfl ?_
    refine s_icmp_ge F 104 dX2_sitting_28 (by decide) (fun c9 => ?_) (fun c9 => ?_)
    · refine s_lv [(0, .ref (ga G 16)), (3, .int a3), (7, .int a7)] [0, 2, 5] rfl ?_
      exact hK _ _ _
    · refine s_lload F 4 dX2_sitting_31 rfl ?_
      refine s_ldc2 F dX2_sitting_33 m_3_118 ?_
      refine s_lmul F dX2_sitting_36 ?_
      refine s_ldc2 F dX2_sitting_37 m_3_119 ?_
      refine s_lremc F dX2_sitting_40 (by decide) ?_
      refine s_lstore F [(5, .long ((a5 * (lN 16807)) - (a5 * (lN 16807)) / (lN 2147483647) * (lN 2147483647))), (0, .ref (ga G 16)), (1, .int a1), (3, .int a3), (4, .int a4), (7, .int a7), (8, .int a8)] dX2_sitting_41 (by decide) rfl ?_
      refine s_lload F 0 dX2_sitting_43 rfl ?_
      refine s_ldc2 F dX2_sitting_45 m_3_120 ?_
      refine s_lremc F dX2_sitting_48 (by decide) ?_
      refine s_lconst F (lN 0) dX2_sitting_49 rfl ?_
      refine s_lcmp F dX2_sitting_50 ?_
      refine s_if_ne F 83 dX2_sitting_51 (by decide) (fun c8 => ?_) (fun c8 => ?_)
      · refine s_lv [(0, .ref (ga G 16)), (1, .int a1), (3, .int a3), (4, .int a4), (5, .long ((a5 * (lN 16807)) - (a5 * (lN 16807)) / (lN 2147483647) * (lN 2147483647))), (7, .int a7), (8, .int a8)] [1, 2, 3, 4, 0, 5, 6] rfl ?_
        exact j_X2_sitting_83 F R (by
              intro a1 a3 a4 a5 a7 a8 σ
              exact ih _ _ _ _ _ _ _) _ _ _ _ _ _ _
      · refine s_iload F 4 dX2_sitting_54 rfl ?_
        refine s_if_le F 83 dX2_sitting_56 (by decide) (fun c7 => ?_) (fun c7 => ?_)
        · refine s_lv [(0, .ref (ga G 16)), (1, .int a1), (3, .int a3), (4, .int a4), (5, .long ((a5 * (lN 16807)) - (a5 * (lN 16807)) / (lN 2147483647) * (lN 2147483647))), (7, .int a7), (8, .int a8)] [1, 2, 3, 4, 0, 5, 6] rfl ?_
          exact j_X2_sitting_83 F R (by
                intro a1 a3 a4 a5 a7 a8 σ
                exact ih _ _ _ _ _ _ _) _ _ _ _ _ _ _
        · refine s_aload_n F 1 dX2_sitting_59 rfl rfl ?_
          refine fg_X2_18 F dX2_sitting_60 ?_
          refine s_lload F 0 dX2_sitting_63 rfl ?_
          refine s_iload F 4 dX2_sitting_65 rfl ?_
          refine s_i2l F dX2_sitting_67 ?_
          refine s_grd (fun q5 => ?_)
          refine s_lremc F dX2_sitting_68 q5 ?_
          refine s_l2i F dX2_sitting_69 ?_
          refine s_lload F 0 dX2_sitting_70 rfl ?_
          refine s_ldc2 F dX2_sitting_72 m_3_121 ?_
          refine s_lremc F dX2_sitting_75 (by decide) ?_
          refine s_l2i F dX2_sitting_76 ?_
          refine s_bipush F (nI 40) dX2_sitting_77 rfl ?_
          refine s_Vi F [.int (((a5 * (lN 16807)) - (a5 * (lN 16807)) / (lN 2147483647) * (lN 2147483647)) - ((a5 * (lN 16807)) - (a5 * (lN 16807)) / (lN 2147483647) * (lN 2147483647)) / a4.toInt64 * a4.toInt64).toInt32, .int (((a5 * (lN 16807)) - (a5 * (lN 16807)) / (lN 2147483647) * (lN 2147483647)) - ((a5 * (lN 16807)) - (a5 * (lN 16807)) / (lN 2147483647) * (lN 2147483647)) / (lN 10) * (lN 10)).toInt32, .int (nI 40)] dX2_sitting_79 (fun z hz => c_X4_letIn nt_12 hz) wV_X2_58 nk_X4_letIn (by decide) (by decide) (isNet.obj nt_12) vc_3 rfl rfl (Nat.le_of_ble_eq_true rfl) (fun z6 => ?_)
          refine s_pop F dX2_sitting_82 rfl ?_
          refine s_lv [(0, .ref (ga G 16)), (1, .int a1), (3, .int a3), (4, .int a4), (5, .long ((a5 * (lN 16807)) - (a5 * (lN 16807)) / (lN 2147483647) * (lN 2147483647))), (7, .int a7), (8, .int a8)] [1, 2, 3, 4, 0, 5, 6] rfl ?_
          exact j_X2_sitting_83 F R (by
                intro a1 a3 a4 a5 a7 a8 σ
                exact ih _ _ _ _ _ _ _) _ _ _ _ _ _ _
set_option maxRecDepth 20000 in
theorem c_X2_sitting {G : Gx} {l : Launch} {a1 : Int32} {a2 : Int32} {a3 : Int32} {σ : St} {o : (Int32 × St)} (hF : F_X2_sitting a1 a2 a3 σ = some o) : Con G l yX2_sitting cX2_sitting 9 (some .int) 3 [.ref (ga G 16), .int a1, .int a2, .int a3] σ (some (.int o.1)) o.2 := by
  refine Con.of plX2 (Nat.le_of_ble_eq_true rfl) [(0, .ref (ga G 16)), (1, .int a1), (2, .int a2), (3, .int a3)] rfl (fun X F R => ?_)
  refine (show Sim G X 9 o (F_X2_sitting a1 a2 a3 σ) σ 0 [(0, .ref (ga G 16)), (1, .int a1), (2, .int a2), (3, .int a3)] [] from ?_) hF
  unfold F_X2_sitting
  refine s_aload_n F 0 dX2_sitting_0 rfl rfl ?_
  refine s_Vv F [] dX2_sitting_1 (fun z hz => c_X2_begin hz) wV_X2_37 nk_X2_begin (by decide) (by decide) ob_16 vc_2 rfl rfl (Nat.le_of_ble_eq_true rfl) (fun z1 => ?_)
  refine s_aload_n F 0 dX2_sitting_4 rfl rfl ?_
  refine fg_X2_18 F dX2_sitting_5 ?_
  refine fg_X2_21 F nt_12 (c := 13) rfl dX2_sitting_8 ?_
  refine s_iconst F (nI 0) dX2_sitting_11 rfl ?_
  refine s_iald F ar_13 dX2_sitting_12 (fun q2 => ?_)
  refine s_istore F [(4, .int (z1.1 13 (nI 0).toNatClampNeg)), (0, .ref (ga G 16)), (1, .int a1), (2, .int a2), (3, .int a3)] dX2_sitting_13 (by decide) rfl ?_
  refine s_iload_n F 3 dX2_sitting_15 rfl rfl ?_
  refine s_i2l F dX2_sitting_16 ?_
  refine s_lstore F [(5, .long a2.toInt64), (4, .int (z1.1 13 (nI 0).toNatClampNeg)), (0, .ref (ga G 16)), (1, .int a1), (2, .int a2), (3, .int a3)] dX2_sitting_17 (by decide) rfl ?_
  refine s_iconst F (nI 0) dX2_sitting_19 rfl ?_
  refine s_istore F [(7, .int (nI 0)), (5, .long a2.toInt64), (4, .int (z1.1 13 (nI 0).toNatClampNeg)), (0, .ref (ga G 16)), (1, .int a1), (2, .int a2), (3, .int a3)] dX2_sitting_20 (by decide) rfl ?_
  refine s_iconst F (nI 0) dX2_sitting_22 rfl ?_
  refine s_istore F [(8, .int (nI 0)), (7, .int (nI 0)), (5, .long a2.toInt64), (4, .int (z1.1 13 (nI 0).toNatClampNeg)), (0, .ref (ga G 16)), (1, .int a1), (2, .int a2), (3, .int a3)] dX2_sitting_23 (by decide) rfl ?_
  refine s_lv [(0, .ref (ga G 16)), (1, .int a1), (3, .int a3), (4, .int (z1.1 13 (nI 0).toNatClampNeg)), (5, .long a2.toInt64), (7, .int (nI 0)), (8, .int (nI 0))] [4, 5, 7, 3, 2, 1, 0] rfl ?_
  refine l_X2_sitting_25 F R (fun a3 a7 σ => ?_) fuel _ _ _ _ _ _ _
  refine s_iload_n F 1 dX2_sitting_104 rfl rfl ?_
  refine s_if_eq F 113 dX2_sitting_105 (by decide) (fun c11 => ?_) (fun c11 => ?_)
  · refine s_aload_n F 0 dX2_sitting_113 rfl rfl ?_
    refine fg_X2_18 F dX2_sitting_114 ?_
    refine s_Vi F [] dX2_sitting_117 (fun z hz => c_X4_soundsInAll nt_12 hz) wV_X2_117 nk_X4_soundsInAll (by decide) (by decide) (isNet.obj nt_12) vc_3 rfl rfl (Nat.le_of_ble_eq_true rfl) (fun z10 => ?_)
    exact s_iret R dX2_sitting_120
  · refine s_iload F 2 dX2_sitting_108 rfl ?_
    refine s_goto F 120 dX2_sitting_110 (by decide) ?_
    exact s_iret R dX2_sitting_120
end
