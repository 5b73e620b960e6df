noncomputable section
/-! X4_wordOf -/
def F_X4_wordOf (a0 : Int32) (σ : St) : Option (Int32 × St) := some (a0 / (nI 100), σ)
set_option maxRecDepth 20000 in
theorem c_X4_wordOf {G : Gx} {l : Launch} {a0 : Int32} {σ : St} {o : (Int32 × St)} (hF : F_X4_wordOf a0 σ = some o) : Con G l yX4_wordOf cX4_wordOf 1 (some .int) 0 [.int a0] σ (some (.int o.1)) o.2 := by
  refine Con.of plX4 (Nat.le_of_ble_eq_true rfl) [(0, .int a0)] rfl (fun X F R => ?_)
  refine (show Sim G X 1 o (F_X4_wordOf a0 σ) σ 0 [(0, .int a0)] [] from ?_) hF
  unfold F_X4_wordOf
  refine s_iload_n F 0 dX4_wordOf_0 rfl rfl ?_
  refine s_bipush F (nI 100) dX4_wordOf_1 rfl ?_
  refine s_idivc F dX4_wordOf_3 (by decide) ?_
  exact s_iret R dX4_wordOf_4
/-! X4_loudnessOf -/
def F_X4_loudnessOf (a0 : Int32) (σ : St) : Option (Int32 × St) := some (a0 - a0 / (nI 100) * (nI 100), σ)
set_option maxRecDepth 20000 in
theorem c_X4_loudnessOf {G : Gx} {l : Launch} {a0 : Int32} {σ : St} {o : (Int32 × St)} (hF : F_X4_loudnessOf a0 σ = some o) : Con G l yX4_loudnessOf cX4_loudnessOf 1 (some .int) 0 [.int a0] σ (some (.int o.1)) o.2 := by
  refine Con.of plX4 (Nat.le_of_ble_eq_true rfl) [(0, .int a0)] rfl (fun X F R => ?_)
  refine (show Sim G X 1 o (F_X4_loudnessOf a0 σ) σ 0 [(0, .int a0)] [] from ?_) hF
  unfold F_X4_loudnessOf
  refine s_iload_n F 0 dX4_loudnessOf_0 rfl rfl ?_
  refine s_bipush F (nI 100) dX4_loudnessOf_1 rfl ?_
  refine s_iremc F dX4_loudnessOf_3 (by decide) ?_
  exact s_iret R dX4_loudnessOf_4
/-! X4_soundOf -/
def F_X4_soundOf (a0 : Int32) (a1 : Int32) (σ : St) : Option (Int32 × St) := some (((nI 100) * a0) + a1, σ)
set_option maxRecDepth 20000 in
theorem c_X4_soundOf {G : Gx} {l : Launch} {a0 : Int32} {a1 : Int32} {σ : St} {o : (Int32 × St)} (hF : F_X4_soundOf a0 a1 σ = some o) : Con G l yX4_soundOf cX4_soundOf 2 (some .int) 0 [.int a0, .int a1] σ (some (.int o.1)) o.2 := by
  refine Con.of plX4 (Nat.le_of_ble_eq_true rfl) [(0, .int a0), (1, .int a1)] rfl (fun X F R => ?_)
  refine (show Sim G X 2 o (F_X4_soundOf a0 a1 σ) σ 0 [(0, .int a0), (1, .int a1)] [] from ?_) hF
  unfold F_X4_soundOf
  refine s_bipush F (nI 100) dX4_soundOf_0 rfl ?_
  refine s_iload_n F 0 dX4_soundOf_2 rfl rfl ?_
  refine s_imul F dX4_soundOf_3 ?_
  refine s_iload_n F 1 dX4_soundOf_4 rfl rfl ?_
  refine s_iadd F dX4_soundOf_5 ?_
  exact s_iret R dX4_soundOf_6
/-! X4_take -/
def F_X4_take (r : Nat) (k : Nat) (σ : St) : Option St := if (¬ (nI 0) < 0 ∧ ¬ (nI 0) < 0 ∧ ¬ (nI 80) < 0 ∧ (nI 0).toNatClampNeg + (nI 80).toNatClampNeg ≤ 80 ∧ (nI 0).toNatClampNeg + (nI 80).toNatClampNeg ≤ 80) then some (cpyA σ k (nI 0).toNatClampNeg (r + 1) (nI 0).toNatClampNeg (nI 80).toNatClampNeg) else none
set_option maxRecDepth 20000 in
theorem c_X4_take {G : Gx} {l : Launch} {r : Nat} {k : Nat} (hr : isNet r) (hk : isArr k 80) {σ : St} {o : St} (hF : F_X4_take r k σ = some o) : Con G l yX4_take cX4_take 2 none 1 [.ref (ga G r), .ref (ga G k)] σ none o := by
  refine Con.of plX4 (Nat.le_of_ble_eq_true rfl) [(0, .ref (ga G r)), (1, .ref (ga G k))] rfl (fun X F R => ?_)
  refine (show Sim G X 2 o (F_X4_take r k σ) σ 0 [(0, .ref (ga G r)), (1, .ref (ga G k))] [] from ?_) hF
  unfold F_X4_take
  refine s_aload_n F 1 dX4_take_0 rfl rfl ?_
  refine s_iconst F (nI 0) dX4_take_1 rfl ?_
  refine s_aload_n F 0 dX4_take_2 rfl rfl ?_
  refine fg_X4_9 F hr (c := r + 1) rfl dX4_take_3 ?_
  refine s_iconst F (nI 0) dX4_take_6 rfl ?_
  refine s_bipush F (nI 80) dX4_take_7 rfl ?_
  refine s_copy F hk (isNet.cells hr) dX4_take_9 (by decide) (Nat.le_of_ble_eq_true rfl) wc_X4_16 (fun q1 => ?_)
  exact s_vret R dX4_take_12
/-! X4_clear -/
def L_X4_clear_2 (r : Nat) (K : St → Option St) : Nat → Int32 → St → Option St
  | 0, _, _ => none
  | n + 1, a1, σ => if (nI 80) ≤ a1 then (K σ) else (if ix a1 80 then L_X4_clear_2 r K n (a1 + (nI 1)) (setA σ (r + 1) a1.toNatClampNeg (nI 0)) else none)
def F_X4_clear (r : Nat) (σ : St) : Option St := L_X4_clear_2 r (fun σ => some σ) fuel (nI 0) σ
set_option maxRecDepth 20000 in
theorem l_X4_clear_2 {G : Gx} {X : Cx} (F : Fx G X cX4_clear 2 RX4 0) {o : St} (R : Ret G X cX4_clear 2 none none o) {r : Nat} (hr : isNet r) {K : St → Option St} (hK : ∀ (σ : St), Sim G X 2 o (K σ) σ 21 [] []) : ∀ (n : Nat) (a1 : Int32) (σ : St), Sim G X 2 o (L_X4_clear_2 r K n a1 σ) σ 2 [(0, .ref (ga G r)), (1, .int a1)] [] := by
  intro n
  induction n with
  | zero =>
    intro a1 σ
    exact s_none
  | succ n ih =>
    intro a1 σ
    rw [L_X4_clear_2.eq_2]
    refine s_iload_n F 1 dX4_clear_2 rfl rfl ?_
    refine s_bipush F (nI 80) dX4_clear_3 rfl ?_
    refine s_icmp_ge F 21 dX4_clear_5 (by decide) (fun c2 => ?_) (fun c2 => ?_)
    · refine s_lv [] [] rfl ?_
      exact hK _
    · refine s_aload_n F 0 dX4_clear_8 rfl rfl ?_
      refine fg_X4_9 F hr (c := r + 1) rfl dX4_clear_9 ?_
      refine s_iload_n F 1 dX4_clear_12 rfl rfl ?_
      refine s_iconst F (nI 0) dX4_clear_13 rfl ?_
      refine s_iast F (isNet.cells hr) dX4_clear_14 (fun q1 => ?_)
      refine s_iinc F 1 [(1, .int (a1 + (nI 1))), (0, .ref (ga G r))] dX4_clear_15 rfl rfl (by decide) rfl ?_
      refine s_goto F 2 dX4_clear_18 (by decide) ?_
      refine s_lv [(0, .ref (ga G r)), (1, .int (a1 + (nI 1)))] [1, 0] rfl ?_
      exact ih _ _
set_option maxRecDepth 20000 in
theorem c_X4_clear {G : Gx} {l : Launch} {r : Nat} (hr : isNet r) {σ : St} {o : St} (hF : F_X4_clear r σ = some o) : Con G l yX4_clear cX4_clear 2 none 0 [.ref (ga G r)] σ none o := by
  refine Con.of plX4 (Nat.le_of_ble_eq_true rfl) [(0, .ref (ga G r))] rfl (fun X F R => ?_)
  refine (show Sim G X 2 o (F_X4_clear r σ) σ 0 [(0, .ref (ga G r))] [] from ?_) hF
  unfold F_X4_clear
  refine s_iconst F (nI 0) dX4_clear_0 rfl ?_
  refine s_istore_n F [(1, .int (nI 0)), (0, .ref (ga G r))] dX4_clear_1 rfl (by decide) rfl ?_
  refine s_lv [(0, .ref (ga G r)), (1, .int (nI 0))] [1, 0] rfl ?_
  refine l_X4_clear_2 F R hr (fun σ => ?_) fuel _ _
  exact s_vret R dX4_clear_21
/-! X4_stands -/
def F_X4_stands (r : Nat) (σ : St) : Option (Int32 × St) := if ix (nI 0) 80 then if (σ.1 (r + 1) (nI 0).toNatClampNeg) ≤ 0 then (some ((nI 0), σ)) else (some ((nI 1), σ)) else none
set_option maxRecDepth 20000 in
theorem c_X4_stands {G : Gx} {l : Launch} {r : Nat} (hr : isNet r) {σ : St} {o : (Int32 × St)} (hF : F_X4_stands r σ = some o) : Con G l yX4_stands cX4_stands 1 (some .boolean) 0 [.ref (ga G r)] σ (some (.int o.1)) o.2 := by
  refine Con.of plX4 (Nat.le_of_ble_eq_true rfl) [(0, .ref (ga G r))] rfl (fun X F R => ?_)
  refine (show Sim G X 1 o (F_X4_stands r σ) σ 0 [(0, .ref (ga G r))] [] from ?_) hF
  unfold F_X4_stands
  refine s_aload_n F 0 dX4_stands_0 rfl rfl ?_
  refine fg_X4_9 F hr (c := r + 1) rfl dX4_stands_1 ?_
  refine s_iconst F (nI 0) dX4_stands_4 rfl ?_
  refine s_iald F (isNet.cells hr) dX4_stands_5 (fun q1 => ?_)
  refine s_if_le F 13 dX4_stands_6 (by decide) (fun c2 => ?_) (fun c2 => ?_)
  · refine s_iconst F (nI 0) dX4_stands_13 rfl ?_
    exact s_zret R dX4_stands_14 rfl
  · refine s_iconst F (nI 1) dX4_stands_9 rfl ?_
    refine s_goto F 14 dX4_stands_10 (by decide) ?_
    exact s_zret R dX4_stands_14 rfl
/-! X4_isHorn -/
def F_X4_isHorn (r : Nat) (a1 : Int32) (σ : St) : Option (Int32 × St) := if a1 < 0 then (some ((nI 0), σ)) else (if ix (nI 0) 80 then if (σ.1 (r + 1) (nI 0).toNatClampNeg) ≤ a1 then (some ((nI 0), σ)) else (some ((nI 1), σ)) else none)
set_option maxRecDepth 20000 in
theorem c_X4_isHorn {G : Gx} {l : Launch} {r : Nat} {a1 : Int32} (hr : isNet r) {σ : St} {o : (Int32 × St)} (hF : F_X4_isHorn r a1 σ = some o) : Con G l yX4_isHorn cX4_isHorn 2 (some .boolean) 0 [.ref (ga G r), .int a1] σ (some (.int o.1)) o.2 := by
  refine Con.of plX4 (Nat.le_of_ble_eq_true rfl) [(0, .ref (ga G r)), (1, .int a1)] rfl (fun X F R => ?_)
  refine (show Sim G X 2 o (F_X4_isHorn r a1 σ) σ 0 [(0, .ref (ga G r)), (1, .int a1)] [] from ?_) hF
  unfold F_X4_isHorn
  refine s_iload_n F 1 dX4_isHorn_0 rfl rfl ?_
  refine s_if_lt F 18 dX4_isHorn_1 (by decide) (fun c3 => ?_) (fun c3 => ?_)
  · refine s_iconst F (nI 0) dX4_isHorn_18 rfl ?_
    exact s_zret R dX4_isHorn_19 rfl
  · refine s_iload_n F 1 dX4_isHorn_4 rfl rfl ?_
    refine s_aload_n F 0 dX4_isHorn_5 rfl rfl ?_
    refine fg_X4_9 F hr (c := r + 1) rfl dX4_isHorn_6 ?_
    refine s_iconst F (nI 0) dX4_isHorn_9 rfl ?_
    refine s_iald F (isNet.cells hr) dX4_isHorn_10 (fun q1 => ?_)
    refine s_icmp_ge F 18 dX4_isHorn_11 (by decide) (fun c2 => ?_) (fun c2 => ?_)
    · refine s_iconst F (nI 0) dX4_isHorn_18 rfl ?_
      exact s_zret R dX4_isHorn_19 rfl
    · refine s_iconst F (nI 1) dX4_isHorn_14 rfl ?_
      refine s_goto F 19 dX4_isHorn_15 (by decide) ?_
      exact s_zret R dX4_isHorn_19 rfl
/-! X4_isPipe -/
def F_X4_isPipe (r : Nat) (a1 : Int32) (σ : St) : Option (Int32 × St) := if a1 < 0 then (some ((nI 0), σ)) else (if ix (nI 2) 80 then if (σ.1 (r + 1) (nI 2).toNatClampNeg) ≤ a1 then (some ((nI 0), σ)) else (some ((nI 1), σ)) else none)
set_option maxRecDepth 20000 in
theorem c_X4_isPipe {G : Gx} {l : Launch} {r : Nat} {a1 : Int32} (hr : isNet r) {σ : St} {o : (Int32 × St)} (hF : F_X4_isPipe r a1 σ = some o) : Con G l yX4_isPipe cX4_isPipe 2 (some .boolean) 0 [.ref (ga G r), .int a1] σ (some (.int o.1)) o.2 := by
  refine Con.of plX4 (Nat.le_of_ble_eq_true rfl) [(0, .ref (ga G r)), (1, .int a1)] rfl (fun X F R => ?_)
  refine (show Sim G X 2 o (F_X4_isPipe r a1 σ) σ 0 [(0, .ref (ga G r)), (1, .int a1)] [] from ?_) hF
  unfold F_X4_isPipe
  refine s_iload_n F 1 dX4_isPipe_0 rfl rfl ?_
  refine s_if_lt F 18 dX4_isPipe_1 (by decide) (fun c3 => ?_) (fun c3 => ?_)
  · refine s_iconst F (nI 0) dX4_isPipe_18 rfl ?_
    exact s_zret R dX4_isPipe_19 rfl
  · refine s_iload_n F 1 dX4_isPipe_4 rfl rfl ?_
    refine s_aload_n F 0 dX4_isPipe_5 rfl rfl ?_
    refine fg_X4_9 F hr (c := r + 1) rfl dX4_isPipe_6 ?_
    refine s_iconst F (nI 2) dX4_isPipe_9 rfl ?_
    refine s_iald F (isNet.cells hr) dX4_isPipe_10 (fun q1 => ?_)
    refine s_icmp_ge F 18 dX4_isPipe_11 (by decide) (fun c2 => ?_) (fun c2 => ?_)
    · refine s_iconst F (nI 0) dX4_isPipe_18 rfl ?_
      exact s_zret R dX4_isPipe_19 rfl
    · refine s_iconst F (nI 1) dX4_isPipe_14 rfl ?_
      refine s_goto F 19 dX4_isPipe_15 (by decide) ?_
      exact s_zret R dX4_isPipe_19 rfl
/-! X4_isOpen -/
def F_X4_isOpen (r : Nat) (a1 : Int32) (σ : St) : Option (Int32 × St) := if ix (nI 3) 80 then if (((σ.1 (r + 1) (nI 3).toNatClampNeg) >>> (a1 &&& 31)) &&& (nI 1)) = (nI 1) then (some ((nI 1), σ)) else (some ((nI 0), σ)) else none
set_option maxRecDepth 20000 in
theorem c_X4_isOpen {G : Gx} {l : Launch} {r : Nat} {a1 : Int32} (hr : isNet r) {σ : St} {o : (Int32 × St)} (hF : F_X4_isOpen r a1 σ = some o) : Con G l yX4_isOpen cX4_isOpen 2 (some .boolean) 0 [.ref (ga G r), .int a1] σ (some (.int o.1)) o.2 := by
  refine Con.of plX4 (Nat.le_of_ble_eq_true rfl) [(0, .ref (ga G r)), (1, .int a1)] rfl (fun X F R => ?_)
  refine (show Sim G X 2 o (F_X4_isOpen r a1 σ) σ 0 [(0, .ref (ga G r)), (1, .int a1)] [] from ?_) hF
  unfold F_X4_isOpen
  refine s_aload_n F 0 dX4_isOpen_0 rfl rfl ?_
  refine fg_X4_9 F hr (c := r + 1) rfl dX4_isOpen_1 ?_
  refine s_iconst F (nI 3) dX4_isOpen_4 rfl ?_
  refine s_iald F (isNet.cells hr) dX4_isOpen_5 (fun q1 => ?_)
  refine s_iload_n F 1 dX4_isOpen_6 rfl rfl ?_
  refine s_ishr F dX4_isOpen_7 ?_
  refine s_iconst F (nI 1) dX4_isOpen_8 rfl ?_
  refine s_iand F dX4_isOpen_9 ?_
  refine s_iconst F (nI 1) dX4_isOpen_10 rfl ?_
  refine s_icmp_ne F 18 dX4_isOpen_11 (by decide) (fun c2 => ?_) (fun c2 => ?_)
  · refine s_iconst F (nI 0) dX4_isOpen_18 rfl ?_
    exact s_zret R dX4_isOpen_19 rfl
  · refine s_iconst F (nI 1) dX4_isOpen_14 rfl ?_
    refine s_goto F 19 dX4_isOpen_15 (by decide) ?_
    exact s_zret R dX4_isOpen_19 rfl
/-! X4_allHorns -/
def F_X4_allHorns (r : Nat) (σ : St) : Option (Int32 × St) := if ix (nI 0) 80 then some (((nI 1) <<< ((σ.1 (r + 1) (nI 0).toNatClampNeg) &&& 31)) - (nI 1), σ) else none
set_option maxRecDepth 20000 in
theorem c_X4_allHorns {G : Gx} {l : Launch} {r : Nat} (hr : isNet r) {σ : St} {o : (Int32 × St)} (hF : F_X4_allHorns r σ = some o) : Con G l yX4_allHorns cX4_allHorns 1 (some .int) 0 [.ref (ga G r)] σ (some (.int o.1)) o.2 := by
  refine Con.of plX4 (Nat.le_of_ble_eq_true rfl) [(0, .ref (ga G r))] rfl (fun X F R => ?_)
  refine (show Sim G X 1 o (F_X4_allHorns r σ) σ 0 [(0, .ref (ga G r))] [] from ?_) hF
  unfold F_X4_allHorns
  refine s_iconst F (nI 1) dX4_allHorns_0 rfl ?_
  refine s_aload_n F 0 dX4_allHorns_1 rfl rfl ?_
  refine fg_X4_9 F hr (c := r + 1) rfl dX4_allHorns_2 ?_
  refine s_iconst F (nI 0) dX4_allHorns_5 rfl ?_
  refine s_iald F (isNet.cells hr) dX4_allHorns_6 (fun q1 => ?_)
  refine s_ishl F dX4_allHorns_7 ?_
  refine s_iconst F (nI 1) dX4_allHorns_8 rfl ?_
  refine s_isub F dX4_allHorns_9 ?_
  exact s_iret R dX4_allHorns_10
/-! X4_allPipes -/
def F_X4_allPipes (r : Nat) (σ : St) : Option (Int32 × St) := if ix (nI 2) 80 then some (((nI 1) <<< ((σ.1 (r + 1) (nI 2).toNatClampNeg) &&& 31)) - (nI 1), σ) else none
set_option maxRecDepth 20000 in
theorem c_X4_allPipes {G : Gx} {l : Launch} {r : Nat} (hr : isNet r) {σ : St} {o : (Int32 × St)} (hF : F_X4_allPipes r σ = some o) : Con G l yX4_allPipes cX4_allPipes 1 (some .int) 0 [.ref (ga G r)] σ (some (.int o.1)) o.2 := by
  refine Con.of plX4 (Nat.le_of_ble_eq_true rfl) [(0, .ref (ga G r))] rfl (fun X F R => ?_)
  refine (show Sim G X 1 o (F_X4_allPipes r σ) σ 0 [(0, .ref (ga G r))] [] from ?_) hF
  unfold F_X4_allPipes
  refine s_iconst F (nI 1) dX4_allPipes_0 rfl ?_
  refine s_aload_n F 0 dX4_allPipes_1 rfl rfl ?_
  refine fg_X4_9 F hr (c := r + 1) rfl dX4_allPipes_2 ?_
  refine s_iconst F (nI 2) dX4_allPipes_5 rfl ?_
  refine s_iald F (isNet.cells hr) dX4_allPipes_6 (fun q1 => ?_)
  refine s_ishl F dX4_allPipes_7 ?_
  refine s_iconst F (nI 1) dX4_allPipes_8 rfl ?_
  refine s_isub F dX4_allPipes_9 ?_
  exact s_iret R dX4_allPipes_10
/-! X4_pipesWith -/
def L_X4_pipesWith_5 (r : Nat) (K : Int32 → St → Option (Int32 × St)) : Nat → Int32 → Int32 → Int32 → Int32 → St → Option (Int32 × St)
  | 0, _, _, _, _, _ => none
  | n + 1, a1, a2, a3, a4, σ => if ix (nI 2) 80 then if (σ.1 (r + 1) (nI 2).toNatClampNeg) ≤ a4 then (K a3 σ) else (if ix (a1 + a4) 80 then if (σ.1 (r + 1) (a1 + a4).toNatClampNeg) = a2 then (L_X4_pipesWith_5 r K n a1 a2 (a3 ||| ((nI 1) <<< (a4 &&& 31))) (a4 + (nI 1)) σ) else (L_X4_pipesWith_5 r K n a1 a2 a3 (a4 + (nI 1)) σ) else none) else none
def F_X4_pipesWith (r : Nat) (a1 : Int32) (a2 : Int32) (σ : St) : Option (Int32 × St) := L_X4_pipesWith_5 r (fun a3 σ => some (a3, σ)) fuel a1 a2 (nI 0) (nI 0) σ
set_option maxRecDepth 20000 in
theorem l_X4_pipesWith_5 {G : Gx} {X : Cx} (F : Fx G X cX4_pipesWith 5 RX4 0) {o : (Int32 × St)} (R : Ret G X cX4_pipesWith 5 (some .int) (some (.int o.1)) o.2) {r : Nat} (hr : isNet r) {K : Int32 → St → Option (Int32 × St)} (hK : ∀ (a3 : Int32) (σ : St), Sim G X 5 o (K a3 σ) σ 42 [(3, .int a3)] []) : ∀ (n : Nat) (a1 : Int32) (a2 : Int32) (a3 : Int32) (a4 : Int32) (σ : St), Sim G X 5 o (L_X4_pipesWith_5 r K n a1 a2 a3 a4 σ) σ 5 [(0, .ref (ga G r)), (1, .int a1), (2, .int a2), (3, .int a3), (4, .int a4)] [] := by
  intro n
  induction n with
  | zero =>
    intro a1 a2 a3 a4 σ
    exact s_none
  | succ n ih =>
    intro a1 a2 a3 a4 σ
    rw [L_X4_pipesWith_5.eq_2]
    refine s_iload F 4 dX4_pipesWith_5 rfl ?_
    refine s_aload_n F 0 dX4_pipesWith_7 rfl rfl ?_
    refine fg_X4_9 F hr (c := r + 1) rfl dX4_pipesWith_8 ?_
    refine s_iconst F (nI 2) dX4_pipesWith_11 rfl ?_
    refine s_iald F (isNet.cells hr) dX4_pipesWith_12 (fun q1 => ?_)
    refine s_icmp_ge F 42 dX4_pipesWith_13 (by decide) (fun c4 => ?_) (fun c4 => ?_)
    · refine s_lv [(3, .int a3)] [3] rfl ?_
      exact hK _ _
    · refine s_aload_n F 0 dX4_pipesWith_16 rfl rfl ?_
      refine fg_X4_9 F hr (c := r + 1) rfl dX4_pipesWith_17 ?_
      refine s_iload_n F 1 dX4_pipesWith_20 rfl rfl ?_
      refine s_iload F 4 dX4_pipesWith_21 rfl ?_
      refine s_iadd F dX4_pipesWith_23 ?_
      refine s_iald F (isNet.cells hr) dX4_pipesWith_24 (fun q2 => ?_)
      refine s_iload_n F 2 dX4_pipesWith_25 rfl rfl ?_
      refine s_icmp_ne F 36 dX4_pipesWith_26 (by decide) (fun c3 => ?_) (fun c3 => ?_)
      · refine s_iinc F 4 [(4, .int (a4 + (nI 1))), (0, .ref (ga G r)), (1, .int a1), (2, .int a2), (3, .int a3)] dX4_pipesWith_36 rfl rfl (by decide) rfl ?_
        refine s_goto F 5 dX4_pipesWith_39 (by decide) ?_
        refine s_lv [(0, .ref (ga G r)), (1, .int a1), (2, .int a2), (3, .int a3), (4, .int (a4 + (nI 1)))] [1, 2, 3, 4, 0] rfl ?_
        exact ih _ _ _ _ _
      · refine s_iload_n F 3 dX4_pipesWith_29 rfl rfl ?_
        refine s_iconst F (nI 1) dX4_pipesWith_30 rfl ?_
        refine s_iload F 4 dX4_pipesWith_31 rfl ?_
        refine s_ishl F dX4_pipesWith_33 ?_
        refine s_ior F dX4_pipesWith_34 ?_
        refine s_istore_n F [(3, .int (a3 ||| ((nI 1) <<< (a4 &&& 31)))), (0, .ref (ga G r)), (1, .int a1), (2, .int a2), (4, .int a4)] dX4_pipesWith_35 rfl (by decide) rfl ?_
        refine s_iinc F 4 [(4, .int (a4 + (nI 1))), (3, .int (a3 ||| ((nI 1) <<< (a4 &&& 31)))), (0, .ref (ga G r)), (1, .int a1), (2, .int a2)] dX4_pipesWith_36 rfl rfl (by decide) rfl ?_
        refine s_goto F 5 dX4_pipesWith_39 (by decide) ?_
        refine s_lv [(0, .ref (ga G r)), (1, .int a1), (2, .int a2), (3, .int (a3 ||| ((nI 1) <<< (a4 &&& 31)))), (4, .int (a4 + (nI 1)))] [2, 3, 4, 1, 0] rfl ?_
        exact ih _ _ _ _ _
set_option maxRecDepth 20000 in
theorem c_X4_pipesWith {G : Gx} {l : Launch} {r : Nat} {a1 : Int32} {a2 : Int32} (hr : isNet r) {σ : St} {o : (Int32 × St)} (hF : F_X4_pipesWith r a1 a2 σ = some o) : Con G l yX4_pipesWith cX4_pipesWith 5 (some .int) 0 [.ref (ga G r), .int a1, .int a2] σ (some (.int o.1)) o.2 := by
  refine Con.of plX4 (Nat.le_of_ble_eq_true rfl) [(0, .ref (ga G r)), (1, .int a1), (2, .int a2)] rfl (fun X F R => ?_)
  refine (show Sim G X 5 o (F_X4_pipesWith r a1 a2 σ) σ 0 [(0, .ref (ga G r)), (1, .int a1), (2, .int a2)] [] from ?_) hF
  unfold F_X4_pipesWith
  refine s_iconst F (nI 0) dX4_pipesWith_0 rfl ?_
  refine s_istore_n F [(3, .int (nI 0)), (0, .ref (ga G r)), (1, .int a1), (2, .int a2)] dX4_pipesWith_1 rfl (by decide) rfl ?_
  refine s_iconst F (nI 0) dX4_pipesWith_2 rfl ?_
  refine s_istore F [(4, .int (nI 0)), (3, .int (nI 0)), (0, .ref (ga G r)), (1, .int a1), (2, .int a2)] dX4_pipesWith_3 (by decide) rfl ?_
  refine s_lv [(0, .ref (ga G r)), (1, .int a1), (2, .int a2), (3, .int (nI 0)), (4, .int (nI 0))] [2, 3, 4, 1, 0] rfl ?_
  refine l_X4_pipesWith_5 F R hr (fun a3 σ => ?_) fuel _ _ _ _ _
  refine s_iload_n F 0 dX4_pipesWith_42 rfl rfl ?_
  exact s_iret R dX4_pipesWith_43
/-! X4_soundsIn -/
def L_X4_soundsIn_9 (r : Nat) (K : Int32 → St → Option (Int32 × St)) : Nat → Int32 → Int32 → Int32 → St → Option (Int32 × St)
  | 0, _, _, _, _ => none
  | n + 1, a1, a2, a3, σ => if ((nI 40) + ((a1 + (nI 1)) * (nI 4))) ≤ a3 then (K a2 σ) else (if ix a3 80 then if (σ.1 (r + 1) a3.toNatClampNeg) = 0 then (L_X4_soundsIn_9 r K n a1 (a2 + (nI 0)) (a3 + (nI 1)) σ) else (L_X4_soundsIn_9 r K n a1 (a2 + (nI 1)) (a3 + (nI 1)) σ) else none)
def F_X4_soundsIn (r : Nat) (a1 : Int32) (σ : St) : Option (Int32 × St) := L_X4_soundsIn_9 r (fun a2 σ => some (a2, σ)) fuel a1 (nI 0) ((nI 40) + (a1 * (nI 4))) σ
set_option maxRecDepth 20000 in
theorem l_X4_soundsIn_9 {G : Gx} {X : Cx} (F : Fx G X cX4_soundsIn 4 RX4 0) {o : (Int32 × St)} (R : Ret G X cX4_soundsIn 4 (some .int) (some (.int o.1)) o.2) {r : Nat} (hr : isNet r) {K : Int32 → St → Option (Int32 × St)} (hK : ∀ (a2 : Int32) (σ : St), Sim G X 4 o (K a2 σ) σ 44 [(2, .int a2)] []) : ∀ (n : Nat) (a1 : Int32) (a2 : Int32) (a3 : Int32) (σ : St), Sim G X 4 o (L_X4_soundsIn_9 r K n a1 a2 a3 σ) σ 9 [(0, .ref (ga G r)), (1, .int a1), (2, .int a2), (3, .int a3)] [] := by
  intro n
  induction n with
  | zero =>
    intro a1 a2 a3 σ
    exact s_none
  | succ n ih =>
    intro a1 a2 a3 σ
    rw [L_X4_soundsIn_9.eq_2]
    refine s_iload_n F 3 dX4_soundsIn_9 rfl rfl ?_
    refine s_bipush F (nI 40) dX4_soundsIn_10 rfl ?_
    refine s_iload_n F 1 dX4_soundsIn_12 rfl rfl ?_
    refine s_iconst F (nI 1) dX4_soundsIn_13 rfl ?_
    refine s_iadd F dX4_soundsIn_14 ?_
    refine s_iconst F (nI 4) dX4_soundsIn_15 rfl ?_
    refine s_imul F dX4_soundsIn_16 ?_
    refine s_iadd F dX4_soundsIn_17 ?_
    refine s_icmp_ge F 44 dX4_soundsIn_18 (by decide) (fun c3 => ?_) (fun c3 => ?_)
    · refine s_lv [(2, .int a2)] [2] rfl ?_
      exact hK _ _
    · refine s_iload_n F 2 dX4_soundsIn_21 rfl rfl ?_
      refine s_aload_n F 0 dX4_soundsIn_22 rfl rfl ?_
      refine fg_X4_9 F hr (c := r + 1) rfl dX4_soundsIn_23 ?_
      refine s_iload_n F 3 dX4_soundsIn_26 rfl rfl ?_
      refine s_iald F (isNet.cells hr) dX4_soundsIn_27 (fun q1 => ?_)
      refine s_if_ne F 35 dX4_soundsIn_28 (by decide) (fun c2 => ?_) (fun c2 => ?_)
      · refine s_iconst F (nI 1) dX4_soundsIn_35 rfl ?_
        refine s_iadd F dX4_soundsIn_36 ?_
        refine s_istore_n F [(2, .int (a2 + (nI 1))), (0, .ref (ga G r)), (1, .int a1), (3, .int a3)] dX4_soundsIn_37 rfl (by decide) rfl ?_
        refine s_iinc F 3 [(3, .int (a3 + (nI 1))), (2, .int (a2 + (nI 1))), (0, .ref (ga G r)), (1, .int a1)] dX4_soundsIn_38 rfl rfl (by decide) rfl ?_
        refine s_goto F 9 dX4_soundsIn_41 (by decide) ?_
        refine s_lv [(0, .ref (ga G r)), (1, .int a1), (2, .int (a2 + (nI 1))), (3, .int (a3 + (nI 1)))] [2, 3, 1, 0] rfl ?_
        exact ih _ _ _ _
      · refine s_iconst F (nI 0) dX4_soundsIn_31 rfl ?_
        refine s_goto F 36 dX4_soundsIn_32 (by decide) ?_
        refine s_iadd F dX4_soundsIn_36 ?_
        refine s_istore_n F [(2, .int (a2 + (nI 0))), (0, .ref (ga G r)), (1, .int a1), (3, .int a3)] dX4_soundsIn_37 rfl (by decide) rfl ?_
        refine s_iinc F 3 [(3, .int (a3 + (nI 1))), (2, .int (a2 + (nI 0))), (0, .ref (ga G r)), (1, .int a1)] dX4_soundsIn_38 rfl rfl (by decide) rfl ?_
        refine s_goto F 9 dX4_soundsIn_41 (by decide) ?_
        refine s_lv [(0, .ref (ga G r)), (1, .int a1), (2, .int (a2 + (nI 0))), (3, .int (a3 + (nI 1)))] [2, 3, 1, 0] rfl ?_
        exact ih _ _ _ _
set_option maxRecDepth 20000 in
theorem c_X4_soundsIn {G : Gx} {l : Launch} {r : Nat} {a1 : Int32} (hr : isNet r) {σ : St} {o : (Int32 × St)} (hF : F_X4_soundsIn r a1 σ = some o) : Con G l yX4_soundsIn cX4_soundsIn 4 (some .int) 0 [.ref (ga G r), .int a1] σ (some (.int o.1)) o.2 := by
  refine Con.of plX4 (Nat.le_of_ble_eq_true rfl) [(0, .ref (ga G r)), (1, .int a1)] rfl (fun X F R => ?_)
  refine (show Sim G X 4 o (F_X4_soundsIn r a1 σ) σ 0 [(0, .ref (ga G r)), (1, .int a1)] [] from ?_) hF
  unfold F_X4_soundsIn
  refine s_iconst F (nI 0) dX4_soundsIn_0 rfl ?_
  refine s_istore_n F [(2, .int (nI 0)), (0, .ref (ga G r)), (1, .int a1)] dX4_soundsIn_1 rfl (by decide) rfl ?_
  refine s_bipush F (nI 40) dX4_soundsIn_2 rfl ?_
  refine s_iload_n F 2 dX4_soundsIn_4 rfl rfl ?_
  refine s_iconst F (nI 4) dX4_soundsIn_5 rfl ?_
  refine s_imul F dX4_soundsIn_6 ?_
  refine s_iadd F dX4_soundsIn_7 ?_
  refine s_istore_n F [(3, .int ((nI 40) + (a1 * (nI 4)))), (2, .int (nI 0)), (0, .ref (ga G r)), (1, .int a1)] dX4_soundsIn_8 rfl (by decide) rfl ?_
  refine s_lv [(0, .ref (ga G r)), (1, .int a1), (2, .int (nI 0)), (3, .int ((nI 40) + (a1 * (nI 4))))] [2, 3, 1, 0] rfl ?_
  refine l_X4_soundsIn_9 F R hr (fun a2 σ => ?_) fuel _ _ _ _
  refine s_iload_n F 0 dX4_soundsIn_44 rfl rfl ?_
  exact s_iret R dX4_soundsIn_45
/-! X4_soundsInAll -/
def L_X4_soundsInAll_4 (r : Nat) (K : Int32 → St → Option (Int32 × St)) : Nat → Int32 → Int32 → St → Option (Int32 × St)
  | 0, _, _, _ => none
  | n + 1, a1, a2, σ => if ix (nI 2) 80 then if (σ.1 (r + 1) (nI 2).toNatClampNeg) ≤ a2 then (K a1 σ) else ((F_X4_soundsIn r a2 σ).bind fun z2 => L_X4_soundsInAll_4 r K n (a1 + z2.1) (a2 + (nI 1)) z2.2) else none
def F_X4_soundsInAll (r : Nat) (σ : St) : Option (Int32 × St) := L_X4_soundsInAll_4 r (fun a1 σ => some (a1, σ)) fuel (nI 0) (nI 0) σ
set_option maxRecDepth 20000 in
theorem l_X4_soundsInAll_4 {G : Gx} {X : Cx} (F : Fx G X cX4_soundsInAll 3 RX4 1) {o : (Int32 × St)} (R : Ret G X cX4_soundsInAll 3 (some .int) (some (.int o.1)) o.2) {r : Nat} (hr : isNet r) {K : Int32 → St → Option (Int32 × St)} (hK : ∀ (a1 : Int32) (σ : St), Sim G X 3 o (K a1 σ) σ 28 [(1, .int a1)] []) : ∀ (n : Nat) (a1 : Int32) (a2 : Int32) (σ : St), Sim G X 3 o (L_X4_soundsInAll_4 r K n a1 a2 σ) σ 4 [(0, .ref (ga G r)), (1, .int a1), (2, .int a2)] [] := by
  intro n
  induction n with
  | zero =>
    intro a1 a2 σ
    exact s_none
  | succ n ih =>
    intro a1 a2 σ
    rw [L_X4_soundsInAll_4.eq_2]
    refine s_iload_n F 2 dX4_soundsInAll_4 rfl rfl ?_
    refine s_aload_n F 0 dX4_soundsInAll_5 rfl rfl ?_
    refine fg_X4_9 F hr (c := r + 1) rfl dX4_soundsInAll_6 ?_
    refine s_iconst F (nI 2) dX4_soundsInAll_9 rfl ?_
    refine s_iald F (isNet.cells hr) dX4_soundsInAll_10 (fun q1 => ?_)
    refine s_icmp_ge F 28 dX4_soundsInAll_11 (by decide) (fun c3 => ?_) (fun c3 => ?_)
    · refine s_lv [(1, .int a1)] [1] rfl ?_
      exact hK _ _
    · refine s_iload_n F 1 dX4_soundsInAll_14 rfl rfl ?_
      refine s_aload_n F 0 dX4_soundsInAll_15 rfl rfl ?_
      refine s_iload_n F 2 dX4_soundsInAll_16 rfl rfl ?_
      refine s_Vi F [.int a2] dX4_soundsInAll_17 (fun z hz => c_X4_soundsIn hr hz) wV_X4_22 nk_X4_soundsIn (by decide) (by decide) (isNet.obj hr) vc_3 rfl rfl (Nat.le_of_ble_eq_true rfl) (fun z2 => ?_)
      refine s_iadd F dX4_soundsInAll_20 ?_
      refine s_istore_n F [(1, .int (a1 + z2.1)), (0, .ref (ga G r)), (2, .int a2)] dX4_soundsInAll_21 rfl (by decide) rfl ?_
      refine s_iinc F 2 [(2, .int (a2 + (nI 1))), (1, .int (a1 + z2.1)), (0, .ref (ga G r))] dX4_soundsInAll_22 rfl rfl (by decide) rfl ?_
      refine s_goto F 4 dX4_soundsInAll_25 (by decide) ?_
      refine s_lv [(0, .ref (ga G r)), (1, .int (a1 + z2.1)), (2, .int (a2 + (nI 1)))] [2, 1, 0] rfl ?_
      exact ih _ _ _
set_option maxRecDepth 20000 in
theorem c_X4_soundsInAll {G : Gx} {l : Launch} {r : Nat} (hr : isNet r) {σ : St} {o : (Int32 × St)} (hF : F_X4_soundsInAll r σ = some o) : Con G l yX4_soundsInAll cX4_soundsInAll 3 (some .int) 1 [.ref (ga G r)] σ (some (.int o.1)) o.2 := by
  refine Con.of plX4 (Nat.le_of_ble_eq_true rfl) [(0, .ref (ga G r))] rfl (fun X F R => ?_)
  refine (show Sim G X 3 o (F_X4_soundsInAll r σ) σ 0 [(0, .ref (ga G r))] [] from ?_) hF
  unfold F_X4_soundsInAll
  refine s_iconst F (nI 0) dX4_soundsInAll_0 rfl ?_
  refine s_istore_n F [(1, .int (nI 0)), (0, .ref (ga G r))] dX4_soundsInAll_1 rfl (by decide) rfl ?_
  refine s_iconst F (nI 0) dX4_soundsInAll_2 rfl ?_
  refine s_istore_n F [(2, .int (nI 0)), (1, .int (nI 0)), (0, .ref (ga G r))] dX4_soundsInAll_3 rfl (by decide) rfl ?_
  refine s_lv [(0, .ref (ga G r)), (1, .int (nI 0)), (2, .int (nI 0))] [2, 1, 0] rfl ?_
  refine l_X4_soundsInAll_4 F R hr (fun a1 σ => ?_) fuel _ _ _
  refine s_iload_n F 0 dX4_soundsInAll_28 rfl rfl ?_
  exact s_iret R dX4_soundsInAll_29
/-! X4_isSilent -/
def L_X4_isSilent_3 (r : Nat) (K : St → Option (Int32 × St)) : Nat → Int32 → St → Option (Int32 × St)
  | 0, _, _ => none
  | n + 1, a1, σ => if (nI 68) ≤ a1 then (K σ) else (if ix a1 80 then if (σ.1 (r + 1) a1.toNatClampNeg) = 0 then (L_X4_isSilent_3 r K n (a1 + (nI 1)) σ) else (some ((nI 0), σ)) else none)
def F_X4_isSilent (r : Nat) (σ : St) : Option (Int32 × St) := L_X4_isSilent_3 r (fun σ => some ((nI 1), σ)) fuel (nI 40) σ
set_option maxRecDepth 20000 in
theorem l_X4_isSilent_3 {G : Gx} {X : Cx} (F : Fx G X cX4_isSilent 2 RX4 0) {o : (Int32 × St)} (R : Ret G X cX4_isSilent 2 (some .boolean) (some (.int o.1)) o.2) {r : Nat} (hr : isNet r) {K : St → Option (Int32 × St)} (hK : ∀ (σ : St), Sim G X 2 o (K σ) σ 26 [] []) : ∀ (n : Nat) (a1 : Int32) (σ : St), Sim G X 2 o (L_X4_isSilent_3 r K n a1 σ) σ 3 [(0, .ref (ga G r)), (1, .int a1)] [] := by
  intro n
  induction n with
  | zero =>
    intro a1 σ
    exact s_none
  | succ n ih =>
    intro a1 σ
    rw [L_X4_isSilent_3.eq_2]
    refine s_iload_n F 1 dX4_isSilent_3 rfl rfl ?_
    refine s_bipush F (nI 68) dX4_isSilent_4 rfl ?_
    refine s_icmp_ge F 26 dX4_isSilent_6 (by decide) (fun c3 => ?_) (fun c3 => ?_)
    · refine s_lv [] [] rfl ?_
      exact hK _
    · refine s_aload_n F 0 dX4_isSilent_9 rfl rfl ?_
      refine fg_X4_9 F hr (c := r + 1) rfl dX4_isSilent_10 ?_
      refine s_iload_n F 1 dX4_isSilent_13 rfl rfl ?_
      refine s_iald F (isNet.cells hr) dX4_isSilent_14 (fun q1 => ?_)
      refine s_if_eq F 20 dX4_isSilent_15 (by decide) (fun c2 => ?_) (fun c2 => ?_)
      · refine s_iinc F 1 [(1, .int (a1 + (nI 1))), (0, .ref (ga G r))] dX4_isSilent_20 rfl rfl (by decide) rfl ?_
        refine s_goto F 3 dX4_isSilent_23 (by decide) ?_
        refine s_lv [(0, .ref (ga G r)), (1, .int (a1 + (nI 1)))] [1, 0] rfl ?_
        exact ih _ _
      · refine s_iconst F (nI 0) dX4_isSilent_18 rfl ?_
        exact s_zret R dX4_isSilent_19 rfl
set_option maxRecDepth 20000 in
theorem c_X4_isSilent {G : Gx} {l : Launch} {r : Nat} (hr : isNet r) {σ : St} {o : (Int32 × St)} (hF : F_X4_isSilent r σ = some o) : Con G l yX4_isSilent cX4_isSilent 2 (some .boolean) 0 [.ref (ga G r)] σ (some (.int o.1)) o.2 := by
  refine Con.of plX4 (Nat.le_of_ble_eq_true rfl) [(0, .ref (ga G r))] rfl (fun X F R => ?_)
  refine (show Sim G X 2 o (F_X4_isSilent r σ) σ 0 [(0, .ref (ga G r))] [] from ?_) hF
  unfold F_X4_isSilent
  refine s_bipush F (nI 40) dX4_isSilent_0 rfl ?_
  refine s_istore_n F [(1, .int (nI 40)), (0, .ref (ga G r))] dX4_isSilent_2 rfl (by decide) rfl ?_
  refine s_lv [(0, .ref (ga G r)), (1, .int (nI 40))] [1, 0] rfl ?_
  refine l_X4_isSilent_3 F R hr (fun σ => ?_) fuel _ _
  refine s_iconst F (nI 1) dX4_isSilent_26 rfl ?_
  exact s_zret R dX4_isSilent_27 rfl
/-! X4_silence -/
def L_X4_silence_3 (r : Nat) (K : St → Option St) : Nat → Int32 → St → Option St
  | 0, _, _ => none
  | n + 1, a1, σ => if (nI 68) ≤ a1 then (K σ) else (if ix a1 80 then L_X4_silence_3 r K n (a1 + (nI 1)) (setA σ (r + 1) a1.toNatClampNeg (nI 0)) else none)
def F_X4_silence (r : Nat) (σ : St) : Option St := L_X4_silence_3 r (fun σ => some σ) fuel (nI 40) σ
set_option maxRecDepth 20000 in
theorem l_X4_silence_3 {G : Gx} {X : Cx} (F : Fx G X cX4_silence 2 RX4 0) {o : St} (R : Ret G X cX4_silence 2 none none o) {r : Nat} (hr : isNet r) {K : St → Option St} (hK : ∀ (σ : St), Sim G X 2 o (K σ) σ 22 [] []) : ∀ (n : Nat) (a1 : Int32) (σ : St), Sim G X 2 o (L_X4_silence_3 r K n a1 σ) σ 3 [(0, .ref (ga G r)), (1, .int a1)] [] := by
  intro n
  induction n with
  | zero =>
    intro a1 σ
    exact s_none
  | succ n ih =>
    intro a1 σ
    rw [L_X4_silence_3.eq_2]
    refine s_iload_n F 1 dX4_silence_3 rfl rfl ?_
    refine s_bipush F (nI 68) dX4_silence_4 rfl ?_
    refine s_icmp_ge F 22 dX4_silence_6 (by decide) (fun c2 => ?_) (fun c2 => ?_)
    · refine s_lv [] [] rfl ?_
      exact hK _
    · refine s_aload_n F 0 dX4_silence_9 rfl rfl ?_
      refine fg_X4_9 F hr (c := r + 1) rfl dX4_silence_10 ?_
      refine s_iload_n F 1 dX4_silence_13 rfl rfl ?_
      refine s_iconst F (nI 0) dX4_silence_14 rfl ?_
      refine s_iast F (isNet.cells hr) dX4_silence_15 (fun q1 => ?_)
      refine s_iinc F 1 [(1, .int (a1 + (nI 1))), (0, .ref (ga G r))] dX4_silence_16 rfl rfl (by decide) rfl ?_
      refine s_goto F 3 dX4_silence_19 (by decide) ?_
      refine s_lv [(0, .ref (ga G r)), (1, .int (a1 + (nI 1)))] [1, 0] rfl ?_
      exact ih _ _
set_option maxRecDepth 20000 in
theorem c_X4_silence {G : Gx} {l : Launch} {r : Nat} (hr : isNet r) {σ : St} {o : St} (hF : F_X4_silence r σ = some o) : Con G l yX4_silence cX4_silence 2 none 0 [.ref (ga G r)] σ none o := by
  refine Con.of plX4 (Nat.le_of_ble_eq_true rfl) [(0, .ref (ga G r))] rfl (fun X F R => ?_)
  refine (show Sim G X 2 o (F_X4_silence r σ) σ 0 [(0, .ref (ga G r))] [] from ?_) hF
  unfold F_X4_silence
  refine s_bipush F (nI 40) dX4_silence_0 rfl ?_
  refine s_istore_n F [(1, .int (nI 40)), (0, .ref (ga G r))] dX4_silence_2 rfl (by decide) rfl ?_
  refine s_lv [(0, .ref (ga G r)), (1, .int (nI 40))] [1, 0] rfl ?_
  refine l_X4_silence_3 F R hr (fun σ => ?_) fuel _ _
  exact s_vret R dX4_silence_22
/-! X4_letIn -/
def L_X4_letIn_6 (r : Nat) (K : Int32 → St → Option (Int32 × St)) : Nat → Int32 → Int32 → Int32 → Int32 → Int32 → St → Option (Int32 × St)
  | 0, _, _, _, _, _, _ => none
  | n + 1, a1, a2, a3, a4, a5, σ => if ix (nI 2) 80 then if (σ.1 (r + 1) (nI 2).toNatClampNeg) ≤ a5 then (K a4 σ) else (if ix ((nI 12) + a5) 80 then if (σ.1 (r + 1) ((nI 12) + a5).toNatClampNeg) = a1 then ((F_X4_isOpen r a5 σ).bind fun z3 => if z3.1 = 0 then (L_X4_letIn_6 r K n a1 a2 a3 a4 (a5 + (nI 1)) z3.2) else (if ix ((nI 40) + (a5 * (nI 4))) 80 then (F_X4_loudnessOf (z3.2.1 (r + 1) ((nI 40) + (a5 * (nI 4))).toNatClampNeg) z3.2).bind fun z5 => if a3 ≤ z5.1 then (L_X4_letIn_6 r K n a1 a2 a3 a4 (a5 + (nI 1)) z5.2) else ((F_X4_soundOf a2 a3 z5.2).bind fun z6 => if ix ((nI 40) + (a5 * (nI 4))) 80 then L_X4_letIn_6 r K n a1 a2 a3 (a4 + (nI 1)) (a5 + (nI 1)) (setA z6.2 (r + 1) ((nI 40) + (a5 * (nI 4))).toNatClampNeg z6.1) else none) else none)) else (L_X4_letIn_6 r K n a1 a2 a3 a4 (a5 + (nI 1)) σ) else none) else none
def F_X4_letIn (r : Nat) (a1 : Int32) (a2 : Int32) (a3 : Int32) (σ : St) : Option (Int32 × St) := L_X4_letIn_6 r (fun a4 σ => some (a4, σ)) fuel a1 a2 a3 (nI 0) (nI 0) σ
set_option maxRecDepth 20000 in
theorem l_X4_letIn_6 {G : Gx} {X : Cx} (F : Fx G X cX4_letIn 7 RX4 1) {o : (Int32 × St)} (R : Ret G X cX4_letIn 7 (some .int) (some (.int o.1)) o.2) {r : Nat} (hr : isNet r) {K : Int32 → St → Option (Int32 × St)} (hK : ∀ (a4 : Int32) (σ : St), Sim G X 7 o (K a4 σ) σ 84 [(4, .int a4)] []) : ∀ (n : Nat) (a1 : Int32) (a2 : Int32) (a3 : Int32) (a4 : Int32) (a5 : Int32) (σ : St), Sim G X 7 o (L_X4_letIn_6 r K n a1 a2 a3 a4 a5 σ) σ 6 [(0, .ref (ga G r)), (1, .int a1), (2, .int a2), (3, .int a3), (4, .int a4), (5, .int a5)] [] := by
  intro n
  induction n with
  | zero =>
    intro a1 a2 a3 a4 a5 σ
    exact s_none
  | succ n ih =>
    intro a1 a2 a3 a4 a5 σ
    rw [L_X4_letIn_6.eq_2]
    refine s_iload F 5 dX4_letIn_6 rfl ?_
    refine s_aload_n F 0 dX4_letIn_8 rfl rfl ?_
    refine fg_X4_9 F hr (c := r + 1) rfl dX4_letIn_9 ?_
    refine s_iconst F (nI 2) dX4_letIn_12 rfl ?_
    refine s_iald F (isNet.cells hr) dX4_letIn_13 (fun q1 => ?_)
    refine s_icmp_ge F 84 dX4_letIn_14 (by decide) (fun c11 => ?_) (fun c11 => ?_)
    · refine s_lv [(4, .int a4)] [4] rfl ?_
      exact hK _ _
    · refine s_bipush F (nI 40) dX4_letIn_17 rfl ?_
      refine s_iload F 5 dX4_letIn_19 rfl ?_
      refine s_iconst F (nI 4) dX4_letIn_21 rfl ?_
      refine s_imul F dX4_letIn_22 ?_
      refine s_iadd F dX4_letIn_23 ?_
      refine s_istore F [(6, .int ((nI 40) + (a5 * (nI 4)))), (0, .ref (ga G r)), (1, .int a1), (2, .int a2), (3, .int a3), (4, .int a4), (5, .int a5)] dX4_letIn_24 (by decide) rfl ?_
      refine s_aload_n F 1 dX4_letIn_26 rfl rfl ?_
      refine fg_X4_9 F hr (c := r + 1) rfl dX4_letIn_27 ?_
      refine s_bipush F (nI 12) dX4_letIn_30 rfl ?_
      refine s_iload F 6 dX4_letIn_32 rfl ?_
      refine s_iadd F dX4_letIn_34 ?_
      refine s_iald F (isNet.cells hr) dX4_letIn_35 (fun q2 => ?_)
      refine s_iload_n F 2 dX4_letIn_36 rfl rfl ?_
      refine s_icmp_ne F 78 dX4_letIn_37 (by decide) (fun c10 => ?_) (fun c10 => ?_)
      · refine s_iinc F 6 [(5, .int (a5 + (nI 1))), (6, .int ((nI 40) + (a5 * (nI 4)))), (0, .ref (ga G r)), (1, .int a1), (2, .int a2), (3, .int a3), (4, .int a4)] dX4_letIn_78 rfl rfl (by decide) rfl ?_
        refine s_goto F 6 dX4_letIn_81 (by decide) ?_
        refine s_lv [(0, .ref (ga G r)), (1, .int a1), (2, .int a2), (3, .int a3), (4, .int a4), (5, .int (a5 + (nI 1)))] [2, 3, 4, 5, 6, 0] rfl ?_
        exact ih _ _ _ _ _ _
      · refine s_aload_n F 1 dX4_letIn_40 rfl rfl ?_
        refine s_iload F 6 dX4_letIn_41 rfl ?_
        refine s_Vi F [.int a5] dX4_letIn_43 (fun z hz => c_X4_isOpen hr hz) wV_X4_26 nk_X4_isOpen (by decide) (by decide) (isNet.obj hr) vc_3 rfl rfl (Nat.le_of_ble_eq_true rfl) (fun z3 => ?_)
        refine s_if_eq F 78 dX4_letIn_46 (by decide) (fun c9 => ?_) (fun c9 => ?_)
        · refine s_iinc F 6 [(5, .int (a5 + (nI 1))), (6, .int ((nI 40) + (a5 * (nI 4)))), (0, .ref (ga G r)), (1, .int a1), (2, .int a2), (3, .int a3), (4, .int a4)] dX4_letIn_78 rfl rfl (by decide) rfl ?_
          refine s_goto F 6 dX4_letIn_81 (by decide) ?_
          refine s_lv [(0, .ref (ga G r)), (1, .int a1), (2, .int a2), (3, .int a3), (4, .int a4), (5, .int (a5 + (nI 1)))] [2, 3, 4, 5, 6, 0] rfl ?_
          exact ih _ _ _ _ _ _
        · refine s_aload_n F 1 dX4_letIn_49 rfl rfl ?_
          refine fg_X4_9 F hr (c := r + 1) rfl dX4_letIn_50 ?_
          refine s_iload F 0 dX4_letIn_53 rfl ?_
          refine s_iald F (isNet.cells hr) dX4_letIn_55 (fun q4 => ?_)
          refine s_Si F [.int (z3.2.1 (r + 1) ((nI 40) + (a5 * (nI 4))).toNatClampNeg)] dX4_letIn_56 (fun z hz => c_X4_loudnessOf hz) wS_X4_30 nk_X4_loudnessOf (by decide) (by decide) rfl rfl (Nat.le_of_ble_eq_true rfl) (fun z5 => ?_)
          refine s_iload_n F 4 dX4_letIn_59 rfl rfl ?_
          refine s_icmp_ge F 78 dX4_letIn_60 (by decide) (fun c8 => ?_) (fun c8 => ?_)
          · refine s_iinc F 6 [(5, .int (a5 + (nI 1))), (6, .int ((nI 40) + (a5 * (nI 4)))), (0, .ref (ga G r)), (1, .int a1), (2, .int a2), (3, .int a3), (4, .int a4)] dX4_letIn_78 rfl rfl (by decide) rfl ?_
            refine s_goto F 6 dX4_letIn_81 (by decide) ?_
            refine s_lv [(0, .ref (ga G r)), (1, .int a1), (2, .int a2), (3, .int a3), (4, .int a4), (5, .int (a5 + (nI 1)))] [2, 3, 4, 5, 6, 0] rfl ?_
            exact ih _ _ _ _ _ _
          · refine s_aload_n F 1 dX4_letIn_63 rfl rfl ?_
            refine fg_X4_9 F hr (c := r + 1) rfl dX4_letIn_64 ?_
            refine s_iload F 0 dX4_letIn_67 rfl ?_
            refine s_iload_n F 3 dX4_letIn_69 rfl rfl ?_
            refine s_iload_n F 4 dX4_letIn_70 rfl rfl ?_
            refine s_Si F [.int a2, .int a3] dX4_letIn_71 (fun z hz => c_X4_soundOf hz) wS_X4_33 nk_X4_soundOf (by decide) (by decide) rfl rfl (Nat.le_of_ble_eq_true rfl) (fun z6 => ?_)
            refine s_iast F (isNet.cells hr) dX4_letIn_74 (fun q7 => ?_)
            refine s_iinc F 5 [(4, .int (a4 + (nI 1))), (6, .int ((nI 40) + (a5 * (nI 4)))), (0, .ref (ga G r)), (1, .int a1), (2, .int a2), (3, .int a3), (5, .int a5)] dX4_letIn_75 rfl rfl (by decide) rfl ?_
            refine s_iinc F 6 [(5, .int (a5 + (nI 1))), (4, .int (a4 + (nI 1))), (6, .int ((nI 40) + (a5 * (nI 4)))), (0, .ref (ga G r)), (1, .int a1), (2, .int a2), (3, .int a3)] dX4_letIn_78 rfl rfl (by decide) rfl ?_
            refine s_goto F 6 dX4_letIn_81 (by decide) ?_
            refine s_lv [(0, .ref (ga G r)), (1, .int a1), (2, .int a2), (3, .int a3), (4, .int (a4 + (nI 1))), (5, .int (a5 + (nI 1)))] [3, 4, 5, 6, 1, 0] rfl ?_
            exact ih _ _ _ _ _ _
set_option maxRecDepth 20000 in
theorem c_X4_letIn {G : Gx} {l : Launch} {r : Nat} {a1 : Int32} {a2 : Int32} {a3 : Int32} (hr : isNet r) {σ : St} {o : (Int32 × St)} (hF : F_X4_letIn r a1 a2 a3 σ = some o) : Con G l yX4_letIn cX4_letIn 7 (some .int) 1 [.ref (ga G r), .int a1, .int a2, .int a3] σ (some (.int o.1)) o.2 := by
  refine Con.of plX4 (Nat.le_of_ble_eq_true rfl) [(0, .ref (ga G r)), (1, .int a1), (2, .int a2), (3, .int a3)] rfl (fun X F R => ?_)
  refine (show Sim G X 7 o (F_X4_letIn r a1 a2 a3 σ) σ 0 [(0, .ref (ga G r)), (1, .int a1), (2, .int a2), (3, .int a3)] [] from ?_) hF
  unfold F_X4_letIn
  refine s_iconst F (nI 0) dX4_letIn_0 rfl ?_
  refine s_istore F [(4, .int (nI 0)), (0, .ref (ga G r)), (1, .int a1), (2, .int a2), (3, .int a3)] dX4_letIn_1 (by decide) rfl ?_
  refine s_iconst F (nI 0) dX4_letIn_3 rfl ?_
  refine s_istore F [(5, .int (nI 0)), (4, .int (nI 0)), (0, .ref (ga G r)), (1, .int a1), (2, .int a2), (3, .int a3)] dX4_letIn_4 (by decide) rfl ?_
  refine s_lv [(0, .ref (ga G r)), (1, .int a1), (2, .int a2), (3, .int a3), (4, .int (nI 0)), (5, .int (nI 0))] [2, 3, 4, 5, 1, 0] rfl ?_
  refine l_X4_letIn_6 F R hr (fun a4 σ => ?_) fuel _ _ _ _ _ _
  refine s_iload F 0 dX4_letIn_84 rfl ?_
  exact s_iret R dX4_letIn_86
/-! X4_comesOut -/
def J_X4_comesOut_100 (r : Nat) (a5 : Int32) (a6 : Int32) (σ : St) : Option (Int32 × St) := if a6 ≤ 0 then (some ((nI 0), σ)) else ((F_X4_soundOf a5 a6 σ).bind fun z5 => some (z5.1, z5.2))
def J_X4_comesOut_90 (r : Nat) (a4 : Int32) (a5 : Int32) (a6 : Int32) (σ : St) : Option (Int32 × St) := J_X4_comesOut_100 r ((a5 + a4) - (a5 + a4) / (nI 10) * (nI 10)) a6 σ
def J_X4_comesOut_80 (r : Nat) (a3 : Int32) (a4 : Int32) (a5 : Int32) (a6 : Int32) (σ : St) : Option (Int32 × St) := if a3 = (nI 2) then (J_X4_comesOut_90 r a4 a5 a6 σ) else (if a3 = (nI 5) then (J_X4_comesOut_90 r a4 a5 a6 σ) else (J_X4_comesOut_100 r a5 a6 σ))
def J_X4_comesOut_68 (r : Nat) (a3 : Int32) (a4 : Int32) (a5 : Int32) (a6 : Int32) (σ : St) : Option (Int32 × St) := if a3 = (nI 3) then (J_X4_comesOut_80 r a3 a4 a5 (a6 - a4) σ) else (J_X4_comesOut_80 r a3 a4 a5 a6 σ)
def J_X4_comesOut_48 (r : Nat) (a3 : Int32) (a4 : Int32) (a5 : Int32) (a6 : Int32) (σ : St) : Option (Int32 × St) := J_X4_comesOut_68 r a3 a4 a5 (a6 / (nI 2)) σ
def F_X4_comesOut (r : Nat) (a1 : Int32) (a2 : Int32) (σ : St) : Option (Int32 × St) := if a2 = 0 then (some ((nI 0), σ)) else (if ix ((nI 5) + a1) 80 then if ix ((nI 33) + a1) 80 then (F_X4_wordOf a2 σ).bind fun z3 => (F_X4_loudnessOf a2 z3.2).bind fun z4 => if (σ.1 (r + 1) ((nI 5) + a1).toNatClampNeg) = (nI 4) then (J_X4_comesOut_48 r (σ.1 (r + 1) ((nI 5) + a1).toNatClampNeg) (σ.1 (r + 1) ((nI 33) + a1).toNatClampNeg) z3.1 z4.1 z4.2) else (if (σ.1 (r + 1) ((nI 5) + a1).toNatClampNeg) = (nI 5) then (J_X4_comesOut_48 r (σ.1 (r + 1) ((nI 5) + a1).toNatClampNeg) (σ.1 (r + 1) ((nI 33) + a1).toNatClampNeg) z3.1 z4.1 z4.2) else (if ix (nI 1) 80 then J_X4_comesOut_68 r (σ.1 (r + 1) ((nI 5) + a1).toNatClampNeg) (σ.1 (r + 1) ((nI 33) + a1).toNatClampNeg) z3.1 (z4.1 - (z4.2.1 (r + 1) (nI 1).toNatClampNeg)) z4.2 else none)) else none else none)
set_option maxRecDepth 20000 in
theorem j_X4_comesOut_100 {G : Gx} {X : Cx} (F : Fx G X cX4_comesOut 7 RX4 1) {o : (Int32 × St)} (R : Ret G X cX4_comesOut 7 (some .int) (some (.int o.1)) o.2) {r : Nat} (hr : isNet r) (a5 : Int32) (a6 : Int32) (σ : St) : Sim G X 7 o (J_X4_comesOut_100 r a5 a6 σ) σ 100 [(5, .int a5), (6, .int a6)] [] := by
  unfold J_X4_comesOut_100
  refine s_iload F 1 dX4_comesOut_100 rfl ?_
  refine s_if_le F 115 dX4_comesOut_102 (by decide) (fun c6 => ?_) (fun c6 => ?_)
  · refine s_iconst F (nI 0) dX4_comesOut_115 rfl ?_
    exact s_iret R dX4_comesOut_116
  · refine s_iload F 0 dX4_comesOut_105 rfl ?_
    refine s_iload F 1 dX4_comesOut_107 rfl ?_
    refine s_Si F [.int a5, .int a6] dX4_comesOut_109 (fun z hz => c_X4_soundOf hz) wS_X4_33 nk_X4_soundOf (by decide) (by decide) rfl rfl (Nat.le_of_ble_eq_true rfl) (fun z5 => ?_)
    refine s_goto F 116 dX4_comesOut_112 (by decide) ?_
    exact s_iret R dX4_comesOut_116
set_option maxRecDepth 20000 in
theorem j_X4_comesOut_90 {G : Gx} {X : Cx} (F : Fx G X cX4_comesOut 7 RX4 1) {o : (Int32 × St)} (R : Ret G X cX4_comesOut 7 (some .int) (some (.int o.1)) o.2) {r : Nat} (hr : isNet r) (a4 : Int32) (a5 : Int32) (a6 : Int32) (σ : St) : Sim G X 7 o (J_X4_comesOut_90 r a4 a5 a6 σ) σ 90 [(4, .int a4), (5, .int a5), (6, .int a6)] [] := by
  unfold J_X4_comesOut_90
  refine s_iload F 1 dX4_comesOut_90 rfl ?_
  refine s_iload F 0 dX4_comesOut_92 rfl ?_
  refine s_iadd F dX4_comesOut_94 ?_
  refine s_bipush F (nI 10) dX4_comesOut_95 rfl ?_
  refine s_iremc F dX4_comesOut_97 (by decide) ?_
  refine s_istore F [(5, .int ((a5 + a4) - (a5 + a4) / (nI 10) * (nI 10))), (4, .int a4), (6, .int a6)] dX4_comesOut_98 (by decide) rfl ?_
  refine s_lv [(5, .int ((a5 + a4) - (a5 + a4) / (nI 10) * (nI 10))), (6, .int a6)] [0, 2] rfl ?_
  exact j_X4_comesOut_100 F R hr _ _ _
set_option maxRecDepth 20000 in
theorem j_X4_comesOut_80 {G : Gx} {X : Cx} (F : Fx G X cX4_comesOut 7 RX4 1) {o : (Int32 × St)} (R : Ret G X cX4_comesOut 7 (some .int) (some (.int o.1)) o.2) {r : Nat} (hr : isNet r) (a3 : Int32) (a4 : Int32) (a5 : Int32) (a6 : Int32) (σ : St) : Sim G X 7 o (J_X4_comesOut_80 r a3 a4 a5 a6 σ) σ 80 [(3, .int a3), (4, .int a4), (5, .int a5), (6, .int a6)] [] := by
  unfold J_X4_comesOut_80
  refine s_iload_n F 0 dX4_comesOut_80 rfl rfl ?_
  refine s_iconst F (nI 2) dX4_comesOut_81 rfl ?_
  refine s_icmp_eq F 90 dX4_comesOut_82 (by decide) (fun c8 => ?_) (fun c8 => ?_)
  · refine s_lv [(4, .int a4), (5, .int a5), (6, .int a6)] [1, 2, 3] rfl ?_
    exact j_X4_comesOut_90 F R hr _ _ _ _
  · refine s_iload_n F 0 dX4_comesOut_85 rfl rfl ?_
    refine s_iconst F (nI 5) dX4_comesOut_86 rfl ?_
    refine s_icmp_ne F 100 dX4_comesOut_87 (by decide) (fun c7 => ?_) (fun c7 => ?_)
    · refine s_lv [(5, .int a5), (6, .int a6)] [2, 3] rfl ?_
      exact j_X4_comesOut_100 F R hr _ _ _
    · refine s_lv [(4, .int a4), (5, .int a5), (6, .int a6)] [1, 2, 3] rfl ?_
      exact j_X4_comesOut_90 F R hr _ _ _ _
set_option maxRecDepth 20000 in
theorem j_X4_comesOut_68 {G : Gx} {X : Cx} (F : Fx G X cX4_comesOut 7 RX4 1) {o : (Int32 × St)} (R : Ret G X cX4_comesOut 7 (some .int) (some (.int o.1)) o.2) {r : Nat} (hr : isNet r) (a3 : Int32) (a4 : Int32) (a5 : Int32) (a6 : Int32) (σ : St) : Sim G X 7 o (J_X4_comesOut_68 r a3 a4 a5 a6 σ) σ 68 [(3, .int a3), (4, .int a4), (5, .int a5), (6, .int a6)] [] := by
  unfold J_X4_comesOut_68
  refine s_iload_n F 0 dX4_comesOut_68 rfl rfl ?_
  refine s_iconst F (nI 3) dX4_comesOut_69 rfl ?_
  refine s_icmp_ne F 80 dX4_comesOut_70 (by decide) (fun c9 => ?_) (fun c9 => ?_)
  · exact j_X4_comesOut_80 F R hr _ _ _ _ _
  · refine s_iload F 3 dX4_comesOut_73 rfl ?_
    refine s_iload F 1 dX4_comesOut_75 rfl ?_
    refine s_isub F dX4_comesOut_77 ?_
    refine s_istore F [(6, .int (a6 - a4)), (3, .int a3), (4, .int a4), (5, .int a5)] dX4_comesOut_78 (by decide) rfl ?_
    refine s_lv [(3, .int a3), (4, .int a4), (5, .int a5), (6, .int (a6 - a4))] [1, 2, 3, 0] rfl ?_
    exact j_X4_comesOut_80 F R hr _ _ _ _ _
set_option maxRecDepth 20000 in
theorem j_X4_comesOut_48 {G : Gx} {X : Cx} (F : Fx G X cX4_comesOut 7 RX4 1) {o : (Int32 × St)} (R : Ret G X cX4_comesOut 7 (some .int) (some (.int o.1)) o.2) {r : Nat} (hr : isNet r) (a3 : Int32) (a4 : Int32) (a5 : Int32) (a6 : Int32) (σ : St) : Sim G X 7 o (J_X4_comesOut_48 r a3 a4 a5 a6 σ) σ 48 [(3, .int a3), (4, .int a4), (5, .int a5), (6, .int a6)] [] := by
  unfold J_X4_comesOut_48
  refine s_iload F 3 dX4_comesOut_48 rfl ?_
  refine s_iconst F (nI 2) dX4_comesOut_50 rfl ?_
  refine s_idivc F dX4_comesOut_51 (by decide) ?_
  refine s_istore F [(6, .int (a6 / (nI 2))), (3, .int a3), (4, .int a4), (5, .int a5)] dX4_comesOut_52 (by decide) rfl ?_
  refine s_goto F 68 dX4_comesOut_54 (by decide) ?_
  refine s_lv [(3, .int a3), (4, .int a4), (5, .int a5), (6, .int (a6 / (nI 2)))] [1, 2, 3, 0] rfl ?_
  exact j_X4_comesOut_68 F R hr _ _ _ _ _
set_option maxRecDepth 20000 in
theorem c_X4_comesOut {G : Gx} {l : Launch} {r : Nat} {a1 : Int32} {a2 : Int32} (hr : isNet r) {σ : St} {o : (Int32 × St)} (hF : F_X4_comesOut r a1 a2 σ = some o) : Con G l yX4_comesOut cX4_comesOut 7 (some .int) 1 [.ref (ga G r), .int a1, .int a2] σ (some (.int o.1)) o.2 := by
  refine Con.of plX4 (Nat.le_of_ble_eq_true rfl) [(0, .ref (ga G r)), (1, .int a1), (2, .int a2)] rfl (fun X F R => ?_)
  refine (show Sim G X 7 o (F_X4_comesOut r a1 a2 σ) σ 0 [(0, .ref (ga G r)), (1, .int a1), (2, .int a2)] [] from ?_) hF
  unfold F_X4_comesOut
  refine s_iload_n F 2 dX4_comesOut_0 rfl rfl ?_
  refine s_if_ne F 6 dX4_comesOut_1 (by decide) (fun c13 => ?_) (fun c13 => ?_)
  · refine s_aload_n F 0 dX4_comesOut_6 rfl rfl ?_
    refine fg_X4_9 F hr (c := r + 1) rfl dX4_comesOut_7 ?_
    refine s_iconst F (nI 5) dX4_comesOut_10 rfl ?_
    refine s_iload_n F 1 dX4_comesOut_11 rfl rfl ?_
    refine s_iadd F dX4_comesOut_12 ?_
    refine s_iald F (isNet.cells hr) dX4_comesOut_13 (fun q1 => ?_)
    refine s_istore_n F [(3, .int (σ.1 (r + 1) ((nI 5) + a1).toNatClampNeg)), (0, .ref (ga G r)), (1, .int a1), (2, .int a2)] dX4_comesOut_14 rfl (by decide) rfl ?_
    refine s_aload_n F 1 dX4_comesOut_15 rfl rfl ?_
    refine fg_X4_9 F hr (c := r + 1) rfl dX4_comesOut_16 ?_
    refine s_bipush F (nI 33) dX4_comesOut_19 rfl ?_
    refine s_iload_n F 2 dX4_comesOut_21 rfl rfl ?_
    refine s_iadd F dX4_comesOut_22 ?_
    refine s_iald F (isNet.cells hr) dX4_comesOut_23 (fun q2 => ?_)
    refine s_istore F [(4, .int (σ.1 (r + 1) ((nI 33) + a1).toNatClampNeg)), (3, .int (σ.1 (r + 1) ((nI 5) + a1).toNatClampNeg)), (0, .ref (ga G r)), (1, .int a1), (2, .int a2)] dX4_comesOut_24 (by decide) rfl ?_
    refine s_iload_n F 4 dX4_comesOut_26 rfl rfl ?_
    refine s_Si F [.int a2] dX4_comesOut_27 (fun z hz => c_X4_wordOf hz) wS_X4_47 nk_X4_wordOf (by decide) (by decide) rfl rfl (Nat.le_of_ble_eq_true rfl) (fun z3 => ?_)
    refine s_istore F [(5, .int z3.1), (4, .int (σ.1 (r + 1) ((nI 33) + a1).toNatClampNeg)), (3, .int (σ.1 (r + 1) ((nI 5) + a1).toNatClampNeg)), (0, .ref (ga G r)), (1, .int a1), (2, .int a2)] dX4_comesOut_30 (by decide) rfl ?_
    refine s_iload_n F 5 dX4_comesOut_32 rfl rfl ?_
    refine s_Si F [.int a2] dX4_comesOut_33 (fun z hz => c_X4_loudnessOf hz) wS_X4_30 nk_X4_loudnessOf (by decide) (by decide) rfl rfl (Nat.le_of_ble_eq_true rfl) (fun z4 => ?_)
    refine s_istore F [(6, .int z4.1), (5, .int z3.1), (4, .int (σ.1 (r + 1) ((nI 33) + a1).toNatClampNeg)), (3, .int (σ.1 (r + 1) ((nI 5) + a1).toNatClampNeg)), (0, .ref (ga G r)), (1, .int a1), (2, .int a2)] dX4_comesOut_36 (by decide) rfl ?_
    refine s_iload_n F 3 dX4_comesOut_38 rfl rfl ?_
    refine s_iconst F (nI 4) dX4_comesOut_39 rfl ?_
    refine s_icmp_eq F 48 dX4_comesOut_40 (by decide) (fun c12 => ?_) (fun c12 => ?_)
    · refine s_lv [(3, .int (σ.1 (r + 1) ((nI 5) + a1).toNatClampNeg)), (4, .int (σ.1 (r + 1) ((nI 33) + a1).toNatClampNeg)), (5, .int z3.1), (6, .int z4.1)] [3, 2, 1, 0] rfl ?_
      exact j_X4_comesOut_48 F R hr _ _ _ _ _
    · refine s_iload_n F 3 dX4_comesOut_43 rfl rfl ?_
      refine s_iconst F (nI 5) dX4_comesOut_44 rfl ?_
      refine s_icmp_ne F 57 dX4_comesOut_45 (by decide) (fun c11 => ?_) (fun c11 => ?_)
      · refine s_iload F 0 dX4_comesOut_57 rfl ?_
        refine s_aload_n F 4 dX4_comesOut_59 rfl rfl ?_
        refine fg_X4_9 F hr (c := r + 1) rfl dX4_comesOut_60 ?_
        refine s_iconst F (nI 1) dX4_comesOut_63 rfl ?_
        refine s_iald F (isNet.cells hr) dX4_comesOut_64 (fun q10 => ?_)
        refine s_isub F dX4_comesOut_65 ?_
        refine s_istore F [(6, .int (z4.1 - (z4.2.1 (r + 1) (nI 1).toNatClampNeg))), (5, .int z3.1), (4, .int (σ.1 (r + 1) ((nI 33) + a1).toNatClampNeg)), (3, .int (σ.1 (r + 1) ((nI 5) + a1).toNatClampNeg)), (0, .ref (ga G r)), (1, .int a1), (2, .int a2)] dX4_comesOut_66 (by decide) rfl ?_
        refine s_lv [(3, .int (σ.1 (r + 1) ((nI 5) + a1).toNatClampNeg)), (4, .int (σ.1 (r + 1) ((nI 33) + a1).toNatClampNeg)), (5, .int z3.1), (6, .int (z4.1 - (z4.2.1 (r + 1) (nI 1).toNatClampNeg)))] [3, 2, 1, 0] rfl ?_
        exact j_X4_comesOut_68 F R hr _ _ _ _ _
      · refine s_lv [(3, .int (σ.1 (r + 1) ((nI 5) + a1).toNatClampNeg)), (4, .int (σ.1 (r + 1) ((nI 33) + a1).toNatClampNeg)), (5, .int z3.1), (6, .int z4.1)] [3, 2, 1, 0] rfl ?_
        exact j_X4_comesOut_48 F R hr _ _ _ _ _
  · refine s_iconst F (nI 0) dX4_comesOut_4 rfl ?_
    exact s_iret R dX4_comesOut_5
/-! X4_hearOut -/
def L_X4_hearOut_4 (r : Nat) (K : Int32 → St → Option (Int32 × St)) : Nat → Int32 → Int32 → St → Option (Int32 × St)
  | 0, _, _, _ => none
  | n + 1, a1, a2, σ => if ix (nI 0) 80 then if (σ.1 (r + 1) (nI 0).toNatClampNeg) ≤ a2 then (K a1 σ) else (if ix a2 6 then if (σ.1 (r + 2) a2.toNatClampNeg) = 0 then (L_X4_hearOut_4 r K n a1 (a2 + (nI 1)) σ) else (if ix a2 6 then if ix ((nI 68) + a2) 80 then if ix (nI 4) 80 then if ix ((nI 74) + a2) 80 then L_X4_hearOut_4 r K n (a1 ||| ((nI 1) <<< (a2 &&& 31))) (a2 + (nI 1)) (setA (setA σ (r + 1) ((nI 68) + a2).toNatClampNeg (σ.1 (r + 2) a2.toNatClampNeg)) (r + 1) ((nI 74) + a2).toNatClampNeg ((setA σ (r + 1) ((nI 68) + a2).toNatClampNeg (σ.1 (r + 2) a2.toNatClampNeg)).1 (r + 1) (nI 4).toNatClampNeg)) else none else none else none else none) else none) else none
def F_X4_hearOut (r : Nat) (σ : St) : Option (Int32 × St) := L_X4_hearOut_4 r (fun a1 σ => if ix (nI 4) 80 then if ix (nI 4) 80 then some (a1, setA σ (r + 1) (nI 4).toNatClampNeg ((σ.1 (r + 1) (nI 4).toNatClampNeg) + (nI 1))) else none else none) fuel (nI 0) (nI 0) σ
set_option maxRecDepth 20000 in
theorem l_X4_hearOut_4 {G : Gx} {X : Cx} (F : Fx G X cX4_hearOut 3 RX4 0) {o : (Int32 × St)} (R : Ret G X cX4_hearOut 3 (some .int) (some (.int o.1)) o.2) {r : Nat} (hr : isNet r) {K : Int32 → St → Option (Int32 × St)} (hK : ∀ (a1 : Int32) (σ : St), Sim G X 3 o (K a1 σ) σ 65 [(0, .ref (ga G r)), (1, .int a1)] []) : ∀ (n : Nat) (a1 : Int32) (a2 : Int32) (σ : St), Sim G X 3 o (L_X4_hearOut_4 r K n a1 a2 σ) σ 4 [(0, .ref (ga G r)), (1, .int a1), (2, .int a2)] [] := by
  intro n
  induction n with
  | zero =>
    intro a1 a2 σ
    exact s_none
  | succ n ih =>
    intro a1 a2 σ
    rw [L_X4_hearOut_4.eq_2]
    refine s_iload_n F 2 dX4_hearOut_4 rfl rfl ?_
    refine s_aload_n F 0 dX4_hearOut_5 rfl rfl ?_
    refine fg_X4_9 F hr (c := r + 1) rfl dX4_hearOut_6 ?_
    refine s_iconst F (nI 0) dX4_hearOut_9 rfl ?_
    refine s_iald F (isNet.cells hr) dX4_hearOut_10 (fun q1 => ?_)
    refine s_icmp_ge F 65 dX4_hearOut_11 (by decide) (fun c8 => ?_) (fun c8 => ?_)
    · refine s_lv [(0, .ref (ga G r)), (1, .int a1)] [0, 1] rfl ?_
      exact hK _ _
    · refine s_aload_n F 0 dX4_hearOut_14 rfl rfl ?_
      refine fg_X4_13 F hr (c := r + 2) rfl dX4_hearOut_15 ?_
      refine s_iload_n F 2 dX4_hearOut_18 rfl rfl ?_
      refine s_iald F (isNet.out hr) dX4_hearOut_19 (fun q2 => ?_)
      refine s_if_eq F 59 dX4_hearOut_20 (by decide) (fun c7 => ?_) (fun c7 => ?_)
      · refine s_iinc F 2 [(2, .int (a2 + (nI 1))), (0, .ref (ga G r)), (1, .int a1)] dX4_hearOut_59 rfl rfl (by decide) rfl ?_
        refine s_goto F 4 dX4_hearOut_62 (by decide) ?_
        refine s_lv [(0, .ref (ga G r)), (1, .int a1), (2, .int (a2 + (nI 1)))] [1, 2, 0] rfl ?_
        exact ih _ _ _
      · refine s_aload_n F 0 dX4_hearOut_23 rfl rfl ?_
        refine fg_X4_9 F hr (c := r + 1) rfl dX4_hearOut_24 ?_
        refine s_bipush F (nI 68) dX4_hearOut_27 rfl ?_
        refine s_iload_n F 2 dX4_hearOut_29 rfl rfl ?_
        refine s_iadd F dX4_hearOut_30 ?_
        refine s_aload_n F 0 dX4_hearOut_31 rfl rfl ?_
        refine fg_X4_13 F hr (c := r + 2) rfl dX4_hearOut_32 ?_
        refine s_iload_n F 2 dX4_hearOut_35 rfl rfl ?_
        refine s_iald F (isNet.out hr) dX4_hearOut_36 (fun q3 => ?_)
        refine s_iast F (isNet.cells hr) dX4_hearOut_37 (fun q4 => ?_)
        refine s_aload_n F 0 dX4_hearOut_38 rfl rfl ?_
        refine fg_X4_9 F hr (c := r + 1) rfl dX4_hearOut_39 ?_
        refine s_bipush F (nI 74) dX4_hearOut_42 rfl ?_
        refine s_iload_n F 2 dX4_hearOut_44 rfl rfl ?_
        refine s_iadd F dX4_hearOut_45 ?_
        refine s_aload_n F 0 dX4_hearOut_46 rfl rfl ?_
        refine fg_X4_9 F hr (c := r + 1) rfl dX4_hearOut_47 ?_
        refine s_iconst F (nI 4) dX4_hearOut_50 rfl ?_
        refine s_iald F (isNet.cells hr) dX4_hearOut_51 (fun q5 => ?_)
        refine s_iast F (isNet.cells hr) dX4_hearOut_52 (fun q6 => ?_)
        refine s_iload_n F 1 dX4_hearOut_53 rfl rfl ?_
        refine s_iconst F (nI 1) dX4_hearOut_54 rfl ?_
        refine s_iload_n F 2 dX4_hearOut_55 rfl rfl ?_
        refine s_ishl F dX4_hearOut_56 ?_
        refine s_ior F dX4_hearOut_57 ?_
        refine s_istore_n F [(1, .int (a1 ||| ((nI 1) <<< (a2 &&& 31)))), (0, .ref (ga G r)), (2, .int a2)] dX4_hearOut_58 rfl (by decide) rfl ?_
        refine s_iinc F 2 [(2, .int (a2 + (nI 1))), (1, .int (a1 ||| ((nI 1) <<< (a2 &&& 31)))), (0, .ref (ga G r))] dX4_hearOut_59 rfl rfl (by decide) rfl ?_
        refine s_goto F 4 dX4_hearOut_62 (by decide) ?_
        refine s_lv [(0, .ref (ga G r)), (1, .int (a1 ||| ((nI 1) <<< (a2 &&& 31)))), (2, .int (a2 + (nI 1)))] [2, 1, 0] rfl ?_
        exact ih _ _ _
set_option maxRecDepth 20000 in
theorem c_X4_hearOut {G : Gx} {l : Launch} {r : Nat} (hr : isNet r) {σ : St} {o : (Int32 × St)} (hF : F_X4_hearOut r σ = some o) : Con G l yX4_hearOut cX4_hearOut 3 (some .int) 0 [.ref (ga G r)] σ (some (.int o.1)) o.2 := by
  refine Con.of plX4 (Nat.le_of_ble_eq_true rfl) [(0, .ref (ga G r))] rfl (fun X F R => ?_)
  refine (show Sim G X 3 o (F_X4_hearOut r σ) σ 0 [(0, .ref (ga G r))] [] from ?_) hF
  unfold F_X4_hearOut
  refine s_iconst F (nI 0) dX4_hearOut_0 rfl ?_
  refine s_istore_n F [(1, .int (nI 0)), (0, .ref (ga G r))] dX4_hearOut_1 rfl (by decide) rfl ?_
  refine s_iconst F (nI 0) dX4_hearOut_2 rfl ?_
  refine s_istore_n F [(2, .int (nI 0)), (1, .int (nI 0)), (0, .ref (ga G r))] dX4_hearOut_3 rfl (by decide) rfl ?_
  refine s_lv [(0, .ref (ga G r)), (1, .int (nI 0)), (2, .int (nI 0))] [2, 1, 0] rfl ?_
  refine l_X4_hearOut_4 F R hr (fun a1 σ => ?_) fuel _ _ _
  refine s_aload_n F 0 dX4_hearOut_65 rfl rfl ?_
  refine fg_X4_9 F hr (c := r + 1) rfl dX4_hearOut_66 ?_
  refine s_iconst F (nI 4) dX4_hearOut_69 rfl ?_
  refine s_dup2 F dX4_hearOut_70 rfl rfl ?_
  refine s_iald F (isNet.cells hr) dX4_hearOut_71 (fun q9 => ?_)
  refine s_iconst F (nI 1) dX4_hearOut_72 rfl ?_
  refine s_iadd F dX4_hearOut_73 ?_
  refine s_iast F (isNet.cells hr) dX4_hearOut_74 (fun q10 => ?_)
  refine s_iload_n F 1 dX4_hearOut_75 rfl rfl ?_
  exact s_iret R dX4_hearOut_76
/-! X4_moveOn -/
def L_X4_moveOn_32 (r : Nat) (K : Int32 → Int32 → St → Option (Int32 × St)) : Nat → Int32 → Int32 → Int32 → St → Option (Int32 × St)
  | 0, _, _, _, _ => none
  | n + 1, a2, a4, a5, σ => if a5 ≤ a2 then (K a2 a4 σ) else (if ix (a5 - (nI 1)) 80 then if ix a5 80 then L_X4_moveOn_32 r K n a2 a4 (a5 + (-1 : Int32)) (setA σ (r + 1) a5.toNatClampNeg (σ.1 (r + 1) (a5 - (nI 1)).toNatClampNeg)) else none else none)
def F_X4_moveOn (r : Nat) (a1 : Int32) (σ : St) : Option (Int32 × St) := if ix ((nI 26) + a1) 80 then if ix ((((nI 40) + (a1 * (nI 4))) + (σ.1 (r + 1) ((nI 26) + a1).toNatClampNeg)) - (nI 1)) 80 then L_X4_moveOn_32 r (fun a2 a4 σ => if ix a2 80 then some (a4, setA σ (r + 1) a2.toNatClampNeg (nI 0)) else none) fuel ((nI 40) + (a1 * (nI 4))) (σ.1 (r + 1) ((((nI 40) + (a1 * (nI 4))) + (σ.1 (r + 1) ((nI 26) + a1).toNatClampNeg)) - (nI 1)).toNatClampNeg) ((((nI 40) + (a1 * (nI 4))) + (σ.1 (r + 1) ((nI 26) + a1).toNatClampNeg)) - (nI 1)) σ else none else none
set_option maxRecDepth 20000 in
theorem l_X4_moveOn_32 {G : Gx} {X : Cx} (F : Fx G X cX4_moveOn 6 RX4 0) {o : (Int32 × St)} (R : Ret G X cX4_moveOn 6 (some .int) (some (.int o.1)) o.2) {r : Nat} (hr : isNet r) {K : Int32 → Int32 → St → Option (Int32 × St)} (hK : ∀ (a2 : Int32) (a4 : Int32) (σ : St), Sim G X 6 o (K a2 a4 σ) σ 60 [(0, .ref (ga G r)), (2, .int a2), (4, .int a4)] []) : ∀ (n : Nat) (a2 : Int32) (a4 : Int32) (a5 : Int32) (σ : St), Sim G X 6 o (L_X4_moveOn_32 r K n a2 a4 a5 σ) σ 32 [(0, .ref (ga G r)), (2, .int a2), (4, .int a4), (5, .int a5)] [] := by
  intro n
  induction n with
  | zero =>
    intro a2 a4 a5 σ
    exact s_none
  | succ n ih =>
    intro a2 a4 a5 σ
    rw [L_X4_moveOn_32.eq_2]
    refine s_iload F 3 dX4_moveOn_32 rfl ?_
    refine s_iload_n F 1 dX4_moveOn_34 rfl rfl ?_
    refine s_icmp_le F 60 dX4_moveOn_35 (by decide) (fun c5 => ?_) (fun c5 => ?_)
    · refine s_lv [(0, .ref (ga G r)), (2, .int a2), (4, .int a4)] [0, 1, 2] rfl ?_
      exact hK _ _ _
    · refine s_aload_n F 0 dX4_moveOn_38 rfl rfl ?_
      refine fg_X4_9 F hr (c := r + 1) rfl dX4_moveOn_39 ?_
      refine s_iload F 3 dX4_moveOn_42 rfl ?_
      refine s_aload_n F 0 dX4_moveOn_44 rfl rfl ?_
      refine fg_X4_9 F hr (c := r + 1) rfl dX4_moveOn_45 ?_
      refine s_iload F 3 dX4_moveOn_48 rfl ?_
      refine s_iconst F (nI 1) dX4_moveOn_50 rfl ?_
      refine s_isub F dX4_moveOn_51 ?_
      refine s_iald F (isNet.cells hr) dX4_moveOn_52 (fun q3 => ?_)
      refine s_iast F (isNet.cells hr) dX4_moveOn_53 (fun q4 => ?_)
      refine s_iinc F 3 [(5, .int (a5 + (-1 : Int32))), (0, .ref (ga G r)), (2, .int a2), (4, .int a4)] dX4_moveOn_54 rfl rfl (by decide) rfl ?_
      refine s_goto F 32 dX4_moveOn_57 (by decide) ?_
      refine s_lv [(0, .ref (ga G r)), (2, .int a2), (4, .int a4), (5, .int (a5 + (-1 : Int32)))] [1, 2, 3, 0] rfl ?_
      exact ih _ _ _ _
set_option maxRecDepth 20000 in
theorem c_X4_moveOn {G : Gx} {l : Launch} {r : Nat} {a1 : Int32} (hr : isNet r) {σ : St} {o : (Int32 × St)} (hF : F_X4_moveOn r a1 σ = some o) : Con G l yX4_moveOn cX4_moveOn 6 (some .int) 0 [.ref (ga G r), .int a1] σ (some (.int o.1)) o.2 := by
  refine Con.of plX4 (Nat.le_of_ble_eq_true rfl) [(0, .ref (ga G r)), (1, .int a1)] rfl (fun X F R => ?_)
  refine (show Sim G X 6 o (F_X4_moveOn r a1 σ) σ 0 [(0, .ref (ga G r)), (1, .int a1)] [] from ?_) hF
  unfold F_X4_moveOn
  refine s_bipush F (nI 40) dX4_moveOn_0 rfl ?_
  refine s_iload_n F 1 dX4_moveOn_2 rfl rfl ?_
  refine s_iconst F (nI 4) dX4_moveOn_3 rfl ?_
  refine s_imul F dX4_moveOn_4 ?_
  refine s_iadd F dX4_moveOn_5 ?_
  refine s_istore_n F [(2, .int ((nI 40) + (a1 * (nI 4)))), (0, .ref (ga G r)), (1, .int a1)] dX4_moveOn_6 rfl (by decide) rfl ?_
  refine s_iload_n F 0 dX4_moveOn_7 rfl rfl ?_
  refine s_aload_n F 1 dX4_moveOn_8 rfl rfl ?_
  refine fg_X4_9 F hr (c := r + 1) rfl dX4_moveOn_9 ?_
  refine s_bipush F (nI 26) dX4_moveOn_12 rfl ?_
  refine s_iload_n F 2 dX4_moveOn_14 rfl rfl ?_
  refine s_iadd F dX4_moveOn_15 ?_
  refine s_iald F (isNet.cells hr) dX4_moveOn_16 (fun q1 => ?_)
  refine s_iadd F dX4_moveOn_17 ?_
  refine s_iconst F (nI 1) dX4_moveOn_18 rfl ?_
  refine s_isub F dX4_moveOn_19 ?_
  refine s_istore_n F [(3, .int ((((nI 40) + (a1 * (nI 4))) + (σ.1 (r + 1) ((nI 26) + a1).toNatClampNeg)) - (nI 1))), (2, .int ((nI 40) + (a1 * (nI 4)))), (0, .ref (ga G r)), (1, .int a1)] dX4_moveOn_20 rfl (by decide) rfl ?_
  refine s_aload_n F 2 dX4_moveOn_21 rfl rfl ?_
  refine fg_X4_9 F hr (c := r + 1) rfl dX4_moveOn_22 ?_
  refine s_iload_n F 0 dX4_moveOn_25 rfl rfl ?_
  refine s_iald F (isNet.cells hr) dX4_moveOn_26 (fun q2 => ?_)
  refine s_istore F [(4, .int (σ.1 (r + 1) ((((nI 40) + (a1 * (nI 4))) + (σ.1 (r + 1) ((nI 26) + a1).toNatClampNeg)) - (nI 1)).toNatClampNeg)), (3, .int ((((nI 40) + (a1 * (nI 4))) + (σ.1 (r + 1) ((nI 26) + a1).toNatClampNeg)) - (nI 1))), (2, .int ((nI 40) + (a1 * (nI 4)))), (0, .ref (ga G r)), (1, .int a1)] dX4_moveOn_27 (by decide) rfl ?_
  refine s_iload_n F 1 dX4_moveOn_29 rfl rfl ?_
  refine s_istore F [(5, .int ((((nI 40) + (a1 * (nI 4))) + (σ.1 (r + 1) ((nI 26) + a1).toNatClampNeg)) - (nI 1))), (4, .int (σ.1 (r + 1) ((((nI 40) + (a1 * (nI 4))) + (σ.1 (r + 1) ((nI 26) + a1).toNatClampNeg)) - (nI 1)).toNatClampNeg)), (3, .int ((((nI 40) + (a1 * (nI 4))) + (σ.1 (r + 1) ((nI 26) + a1).toNatClampNeg)) - (nI 1))), (2, .int ((nI 40) + (a1 * (nI 4)))), (0, .ref (ga G r)), (1, .int a1)] dX4_moveOn_30 (by decide) rfl ?_
  refine s_lv [(0, .ref (ga G r)), (2, .int ((nI 40) + (a1 * (nI 4)))), (4, .int (σ.1 (r + 1) ((((nI 40) + (a1 * (nI 4))) + (σ.1 (r + 1) ((nI 26) + a1).toNatClampNeg)) - (nI 1)).toNatClampNeg)), (5, .int ((((nI 40) + (a1 * (nI 4))) + (σ.1 (r + 1) ((nI 26) + a1).toNatClampNeg)) - (nI 1)))] [4, 3, 1, 0] rfl ?_
  refine l_X4_moveOn_32 F R hr (fun a2 a4 σ => ?_) fuel _ _ _ _
  refine s_aload_n F 0 dX4_moveOn_60 rfl rfl ?_
  refine fg_X4_9 F hr (c := r + 1) rfl dX4_moveOn_61 ?_
  refine s_iload_n F 1 dX4_moveOn_64 rfl rfl ?_
  refine s_iconst F (nI 0) dX4_moveOn_65 rfl ?_
  refine s_iast F (isNet.cells hr) dX4_moveOn_66 (fun q6 => ?_)
  refine s_iload F 2 dX4_moveOn_67 rfl ?_
  exact s_iret R dX4_moveOn_69
/-! X4_passBreath -/
def L_X4_passBreath_2 (r : Nat) (K : St → Option (Int32 × St)) : Nat → Int32 → St → Option (Int32 × St)
  | 0, _, _ => none
  | n + 1, a1, σ => if (nI 6) ≤ a1 then (K σ) else (if ix a1 6 then L_X4_passBreath_2 r K n (a1 + (nI 1)) (setA σ (r + 2) a1.toNatClampNeg (nI 0)) else none)
def L_X4_passBreath_23 (r : Nat) (K : St → Option (Int32 × St)) : Nat → Int32 → St → Option (Int32 × St)
  | 0, _, _ => none
  | n + 1, a1, σ => if ix (nI 2) 80 then if (σ.1 (r + 1) (nI 2).toNatClampNeg) ≤ a1 then (K σ) else ((F_X4_moveOn r a1 σ).bind fun z4 => (F_X4_comesOut r a1 z4.1 z4.2).bind fun z5 => if ix ((nI 19) + a1) 80 then (F_X4_loudnessOf z5.1 z5.2).bind fun z7 => if ix (z5.2.1 (r + 1) ((nI 19) + a1).toNatClampNeg) 6 then (F_X4_loudnessOf (z7.2.1 (r + 2) (z5.2.1 (r + 1) ((nI 19) + a1).toNatClampNeg).toNatClampNeg) z7.2).bind fun z9 => if z7.1 ≤ z9.1 then (L_X4_passBreath_23 r K n (a1 + (nI 1)) z9.2) else (if ix (z5.2.1 (r + 1) ((nI 19) + a1).toNatClampNeg) 6 then L_X4_passBreath_23 r K n (a1 + (nI 1)) (setA z9.2 (r + 2) (z5.2.1 (r + 1) ((nI 19) + a1).toNatClampNeg).toNatClampNeg z5.1) else none) else none else none) else none
def L_X4_passBreath_85 (r : Nat) (K : St → Option (Int32 × St)) : Nat → Int32 → St → Option (Int32 × St)
  | 0, _, _ => none
  | n + 1, a1, σ => if ix (nI 2) 80 then if (σ.1 (r + 1) (nI 2).toNatClampNeg) ≤ a1 then (K σ) else ((F_X4_isOpen r a1 σ).bind fun z14 => if z14.1 = 0 then (L_X4_passBreath_85 r K n (a1 + (nI 1)) z14.2) else (if ix ((nI 12) + a1) 80 then if ix (z14.2.1 (r + 1) ((nI 12) + a1).toNatClampNeg) 6 then if ix ((nI 40) + (a1 * (nI 4))) 80 then L_X4_passBreath_85 r K n (a1 + (nI 1)) (setA z14.2 (r + 1) ((nI 40) + (a1 * (nI 4))).toNatClampNeg (z14.2.1 (r + 2) (z14.2.1 (r + 1) ((nI 12) + a1).toNatClampNeg).toNatClampNeg)) else none else none else none)) else none
def F_X4_passBreath (r : Nat) (σ : St) : Option (Int32 × St) := L_X4_passBreath_2 r (fun σ => L_X4_passBreath_23 r (fun σ => L_X4_passBreath_85 r (fun σ => (F_X4_hearOut r σ).bind fun z20 => some (z20.1, z20.2)) fuel (nI 0) σ) fuel (nI 0) σ) fuel (nI 0) σ
set_option maxRecDepth 20000 in
theorem l_X4_passBreath_2 {G : Gx} {X : Cx} (F : Fx G X cX4_passBreath 4 RX4 2) {o : (Int32 × St)} (R : Ret G X cX4_passBreath 4 (some .int) (some (.int o.1)) o.2) {r : Nat} (hr : isNet r) {K : St → Option (Int32 × St)} (hK : ∀ (σ : St), Sim G X 4 o (K σ) σ 21 [(0, .ref (ga G r))] []) : ∀ (n : Nat) (a1 : Int32) (σ : St), Sim G X 4 o (L_X4_passBreath_2 r K n a1 σ) σ 2 [(0, .ref (ga G r)), (1, .int a1)] [] := by
  intro n
  induction n with
  | zero =>
    intro a1 σ
    exact s_none
  | succ n ih =>
    intro a1 σ
    rw [L_X4_passBreath_2.eq_2]
    refine s_iload_n F 1 dX4_passBreath_2 rfl rfl ?_
    refine s_bipush F (nI 6) dX4_passBreath_3 rfl ?_
    refine s_icmp_ge F 21 dX4_passBreath_5 (by decide) (fun c2 => ?_) (fun c2 => ?_)
    · refine s_lv [(0, .ref (ga G r))] [0] rfl ?_
      exact hK _
    · refine s_aload_n F 0 dX4_passBreath_8 rfl rfl ?_
      refine fg_X4_13 F hr (c := r + 2) rfl dX4_passBreath_9 ?_
      refine s_iload_n F 1 dX4_passBreath_12 rfl rfl ?_
      refine s_iconst F (nI 0) dX4_passBreath_13 rfl ?_
      refine s_iast F (isNet.out hr) dX4_passBreath_14 (fun q1 => ?_)
      refine s_iinc F 1 [(1, .int (a1 + (nI 1))), (0, .ref (ga G r))] dX4_passBreath_15 rfl rfl (by decide) rfl ?_
      refine s_goto F 2 dX4_passBreath_18 (by decide) ?_
      refine s_lv [(0, .ref (ga G r)), (1, .int (a1 + (nI 1)))] [1, 0] rfl ?_
      exact ih _ _
set_option maxRecDepth 20000 in
theorem l_X4_passBreath_23 {G : Gx} {X : Cx} (F : Fx G X cX4_passBreath 4 RX4 2) {o : (Int32 × St)} (R : Ret G X cX4_passBreath 4 (some .int) (some (.int o.1)) o.2) {r : Nat} (hr : isNet r) {K : St → Option (Int32 × St)} (hK : ∀ (σ : St), Sim G X 4 o (K σ) σ 83 [(0, .ref (ga G r))] []) : ∀ (n : Nat) (a1 : Int32) (σ : St), Sim G X 4 o (L_X4_passBreath_23 r K n a1 σ) σ 23 [(0, .ref (ga G r)), (1, .int a1)] [] := by
  intro n
  induction n with
  | zero =>
    intro a1 σ
    exact s_none
  | succ n ih =>
    intro a1 σ
    rw [L_X4_passBreath_23.eq_2]
    refine s_iload_n F 1 dX4_passBreath_23 rfl rfl ?_
    refine s_aload_n F 0 dX4_passBreath_24 rfl rfl ?_
    refine fg_X4_9 F hr (c := r + 1) rfl dX4_passBreath_25 ?_
    refine s_iconst F (nI 2) dX4_passBreath_28 rfl ?_
    refine s_iald F (isNet.cells hr) dX4_passBreath_29 (fun q3 => ?_)
    refine s_icmp_ge F 83 dX4_passBreath_30 (by decide) (fun c12 => ?_) (fun c12 => ?_)
    · refine s_lv [(0, .ref (ga G r))] [0] rfl ?_
      exact hK _
    · refine s_aload_n F 0 dX4_passBreath_33 rfl rfl ?_
      refine s_iload_n F 1 dX4_passBreath_34 rfl rfl ?_
      refine s_aload_n F 0 dX4_passBreath_35 rfl rfl ?_
      refine s_iload_n F 1 dX4_passBreath_36 rfl rfl ?_
      refine s_Vi F [.int a1] dX4_passBreath_37 (fun z hz => c_X4_moveOn hr hz) wV_X4_37 nk_X4_moveOn (by decide) (by decide) (isNet.obj hr) vc_3 rfl rfl (Nat.le_of_ble_eq_true rfl) (fun z4 => ?_)
      refine s_Vi F [.int a1, .int z4.1] dX4_passBreath_40 (fun z hz => c_X4_comesOut hr hz) wV_X4_40 nk_X4_comesOut (by decide) (by decide) (isNet.obj hr) vc_3 rfl rfl (Nat.le_of_ble_eq_true rfl) (fun z5 => ?_)
      refine s_istore_n F [(2, .int z5.1), (0, .ref (ga G r)), (1, .int a1)] dX4_passBreath_43 rfl (by decide) rfl ?_
      refine s_aload_n F 1 dX4_passBreath_44 rfl rfl ?_
      refine fg_X4_9 F hr (c := r + 1) rfl dX4_passBreath_45 ?_
      refine s_bipush F (nI 19) dX4_passBreath_48 rfl ?_
      refine s_iload_n F 2 dX4_passBreath_50 rfl rfl ?_
      refine s_iadd F dX4_passBreath_51 ?_
      refine s_iald F (isNet.cells hr) dX4_passBreath_52 (fun q6 => ?_)
      refine s_istore_n F [(3, .int (z5.2.1 (r + 1) ((nI 19) + a1).toNatClampNeg)), (2, .int z5.1), (0, .ref (ga G r)), (1, .int a1)] dX4_passBreath_53 rfl (by decide) rfl ?_
      refine s_iload_n F 1 dX4_passBreath_54 rfl rfl ?_
      refine s_Si F [.int z5.1] dX4_passBreath_55 (fun z hz => c_X4_loudnessOf hz) wS_X4_30 nk_X4_loudnessOf (by decide) (by decide) rfl rfl (Nat.le_of_ble_eq_true rfl) (fun z7 => ?_)
      refine s_aload_n F 2 dX4_passBreath_58 rfl rfl ?_
      refine fg_X4_13 F hr (c := r + 2) rfl dX4_passBreath_59 ?_
      refine s_iload_n F 0 dX4_passBreath_62 rfl rfl ?_
      refine s_iald F (isNet.out hr) dX4_passBreath_63 (fun q8 => ?_)
      refine s_Si F [.int (z7.2.1 (r + 2) (z5.2.1 (r + 1) ((nI 19) + a1).toNatClampNeg).toNatClampNeg)] dX4_passBreath_64 (fun z hz => c_X4_loudnessOf hz) wS_X4_30 nk_X4_loudnessOf (by decide) (by decide) rfl rfl (Nat.le_of_ble_eq_true rfl) (fun z9 => ?_)
      refine s_icmp_le F 77 dX4_passBreath_67 (by decide) (fun c11 => ?_) (fun c11 => ?_)
      · refine s_iinc F 3 [(1, .int (a1 + (nI 1))), (3, .int (z5.2.1 (r + 1) ((nI 19) + a1).toNatClampNeg)), (2, .int z5.1), (0, .ref (ga G r))] dX4_passBreath_77 rfl rfl (by decide) rfl ?_
        refine s_goto F 23 dX4_passBreath_80 (by decide) ?_
        refine s_lv [(0, .ref (ga G r)), (1, .int (a1 + (nI 1)))] [3, 0] rfl ?_
        exact ih _ _
      · refine s_aload_n F 2 dX4_passBreath_70 rfl rfl ?_
        refine fg_X4_13 F hr (c := r + 2) rfl dX4_passBreath_71 ?_
        refine s_iload_n F 0 dX4_passBreath_74 rfl rfl ?_
        refine s_iload_n F 1 dX4_passBreath_75 rfl rfl ?_
        refine s_iast F (isNet.out hr) dX4_passBreath_76 (fun q10 => ?_)
        refine s_iinc F 3 [(1, .int (a1 + (nI 1))), (3, .int (z5.2.1 (r + 1) ((nI 19) + a1).toNatClampNeg)), (2, .int z5.1), (0, .ref (ga G r))] dX4_passBreath_77 rfl rfl (by decide) rfl ?_
        refine s_goto F 23 dX4_passBreath_80 (by decide) ?_
        refine s_lv [(0, .ref (ga G r)), (1, .int (a1 + (nI 1)))] [3, 0] rfl ?_
        exact ih _ _
set_option maxRecDepth 20000 in
theorem l_X4_passBreath_85 {G : Gx} {X : Cx} (F : Fx G X cX4_passBreath 4 RX4 2) {o : (Int32 × St)} (R : Ret G X cX4_passBreath 4 (some .int) (some (.int o.1)) o.2) {r : Nat} (hr : isNet r) {K : St → Option (Int32 × St)} (hK : ∀ (σ : St), Sim G X 4 o (K σ) σ 134 [(0, .ref (ga G r))] []) : ∀ (n : Nat) (a1 : Int32) (σ : St), Sim G X 4 o (L_X4_passBreath_85 r K n a1 σ) σ 85 [(0, .ref (ga G r)), (1, .int a1)] [] := by
  intro n
  induction n with
  | zero =>
    intro a1 σ
    exact s_none
  | succ n ih =>
    intro a1 σ
    rw [L_X4_passBreath_85.eq_2]
    refine s_iload_n F 1 dX4_passBreath_85 rfl rfl ?_
    refine s_aload_n F 0 dX4_passBreath_86 rfl rfl ?_
    refine fg_X4_9 F hr (c := r + 1) rfl dX4_passBreath_87 ?_
    refine s_iconst F (nI 2) dX4_passBreath_90 rfl ?_
    refine s_iald F (isNet.cells hr) dX4_passBreath_91 (fun q13 => ?_)
    refine s_icmp_ge F 134 dX4_passBreath_92 (by decide) (fun c19 => ?_) (fun c19 => ?_)
    · refine s_lv [(0, .ref (ga G r))] [0] rfl ?_
      exact hK _
    · refine s_aload_n F 0 dX4_passBreath_95 rfl rfl ?_
      refine s_iload_n F 1 dX4_passBreath_96 rfl rfl ?_
      refine s_Vi F [.int a1] dX4_passBreath_97 (fun z hz => c_X4_isOpen hr hz) wV_X4_26 nk_X4_isOpen (by decide) (by decide) (isNet.obj hr) vc_3 rfl rfl (Nat.le_of_ble_eq_true rfl) (fun z14 => ?_)
      refine s_if_eq F 128 dX4_passBreath_100 (by decide) (fun c18 => ?_) (fun c18 => ?_)
      · refine s_iinc F 1 [(1, .int (a1 + (nI 1))), (0, .ref (ga G r))] dX4_passBreath_128 rfl rfl (by decide) rfl ?_
        refine s_goto F 85 dX4_passBreath_131 (by decide) ?_
        refine s_lv [(0, .ref (ga G r)), (1, .int (a1 + (nI 1)))] [1, 0] rfl ?_
        exact ih _ _
      · refine s_aload_n F 0 dX4_passBreath_103 rfl rfl ?_
        refine fg_X4_9 F hr (c := r + 1) rfl dX4_passBreath_104 ?_
        refine s_bipush F (nI 40) dX4_passBreath_107 rfl ?_
        refine s_iload_n F 1 dX4_passBreath_109 rfl rfl ?_
        refine s_iconst F (nI 4) dX4_passBreath_110 rfl ?_
        refine s_imul F dX4_passBreath_111 ?_
        refine s_iadd F dX4_passBreath_112 ?_
        refine s_aload_n F 0 dX4_passBreath_113 rfl rfl ?_
        refine fg_X4_13 F hr (c := r + 2) rfl dX4_passBreath_114 ?_
        refine s_aload_n F 0 dX4_passBreath_117 rfl rfl ?_
        refine fg_X4_9 F hr (c := r + 1) rfl dX4_passBreath_118 ?_
        refine s_bipush F (nI 12) dX4_passBreath_121 rfl ?_
        refine s_iload_n F 1 dX4_passBreath_123 rfl rfl ?_
        refine s_iadd F dX4_passBreath_124 ?_
        refine s_iald F (isNet.cells hr) dX4_passBreath_125 (fun q15 => ?_)
        refine s_iald F (isNet.out hr) dX4_passBreath_126 (fun q16 => ?_)
        refine s_iast F (isNet.cells hr) dX4_passBreath_127 (fun q17 => ?_)
        refine s_iinc F 1 [(1, .int (a1 + (nI 1))), (0, .ref (ga G r))] dX4_passBreath_128 rfl rfl (by decide) rfl ?_
        refine s_goto F 85 dX4_passBreath_131 (by decide) ?_
        refine s_lv [(0, .ref (ga G r)), (1, .int (a1 + (nI 1)))] [1, 0] rfl ?_
        exact ih _ _
set_option maxRecDepth 20000 in
theorem c_X4_passBreath {G : Gx} {l : Launch} {r : Nat} (hr : isNet r) {σ : St} {o : (Int32 × St)} (hF : F_X4_passBreath r σ = some o) : Con G l yX4_passBreath cX4_passBreath 4 (some .int) 2 [.ref (ga G r)] σ (some (.int o.1)) o.2 := by
  refine Con.of plX4 (Nat.le_of_ble_eq_true rfl) [(0, .ref (ga G r))] rfl (fun X F R => ?_)
  refine (show Sim G X 4 o (F_X4_passBreath r σ) σ 0 [(0, .ref (ga G r))] [] from ?_) hF
  unfold F_X4_passBreath
  refine s_iconst F (nI 0) dX4_passBreath_0 rfl ?_
  refine s_istore_n F [(1, .int (nI 0)), (0, .ref (ga G r))] dX4_passBreath_1 rfl (by decide) rfl ?_
  refine s_lv [(0, .ref (ga G r)), (1, .int (nI 0))] [1, 0] rfl ?_
  refine l_X4_passBreath_2 F R hr (fun σ => ?_) fuel _ _
  refine s_iconst F (nI 0) dX4_passBreath_21 rfl ?_
  refine s_istore_n F [(1, .int (nI 0)), (0, .ref (ga G r))] dX4_passBreath_22 rfl (by decide) rfl ?_
  refine s_lv [(0, .ref (ga G r)), (1, .int (nI 0))] [1, 0] rfl ?_
  refine l_X4_passBreath_23 F R hr (fun σ => ?_) fuel _ _
  refine s_iconst F (nI 0) dX4_passBreath_83 rfl ?_
  refine s_istore_n F [(1, .int (nI 0)), (0, .ref (ga G r))] dX4_passBreath_84 rfl (by decide) rfl ?_
  refine s_lv [(0, .ref (ga G r)), (1, .int (nI 0))] [1, 0] rfl ?_
  refine l_X4_passBreath_85 F R hr (fun σ => ?_) fuel _ _
  refine s_aload_n F 0 dX4_passBreath_134 rfl rfl ?_
  refine s_Vi F [] dX4_passBreath_135 (fun z hz => c_X4_hearOut hr hz) wV_X4_43 nk_X4_hearOut (by decide) (by decide) (isNet.obj hr) vc_3 rfl rfl (Nat.le_of_ble_eq_true rfl) (fun z20 => ?_)
  exact s_iret R dX4_passBreath_138
end
