/-! the plain constructors (written by wip/tools/ctors.py) -/
theorem nk_X0_init : nmOK yX0_init 0 := by
  unfold nmOK
  decide +kernel
theorem nk_X1_init : nmOK yX1_init 0 := by
  unfold nmOK
  decide +kernel
theorem nk_X2_init : nmOK yX2_init 0 := by
  unfold nmOK
  decide +kernel
theorem nk_X4_init : nmOK yX4_init 0 := by
  unfold nmOK
  decide +kernel
theorem nk_X5_init : nmOK yX5_init 0 := by
  unfold nmOK
  decide +kernel
theorem nk_X6_init : nmOK yX6_init 0 := by
  unfold nmOK
  decide +kernel
theorem nk_X7_init : nmOK yX7_init 0 := by
  unfold nmOK
  decide +kernel
theorem nk_X8_init : nmOK yX8_init 0 := by
  unfold nmOK
  decide +kernel
theorem dfX4 : ∀ j, j < 2 → defaultValue (tyX4 j) = vp_V [.null, .null] j
  | 0, _ => rfl
  | 1, _ => rfl
  | _ + 2, h => absurd h (by omega)
theorem dfX6 : ∀ j, j < 5 → defaultValue (tyX6 j) = vp_V [.null, .int 0, .int 0, .int 0, .int 0] j
  | 0, _ => rfl
  | 1, _ => rfl
  | 2, _ => rfl
  | 3, _ => rfl
  | 4, _ => rfl
  | _ + 5, h => absurd h (by omega)
theorem dfX0 : ∀ j, j < 3 → defaultValue (tyX0 j) = vp_V [.null, .int 0, .int 0] j
  | 0, _ => rfl
  | 1, _ => rfl
  | 2, _ => rfl
  | _ + 3, h => absurd h (by omega)
theorem dfX1 : ∀ j, j < 2 → defaultValue (tyX1 j) = vp_V [.null, .int 0] j
  | 0, _ => rfl
  | 1, _ => rfl
  | _ + 2, h => absurd h (by omega)
theorem dfX2 : ∀ j, j < 2 → defaultValue (tyX2 j) = vp_V [.null, .null] j
  | 0, _ => rfl
  | 1, _ => rfl
  | _ + 2, h => absurd h (by omega)
theorem dfX5 : ∀ j, j < 3 → defaultValue (tyX5 j) = vp_V [.null, .null, .null] j
  | 0, _ => rfl
  | 1, _ => rfl
  | 2, _ => rfl
  | _ + 3, h => absurd h (by omega)
theorem dfX7 : ∀ j, j < 9 → defaultValue (tyX7 j) = vp_V [.null, .null, .null, .null, .null, .null, .null, .null, .int 0] j
  | 0, _ => rfl
  | 1, _ => rfl
  | 2, _ => rfl
  | 3, _ => rfl
  | 4, _ => rfl
  | 5, _ => rfl
  | 6, _ => rfl
  | 7, _ => rfl
  | 8, _ => rfl
  | _ + 9, h => absurd h (by omega)
theorem dfX8 : ∀ j, j < 24 → defaultValue (tyX8 j) = vp_V [.int 0, .int 0, .null, .null, .null, .null, .null, .null, .null, .int 0, .null, .int 0, .int 0, .int 0, .int 0, .int 0, .int 0, .int 0, .int 0, .null, .null, .null, .null, .int 0] j
  | 0, _ => rfl
  | 1, _ => rfl
  | 2, _ => rfl
  | 3, _ => rfl
  | 4, _ => rfl
  | 5, _ => rfl
  | 6, _ => rfl
  | 7, _ => rfl
  | 8, _ => rfl
  | 9, _ => rfl
  | 10, _ => rfl
  | 11, _ => rfl
  | 12, _ => rfl
  | 13, _ => rfl
  | 14, _ => rfl
  | 15, _ => rfl
  | 16, _ => rfl
  | 17, _ => rfl
  | 18, _ => rfl
  | 19, _ => rfl
  | 20, _ => rfl
  | 21, _ => rfl
  | 22, _ => rfl
  | 23, _ => rfl
  | _ + 24, h => absurd h (by omega)
def P_X4 (G : Gx) (h0 : Nat) (ww : va_W) : Prop := ∃ (q1 : Nat) (q2 : Nat), ww = ((h0, .inr (3, [.ref q1, .ref q2])) :: (([] ++ [(q1, .inl (gI G, zr 80))]) ++ [(q2, .inl (gI G, zr 6))]))
theorem i_X4 (G : Gx) (l : Launch) : CCon G l yX4_init cX4_init 1 1 2 86 3 [.null, .null] (P_X4 G) := by
  refine CCon.of plX4 rfl (by decide) (fun X h0 F ll nm ek en hD ret H ls hP hS hl => ?_)
  have F : Fc G X cX4_init 1 RX4 1 := F
  subst ll
  refine lv_aload_n F.ex F.bt dX4_init_0 rfl (lv_at hl 0 rfl) ?_
  refine k_obj F hl.1 m_1_72 m_1_19 m_1_20 dX4_init_1 (by decide) (Nat.le_of_ble_eq_true rfl) ?_
  refine lv_aload_n F.ex F.bt dX4_init_4 rfl (lv_at hl 0 rfl) ?_
  refine lv_bipush (v := nI 80) F.ex F.bt dX4_init_5 (by decide +kernel) ?_
  refine k_newa F hP hD hS (N := 80) m_1_41 dX4_init_7 rfl (by omega) (by omega) (by omega) (fun q1 H hP hD hS => ?_)
  refine k_putF F nm hP hD hS inX4g tyX4 tyX4_ok nmX4 (ws' := ((h0, .inr (3, [.ref q1, .null])) :: ([] ++ [(q1, .inl (gI G, zr 80))]))) rfl vc_3 0 (by decide) m_1_73 rfl rfl (tyX4_ok 0 (by decide)) rfl rfl (Nat.le_of_ble_eq_true rfl) rfl dX4_init_9 (fun H locs hP hD hS => ?_)
  refine lv_aload_n F.ex F.bt dX4_init_12 rfl (lv_at hl 0 rfl) ?_
  refine lv_bipush (v := nI 6) F.ex F.bt dX4_init_13 (by decide +kernel) ?_
  refine k_newa F hP hD hS (N := 6) m_1_41 dX4_init_15 rfl (by omega) (by omega) (by omega) (fun q2 H hP hD hS => ?_)
  refine k_putF F nm hP hD hS inX4g tyX4 tyX4_ok nmX4 (ws' := ((h0, .inr (3, [.ref q1, .ref q2])) :: (([] ++ [(q1, .inl (gI G, zr 80))]) ++ [(q2, .inl (gI G, zr 6))]))) rfl vc_3 1 (by decide) m_1_78 rfl rfl (tyX4_ok 1 (by decide)) rfl rfl (Nat.le_of_ble_eq_true rfl) rfl dX4_init_17 (fun H locs hP hD hS => ?_)
  exact ret _ _ _ _ _ dX4_init_20 ⟨q1, q2, rfl⟩ hP hD hS
def P_X6 (G : Gx) (h0 : Nat) (ww : va_W) : Prop := ∃ (q1 : Nat), ww = ((h0, .inr (5, [.ref q1, .int (nI 0), .int (nI 0), .int (nI 0), .int (nI 0)])) :: ([] ++ [(q1, .inl (gI G, zr 120))]))
theorem i_X6 (G : Gx) (l : Launch) : CCon G l yX6_init cX6_init 1 1 1 120 5 [.null, .int 0, .int 0, .int 0, .int 0] (P_X6 G) := by
  refine CCon.of plX6 rfl (by decide) (fun X h0 F ll nm ek en hD ret H ls hP hS hl => ?_)
  have F : Fc G X cX6_init 1 RX6 1 := F
  subst ll
  refine lv_aload_n F.ex F.bt dX6_init_0 rfl (lv_at hl 0 rfl) ?_
  refine k_obj F hl.1 m_1_47 m_1_19 m_1_20 dX6_init_1 (by decide) (Nat.le_of_ble_eq_true rfl) ?_
  refine lv_aload_n F.ex F.bt dX6_init_4 rfl (lv_at hl 0 rfl) ?_
  refine lv_bipush (v := nI 120) F.ex F.bt dX6_init_5 (by decide +kernel) ?_
  refine k_newa F hP hD hS (N := 120) m_1_41 dX6_init_7 rfl (by omega) (by omega) (by omega) (fun q1 H hP hD hS => ?_)
  refine k_putF F nm hP hD hS inX6g tyX6 tyX6_ok nmX6 (ws' := ((h0, .inr (5, [.ref q1, .int 0, .int 0, .int 0, .int 0])) :: ([] ++ [(q1, .inl (gI G, zr 120))]))) rfl vc_5 0 (by decide) m_1_48 rfl rfl (tyX6_ok 0 (by decide)) rfl rfl (Nat.le_of_ble_eq_true rfl) rfl dX6_init_9 (fun H locs hP hD hS => ?_)
  refine lv_aload_n F.ex F.bt dX6_init_12 rfl (lv_at hl 0 rfl) ?_
  refine lv_iconst (v := nI 0) F.ex F.bt dX6_init_13 (by decide +kernel) ?_
  refine k_put F hP hD hS inX6g tyX6 tyX6_ok nmX6 (ws' := ((h0, .inr (5, [.ref q1, .int (nI 0), .int 0, .int 0, .int 0])) :: ([] ++ [(q1, .inl (gI G, zr 120))]))) rfl vc_5 1 (by decide) m_1_49 rfl (tyX6_ok 1 (by decide)) rfl rfl (Nat.le_of_ble_eq_true rfl) rfl dX6_init_14 (fun H locs hP hD hS => ?_)
  refine lv_aload_n F.ex F.bt dX6_init_17 rfl (lv_at hl 0 rfl) ?_
  refine lv_iconst (v := nI 0) F.ex F.bt dX6_init_18 (by decide +kernel) ?_
  refine k_put F hP hD hS inX6g tyX6 tyX6_ok nmX6 (ws' := ((h0, .inr (5, [.ref q1, .int (nI 0), .int (nI 0), .int 0, .int 0])) :: ([] ++ [(q1, .inl (gI G, zr 120))]))) rfl vc_5 2 (by decide) m_1_51 rfl (tyX6_ok 2 (by decide)) rfl rfl (Nat.le_of_ble_eq_true rfl) rfl dX6_init_19 (fun H locs hP hD hS => ?_)
  refine lv_aload_n F.ex F.bt dX6_init_22 rfl (lv_at hl 0 rfl) ?_
  refine lv_iconst (v := nI 0) F.ex F.bt dX6_init_23 (by decide +kernel) ?_
  refine k_put F hP hD hS inX6g tyX6 tyX6_ok nmX6 (ws' := ((h0, .inr (5, [.ref q1, .int (nI 0), .int (nI 0), .int (nI 0), .int 0])) :: ([] ++ [(q1, .inl (gI G, zr 120))]))) rfl vc_5 3 (by decide) m_1_53 rfl (tyX6_ok 3 (by decide)) rfl rfl (Nat.le_of_ble_eq_true rfl) rfl dX6_init_24 (fun H locs hP hD hS => ?_)
  refine lv_aload_n F.ex F.bt dX6_init_27 rfl (lv_at hl 0 rfl) ?_
  refine lv_iconst (v := nI 0) F.ex F.bt dX6_init_28 (by decide +kernel) ?_
  refine k_put F hP hD hS inX6g tyX6 tyX6_ok nmX6 (ws' := ((h0, .inr (5, [.ref q1, .int (nI 0), .int (nI 0), .int (nI 0), .int (nI 0)])) :: ([] ++ [(q1, .inl (gI G, zr 120))]))) rfl vc_5 4 (by decide) m_1_55 rfl (tyX6_ok 4 (by decide)) rfl rfl (Nat.le_of_ble_eq_true rfl) rfl dX6_init_29 (fun H locs hP hD hS => ?_)
  exact ret _ _ _ _ _ dX6_init_32 ⟨q1, rfl⟩ hP hD hS
def P_X0 (G : Gx) (h0 : Nat) (ww : va_W) : Prop := ∃ (q1 : Nat) (r1 : Nat → Nat), ww = ((h0, .inr (0, [.ref q1, .int (nI 0), .int (nI 0)])) :: ([] ++ ((q1, .inl (gA G, 24, .inr (.inr (.inr (.inr (orf 24 r1)))))) :: rws G 24 80 r1)))
theorem i_X0 (G : Gx) (l : Launch) : CCon G l yX0_init cX0_init 1 1 25 1944 0 [.null, .int 0, .int 0] (P_X0 G) := by
  refine CCon.of plX0 rfl (by decide) (fun X h0 F ll nm ek en hD ret H ls hP hS hl => ?_)
  have F : Fc G X cX0_init 1 RX0 1 := F
  subst ll
  refine lv_aload_n F.ex F.bt dX0_init_0 rfl (lv_at hl 0 rfl) ?_
  refine k_obj F hl.1 m_1_90 m_1_19 m_1_20 dX0_init_1 (by decide) (Nat.le_of_ble_eq_true rfl) ?_
  refine lv_aload_n F.ex F.bt dX0_init_4 rfl (lv_at hl 0 rfl) ?_
  refine lv_bipush (v := nI 24) F.ex F.bt dX0_init_5 (by decide +kernel) ?_
  refine lv_bipush (v := nI 80) F.ex F.bt dX0_init_7 (by decide +kernel) ?_
  refine k_mna F hP hD hS (N := 24) (M := 80) m_1_41 m_1_91 dX0_init_9 rfl rfl (by omega) (by omega) (by omega) (by omega) (fun q1 r1 H hP hD hS => ?_)
  refine k_putF F nm hP hD hS inX0g tyX0 tyX0_ok nmX0 (ws' := ((h0, .inr (0, [.ref q1, .int 0, .int 0])) :: ([] ++ ((q1, .inl (gA G, 24, .inr (.inr (.inr (.inr (orf 24 r1)))))) :: rws G 24 80 r1)))) rfl vc_0 0 (by decide) m_1_92 rfl rfl (tyX0_ok 0 (by decide)) rfl rfl (Nat.le_of_ble_eq_true rfl) rfl dX0_init_13 (fun H locs hP hD hS => ?_)
  refine lv_aload_n F.ex F.bt dX0_init_16 rfl (lv_at hl 0 rfl) ?_
  refine lv_iconst (v := nI 0) F.ex F.bt dX0_init_17 (by decide +kernel) ?_
  refine k_put F hP hD hS inX0g tyX0 tyX0_ok nmX0 (ws' := ((h0, .inr (0, [.ref q1, .int (nI 0), .int 0])) :: ([] ++ ((q1, .inl (gA G, 24, .inr (.inr (.inr (.inr (orf 24 r1)))))) :: rws G 24 80 r1)))) rfl vc_0 1 (by decide) m_1_93 rfl (tyX0_ok 1 (by decide)) rfl rfl (Nat.le_of_ble_eq_true rfl) rfl dX0_init_18 (fun H locs hP hD hS => ?_)
  refine lv_aload_n F.ex F.bt dX0_init_21 rfl (lv_at hl 0 rfl) ?_
  refine lv_iconst (v := nI 0) F.ex F.bt dX0_init_22 (by decide +kernel) ?_
  refine k_put F hP hD hS inX0g tyX0 tyX0_ok nmX0 (ws' := ((h0, .inr (0, [.ref q1, .int (nI 0), .int (nI 0)])) :: ([] ++ ((q1, .inl (gA G, 24, .inr (.inr (.inr (.inr (orf 24 r1)))))) :: rws G 24 80 r1)))) rfl vc_0 2 (by decide) m_1_94 rfl (tyX0_ok 2 (by decide)) rfl rfl (Nat.le_of_ble_eq_true rfl) rfl dX0_init_23 (fun H locs hP hD hS => ?_)
  exact ret _ _ _ _ _ dX0_init_26 ⟨q1, r1, rfl⟩ hP hD hS
def P_X1 (G : Gx) (h0 : Nat) (ww : va_W) : Prop := ∃ (q1 : Nat), ww = ((h0, .inr (1, [.ref q1, .int (nI 0)])) :: ([] ++ [(q1, .inl (gI G, zr 16))]))
theorem i_X1 (G : Gx) (l : Launch) : CCon G l yX1_init cX1_init 1 1 1 16 1 [.null, .int 0] (P_X1 G) := by
  refine CCon.of plX1 rfl (by decide) (fun X h0 F ll nm ek en hD ret H ls hP hS hl => ?_)
  have F : Fc G X cX1_init 1 RX1 1 := F
  subst ll
  refine lv_aload_n F.ex F.bt dX1_init_0 rfl (lv_at hl 0 rfl) ?_
  refine k_obj F hl.1 m_1_124 m_1_19 m_1_20 dX1_init_1 (by decide) (Nat.le_of_ble_eq_true rfl) ?_
  refine lv_aload_n F.ex F.bt dX1_init_4 rfl (lv_at hl 0 rfl) ?_
  refine lv_bipush (v := nI 16) F.ex F.bt dX1_init_5 (by decide +kernel) ?_
  refine k_newa F hP hD hS (N := 16) m_1_41 dX1_init_7 rfl (by omega) (by omega) (by omega) (fun q1 H hP hD hS => ?_)
  refine k_putF F nm hP hD hS inX1g tyX1 tyX1_ok nmX1 (ws' := ((h0, .inr (1, [.ref q1, .int 0])) :: ([] ++ [(q1, .inl (gI G, zr 16))]))) rfl vc_1 0 (by decide) m_1_125 rfl rfl (tyX1_ok 0 (by decide)) rfl rfl (Nat.le_of_ble_eq_true rfl) rfl dX1_init_9 (fun H locs hP hD hS => ?_)
  refine lv_aload_n F.ex F.bt dX1_init_12 rfl (lv_at hl 0 rfl) ?_
  refine lv_iconst (v := nI 0) F.ex F.bt dX1_init_13 (by decide +kernel) ?_
  refine k_put F hP hD hS inX1g tyX1 tyX1_ok nmX1 (ws' := ((h0, .inr (1, [.ref q1, .int (nI 0)])) :: ([] ++ [(q1, .inl (gI G, zr 16))]))) rfl vc_1 1 (by decide) m_1_127 rfl (tyX1_ok 1 (by decide)) rfl rfl (Nat.le_of_ble_eq_true rfl) rfl dX1_init_14 (fun H locs hP hD hS => ?_)
  exact ret _ _ _ _ _ dX1_init_17 ⟨q1, rfl⟩ hP hD hS
def P_X2 (G : Gx) (h0 : Nat) (ww : va_W) : Prop := ∃ (q1 : Nat) (w1 : va_W) (q2 : Nat) (w2 : va_W), P_X4 G q1 w1 ∧ P_X4 G q2 w2 ∧ ww = ((h0, .inr (2, [.ref q1, .ref q2])) :: (([] ++ w1) ++ w2))
theorem i_X2 (G : Gx) (l : Launch) : CCon G l yX2_init cX2_init 1 2 6 176 2 [.null, .null] (P_X2 G) := by
  refine CCon.of plX2 rfl (by decide) (fun X h0 F ll nm ek en hD ret H ls hP hS hl => ?_)
  have F : Fc G X cX2_init 1 RX2 2 := F
  subst ll
  refine lv_aload_n F.ex F.bt dX2_init_0 rfl (lv_at hl 0 rfl) ?_
  refine k_obj F hl.1 m_1_108 m_1_19 m_1_20 dX2_init_1 (by decide) (Nat.le_of_ble_eq_true rfl) ?_
  refine lv_aload_n F.ex F.bt dX2_init_4 rfl (lv_at hl 0 rfl) ?_
  refine k_new (ci := 3) (fs := [.null, .null]) F hP hD hS inX4g tyX4 tyX4_ok m_1_109 m_1_68 m_1_4 rfl (dfX4) dX2_init_5 (by omega) (by omega) (fun q1 H hP hD hS => ?_)
  refine lv_dup F.ex F.bt dX2_init_8 rfl ?_
  refine k_ctor F hP hD hS hl.1 (i_X4 G (xl X)) (F.nw.2.2.2.2.2.1) m_1_4 m_1_71 m_1_70 rfl nk_X4_init (by decide) (by decide) dX2_init_9 (Nat.le_of_ble_eq_true rfl) (by omega) (by omega) (fun w1 H locs hw1 hP hD hS => ?_)
  refine k_putF F nm hP hD hS inX2g tyX2 tyX2_ok nmX2 (ws' := ((h0, .inr (2, [.ref q1, .null])) :: ([] ++ w1))) rfl vc_2 0 (by decide) m_1_111 rfl rfl (tyX2_ok 0 (by decide)) rfl rfl (Nat.le_of_ble_eq_true rfl) rfl dX2_init_12 (fun H locs hP hD hS => ?_)
  refine lv_aload_n F.ex F.bt dX2_init_15 rfl (lv_at hl 0 rfl) ?_
  refine k_new (ci := 3) (fs := [.null, .null]) F hP hD hS inX4g tyX4 tyX4_ok m_1_109 m_1_68 m_1_4 rfl (dfX4) dX2_init_16 (by omega) (by omega) (fun q2 H hP hD hS => ?_)
  refine lv_dup F.ex F.bt dX2_init_19 rfl ?_
  refine k_ctor F hP hD hS hl.1 (i_X4 G (xl X)) (F.nw.2.2.2.2.2.1) m_1_4 m_1_71 m_1_70 rfl nk_X4_init (by decide) (by decide) dX2_init_20 (Nat.le_of_ble_eq_true rfl) (by omega) (by omega) (fun w2 H locs hw2 hP hD hS => ?_)
  refine k_putF F nm hP hD hS inX2g tyX2 tyX2_ok nmX2 (ws' := ((h0, .inr (2, [.ref q1, .ref q2])) :: (([] ++ w1) ++ w2))) rfl vc_2 1 (by decide) m_1_113 rfl rfl (tyX2_ok 1 (by decide)) rfl rfl (Nat.le_of_ble_eq_true rfl) rfl dX2_init_23 (fun H locs hP hD hS => ?_)
  exact ret _ _ _ _ _ dX2_init_26 ⟨q1, w1, q2, w2, hw1, hw2, rfl⟩ hP hD hS
