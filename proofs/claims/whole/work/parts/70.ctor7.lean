/-! EarTrumpets() (written by wip/tools/ctors.py) -/
def P_X7 (G : Gx) (h0 : Nat) (ww : va_W) : Prop := ∃ (q1 : Nat) (w1 : va_W) (q2 : Nat) (w2 : va_W) (q3 : Nat) (w3 : va_W) (q4 : Nat) (w4 : va_W) (q5 : Nat) (w5 : va_W) (q6 : Nat) (w6 : va_W) (q7 : Nat) (w7 : va_W) (q8 : Nat) (r8 : Nat → Nat), P_X5 G q1 w1 ∧ P_X6 G q2 w2 ∧ P_X4 G q3 w3 ∧ P_X4 G q4 w4 ∧ P_X0 G q5 w5 ∧ P_X2 G q6 w6 ∧ P_X1 G q7 w7 ∧ ww = ((h0, .inr (6, [.ref q1, .ref q2, .ref q3, .ref q4, .ref q5, .ref q6, .ref q7, .ref q8, .int (nI 0)])) :: (((((((([] ++ w1) ++ w2) ++ w3) ++ w4) ++ w5) ++ w6) ++ w7) ++ ((q8, .inl (gA G, 2, .inr (.inr (.inr (.inr (orf 2 r8)))))) :: rws G 2 80 r8)))
theorem i_X7 (G : Gx) (l : Launch) : CCon G l yX7_init cX7_init 1 3 58 2953 6 [.null, .null, .null, .null, .null, .null, .null, .null, .int 0] (P_X7 G) := by
  refine CCon.of plX7 rfl (by decide) (fun X h0 F ll nm ek en hD ret H ls hP hS hl => ?_)
  have F : Fc G X cX7_init 1 RX7 3 := F
  subst ll
  refine lv_aload_n F.ex F.bt dX7_init_0 rfl (lv_at hl 0 rfl) ?_
  refine k_obj F hl.1 m_1_18 m_1_19 m_1_20 dX7_init_1 (by decide) (Nat.le_of_ble_eq_true rfl) ?_
  refine lv_aload_n F.ex F.bt dX7_init_4 rfl (lv_at hl 0 rfl) ?_
  refine k_new (ci := 4) (fs := [.null, .null, .null]) F hP hD hS inX5g tyX5 tyX5_ok m_1_21 m_1_22 m_1_2 rfl (dfX5) dX7_init_5 (by omega) (by omega) (fun q1 H hP hD hS => ?_)
  refine lv_dup F.ex F.bt dX7_init_8 rfl ?_
  refine k_ctorP F hP hD hS hl.1 (i_X5 G (xl X)) m_1_23 m_1_2 m_1_25 m_1_24 rfl nk_X5_init (by decide) (by decide) dX7_init_9 (Nat.le_of_ble_eq_true rfl) (by omega) (by omega) (fun w1 H locs hw1 hP hD hS => ?_)
  refine k_putF F nm hP hD hS inX7g tyX7 tyX7_ok nmX7 (ws' := ((h0, .inr (6, [.ref q1, .null, .null, .null, .null, .null, .null, .null, .int 0])) :: ([] ++ w1))) rfl vc_6 0 (by decide) m_1_135 rfl rfl (tyX7_ok 0 (by decide)) rfl rfl (Nat.le_of_ble_eq_true rfl) rfl dX7_init_12 (fun H locs hP hD hS => ?_)
  refine lv_aload_n F.ex F.bt dX7_init_15 rfl (lv_at hl 0 rfl) ?_
  refine k_new (ci := 5) (fs := [.null, .int 0, .int 0, .int 0, .int 0]) F hP hD hS inX6g tyX6 tyX6_ok m_1_42 m_1_43 m_1_3 rfl (dfX6) dX7_init_16 (by omega) (by omega) (fun q2 H hP hD hS => ?_)
  refine lv_dup F.ex F.bt dX7_init_19 rfl ?_
  refine k_ctor F hP hD hS hl.1 (i_X6 G (xl X)) (F.nw.2.1) m_1_3 m_1_46 m_1_45 rfl nk_X6_init (by decide) (by decide) dX7_init_20 (Nat.le_of_ble_eq_true rfl) (by omega) (by omega) (fun w2 H locs hw2 hP hD hS => ?_)
  refine k_putF F nm hP hD hS inX7g tyX7 tyX7_ok nmX7 (ws' := ((h0, .inr (6, [.ref q1, .ref q2, .null, .null, .null, .null, .null, .null, .int 0])) :: (([] ++ w1) ++ w2))) rfl vc_6 1 (by decide) m_1_136 rfl rfl (tyX7_ok 1 (by decide)) rfl rfl (Nat.le_of_ble_eq_true rfl) rfl dX7_init_23 (fun H locs hP hD hS => ?_)
  refine lv_aload_n F.ex F.bt dX7_init_26 rfl (lv_at hl 0 rfl) ?_
  refine k_new (ci := 3) (fs := [.null, .null]) F hP hD hS inX4g tyX4 tyX4_ok m_1_67 m_1_68 m_1_4 rfl (dfX4) dX7_init_27 (by omega) (by omega) (fun q3 H hP hD hS => ?_)
  refine lv_dup F.ex F.bt dX7_init_30 rfl ?_
  refine k_ctor F hP hD hS hl.1 (i_X4 G (xl X)) (F.nw.2.2.1) m_1_4 m_1_71 m_1_70 rfl nk_X4_init (by decide) (by decide) dX7_init_31 (Nat.le_of_ble_eq_true rfl) (by omega) (by omega) (fun w3 H locs hw3 hP hD hS => ?_)
  refine k_putF F nm hP hD hS inX7g tyX7 tyX7_ok nmX7 (ws' := ((h0, .inr (6, [.ref q1, .ref q2, .ref q3, .null, .null, .null, .null, .null, .int 0])) :: ((([] ++ w1) ++ w2) ++ w3))) rfl vc_6 2 (by decide) m_1_137 rfl rfl (tyX7_ok 2 (by decide)) rfl rfl (Nat.le_of_ble_eq_true rfl) rfl dX7_init_34 (fun H locs hP hD hS => ?_)
  refine lv_aload_n F.ex F.bt dX7_init_37 rfl (lv_at hl 0 rfl) ?_
  refine k_new (ci := 3) (fs := [.null, .null]) F hP hD hS inX4g tyX4 tyX4_ok m_1_67 m_1_68 m_1_4 rfl (dfX4) dX7_init_38 (by omega) (by omega) (fun q4 H hP hD hS => ?_)
  refine lv_dup F.ex F.bt dX7_init_41 rfl ?_
  refine k_ctor F hP hD hS hl.1 (i_X4 G (xl X)) (F.nw.2.2.1) m_1_4 m_1_71 m_1_70 rfl nk_X4_init (by decide) (by decide) dX7_init_42 (Nat.le_of_ble_eq_true rfl) (by omega) (by omega) (fun w4 H locs hw4 hP hD hS => ?_)
  refine k_putF F nm hP hD hS inX7g tyX7 tyX7_ok nmX7 (ws' := ((h0, .inr (6, [.ref q1, .ref q2, .ref q3, .ref q4, .null, .null, .null, .null, .int 0])) :: (((([] ++ w1) ++ w2) ++ w3) ++ w4))) rfl vc_6 3 (by decide) m_1_138 rfl rfl (tyX7_ok 3 (by decide)) rfl rfl (Nat.le_of_ble_eq_true rfl) rfl dX7_init_45 (fun H locs hP hD hS => ?_)
  refine lv_aload_n F.ex F.bt dX7_init_48 rfl (lv_at hl 0 rfl) ?_
  refine k_new (ci := 0) (fs := [.null, .int 0, .int 0]) F hP hD hS inX0g tyX0 tyX0_ok m_1_85 m_1_86 m_1_5 rfl (dfX0) dX7_init_49 (by omega) (by omega) (fun q5 H hP hD hS => ?_)
  refine lv_dup F.ex F.bt dX7_init_52 rfl ?_
  refine k_ctor F hP hD hS hl.1 (i_X0 G (xl X)) (F.nw.2.2.2.1) m_1_5 m_1_89 m_1_88 rfl nk_X0_init (by decide) (by decide) dX7_init_53 (Nat.le_of_ble_eq_true rfl) (by omega) (by omega) (fun w5 H locs hw5 hP hD hS => ?_)
  refine k_putF F nm hP hD hS inX7g tyX7 tyX7_ok nmX7 (ws' := ((h0, .inr (6, [.ref q1, .ref q2, .ref q3, .ref q4, .ref q5, .null, .null, .null, .int 0])) :: ((((([] ++ w1) ++ w2) ++ w3) ++ w4) ++ w5))) rfl vc_6 4 (by decide) m_1_139 rfl rfl (tyX7_ok 4 (by decide)) rfl rfl (Nat.le_of_ble_eq_true rfl) rfl dX7_init_56 (fun H locs hP hD hS => ?_)
  refine lv_aload_n F.ex F.bt dX7_init_59 rfl (lv_at hl 0 rfl) ?_
  refine k_new (ci := 2) (fs := [.null, .null]) F hP hD hS inX2g tyX2 tyX2_ok m_1_103 m_1_104 m_1_6 rfl (dfX2) dX7_init_60 (by omega) (by omega) (fun q6 H hP hD hS => ?_)
  refine lv_dup F.ex F.bt dX7_init_63 rfl ?_
  refine k_ctor F hP hD hS hl.1 (i_X2 G (xl X)) (F.nw.2.2.2.2.1) m_1_6 m_1_107 m_1_106 rfl nk_X2_init (by decide) (by decide) dX7_init_64 (Nat.le_of_ble_eq_true rfl) (by omega) (by omega) (fun w6 H locs hw6 hP hD hS => ?_)
  refine k_putF F nm hP hD hS inX7g tyX7 tyX7_ok nmX7 (ws' := ((h0, .inr (6, [.ref q1, .ref q2, .ref q3, .ref q4, .ref q5, .ref q6, .null, .null, .int 0])) :: (((((([] ++ w1) ++ w2) ++ w3) ++ w4) ++ w5) ++ w6))) rfl vc_6 5 (by decide) m_1_140 rfl rfl (tyX7_ok 5 (by decide)) rfl rfl (Nat.le_of_ble_eq_true rfl) rfl dX7_init_67 (fun H locs hP hD hS => ?_)
  refine lv_aload_n F.ex F.bt dX7_init_70 rfl (lv_at hl 0 rfl) ?_
  refine k_new (ci := 1) (fs := [.null, .int 0]) F hP hD hS inX1g tyX1 tyX1_ok m_1_119 m_1_120 m_1_7 rfl (dfX1) dX7_init_71 (by omega) (by omega) (fun q7 H hP hD hS => ?_)
  refine lv_dup F.ex F.bt dX7_init_74 rfl ?_
  refine k_ctor F hP hD hS hl.1 (i_X1 G (xl X)) (F.nw.2.2.2.2.2.2) m_1_7 m_1_123 m_1_122 rfl nk_X1_init (by decide) (by decide) dX7_init_75 (Nat.le_of_ble_eq_true rfl) (by omega) (by omega) (fun w7 H locs hw7 hP hD hS => ?_)
  refine k_putF F nm hP hD hS inX7g tyX7 tyX7_ok nmX7 (ws' := ((h0, .inr (6, [.ref q1, .ref q2, .ref q3, .ref q4, .ref q5, .ref q6, .ref q7, .null, .int 0])) :: ((((((([] ++ w1) ++ w2) ++ w3) ++ w4) ++ w5) ++ w6) ++ w7))) rfl vc_6 6 (by decide) m_1_141 rfl rfl (tyX7_ok 6 (by decide)) rfl rfl (Nat.le_of_ble_eq_true rfl) rfl dX7_init_78 (fun H locs hP hD hS => ?_)
  refine lv_aload_n F.ex F.bt dX7_init_81 rfl (lv_at hl 0 rfl) ?_
  refine lv_iconst (v := nI 2) F.ex F.bt dX7_init_82 (by decide +kernel) ?_
  refine lv_bipush (v := nI 80) F.ex F.bt dX7_init_83 (by decide +kernel) ?_
  refine k_mna F hP hD hS (N := 2) (M := 80) m_1_41 m_1_134 dX7_init_85 rfl rfl (by omega) (by omega) (by omega) (by omega) (fun q8 r8 H hP hD hS => ?_)
  refine k_putF F nm hP hD hS inX7g tyX7 tyX7_ok nmX7 (ws' := ((h0, .inr (6, [.ref q1, .ref q2, .ref q3, .ref q4, .ref q5, .ref q6, .ref q7, .ref q8, .int 0])) :: (((((((([] ++ w1) ++ w2) ++ w3) ++ w4) ++ w5) ++ w6) ++ w7) ++ ((q8, .inl (gA G, 2, .inr (.inr (.inr (.inr (orf 2 r8)))))) :: rws G 2 80 r8)))) rfl vc_6 7 (by decide) m_1_142 rfl rfl (tyX7_ok 7 (by decide)) rfl rfl (Nat.le_of_ble_eq_true rfl) rfl dX7_init_89 (fun H locs hP hD hS => ?_)
  refine lv_aload_n F.ex F.bt dX7_init_92 rfl (lv_at hl 0 rfl) ?_
  refine lv_iconst (v := nI 0) F.ex F.bt dX7_init_93 (by decide +kernel) ?_
  refine k_put F hP hD hS inX7g tyX7 tyX7_ok nmX7 (ws' := ((h0, .inr (6, [.ref q1, .ref q2, .ref q3, .ref q4, .ref q5, .ref q6, .ref q7, .ref q8, .int (nI 0)])) :: (((((((([] ++ w1) ++ w2) ++ w3) ++ w4) ++ w5) ++ w6) ++ w7) ++ ((q8, .inl (gA G, 2, .inr (.inr (.inr (.inr (orf 2 r8)))))) :: rws G 2 80 r8)))) rfl vc_6 8 (by decide) m_1_143 rfl (tyX7_ok 8 (by decide)) rfl rfl (Nat.le_of_ble_eq_true rfl) rfl dX7_init_94 (fun H locs hP hD hS => ?_)
  exact ret _ _ _ _ _ dX7_init_97 ⟨q1, w1, q2, w2, q3, w3, q4, w4, q5, w5, q6, w6, q7, w7, q8, r8, hw1, hw2, hw3, hw4, hw5, hw6, hw7, rfl⟩ hP hD hS
