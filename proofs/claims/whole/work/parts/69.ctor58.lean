/-! Rows() and the reference (written by wip/tools/ctors.py) -/
def w_X5 (G : Gx) (h0 q1 : Nat) (r1 : Nat → Nat) (q2 q3 : Nat) (f : Nat → Int32) : va_W := ((h0, .inr (4, [.ref q1, .ref q2, .ref q3])) :: ((([] ++ ((q1, .inl (gA G, 8, .inr (.inr (.inr (.inr (orf 8 r1)))))) :: rws G 8 40 r1)) ++ [(q2, .inl (gI G, zr 8))]) ++ [(q3, .inl (gI G, 8, .inl f))]))
def P_X5 (G : Gx) (h0 : Nat) (ww : va_W) : Prop := ∃ (q1 : Nat) (r1 : Nat → Nat) (q2 q3 : Nat) (f : Nat → Int32), (∀ j, j < 8 → f j = -1) ∧ ww = w_X5 G h0 q1 r1 q2 q3 f
theorem i_X5 (G : Gx) (l : Launch) : CCon G l yX5_init cX5_init 2 1 11 344 4 [.null, .null, .null] (P_X5 G) := by
  refine CCon.of plX5 rfl (by decide) (fun X h0 F ll nm ek en hD ret H ls hP hS hl => ?_)
  have F : Fc G X cX5_init 2 RX5 1 := F
  subst ll
  refine lv_aload_n F.ex F.bt dX5_init_0 rfl (lv_at hl 0 rfl) ?_
  refine k_obj F hl.1 m_1_26 m_1_19 m_1_20 dX5_init_1 (by decide) (Nat.le_of_ble_eq_true rfl) ?_
  refine lv_aload_n F.ex F.bt dX5_init_4 rfl (lv_at hl 0 rfl) ?_
  refine lv_bipush (v := nI 8) F.ex F.bt dX5_init_5 (by decide +kernel) ?_
  refine lv_bipush (v := nI 40) F.ex F.bt dX5_init_7 (by decide +kernel) ?_
  refine k_mna F hP hD hS (N := 8) (M := 40) m_1_41 m_1_27 dX5_init_9 rfl rfl (by omega) (by omega) (by omega) (by omega) (fun q1 r1 H hP hD hS => ?_)
  refine k_putF F nm hP hD hS inX5g tyX5 tyX5_ok nmX5 (ws' := ((h0, .inr (4, [.ref q1, .null, .null])) :: ([] ++ ((q1, .inl (gA G, 8, .inr (.inr (.inr (.inr (orf 8 r1)))))) :: rws G 8 40 r1)))) rfl vc_4 0 (by decide) m_1_29 rfl rfl (tyX5_ok 0 (by decide)) rfl rfl (Nat.le_of_ble_eq_true rfl) rfl dX5_init_13 (fun H locs hP hD hS => ?_)
  refine lv_aload_n F.ex F.bt dX5_init_16 rfl (lv_at hl 0 rfl) ?_
  refine lv_bipush (v := nI 8) F.ex F.bt dX5_init_17 (by decide +kernel) ?_
  refine k_newa F hP hD hS (N := 8) m_1_41 dX5_init_19 rfl (by omega) (by omega) (by omega) (fun q2 H hP hD hS => ?_)
  refine k_putF F nm hP hD hS inX5g tyX5 tyX5_ok nmX5 (ws' := ((h0, .inr (4, [.ref q1, .ref q2, .null])) :: (([] ++ ((q1, .inl (gA G, 8, .inr (.inr (.inr (.inr (orf 8 r1)))))) :: rws G 8 40 r1)) ++ [(q2, .inl (gI G, zr 8))]))) rfl vc_4 1 (by decide) m_1_31 rfl rfl (tyX5_ok 1 (by decide)) rfl rfl (Nat.le_of_ble_eq_true rfl) rfl dX5_init_21 (fun H locs hP hD hS => ?_)
  refine lv_aload_n F.ex F.bt dX5_init_24 rfl (lv_at hl 0 rfl) ?_
  refine lv_bipush (v := nI 8) F.ex F.bt dX5_init_25 (by decide +kernel) ?_
  refine k_newa F hP hD hS (N := 8) m_1_41 dX5_init_27 rfl (by omega) (by omega) (by omega) (fun q3 H hP hD hS => ?_)
  refine k_putF F nm hP hD hS inX5g tyX5 tyX5_ok nmX5 (ws' := ((h0, .inr (4, [.ref q1, .ref q2, .ref q3])) :: ((([] ++ ((q1, .inl (gA G, 8, .inr (.inr (.inr (.inr (orf 8 r1)))))) :: rws G 8 40 r1)) ++ [(q2, .inl (gI G, zr 8))]) ++ [(q3, .inl (gI G, zr 8))]))) rfl vc_4 2 (by decide) m_1_33 rfl rfl (tyX5_ok 2 (by decide)) rfl rfl (Nat.le_of_ble_eq_true rfl) rfl dX5_init_29 (fun H locs hP hD hS => ?_)
  have loop : ∀ (m i : Nat) (f : Nat → Int32), i + m = 8 → (∀ j, j < i → f j = -1) → ∀ (H : Heap) (locs : List Loc) (ls : Array Slot), va_P G.1 vwCl (w_X5 G h0 q1 r1 q2 q3 f) H → va_D (xA X) (w_X5 G h0 q1 r1 q2 q3 f) → va_S (xA X) (xs X).heap H locs → lv_has ls 2 [(1, .int (nI i)), (0, .ref h0)] → Wk X H locs 11 344 34 ls [] := by
    intro m
    induction m with
    | zero =>
      intro i f hi hf H locs ls hP hD hS hl
      refine lv_iload_n F.ex F.bt dX5_init_34 rfl (lv_at hl 0 rfl) ?_
      refine lv_bipush (v := nI 8) F.ex F.bt dX5_init_35 (by decide +kernel) ?_
      refine lv_icmp_ge (tgt := 53) F.ex F.bt dX5_init_37 (by decide) (fun _ => ?_) (fun z => absurd (nI_le (by omega) (by omega)) z)
      exact ret _ _ _ _ _ dX5_init_53 ⟨q1, r1, q2, q3, f, fun j hj => hf j (by omega), rfl⟩ hP hD hS
    | succ m ih =>
      intro i f hi hf H locs ls hP hD hS hl
      refine lv_iload_n F.ex F.bt dX5_init_34 rfl (lv_at hl 0 rfl) ?_
      refine lv_bipush (v := nI 8) F.ex F.bt dX5_init_35 (by decide +kernel) ?_
      refine lv_icmp_ge (tgt := 53) F.ex F.bt dX5_init_37 (by decide) (fun z => absurd z (by rw [leN (by omega) (by omega)]; omega)) (fun _ => ?_)
      refine lv_aload_n F.ex F.bt dX5_init_40 rfl (lv_at hl 1 rfl) ?_
      refine va_get (v := .ref q3) F.ex F.bt F.ts inX5g F.ow F.K hP 0 rfl vc_4 2 (by decide) (F.ts _ m_1_33) (fun _ h9 => h9) rfl dX5_init_41 ?_
      refine lv_iload_n F.ex F.bt dX5_init_44 rfl (lv_at hl 0 rfl) ?_
      refine lv_iconst (v := -1) F.ex F.bt dX5_init_45 (by decide +kernel) ?_
      refine va_iast (f := f) F.ex F.bt F.K hP hD hS 11 0 rfl rfl (vp_in_nI (by omega) (by decide)) dX5_init_46 (fun H locs hP hD hS => ?_)
      rw [clN (by omega)] at hP hD
      have hP : va_P G.1 vwCl (w_X5 G h0 q1 r1 q2 q3 (upd f i (-1))) H := hP
      have hD : va_D (xA X) (w_X5 G h0 q1 r1 q2 q3 (upd f i (-1))) := hD
      refine lv_iinc (v := nI (i + 1)) (lv' := [(1, .int (nI (i + 1))), (0, .ref h0)]) F.ex F.bt dX5_init_47 hl (k := 0) rfl (nI_1 i) (by decide) rfl (fun ls hl => ?_)
      refine lv_goto (tgt := 34) F.ex F.bt dX5_init_50 (by decide) ?_
      refine ih (i + 1) (upd f i (-1)) (by omega) (fun j hj => ?_) H locs ls hP hD hS hl
      show (if j = i then -1 else f j) = -1
      by_cases z : j = i
      · rw [if_pos z]
      · rw [if_neg z]
        exact hf j (by omega)
  refine lv_iconst (v := nI 0) F.ex F.bt dX5_init_32 (by decide +kernel) ?_
  refine lv_istore_n (lv' := [(1, .int (nI 0)), (0, .ref h0)]) F.ex F.bt dX5_init_33 rfl hl (by decide) rfl (fun ls hl => ?_)
  exact loop 8 0 (fun _ => 0) rfl (fun j hj => absurd hj (Nat.not_lt_zero j)) H locs ls hP hD hS hl
def P_X8 (G : Gx) (h0 : Nat) (ww : va_W) : Prop := ∃ (q1 q2 q3 q4 q5 q6 q7 q8 q9 q10 q11 q12 : Nat) (f : Nat → Int32), (∀ j, j < 8 → f j = -1) ∧ ww = ((h0, .inr (7, [.int 0, .int 0, .ref q1, .ref q2, .ref q3, .ref q4, .ref q5, .ref q6, .ref q7, .int 0, .ref q8, .int 0, .int 0, .int 0, .int 0, .int 0, .int 0, .int 0, .int 0, .ref q9, .ref q10, .ref q11, .ref q12, .int 0])) :: (((((((((((([] ++ [(q1, .inl (gI G, 8, .inl f))]) ++ [(q2, .inl (gI G, zr 8))]) ++ [(q3, .inl (gI G, zr 320))]) ++ [(q4, .inl (gI G, zr 80))]) ++ [(q5, .inl (gI G, zr 80))]) ++ [(q6, .inl (gI G, zr 80))]) ++ [(q7, .inl (gI G, zr 1920))]) ++ [(q8, .inl (gI G, zr 120))]) ++ [(q9, .inl (gI G, zr 6))]) ++ [(q10, .inl (gZ G, zr 2))]) ++ [(q11, .inl (gI G, zr 160))]) ++ [(q12, .inl (gI G, zr 16))]))
theorem i_X8 (G : Gx) (l : Launch) : CCon G l yX8_init cX8_init 1 1 12 2800 7 [.int 0, .int 0, .null, .null, .null, .null, .null, .null, .null, .int 0, .null, .int 0, .int 0, .int 0, .int 0, .int 0, .int 0, .int 0, .int 0, .null, .null, .null, .null, .int 0] (P_X8 G) := by
  refine CCon.of plX8 rfl (by decide) (fun X h0 F ll nm ek en hD ret H ls hP hS hl => ?_)
  have F : Fc G X cX8_init 1 RX8 1 := F
  subst ll
  refine lv_aload_n F.ex F.bt dX8_init_0 rfl (lv_at hl 0 rfl) ?_
  refine k_obj F hl.1 m_3_194 m_1_19 m_1_20 dX8_init_1 (by decide) (Nat.le_of_ble_eq_true rfl) ?_
  refine lv_aload_n F.ex F.bt dX8_init_4 rfl (lv_at hl 0 rfl) ?_
  refine lv_bipush (v := nI 8) F.ex F.bt dX8_init_5 (by decide +kernel) ?_
  refine k_newa F hP hD hS (N := 8) m_1_41 dX8_init_7 rfl (by omega) (by omega) (by omega) (fun q1 H hP hD hS => ?_)
  refine lv_dup F.ex F.bt dX8_init_9 rfl ?_
  refine lv_iconst (v := nI 0) F.ex F.bt dX8_init_10 (by decide +kernel) ?_
  refine lv_iconst (v := -1) F.ex F.bt dX8_init_11 (by decide +kernel) ?_
  refine va_iast F.ex F.bt F.K hP hD hS 1 0 rfl rfl (vp_in_nI (n := 0) (by decide) (by decide)) dX8_init_12 (fun H locs hP hD hS => ?_)
  have hP : va_P G.1 vwCl ((h0, .inr (7, [.int 0, .int 0, .null, .null, .null, .null, .null, .null, .null, .int 0, .null, .int 0, .int 0, .int 0, .int 0, .int 0, .int 0, .int 0, .int 0, .null, .null, .null, .null, .int 0])) :: ([] ++ [(q1, .inl (gI G, 8, .inl (upd (fun _ => 0) (nI 0).toNatClampNeg (-1))))])) H := hP
  have hD : va_D (xA X) ((h0, .inr (7, [.int 0, .int 0, .null, .null, .null, .null, .null, .null, .null, .int 0, .null, .int 0, .int 0, .int 0, .int 0, .int 0, .int 0, .int 0, .int 0, .null, .null, .null, .null, .int 0])) :: ([] ++ [(q1, .inl (gI G, 8, .inl (upd (fun _ => 0) (nI 0).toNatClampNeg (-1))))])) := hD
  refine lv_dup F.ex F.bt dX8_init_13 rfl ?_
  refine lv_iconst (v := nI 1) F.ex F.bt dX8_init_14 (by decide +kernel) ?_
  refine lv_iconst (v := -1) F.ex F.bt dX8_init_15 (by decide +kernel) ?_
  refine va_iast F.ex F.bt F.K hP hD hS 1 0 rfl rfl (vp_in_nI (n := 1) (by decide) (by decide)) dX8_init_16 (fun H locs hP hD hS => ?_)
  have hP : va_P G.1 vwCl ((h0, .inr (7, [.int 0, .int 0, .null, .null, .null, .null, .null, .null, .null, .int 0, .null, .int 0, .int 0, .int 0, .int 0, .int 0, .int 0, .int 0, .int 0, .null, .null, .null, .null, .int 0])) :: ([] ++ [(q1, .inl (gI G, 8, .inl (upd (upd (fun _ => 0) (nI 0).toNatClampNeg (-1)) (nI 1).toNatClampNeg (-1))))])) H := hP
  have hD : va_D (xA X) ((h0, .inr (7, [.int 0, .int 0, .null, .null, .null, .null, .null, .null, .null, .int 0, .null, .int 0, .int 0, .int 0, .int 0, .int 0, .int 0, .int 0, .int 0, .null, .null, .null, .null, .int 0])) :: ([] ++ [(q1, .inl (gI G, 8, .inl (upd (upd (fun _ => 0) (nI 0).toNatClampNeg (-1)) (nI 1).toNatClampNeg (-1))))])) := hD
  refine lv_dup F.ex F.bt dX8_init_17 rfl ?_
  refine lv_iconst (v := nI 2) F.ex F.bt dX8_init_18 (by decide +kernel) ?_
  refine lv_iconst (v := -1) F.ex F.bt dX8_init_19 (by decide +kernel) ?_
  refine va_iast F.ex F.bt F.K hP hD hS 1 0 rfl rfl (vp_in_nI (n := 2) (by decide) (by decide)) dX8_init_20 (fun H locs hP hD hS => ?_)
  have hP : va_P G.1 vwCl ((h0, .inr (7, [.int 0, .int 0, .null, .null, .null, .null, .null, .null, .null, .int 0, .null, .int 0, .int 0, .int 0, .int 0, .int 0, .int 0, .int 0, .int 0, .null, .null, .null, .null, .int 0])) :: ([] ++ [(q1, .inl (gI G, 8, .inl (upd (upd (upd (fun _ => 0) (nI 0).toNatClampNeg (-1)) (nI 1).toNatClampNeg (-1)) (nI 2).toNatClampNeg (-1))))])) H := hP
  have hD : va_D (xA X) ((h0, .inr (7, [.int 0, .int 0, .null, .null, .null, .null, .null, .null, .null, .int 0, .null, .int 0, .int 0, .int 0, .int 0, .int 0, .int 0, .int 0, .int 0, .null, .null, .null, .null, .int 0])) :: ([] ++ [(q1, .inl (gI G, 8, .inl (upd (upd (upd (fun _ => 0) (nI 0).toNatClampNeg (-1)) (nI 1).toNatClampNeg (-1)) (nI 2).toNatClampNeg (-1))))])) := hD
  refine lv_dup F.ex F.bt dX8_init_21 rfl ?_
  refine lv_iconst (v := nI 3) F.ex F.bt dX8_init_22 (by decide +kernel) ?_
  refine lv_iconst (v := -1) F.ex F.bt dX8_init_23 (by decide +kernel) ?_
  refine va_iast F.ex F.bt F.K hP hD hS 1 0 rfl rfl (vp_in_nI (n := 3) (by decide) (by decide)) dX8_init_24 (fun H locs hP hD hS => ?_)
  have hP : va_P G.1 vwCl ((h0, .inr (7, [.int 0, .int 0, .null, .null, .null, .null, .null, .null, .null, .int 0, .null, .int 0, .int 0, .int 0, .int 0, .int 0, .int 0, .int 0, .int 0, .null, .null, .null, .null, .int 0])) :: ([] ++ [(q1, .inl (gI G, 8, .inl (upd (upd (upd (upd (fun _ => 0) (nI 0).toNatClampNeg (-1)) (nI 1).toNatClampNeg (-1)) (nI 2).toNatClampNeg (-1)) (nI 3).toNatClampNeg (-1))))])) H := hP
  have hD : va_D (xA X) ((h0, .inr (7, [.int 0, .int 0, .null, .null, .null, .null, .null, .null, .null, .int 0, .null, .int 0, .int 0, .int 0, .int 0, .int 0, .int 0, .int 0, .int 0, .null, .null, .null, .null, .int 0])) :: ([] ++ [(q1, .inl (gI G, 8, .inl (upd (upd (upd (upd (fun _ => 0) (nI 0).toNatClampNeg (-1)) (nI 1).toNatClampNeg (-1)) (nI 2).toNatClampNeg (-1)) (nI 3).toNatClampNeg (-1))))])) := hD
  refine lv_dup F.ex F.bt dX8_init_25 rfl ?_
  refine lv_iconst (v := nI 4) F.ex F.bt dX8_init_26 (by decide +kernel) ?_
  refine lv_iconst (v := -1) F.ex F.bt dX8_init_27 (by decide +kernel) ?_
  refine va_iast F.ex F.bt F.K hP hD hS 1 0 rfl rfl (vp_in_nI (n := 4) (by decide) (by decide)) dX8_init_28 (fun H locs hP hD hS => ?_)
  have hP : va_P G.1 vwCl ((h0, .inr (7, [.int 0, .int 0, .null, .null, .null, .null, .null, .null, .null, .int 0, .null, .int 0, .int 0, .int 0, .int 0, .int 0, .int 0, .int 0, .int 0, .null, .null, .null, .null, .int 0])) :: ([] ++ [(q1, .inl (gI G, 8, .inl (upd (upd (upd (upd (upd (fun _ => 0) (nI 0).toNatClampNeg (-1)) (nI 1).toNatClampNeg (-1)) (nI 2).toNatClampNeg (-1)) (nI 3).toNatClampNeg (-1)) (nI 4).toNatClampNeg (-1))))])) H := hP
  have hD : va_D (xA X) ((h0, .inr (7, [.int 0, .int 0, .null, .null, .null, .null, .null, .null, .null, .int 0, .null, .int 0, .int 0, .int 0, .int 0, .int 0, .int 0, .int 0, .int 0, .null, .null, .null, .null, .int 0])) :: ([] ++ [(q1, .inl (gI G, 8, .inl (upd (upd (upd (upd (upd (fun _ => 0) (nI 0).toNatClampNeg (-1)) (nI 1).toNatClampNeg (-1)) (nI 2).toNatClampNeg (-1)) (nI 3).toNatClampNeg (-1)) (nI 4).toNatClampNeg (-1))))])) := hD
  refine lv_dup F.ex F.bt dX8_init_29 rfl ?_
  refine lv_iconst (v := nI 5) F.ex F.bt dX8_init_30 (by decide +kernel) ?_
  refine lv_iconst (v := -1) F.ex F.bt dX8_init_31 (by decide +kernel) ?_
  refine va_iast F.ex F.bt F.K hP hD hS 1 0 rfl rfl (vp_in_nI (n := 5) (by decide) (by decide)) dX8_init_32 (fun H locs hP hD hS => ?_)
  have hP : va_P G.1 vwCl ((h0, .inr (7, [.int 0, .int 0, .null, .null, .null, .null, .null, .null, .null, .int 0, .null, .int 0, .int 0, .int 0, .int 0, .int 0, .int 0, .int 0, .int 0, .null, .null, .null, .null, .int 0])) :: ([] ++ [(q1, .inl (gI G, 8, .inl (upd (upd (upd (upd (upd (upd (fun _ => 0) (nI 0).toNatClampNeg (-1)) (nI 1).toNatClampNeg (-1)) (nI 2).toNatClampNeg (-1)) (nI 3).toNatClampNeg (-1)) (nI 4).toNatClampNeg (-1)) (nI 5).toNatClampNeg (-1))))])) H := hP
  have hD : va_D (xA X) ((h0, .inr (7, [.int 0, .int 0, .null, .null, .null, .null, .null, .null, .null, .int 0, .null, .int 0, .int 0, .int 0, .int 0, .int 0, .int 0, .int 0, .int 0, .null, .null, .null, .null, .int 0])) :: ([] ++ [(q1, .inl (gI G, 8, .inl (upd (upd (upd (upd (upd (upd (fun _ => 0) (nI 0).toNatClampNeg (-1)) (nI 1).toNatClampNeg (-1)) (nI 2).toNatClampNeg (-1)) (nI 3).toNatClampNeg (-1)) (nI 4).toNatClampNeg (-1)) (nI 5).toNatClampNeg (-1))))])) := hD
  refine lv_dup F.ex F.bt dX8_init_33 rfl ?_
  refine lv_bipush (v := nI 6) F.ex F.bt dX8_init_34 (by decide +kernel) ?_
  refine lv_iconst (v := -1) F.ex F.bt dX8_init_36 (by decide +kernel) ?_
  refine va_iast F.ex F.bt F.K hP hD hS 1 0 rfl rfl (vp_in_nI (n := 6) (by decide) (by decide)) dX8_init_37 (fun H locs hP hD hS => ?_)
  have hP : va_P G.1 vwCl ((h0, .inr (7, [.int 0, .int 0, .null, .null, .null, .null, .null, .null, .null, .int 0, .null, .int 0, .int 0, .int 0, .int 0, .int 0, .int 0, .int 0, .int 0, .null, .null, .null, .null, .int 0])) :: ([] ++ [(q1, .inl (gI G, 8, .inl (upd (upd (upd (upd (upd (upd (upd (fun _ => 0) (nI 0).toNatClampNeg (-1)) (nI 1).toNatClampNeg (-1)) (nI 2).toNatClampNeg (-1)) (nI 3).toNatClampNeg (-1)) (nI 4).toNatClampNeg (-1)) (nI 5).toNatClampNeg (-1)) (nI 6).toNatClampNeg (-1))))])) H := hP
  have hD : va_D (xA X) ((h0, .inr (7, [.int 0, .int 0, .null, .null, .null, .null, .null, .null, .null, .int 0, .null, .int 0, .int 0, .int 0, .int 0, .int 0, .int 0, .int 0, .int 0, .null, .null, .null, .null, .int 0])) :: ([] ++ [(q1, .inl (gI G, 8, .inl (upd (upd (upd (upd (upd (upd (upd (fun _ => 0) (nI 0).toNatClampNeg (-1)) (nI 1).toNatClampNeg (-1)) (nI 2).toNatClampNeg (-1)) (nI 3).toNatClampNeg (-1)) (nI 4).toNatClampNeg (-1)) (nI 5).toNatClampNeg (-1)) (nI 6).toNatClampNeg (-1))))])) := hD
  refine lv_dup F.ex F.bt dX8_init_38 rfl ?_
  refine lv_bipush (v := nI 7) F.ex F.bt dX8_init_39 (by decide +kernel) ?_
  refine lv_iconst (v := -1) F.ex F.bt dX8_init_41 (by decide +kernel) ?_
  refine va_iast F.ex F.bt F.K hP hD hS 1 0 rfl rfl (vp_in_nI (n := 7) (by decide) (by decide)) dX8_init_42 (fun H locs hP hD hS => ?_)
  have hP : va_P G.1 vwCl ((h0, .inr (7, [.int 0, .int 0, .null, .null, .null, .null, .null, .null, .null, .int 0, .null, .int 0, .int 0, .int 0, .int 0, .int 0, .int 0, .int 0, .int 0, .null, .null, .null, .null, .int 0])) :: ([] ++ [(q1, .inl (gI G, 8, .inl (upd (upd (upd (upd (upd (upd (upd (upd (fun _ => 0) (nI 0).toNatClampNeg (-1)) (nI 1).toNatClampNeg (-1)) (nI 2).toNatClampNeg (-1)) (nI 3).toNatClampNeg (-1)) (nI 4).toNatClampNeg (-1)) (nI 5).toNatClampNeg (-1)) (nI 6).toNatClampNeg (-1)) (nI 7).toNatClampNeg (-1))))])) H := hP
  have hD : va_D (xA X) ((h0, .inr (7, [.int 0, .int 0, .null, .null, .null, .null, .null, .null, .null, .int 0, .null, .int 0, .int 0, .int 0, .int 0, .int 0, .int 0, .int 0, .int 0, .null, .null, .null, .null, .int 0])) :: ([] ++ [(q1, .inl (gI G, 8, .inl (upd (upd (upd (upd (upd (upd (upd (upd (fun _ => 0) (nI 0).toNatClampNeg (-1)) (nI 1).toNatClampNeg (-1)) (nI 2).toNatClampNeg (-1)) (nI 3).toNatClampNeg (-1)) (nI 4).toNatClampNeg (-1)) (nI 5).toNatClampNeg (-1)) (nI 6).toNatClampNeg (-1)) (nI 7).toNatClampNeg (-1))))])) := hD
  have hf : ∀ j, j < 8 → (upd (upd (upd (upd (upd (upd (upd (upd (fun _ => 0) (nI 0).toNatClampNeg (-1)) (nI 1).toNatClampNeg (-1)) (nI 2).toNatClampNeg (-1)) (nI 3).toNatClampNeg (-1)) (nI 4).toNatClampNeg (-1)) (nI 5).toNatClampNeg (-1)) (nI 6).toNatClampNeg (-1)) (nI 7).toNatClampNeg (-1)) j = -1 := by decide +kernel
  generalize (upd (upd (upd (upd (upd (upd (upd (upd (fun _ => 0) (nI 0).toNatClampNeg (-1)) (nI 1).toNatClampNeg (-1)) (nI 2).toNatClampNeg (-1)) (nI 3).toNatClampNeg (-1)) (nI 4).toNatClampNeg (-1)) (nI 5).toNatClampNeg (-1)) (nI 6).toNatClampNeg (-1)) (nI 7).toNatClampNeg (-1)) = f at hf hP hD
  refine k_putF F nm hP hD hS inX8g tyX8 tyX8_ok nmX8 (ws' := ((h0, .inr (7, [.int 0, .int 0, .ref q1, .null, .null, .null, .null, .null, .null, .int 0, .null, .int 0, .int 0, .int 0, .int 0, .int 0, .int 0, .int 0, .int 0, .null, .null, .null, .null, .int 0])) :: ([] ++ [(q1, .inl (gI G, 8, .inl f))]))) rfl vc_7 2 (by decide) m_3_197 rfl rfl (tyX8_ok 2 (by decide)) rfl rfl (Nat.le_of_ble_eq_true rfl) rfl dX8_init_43 (fun H locs hP hD hS => ?_)
  refine lv_aload_n F.ex F.bt dX8_init_46 rfl (lv_at hl 0 rfl) ?_
  refine lv_bipush (v := nI 8) F.ex F.bt dX8_init_47 (by decide +kernel) ?_
  refine k_newa F hP hD hS (N := 8) m_1_41 dX8_init_49 rfl (by omega) (by omega) (by omega) (fun q2 H hP hD hS => ?_)
  refine k_putF F nm hP hD hS inX8g tyX8 tyX8_ok nmX8 (ws' := ((h0, .inr (7, [.int 0, .int 0, .ref q1, .ref q2, .null, .null, .null, .null, .null, .int 0, .null, .int 0, .int 0, .int 0, .int 0, .int 0, .int 0, .int 0, .int 0, .null, .null, .null, .null, .int 0])) :: (([] ++ [(q1, .inl (gI G, 8, .inl f))]) ++ [(q2, .inl (gI G, zr 8))]))) rfl vc_7 3 (by decide) m_3_198 rfl rfl (tyX8_ok 3 (by decide)) rfl rfl (Nat.le_of_ble_eq_true rfl) rfl dX8_init_51 (fun H locs hP hD hS => ?_)
  refine lv_aload_n F.ex F.bt dX8_init_54 rfl (lv_at hl 0 rfl) ?_
  refine lv_sipush (v := nI 320) F.ex F.bt dX8_init_55 (by decide +kernel) ?_
  refine k_newa F hP hD hS (N := 320) m_1_41 dX8_init_58 rfl (by omega) (by omega) (by omega) (fun q3 H hP hD hS => ?_)
  refine k_putF F nm hP hD hS inX8g tyX8 tyX8_ok nmX8 (ws' := ((h0, .inr (7, [.int 0, .int 0, .ref q1, .ref q2, .ref q3, .null, .null, .null, .null, .int 0, .null, .int 0, .int 0, .int 0, .int 0, .int 0, .int 0, .int 0, .int 0, .null, .null, .null, .null, .int 0])) :: ((([] ++ [(q1, .inl (gI G, 8, .inl f))]) ++ [(q2, .inl (gI G, zr 8))]) ++ [(q3, .inl (gI G, zr 320))]))) rfl vc_7 4 (by decide) m_3_199 rfl rfl (tyX8_ok 4 (by decide)) rfl rfl (Nat.le_of_ble_eq_true rfl) rfl dX8_init_60 (fun H locs hP hD hS => ?_)
  refine lv_aload_n F.ex F.bt dX8_init_63 rfl (lv_at hl 0 rfl) ?_
  refine lv_bipush (v := nI 80) F.ex F.bt dX8_init_64 (by decide +kernel) ?_
  refine k_newa F hP hD hS (N := 80) m_1_41 dX8_init_66 rfl (by omega) (by omega) (by omega) (fun q4 H hP hD hS => ?_)
  refine k_putF F nm hP hD hS inX8g tyX8 tyX8_ok nmX8 (ws' := ((h0, .inr (7, [.int 0, .int 0, .ref q1, .ref q2, .ref q3, .ref q4, .null, .null, .null, .int 0, .null, .int 0, .int 0, .int 0, .int 0, .int 0, .int 0, .int 0, .int 0, .null, .null, .null, .null, .int 0])) :: (((([] ++ [(q1, .inl (gI G, 8, .inl f))]) ++ [(q2, .inl (gI G, zr 8))]) ++ [(q3, .inl (gI G, zr 320))]) ++ [(q4, .inl (gI G, zr 80))]))) rfl vc_7 5 (by decide) m_3_200 rfl rfl (tyX8_ok 5 (by decide)) rfl rfl (Nat.le_of_ble_eq_true rfl) rfl dX8_init_68 (fun H locs hP hD hS => ?_)
  refine lv_aload_n F.ex F.bt dX8_init_71 rfl (lv_at hl 0 rfl) ?_
  refine lv_bipush (v := nI 80) F.ex F.bt dX8_init_72 (by decide +kernel) ?_
  refine k_newa F hP hD hS (N := 80) m_1_41 dX8_init_74 rfl (by omega) (by omega) (by omega) (fun q5 H hP hD hS => ?_)
  refine k_putF F nm hP hD hS inX8g tyX8 tyX8_ok nmX8 (ws' := ((h0, .inr (7, [.int 0, .int 0, .ref q1, .ref q2, .ref q3, .ref q4, .ref q5, .null, .null, .int 0, .null, .int 0, .int 0, .int 0, .int 0, .int 0, .int 0, .int 0, .int 0, .null, .null, .null, .null, .int 0])) :: ((((([] ++ [(q1, .inl (gI G, 8, .inl f))]) ++ [(q2, .inl (gI G, zr 8))]) ++ [(q3, .inl (gI G, zr 320))]) ++ [(q4, .inl (gI G, zr 80))]) ++ [(q5, .inl (gI G, zr 80))]))) rfl vc_7 6 (by decide) m_3_201 rfl rfl (tyX8_ok 6 (by decide)) rfl rfl (Nat.le_of_ble_eq_true rfl) rfl dX8_init_76 (fun H locs hP hD hS => ?_)
  refine lv_aload_n F.ex F.bt dX8_init_79 rfl (lv_at hl 0 rfl) ?_
  refine lv_bipush (v := nI 80) F.ex F.bt dX8_init_80 (by decide +kernel) ?_
  refine k_newa F hP hD hS (N := 80) m_1_41 dX8_init_82 rfl (by omega) (by omega) (by omega) (fun q6 H hP hD hS => ?_)
  refine k_putF F nm hP hD hS inX8g tyX8 tyX8_ok nmX8 (ws' := ((h0, .inr (7, [.int 0, .int 0, .ref q1, .ref q2, .ref q3, .ref q4, .ref q5, .ref q6, .null, .int 0, .null, .int 0, .int 0, .int 0, .int 0, .int 0, .int 0, .int 0, .int 0, .null, .null, .null, .null, .int 0])) :: (((((([] ++ [(q1, .inl (gI G, 8, .inl f))]) ++ [(q2, .inl (gI G, zr 8))]) ++ [(q3, .inl (gI G, zr 320))]) ++ [(q4, .inl (gI G, zr 80))]) ++ [(q5, .inl (gI G, zr 80))]) ++ [(q6, .inl (gI G, zr 80))]))) rfl vc_7 7 (by decide) m_3_202 rfl rfl (tyX8_ok 7 (by decide)) rfl rfl (Nat.le_of_ble_eq_true rfl) rfl dX8_init_84 (fun H locs hP hD hS => ?_)
  refine lv_aload_n F.ex F.bt dX8_init_87 rfl (lv_at hl 0 rfl) ?_
  refine lv_sipush (v := nI 1920) F.ex F.bt dX8_init_88 (by decide +kernel) ?_
  refine k_newa F hP hD hS (N := 1920) m_1_41 dX8_init_91 rfl (by omega) (by omega) (by omega) (fun q7 H hP hD hS => ?_)
  refine k_putF F nm hP hD hS inX8g tyX8 tyX8_ok nmX8 (ws' := ((h0, .inr (7, [.int 0, .int 0, .ref q1, .ref q2, .ref q3, .ref q4, .ref q5, .ref q6, .ref q7, .int 0, .null, .int 0, .int 0, .int 0, .int 0, .int 0, .int 0, .int 0, .int 0, .null, .null, .null, .null, .int 0])) :: ((((((([] ++ [(q1, .inl (gI G, 8, .inl f))]) ++ [(q2, .inl (gI G, zr 8))]) ++ [(q3, .inl (gI G, zr 320))]) ++ [(q4, .inl (gI G, zr 80))]) ++ [(q5, .inl (gI G, zr 80))]) ++ [(q6, .inl (gI G, zr 80))]) ++ [(q7, .inl (gI G, zr 1920))]))) rfl vc_7 8 (by decide) m_3_203 rfl rfl (tyX8_ok 8 (by decide)) rfl rfl (Nat.le_of_ble_eq_true rfl) rfl dX8_init_93 (fun H locs hP hD hS => ?_)
  refine lv_aload_n F.ex F.bt dX8_init_96 rfl (lv_at hl 0 rfl) ?_
  refine lv_bipush (v := nI 120) F.ex F.bt dX8_init_97 (by decide +kernel) ?_
  refine k_newa F hP hD hS (N := 120) m_1_41 dX8_init_99 rfl (by omega) (by omega) (by omega) (fun q8 H hP hD hS => ?_)
  refine k_putF F nm hP hD hS inX8g tyX8 tyX8_ok nmX8 (ws' := ((h0, .inr (7, [.int 0, .int 0, .ref q1, .ref q2, .ref q3, .ref q4, .ref q5, .ref q6, .ref q7, .int 0, .ref q8, .int 0, .int 0, .int 0, .int 0, .int 0, .int 0, .int 0, .int 0, .null, .null, .null, .null, .int 0])) :: (((((((([] ++ [(q1, .inl (gI G, 8, .inl f))]) ++ [(q2, .inl (gI G, zr 8))]) ++ [(q3, .inl (gI G, zr 320))]) ++ [(q4, .inl (gI G, zr 80))]) ++ [(q5, .inl (gI G, zr 80))]) ++ [(q6, .inl (gI G, zr 80))]) ++ [(q7, .inl (gI G, zr 1920))]) ++ [(q8, .inl (gI G, zr 120))]))) rfl vc_7 10 (by decide) m_3_205 rfl rfl (tyX8_ok 10 (by decide)) rfl rfl (Nat.le_of_ble_eq_true rfl) rfl dX8_init_101 (fun H locs hP hD hS => ?_)
  refine lv_aload_n F.ex F.bt dX8_init_104 rfl (lv_at hl 0 rfl) ?_
  refine lv_bipush (v := nI 6) F.ex F.bt dX8_init_105 (by decide +kernel) ?_
  refine k_newa F hP hD hS (N := 6) m_1_41 dX8_init_107 rfl (by omega) (by omega) (by omega) (fun q9 H hP hD hS => ?_)
  refine k_putF F nm hP hD hS inX8g tyX8 tyX8_ok nmX8 (ws' := ((h0, .inr (7, [.int 0, .int 0, .ref q1, .ref q2, .ref q3, .ref q4, .ref q5, .ref q6, .ref q7, .int 0, .ref q8, .int 0, .int 0, .int 0, .int 0, .int 0, .int 0, .int 0, .int 0, .ref q9, .null, .null, .null, .int 0])) :: ((((((((([] ++ [(q1, .inl (gI G, 8, .inl f))]) ++ [(q2, .inl (gI G, zr 8))]) ++ [(q3, .inl (gI G, zr 320))]) ++ [(q4, .inl (gI G, zr 80))]) ++ [(q5, .inl (gI G, zr 80))]) ++ [(q6, .inl (gI G, zr 80))]) ++ [(q7, .inl (gI G, zr 1920))]) ++ [(q8, .inl (gI G, zr 120))]) ++ [(q9, .inl (gI G, zr 6))]))) rfl vc_7 19 (by decide) m_3_214 rfl rfl (tyX8_ok 19 (by decide)) rfl rfl (Nat.le_of_ble_eq_true rfl) rfl dX8_init_109 (fun H locs hP hD hS => ?_)
  refine lv_aload_n F.ex F.bt dX8_init_112 rfl (lv_at hl 0 rfl) ?_
  refine lv_iconst (v := nI 2) F.ex F.bt dX8_init_113 (by decide +kernel) ?_
  refine k_newz F hP hD hS (N := 2) m_4_28 dX8_init_114 rfl (by omega) (by omega) (by omega) (fun q10 H hP hD hS => ?_)
  refine k_putF F nm hP hD hS inX8g tyX8 tyX8_ok nmX8 (ws' := ((h0, .inr (7, [.int 0, .int 0, .ref q1, .ref q2, .ref q3, .ref q4, .ref q5, .ref q6, .ref q7, .int 0, .ref q8, .int 0, .int 0, .int 0, .int 0, .int 0, .int 0, .int 0, .int 0, .ref q9, .ref q10, .null, .null, .int 0])) :: (((((((((([] ++ [(q1, .inl (gI G, 8, .inl f))]) ++ [(q2, .inl (gI G, zr 8))]) ++ [(q3, .inl (gI G, zr 320))]) ++ [(q4, .inl (gI G, zr 80))]) ++ [(q5, .inl (gI G, zr 80))]) ++ [(q6, .inl (gI G, zr 80))]) ++ [(q7, .inl (gI G, zr 1920))]) ++ [(q8, .inl (gI G, zr 120))]) ++ [(q9, .inl (gI G, zr 6))]) ++ [(q10, .inl (gZ G, zr 2))]))) rfl vc_7 20 (by decide) m_3_215 rfl rfl (tyX8_ok 20 (by decide)) rfl rfl (Nat.le_of_ble_eq_true rfl) rfl dX8_init_116 (fun H locs hP hD hS => ?_)
  refine lv_aload_n F.ex F.bt dX8_init_119 rfl (lv_at hl 0 rfl) ?_
  refine lv_sipush (v := nI 160) F.ex F.bt dX8_init_120 (by decide +kernel) ?_
  refine k_newa F hP hD hS (N := 160) m_1_41 dX8_init_123 rfl (by omega) (by omega) (by omega) (fun q11 H hP hD hS => ?_)
  refine k_putF F nm hP hD hS inX8g tyX8 tyX8_ok nmX8 (ws' := ((h0, .inr (7, [.int 0, .int 0, .ref q1, .ref q2, .ref q3, .ref q4, .ref q5, .ref q6, .ref q7, .int 0, .ref q8, .int 0, .int 0, .int 0, .int 0, .int 0, .int 0, .int 0, .int 0, .ref q9, .ref q10, .ref q11, .null, .int 0])) :: ((((((((((([] ++ [(q1, .inl (gI G, 8, .inl f))]) ++ [(q2, .inl (gI G, zr 8))]) ++ [(q3, .inl (gI G, zr 320))]) ++ [(q4, .inl (gI G, zr 80))]) ++ [(q5, .inl (gI G, zr 80))]) ++ [(q6, .inl (gI G, zr 80))]) ++ [(q7, .inl (gI G, zr 1920))]) ++ [(q8, .inl (gI G, zr 120))]) ++ [(q9, .inl (gI G, zr 6))]) ++ [(q10, .inl (gZ G, zr 2))]) ++ [(q11, .inl (gI G, zr 160))]))) rfl vc_7 21 (by decide) m_3_216 rfl rfl (tyX8_ok 21 (by decide)) rfl rfl (Nat.le_of_ble_eq_true rfl) rfl dX8_init_125 (fun H locs hP hD hS => ?_)
  refine lv_aload_n F.ex F.bt dX8_init_128 rfl (lv_at hl 0 rfl) ?_
  refine lv_bipush (v := nI 16) F.ex F.bt dX8_init_129 (by decide +kernel) ?_
  refine k_newa F hP hD hS (N := 16) m_1_41 dX8_init_131 rfl (by omega) (by omega) (by omega) (fun q12 H hP hD hS => ?_)
  refine k_putF F nm hP hD hS inX8g tyX8 tyX8_ok nmX8 (ws' := ((h0, .inr (7, [.int 0, .int 0, .ref q1, .ref q2, .ref q3, .ref q4, .ref q5, .ref q6, .ref q7, .int 0, .ref q8, .int 0, .int 0, .int 0, .int 0, .int 0, .int 0, .int 0, .int 0, .ref q9, .ref q10, .ref q11, .ref q12, .int 0])) :: (((((((((((([] ++ [(q1, .inl (gI G, 8, .inl f))]) ++ [(q2, .inl (gI G, zr 8))]) ++ [(q3, .inl (gI G, zr 320))]) ++ [(q4, .inl (gI G, zr 80))]) ++ [(q5, .inl (gI G, zr 80))]) ++ [(q6, .inl (gI G, zr 80))]) ++ [(q7, .inl (gI G, zr 1920))]) ++ [(q8, .inl (gI G, zr 120))]) ++ [(q9, .inl (gI G, zr 6))]) ++ [(q10, .inl (gZ G, zr 2))]) ++ [(q11, .inl (gI G, zr 160))]) ++ [(q12, .inl (gI G, zr 16))]))) rfl vc_7 22 (by decide) m_3_217 rfl rfl (tyX8_ok 22 (by decide)) rfl rfl (Nat.le_of_ble_eq_true rfl) rfl dX8_init_133 (fun H locs hP hD hS => ?_)
  exact ret _ _ _ _ _ dX8_init_136 ⟨q1, q2, q3, q4, q5, q6, q7, q8, q9, q10, q11, q12, f, hf, rfl⟩ hP hD hS
