theorem fg_X4_9 {G : Gx} {X : Cx} {cc : ByteArray} {nL d : Nat} {ρ : Type} {o : ρ} {P : Option ρ} {σ : St} {pc : Nat} {lv : List (Nat × Value)} {st : List Value} (F : Fx G X cc nL RX4 d) {r c : Nat} (hr : isNet r) (hc : r + 1 = c) (hd : decode cc pc = .ok (.getfield 9, 3)) (kk : Sim G X nL o P σ (pc + 3) lv (.ref (ga G c) :: st)) : Sim G X nL o P σ pc lv (.ref (ga G r) :: st) := by
  subst hc
  exact s_get F r 0 hd m_1_73 inX4g hr.lt (hr.cell G σ) vc_3 (by decide) rfl rfl kk
theorem wc_X4_16 : ∀ w ∈ [Cond.methodLink RX4 16 arraycopyName, .native arraycopyName, .static arraycopyName, .initialized "java/lang/System"], w ∈ gT := w4_mk m_2_33 m_1_209 m_1_208 m_1_9
theorem wV_X4_22 : ∀ w ∈ wV RX4 22 yX4_soundsIn cX4_soundsIn 4 (some .int), w ∈ gT := wV_mk m_2_132 m_2_133 m_2_134 m_1_4 m_2_135
theorem nk_X4_soundsIn : nmOK yX4_soundsIn 1 := by
  unfold nmOK
  decide +kernel
theorem wV_X4_26 : ∀ w ∈ wV RX4 26 yX4_isOpen cX4_isOpen 2 (some .boolean), w ∈ gT := wV_mk m_2_91 m_2_92 m_2_93 m_1_4 m_2_94
theorem nk_X4_isOpen : nmOK yX4_isOpen 1 := by
  unfold nmOK
  decide +kernel
theorem wS_X4_30 : ∀ w ∈ wS RX4 30 yX4_loudnessOf cX4_loudnessOf 1 (some .int), w ∈ gT := wS_mk m_2_85 m_2_86 m_1_4 m_2_87
theorem nk_X4_loudnessOf : nmOK yX4_loudnessOf 1 := by
  unfold nmOK
  decide +kernel
theorem wS_X4_33 : ∀ w ∈ wS RX4 33 yX4_soundOf cX4_soundOf 2 (some .int), w ∈ gT := wS_mk m_2_88 m_2_89 m_1_4 m_2_90
theorem nk_X4_soundOf : nmOK yX4_soundOf 2 := by
  unfold nmOK
  decide +kernel
theorem wS_X4_47 : ∀ w ∈ wS RX4 47 yX4_wordOf cX4_wordOf 1 (some .int), w ∈ gT := wS_mk m_2_82 m_2_83 m_1_4 m_2_84
theorem nk_X4_wordOf : nmOK yX4_wordOf 1 := by
  unfold nmOK
  decide +kernel
theorem fg_X4_13 {G : Gx} {X : Cx} {cc : ByteArray} {nL d : Nat} {ρ : Type} {o : ρ} {P : Option ρ} {σ : St} {pc : Nat} {lv : List (Nat × Value)} {st : List Value} (F : Fx G X cc nL RX4 d) {r c : Nat} (hr : isNet r) (hc : r + 2 = c) (hd : decode cc pc = .ok (.getfield 13, 3)) (kk : Sim G X nL o P σ (pc + 3) lv (.ref (ga G c) :: st)) : Sim G X nL o P σ pc lv (.ref (ga G r) :: st) := by
  subst hc
  exact s_get F r 1 hd m_1_78 inX4g hr.lt (hr.cell G σ) vc_3 (by decide) rfl rfl kk
theorem wV_X4_37 : ∀ w ∈ wV RX4 37 yX4_moveOn cX4_moveOn 6 (some .int), w ∈ gT := wV_mk m_2_74 m_2_76 m_s_7 m_1_4 m_2_77
theorem nk_X4_moveOn : nmOK yX4_moveOn 1 := by
  unfold nmOK
  decide +kernel
theorem wV_X4_40 : ∀ w ∈ wV RX4 40 yX4_comesOut cX4_comesOut 7 (some .int), w ∈ gT := wV_mk m_2_78 m_2_80 m_s_8 m_1_4 m_2_81
theorem nk_X4_comesOut : nmOK yX4_comesOut 2 := by
  unfold nmOK
  decide +kernel
theorem wV_X4_43 : ∀ w ∈ wV RX4 43 yX4_hearOut cX4_hearOut 3 (some .int), w ∈ gT := wV_mk m_2_95 m_2_97 m_s_9 m_1_4 m_2_98
theorem nk_X4_hearOut : nmOK yX4_hearOut 0 := by
  unfold nmOK
  decide +kernel
theorem fg_X5_18 {G : Gx} {X : Cx} {cc : ByteArray} {nL d : Nat} {ρ : Type} {o : ρ} {P : Option ρ} {σ : St} {pc : Nat} {lv : List (Nat × Value)} {st : List Value} (F : Fx G X cc nL RX5 d) (hd : decode cc pc = .ok (.getfield 18, 3)) (kk : Sim G X nL o P σ (pc + 3) lv (.ref (ga G 21) :: st)) : Sim G X nL o P σ pc lv (.ref (ga G 1) :: st) := s_get F 1 2 hd m_1_33 inX5g (by decide) rfl vc_4 (by decide) rfl rfl kk
theorem fg_X5_14 {G : Gx} {X : Cx} {cc : ByteArray} {nL d : Nat} {ρ : Type} {o : ρ} {P : Option ρ} {σ : St} {pc : Nat} {lv : List (Nat × Value)} {st : List Value} (F : Fx G X cc nL RX5 d) (hd : decode cc pc = .ok (.getfield 14, 3)) (kk : Sim G X nL o P σ (pc + 3) lv (.ref (ga G 20) :: st)) : Sim G X nL o P σ pc lv (.ref (ga G 1) :: st) := s_get F 1 1 hd m_1_31 inX5g (by decide) rfl vc_4 (by decide) rfl rfl kk
theorem fg_X5_11 {G : Gx} {X : Cx} {cc : ByteArray} {nL d : Nat} {ρ : Type} {o : ρ} {P : Option ρ} {σ : St} {pc : Nat} {lv : List (Nat × Value)} {st : List Value} (F : Fx G X cc nL RX5 d) (hd : decode cc pc = .ok (.getfield 11, 3)) (kk : Sim G X nL o P σ (pc + 3) lv (.ref (ga G 19) :: st)) : Sim G X nL o P σ pc lv (.ref (ga G 1) :: st) := s_get F 1 0 hd m_1_29 inX5g (by decide) rfl vc_4 (by decide) rfl rfl kk
theorem wV_X5_21 : ∀ w ∈ wV RX5 21 yX5_isMissing cX5_isMissing 2 (some .boolean), w ∈ gT := wV_mk m_3_184 m_1_192 m_1_193 m_1_2 m_1_194
theorem nk_X5_isMissing : nmOK yX5_isMissing 1 := by
  unfold nmOK
  decide +kernel
theorem fg_X0_13 {G : Gx} {X : Cx} {cc : ByteArray} {nL d : Nat} {ρ : Type} {o : ρ} {P : Option ρ} {σ : St} {pc : Nat} {lv : List (Nat × Value)} {st : List Value} (F : Fx G X cc nL RX0 d) (hd : decode cc pc = .ok (.getfield 13, 3)) (kk : Sim G X nL o P σ (pc + 3) lv (.ref (ga G 23) :: st)) : Sim G X nL o P σ pc lv (.ref (ga G 15) :: st) := s_get F 15 0 hd m_1_92 inX0g (by decide) rfl vc_0 (by decide) rfl rfl kk
theorem fg_X0_16 {G : Gx} {X : Cx} {cc : ByteArray} {nL d : Nat} {ρ : Type} {o : ρ} {P : Option ρ} {σ : St} {pc : Nat} {lv : List (Nat × Value)} {st : List Value} (F : Fx G X cc nL RX0 d) (hd : decode cc pc = .ok (.getfield 16, 3)) (kk : Sim G X nL o P σ (pc + 3) lv (.int (σ.2 5) :: st)) : Sim G X nL o P σ pc lv (.ref (ga G 15) :: st) := s_get F 15 1 hd m_1_93 inX0g (by decide) rfl vc_0 (by decide) rfl rfl kk
theorem wc_X0_23 : ∀ w ∈ [Cond.methodLink RX0 23 arraycopyName, .native arraycopyName, .static arraycopyName, .initialized "java/lang/System"], w ∈ gT := w4_mk m_2_66 m_1_209 m_1_208 m_1_9
theorem fp_X0_16 {G : Gx} {X : Cx} {cc : ByteArray} {nL d : Nat} {ρ : Type} {o : ρ} {P : Option ρ} {σ : St} {pc : Nat} {lv : List (Nat × Value)} {st : List Value} (F : Fx G X cc nL RX0 d) {v : Int32} (hd : decode cc pc = .ok (.putfield 16, 3)) (kk : Sim G X nL o P (setF σ 5 v) (pc + 3) lv st) : Sim G X nL o P σ pc lv (.int v :: .ref (ga G 15) :: st) := s_put F 15 1 (setF σ 5 v) hd m_1_93 inX0g tyX0 tyX0_ok nmX0 (by decide) rfl vc_0 (by decide) rfl rfl rfl (Nat.le_of_ble_eq_true rfl) rfl cf_5 kk
theorem fg_X0_20 {G : Gx} {X : Cx} {cc : ByteArray} {nL d : Nat} {ρ : Type} {o : ρ} {P : Option ρ} {σ : St} {pc : Nat} {lv : List (Nat × Value)} {st : List Value} (F : Fx G X cc nL RX0 d) (hd : decode cc pc = .ok (.getfield 20, 3)) (kk : Sim G X nL o P σ (pc + 3) lv (.int (σ.2 6) :: st)) : Sim G X nL o P σ pc lv (.ref (ga G 15) :: st) := s_get F 15 2 hd m_1_94 inX0g (by decide) rfl vc_0 (by decide) rfl rfl kk
theorem wm_X0_29 : ∀ w ∈ [Cond.methodLink RX0 29 Lib.Math.min.name, .static Lib.Math.min.name, .initialized "java/lang/Math", .code Lib.Math.min.name Lib.Math.min.code 2 (some .int)], w ∈ gT := w4_mk m_2_67 m_2_68 m_1_11 m_2_69
theorem fp_X0_20 {G : Gx} {X : Cx} {cc : ByteArray} {nL d : Nat} {ρ : Type} {o : ρ} {P : Option ρ} {σ : St} {pc : Nat} {lv : List (Nat × Value)} {st : List Value} (F : Fx G X cc nL RX0 d) {v : Int32} (hd : decode cc pc = .ok (.putfield 20, 3)) (kk : Sim G X nL o P (setF σ 6 v) (pc + 3) lv st) : Sim G X nL o P σ pc lv (.int v :: .ref (ga G 15) :: st) := s_put F 15 2 (setF σ 6 v) hd m_1_94 inX0g tyX0 tyX0_ok nmX0 (by decide) rfl vc_0 (by decide) rfl rfl rfl (Nat.le_of_ble_eq_true rfl) rfl cf_6 kk
theorem wm_X0_35 : ∀ w ∈ [Cond.methodLink RX0 35 Lib.Math.max.name, .static Lib.Math.max.name, .initialized "java/lang/Math", .code Lib.Math.max.name Lib.Math.max.code 2 (some .int)], w ∈ gT := w4_mk m_2_51 m_2_52 m_1_11 m_2_53
theorem fg_X6_13 {G : Gx} {X : Cx} {cc : ByteArray} {nL d : Nat} {ρ : Type} {o : ρ} {P : Option ρ} {σ : St} {pc : Nat} {lv : List (Nat × Value)} {st : List Value} (F : Fx G X cc nL RX6 d) (hd : decode cc pc = .ok (.getfield 13, 3)) (kk : Sim G X nL o P σ (pc + 3) lv (.int (σ.2 1) :: st)) : Sim G X nL o P σ pc lv (.ref (ga G 2) :: st) := s_get F 2 1 hd m_1_49 inX6g (by decide) rfl vc_5 (by decide) rfl rfl kk
theorem fg_X6_9 {G : Gx} {X : Cx} {cc : ByteArray} {nL d : Nat} {ρ : Type} {o : ρ} {P : Option ρ} {σ : St} {pc : Nat} {lv : List (Nat × Value)} {st : List Value} (F : Fx G X cc nL RX6 d) (hd : decode cc pc = .ok (.getfield 9, 3)) (kk : Sim G X nL o P σ (pc + 3) lv (.ref (ga G 22) :: st)) : Sim G X nL o P σ pc lv (.ref (ga G 2) :: st) := s_get F 2 0 hd m_1_48 inX6g (by decide) rfl vc_5 (by decide) rfl rfl kk
theorem fp_X6_13 {G : Gx} {X : Cx} {cc : ByteArray} {nL d : Nat} {ρ : Type} {o : ρ} {P : Option ρ} {σ : St} {pc : Nat} {lv : List (Nat × Value)} {st : List Value} (F : Fx G X cc nL RX6 d) {v : Int32} (hd : decode cc pc = .ok (.putfield 13, 3)) (kk : Sim G X nL o P (setF σ 1 v) (pc + 3) lv st) : Sim G X nL o P σ pc lv (.int v :: .ref (ga G 2) :: st) := s_put F 2 1 (setF σ 1 v) hd m_1_49 inX6g tyX6 tyX6_ok nmX6 (by decide) rfl vc_5 (by decide) rfl rfl rfl (Nat.le_of_ble_eq_true rfl) rfl cf_1 kk
theorem fp_X6_17 {G : Gx} {X : Cx} {cc : ByteArray} {nL d : Nat} {ρ : Type} {o : ρ} {P : Option ρ} {σ : St} {pc : Nat} {lv : List (Nat × Value)} {st : List Value} (F : Fx G X cc nL RX6 d) {v : Int32} (hd : decode cc pc = .ok (.putfield 17, 3)) (kk : Sim G X nL o P (setF σ 2 v) (pc + 3) lv st) : Sim G X nL o P σ pc lv (.int v :: .ref (ga G 2) :: st) := s_put F 2 2 (setF σ 2 v) hd m_1_51 inX6g tyX6 tyX6_ok nmX6 (by decide) rfl vc_5 (by decide) rfl rfl rfl (Nat.le_of_ble_eq_true rfl) rfl cf_2 kk
theorem fp_X6_20 {G : Gx} {X : Cx} {cc : ByteArray} {nL d : Nat} {ρ : Type} {o : ρ} {P : Option ρ} {σ : St} {pc : Nat} {lv : List (Nat × Value)} {st : List Value} (F : Fx G X cc nL RX6 d) {v : Int32} (hd : decode cc pc = .ok (.putfield 20, 3)) (kk : Sim G X nL o P (setF σ 3 v) (pc + 3) lv st) : Sim G X nL o P σ pc lv (.int v :: .ref (ga G 2) :: st) := s_put F 2 3 (setF σ 3 v) hd m_1_53 inX6g tyX6 tyX6_ok nmX6 (by decide) rfl vc_5 (by decide) rfl rfl rfl (Nat.le_of_ble_eq_true rfl) rfl cf_3 kk
theorem fg_X6_23 {G : Gx} {X : Cx} {cc : ByteArray} {nL d : Nat} {ρ : Type} {o : ρ} {P : Option ρ} {σ : St} {pc : Nat} {lv : List (Nat × Value)} {st : List Value} (F : Fx G X cc nL RX6 d) (hd : decode cc pc = .ok (.getfield 23, 3)) (kk : Sim G X nL o P σ (pc + 3) lv (.int (σ.2 4) :: st)) : Sim G X nL o P σ pc lv (.ref (ga G 2) :: st) := s_get F 2 4 hd m_1_55 inX6g (by decide) rfl vc_5 (by decide) rfl rfl kk
theorem fp_X6_23 {G : Gx} {X : Cx} {cc : ByteArray} {nL d : Nat} {ρ : Type} {o : ρ} {P : Option ρ} {σ : St} {pc : Nat} {lv : List (Nat × Value)} {st : List Value} (F : Fx G X cc nL RX6 d) {v : Int32} (hd : decode cc pc = .ok (.putfield 23, 3)) (kk : Sim G X nL o P (setF σ 4 v) (pc + 3) lv st) : Sim G X nL o P σ pc lv (.int v :: .ref (ga G 2) :: st) := s_put F 2 4 (setF σ 4 v) hd m_1_55 inX6g tyX6 tyX6_ok nmX6 (by decide) rfl vc_5 (by decide) rfl rfl rfl (Nat.le_of_ble_eq_true rfl) rfl cf_4 kk
theorem wV_X6_59 : ∀ w ∈ wV RX6 59 yX6_refuse cX6_refuse 3 (some .boolean), w ∈ gT := wV_mk m_2_7 m_2_9 m_s_4 m_1_3 m_2_10
theorem nk_X6_refuse : nmOK yX6_refuse 2 := by
  unfold nmOK
  decide +kernel
theorem wV_X6_45 : ∀ w ∈ wV RX6 45 yX6_passes cX6_passes 2 (some .boolean), w ∈ gT := wV_mk m_2_3 m_2_5 m_s_3 m_1_3 m_2_6
theorem nk_X6_passes : nmOK yX6_passes 1 := by
  unfold nmOK
  decide +kernel
theorem wV_X6_49 : ∀ w ∈ wV RX6 49 yX6_number cX6_number 6 (some .int), w ∈ gT := wV_mk m_2_11 m_2_13 m_s_5 m_1_3 m_2_14
theorem nk_X6_number : nmOK yX6_number 3 := by
  unfold nmOK
  decide +kernel
theorem fg_X6_38 {G : Gx} {X : Cx} {cc : ByteArray} {nL d : Nat} {ρ : Type} {o : ρ} {P : Option ρ} {σ : St} {pc : Nat} {lv : List (Nat × Value)} {st : List Value} (F : Fx G X cc nL RX6 d) {r c : Nat} (hr : isNet r) (hc : r + 1 = c) (hd : decode cc pc = .ok (.getfield 38, 3)) (kk : Sim G X nL o P σ (pc + 3) lv (.ref (ga G c) :: st)) : Sim G X nL o P σ pc lv (.ref (ga G r) :: st) := by
  subst hc
  exact s_get F r 0 hd m_1_76 inX4g hr.lt (hr.cell G σ) vc_3 (by decide) rfl rfl kk
theorem wS_X6_53 : ∀ w ∈ wS RX6 53 yX3_ofLetter cX3_ofLetter 2 (some .int), w ∈ gT := wS_mk m_2_19 m_2_20 m_1_10 m_2_21
theorem nk_X3_ofLetter : nmOK yX3_ofLetter 1 := by
  unfold nmOK
  decide +kernel
theorem wV_X6_26 : ∀ w ∈ wV RX6 26 yX4_clear cX4_clear 2 none, w ∈ gT := wV_mk m_1_235 m_1_236 m_1_237 m_1_4 m_1_238
theorem nk_X4_clear : nmOK yX4_clear 0 := by
  unfold nmOK
  decide +kernel
theorem wV_X6_31 : ∀ w ∈ wV RX6 31 yX6_readLaw cX6_readLaw 4 (some .boolean), w ∈ gT := wV_mk m_1_239 m_2_1 m_s_2 m_1_3 m_2_2
theorem nk_X6_readLaw : nmOK yX6_readLaw 1 := by
  unfold nmOK
  decide +kernel
theorem wV_X6_35 : ∀ w ∈ wV RX6 35 yX6_readPipe cX6_readPipe 9 (some .boolean), w ∈ gT := wV_mk m_2_15 m_2_17 m_s_6 m_1_3 m_2_18
theorem nk_X6_readPipe : nmOK yX6_readPipe 1 := by
  unfold nmOK
  decide +kernel
theorem wV_X6_41 : ∀ w ∈ wV RX6 41 yX4_allPipes cX4_allPipes 1 (some .int), w ∈ gT := wV_mk m_2_24 m_2_25 m_2_26 m_1_4 m_2_27
theorem nk_X4_allPipes : nmOK yX4_allPipes 0 := by
  unfold nmOK
  decide +kernel
theorem fg_X2_18 {G : Gx} {X : Cx} {cc : ByteArray} {nL d : Nat} {ρ : Type} {o : ρ} {P : Option ρ} {σ : St} {pc : Nat} {lv : List (Nat × Value)} {st : List Value} (F : Fx G X cc nL RX2 d) (hd : decode cc pc = .ok (.getfield 18, 3)) (kk : Sim G X nL o P σ (pc + 3) lv (.ref (ga G 12) :: st)) : Sim G X nL o P σ pc lv (.ref (ga G 16) :: st) := s_get F 16 1 hd m_1_113 inX2g (by decide) rfl vc_2 (by decide) rfl rfl kk
theorem fg_X2_12 {G : Gx} {X : Cx} {cc : ByteArray} {nL d : Nat} {ρ : Type} {o : ρ} {P : Option ρ} {σ : St} {pc : Nat} {lv : List (Nat × Value)} {st : List Value} (F : Fx G X cc nL RX2 d) (hd : decode cc pc = .ok (.getfield 12, 3)) (kk : Sim G X nL o P σ (pc + 3) lv (.ref (ga G 9) :: st)) : Sim G X nL o P σ pc lv (.ref (ga G 16) :: st) := s_get F 16 0 hd m_1_111 inX2g (by decide) rfl vc_2 (by decide) rfl rfl kk
theorem fg_X2_21 {G : Gx} {X : Cx} {cc : ByteArray} {nL d : Nat} {ρ : Type} {o : ρ} {P : Option ρ} {σ : St} {pc : Nat} {lv : List (Nat × Value)} {st : List Value} (F : Fx G X cc nL RX2 d) {r c : Nat} (hr : isNet r) (hc : r + 1 = c) (hd : decode cc pc = .ok (.getfield 21, 3)) (kk : Sim G X nL o P σ (pc + 3) lv (.ref (ga G c) :: st)) : Sim G X nL o P σ pc lv (.ref (ga G r) :: st) := by
  subst hc
  exact s_get F r 0 hd m_1_74 inX4g hr.lt (hr.cell G σ) vc_3 (by decide) rfl rfl kk
theorem wV_X2_25 : ∀ w ∈ wV RX2 25 yX4_take cX4_take 2 none, w ∈ gT := wV_mk m_2_179 m_2_30 m_2_31 m_1_4 m_2_32
theorem nk_X4_take : nmOK yX4_take 1 := by
  unfold nmOK
  decide +kernel
theorem wV_X2_29 : ∀ w ∈ wV RX2 29 yX4_isSilent cX4_isSilent 2 (some .boolean), w ∈ gT := wV_mk m_2_193 m_2_194 m_2_195 m_1_4 m_2_196
theorem nk_X4_isSilent : nmOK yX4_isSilent 0 := by
  unfold nmOK
  decide +kernel
theorem wV_X2_33 : ∀ w ∈ wV RX2 33 yX4_passBreath cX4_passBreath 4 (some .int), w ∈ gT := wV_mk m_2_180 m_2_71 m_2_72 m_1_4 m_2_73
theorem nk_X4_passBreath : nmOK yX4_passBreath 0 := by
  unfold nmOK
  decide +kernel
theorem wV_X2_37 : ∀ w ∈ wV RX2 37 yX2_begin cX2_begin 1 none, w ∈ gT := wV_mk m_2_175 m_2_177 m_s_11 m_1_6 m_2_178
theorem nk_X2_begin : nmOK yX2_begin 0 := by
  unfold nmOK
  decide +kernel
theorem fg_X2_40 {G : Gx} {X : Cx} {cc : ByteArray} {nL d : Nat} {ρ : Type} {o : ρ} {P : Option ρ} {σ : St} {pc : Nat} {lv : List (Nat × Value)} {st : List Value} (F : Fx G X cc nL RX2 d) {r c : Nat} (hr : isNet r) (hc : r + 2 = c) (hd : decode cc pc = .ok (.getfield 40, 3)) (kk : Sim G X nL o P σ (pc + 3) lv (.ref (ga G c) :: st)) : Sim G X nL o P σ pc lv (.ref (ga G r) :: st) := by
  subst hc
  exact s_get F r 1 hd m_1_79 inX4g hr.lt (hr.cell G σ) vc_3 (by decide) rfl rfl kk
theorem wV_X2_43 : ∀ w ∈ wV RX2 43 yX2_firstOnTrial cX2_firstOnTrial 4 (some .int), w ∈ gT := wV_mk m_2_189 m_2_191 m_s_12 m_1_6 m_2_192
theorem nk_X2_firstOnTrial : nmOK yX2_firstOnTrial 2 := by
  unfold nmOK
  decide +kernel
theorem wV_X2_58 : ∀ w ∈ wV RX2 58 yX4_letIn cX4_letIn 7 (some .int), w ∈ gT := wV_mk m_2_236 m_2_108 m_2_109 m_1_4 m_2_110
theorem nk_X4_letIn : nmOK yX4_letIn 3 := by
  unfold nmOK
  decide +kernel
theorem wV_X2_54 : ∀ w ∈ wV RX2 54 yX2_hearsWhenTurned cX2_hearsWhenTurned 5 (some .boolean), w ∈ gT := wV_mk m_2_232 m_2_234 m_s_13 m_1_6 m_2_235
theorem nk_X2_hearsWhenTurned : nmOK yX2_hearsWhenTurned 4 := by
  unfold nmOK
  decide +kernel
theorem wS_X2_48 : ∀ w ∈ wS RX2 48 yJ6_bitCount_0f7a4 cJ6_bitCount_0f7a4 1 (some .int), w ∈ gT := wS_mk m_2_226 m_2_227 m_1_12 m_2_228
theorem nk_J6_bitCount_0f7a4 : nmOK yJ6_bitCount_0f7a4 1 := by
  unfold nmOK
  decide +kernel
theorem wS_X2_69 : ∀ w ∈ wS RX2 69 yX4_wordOf cX4_wordOf 1 (some .int), w ∈ gT := wS_mk m_3_30 m_2_83 m_1_4 m_2_84
theorem wV_X2_66 : ∀ w ∈ wV RX2 66 yX2_wordHeard cX2_wordHeard 3 (some .int), w ∈ gT := wV_mk m_3_26 m_3_28 m_s_15 m_1_6 m_3_29
theorem nk_X2_wordHeard : nmOK yX2_wordHeard 1 := by
  unfold nmOK
  decide +kernel
theorem wV_X2_62 : ∀ w ∈ wV RX2 62 yX2_hearsWord cX2_hearsWord 5 (some .boolean), w ∈ gT := wV_mk m_3_22 m_3_24 m_s_14 m_1_6 m_3_25
theorem nk_X2_hearsWord : nmOK yX2_hearsWord 3 := by
  unfold nmOK
  decide +kernel
theorem wV_X2_72 : ∀ w ∈ wV RX2 72 yX4_silence cX4_silence 2 none, w ∈ gT := wV_mk m_3_39 m_2_137 m_2_138 m_1_4 m_2_139
theorem nk_X4_silence : nmOK yX4_silence 0 := by
  unfold nmOK
  decide +kernel
theorem wV_X2_78 : ∀ w ∈ wV RX2 78 yX4_isOpen cX4_isOpen 2 (some .boolean), w ∈ gT := wV_mk m_3_52 m_2_92 m_2_93 m_1_4 m_2_94
theorem wV_X2_75 : ∀ w ∈ wV RX2 75 yX2_nextTo cX2_nextTo 4 (some .int), w ∈ gT := wV_mk m_3_48 m_3_50 m_s_16 m_1_6 m_3_51
theorem nk_X2_nextTo : nmOK yX2_nextTo 1 := by
  unfold nmOK
  decide +kernel
theorem wV_X2_84 : ∀ w ∈ wV RX2 84 yX2_suppose cX2_suppose 4 none, w ∈ gT := wV_mk m_3_61 m_3_63 m_s_17 m_1_6 m_3_64
theorem nk_X2_suppose : nmOK yX2_suppose 3 := by
  unfold nmOK
  decide +kernel
theorem wV_X2_88 : ∀ w ∈ wV RX2 88 yX2_isHeardAsTold cX2_isHeardAsTold 6 (some .boolean), w ∈ gT := wV_mk m_3_65 m_3_67 m_s_18 m_1_6 m_3_68
theorem nk_X2_isHeardAsTold : nmOK yX2_isHeardAsTold 4 := by
  unfold nmOK
  decide +kernel
theorem wV_X2_95 : ∀ w ∈ wV RX2 95 yX4_soundsIn cX4_soundsIn 4 (some .int), w ∈ gT := wV_mk m_3_89 m_2_133 m_2_134 m_1_4 m_2_135
theorem wV_X2_92 : ∀ w ∈ wV RX2 92 yX2_emptyPipes cX2_emptyPipes 3 (some .int), w ∈ gT := wV_mk m_3_85 m_3_87 m_s_19 m_1_6 m_3_88
theorem nk_X2_emptyPipes : nmOK yX2_emptyPipes 0 := by
  unfold nmOK
  decide +kernel
theorem wS_X2_98 : ∀ w ∈ wS RX2 98 yX2_power cX2_power 5 (some .long), w ∈ gT := wS_mk m_3_99 m_3_100 m_1_6 m_3_101
theorem nk_X2_power : nmOK yX2_power 2 := by
  unfold nmOK
  decide +kernel
theorem wV_X2_102 : ∀ w ∈ wV RX2 102 yX2_hearsWithShut cX2_hearsWithShut 4 (some .boolean), w ∈ gT := wV_mk m_3_102 m_3_104 m_s_20 m_1_6 m_3_105
theorem nk_X2_hearsWithShut : nmOK yX2_hearsWithShut 3 := by
  unfold nmOK
  decide +kernel
theorem wS_X2_105 : ∀ w ∈ wS RX2 105 yX2_commonDivisor cX2_commonDivisor 11 (some .long), w ∈ gT := wS_mk m_3_106 m_3_107 m_1_6 m_3_108
theorem nk_X2_commonDivisor : nmOK yX2_commonDivisor 2 := by
  unfold nmOK
  decide +kernel
theorem wV_X2_117 : ∀ w ∈ wV RX2 117 yX4_soundsInAll cX4_soundsInAll 3 (some .int), w ∈ gT := wV_mk m_3_122 m_2_129 m_2_130 m_1_4 m_2_131
theorem nk_X4_soundsInAll : nmOK yX4_soundsInAll 0 := by
  unfold nmOK
  decide +kernel
theorem fp_X7_59 {G : Gx} {X : Cx} {cc : ByteArray} {nL d : Nat} {ρ : Type} {o : ρ} {P : Option ρ} {σ : St} {pc : Nat} {lv : List (Nat × Value)} {st : List Value} (F : Fx G X cc nL RX7 d) {v : Int32} (hd : decode cc pc = .ok (.putfield 59, 3)) (kk : Sim G X nL o P (setF σ 0 v) (pc + 3) lv st) : Sim G X nL o P σ pc lv (.int v :: .ref (ga G 0) :: st) := s_put F 0 8 (setF σ 0 v) hd m_1_143 inX7g tyX7 tyX7_ok nmX7 (by decide) rfl vc_6 (by decide) rfl rfl rfl (Nat.le_of_ble_eq_true rfl) rfl cf_0 kk
theorem wS_X7_63 : ∀ w ∈ wS RX7 63 yX5_isRow cX5_isRow 1 (some .boolean), w ∈ gT := wS_mk m_1_167 m_1_168 m_1_2 m_1_169
theorem nk_X5_isRow : nmOK yX5_isRow 1 := by
  unfold nmOK
  decide +kernel
theorem wS_X7_67 : ∀ w ∈ wS RX7 67 yX7_isWithin cX7_isWithin 3 (some .boolean), w ∈ gT := wS_mk m_1_170 m_1_171 m_1_1 m_1_172
theorem nk_X7_isWithin : nmOK yX7_isWithin 3 := by
  unfold nmOK
  decide +kernel
theorem fg_X7_10 {G : Gx} {X : Cx} {cc : ByteArray} {nL d : Nat} {ρ : Type} {o : ρ} {P : Option ρ} {σ : St} {pc : Nat} {lv : List (Nat × Value)} {st : List Value} (F : Fx G X cc nL RX7 d) (hd : decode cc pc = .ok (.getfield 10, 3)) (kk : Sim G X nL o P σ (pc + 3) lv (.ref (ga G 1) :: st)) : Sim G X nL o P σ pc lv (.ref (ga G 0) :: st) := s_get F 0 0 hd m_1_135 inX7g (by decide) rfl vc_6 (by decide) rfl rfl kk
theorem wV_X7_76 : ∀ w ∈ wV RX7 76 yX5_lay cX5_lay 5 none, w ∈ gT := wV_mk m_1_179 m_1_180 m_1_181 m_1_2 m_1_182
theorem nk_X5_lay : nmOK yX5_lay 3 := by
  unfold nmOK
  decide +kernel
theorem wV_X7_80 : ∀ w ∈ wV RX7 80 yX7_unfound cX7_unfound 2 (some .int), w ∈ gT := wV_mk m_1_183 m_1_185 m_s_1 m_1_1 m_1_186
theorem nk_X7_unfound : nmOK yX7_unfound 1 := by
  unfold nmOK
  decide +kernel
theorem wV_X7_72 : ∀ w ∈ wV RX7 72 yX7_found cX7_found 2 (some .int), w ∈ gT := wV_mk m_1_174 m_1_176 m_s_0 m_1_1 m_1_177
theorem nk_X7_found : nmOK yX7_found 1 := by
  unfold nmOK
  decide +kernel
theorem wV_X7_83 : ∀ w ∈ wV RX7 83 yX5_isMissing cX5_isMissing 2 (some .boolean), w ∈ gT := wV_mk m_1_191 m_1_192 m_1_193 m_1_2 m_1_194
theorem wV_X7_86 : ∀ w ∈ wV RX7 86 yX5_hasStretch cX5_hasStretch 4 (some .boolean), w ∈ gT := wV_mk m_1_195 m_1_196 m_1_197 m_1_2 m_1_198
theorem nk_X5_hasStretch : nmOK yX5_hasStretch 3 := by
  unfold nmOK
  decide +kernel
theorem wV_X7_89 : ∀ w ∈ wV RX7 89 yX5_put cX5_put 4 (some .int), w ∈ gT := wV_mk m_1_199 m_1_200 m_1_201 m_1_2 m_1_202
theorem nk_X5_put : nmOK yX5_put 3 := by
  unfold nmOK
  decide +kernel
theorem fg_X7_93 {G : Gx} {X : Cx} {cc : ByteArray} {nL d : Nat} {ρ : Type} {o : ρ} {P : Option ρ} {σ : St} {pc : Nat} {lv : List (Nat × Value)} {st : List Value} (F : Fx G X cc nL RX7 d) (hd : decode cc pc = .ok (.getfield 93, 3)) (kk : Sim G X nL o P σ (pc + 3) lv (.ref (ga G 20) :: st)) : Sim G X nL o P σ pc lv (.ref (ga G 1) :: st) := s_get F 1 1 hd m_1_32 inX5g (by decide) rfl vc_4 (by decide) rfl rfl kk
theorem fg_X7_97 {G : Gx} {X : Cx} {cc : ByteArray} {nL d : Nat} {ρ : Type} {o : ρ} {P : Option ρ} {σ : St} {pc : Nat} {lv : List (Nat × Value)} {st : List Value} (F : Fx G X cc nL RX7 d) (hd : decode cc pc = .ok (.getfield 97, 3)) (kk : Sim G X nL o P σ (pc + 3) lv (.ref (ga G 19) :: st)) : Sim G X nL o P σ pc lv (.ref (ga G 1) :: st) := s_get F 1 0 hd m_1_30 inX5g (by decide) rfl vc_4 (by decide) rfl rfl kk
theorem wc_X7_100 : ∀ w ∈ [Cond.methodLink RX7 100 arraycopyName, .native arraycopyName, .static arraycopyName, .initialized "java/lang/System"], w ∈ gT := w4_mk m_1_207 m_1_209 m_1_208 m_1_9
theorem wV_X7_106 : ∀ w ∈ wV RX7 106 yX5_takeAway cX5_takeAway 3 (some .int), w ∈ gT := wV_mk m_1_214 m_1_215 m_1_216 m_1_2 m_1_217
theorem nk_X5_takeAway : nmOK yX5_takeAway 1 := by
  unfold nmOK
  decide +kernel
theorem fg_X7_19 {G : Gx} {X : Cx} {cc : ByteArray} {nL d : Nat} {ρ : Type} {o : ρ} {P : Option ρ} {σ : St} {pc : Nat} {lv : List (Nat × Value)} {st : List Value} (F : Fx G X cc nL RX7 d) (hd : decode cc pc = .ok (.getfield 19, 3)) (kk : Sim G X nL o P σ (pc + 3) lv (.ref (ga G 2) :: st)) : Sim G X nL o P σ pc lv (.ref (ga G 0) :: st) := s_get F 0 1 hd m_1_136 inX7g (by decide) rfl vc_6 (by decide) rfl rfl kk
theorem wV_X7_109 : ∀ w ∈ wV RX7 109 yX6_append cX6_append 2 (some .boolean), w ∈ gT := wV_mk m_1_222 m_1_223 m_1_224 m_1_3 m_1_225
theorem nk_X6_append : nmOK yX6_append 1 := by
  unfold nmOK
  decide +kernel
theorem fg_X7_112 {G : Gx} {X : Cx} {cc : ByteArray} {nL d : Nat} {ρ : Type} {o : ρ} {P : Option ρ} {σ : St} {pc : Nat} {lv : List (Nat × Value)} {st : List Value} (F : Fx G X cc nL RX7 d) (hd : decode cc pc = .ok (.getfield 112, 3)) (kk : Sim G X nL o P σ (pc + 3) lv (.int (σ.2 1) :: st)) : Sim G X nL o P σ pc lv (.ref (ga G 2) :: st) := s_get F 2 1 hd m_1_50 inX6g (by decide) rfl vc_5 (by decide) rfl rfl kk
theorem fg_X7_30 {G : Gx} {X : Cx} {cc : ByteArray} {nL d : Nat} {ρ : Type} {o : ρ} {P : Option ρ} {σ : St} {pc : Nat} {lv : List (Nat × Value)} {st : List Value} (F : Fx G X cc nL RX7 d) (hd : decode cc pc = .ok (.getfield 30, 3)) (kk : Sim G X nL o P σ (pc + 3) lv (.ref (ga G 6) :: st)) : Sim G X nL o P σ pc lv (.ref (ga G 0) :: st) := s_get F 0 3 hd m_1_138 inX7g (by decide) rfl vc_6 (by decide) rfl rfl kk
theorem wV_X7_116 : ∀ w ∈ wV RX7 116 yX6_readInto cX6_readInto 4 (some .boolean), w ∈ gT := wV_mk m_1_231 m_1_232 m_1_233 m_1_3 m_1_234
theorem nk_X6_readInto : nmOK yX6_readInto 1 := by
  unfold nmOK
  decide +kernel
theorem fp_X7_112 {G : Gx} {X : Cx} {cc : ByteArray} {nL d : Nat} {ρ : Type} {o : ρ} {P : Option ρ} {σ : St} {pc : Nat} {lv : List (Nat × Value)} {st : List Value} (F : Fx G X cc nL RX7 d) {v : Int32} (hd : decode cc pc = .ok (.putfield 112, 3)) (kk : Sim G X nL o P (setF σ 1 v) (pc + 3) lv st) : Sim G X nL o P σ pc lv (.int v :: .ref (ga G 2) :: st) := s_put F 2 1 (setF σ 1 v) hd m_1_50 inX6g tyX6 tyX6_ok nmX6 (by decide) rfl vc_5 (by decide) rfl rfl rfl (Nat.le_of_ble_eq_true rfl) rfl cf_1 kk
theorem fg_X7_26 {G : Gx} {X : Cx} {cc : ByteArray} {nL d : Nat} {ρ : Type} {o : ρ} {P : Option ρ} {σ : St} {pc : Nat} {lv : List (Nat × Value)} {st : List Value} (F : Fx G X cc nL RX7 d) (hd : decode cc pc = .ok (.getfield 26, 3)) (kk : Sim G X nL o P σ (pc + 3) lv (.ref (ga G 3) :: st)) : Sim G X nL o P σ pc lv (.ref (ga G 0) :: st) := s_get F 0 2 hd m_1_137 inX7g (by decide) rfl vc_6 (by decide) rfl rfl kk
theorem fg_X7_124 {G : Gx} {X : Cx} {cc : ByteArray} {nL d : Nat} {ρ : Type} {o : ρ} {P : Option ρ} {σ : St} {pc : Nat} {lv : List (Nat × Value)} {st : List Value} (F : Fx G X cc nL RX7 d) {r c : Nat} (hr : isNet r) (hc : r + 1 = c) (hd : decode cc pc = .ok (.getfield 124, 3)) (kk : Sim G X nL o P σ (pc + 3) lv (.ref (ga G c) :: st)) : Sim G X nL o P σ pc lv (.ref (ga G r) :: st) := by
  subst hc
  exact s_get F r 0 hd m_1_77 inX4g hr.lt (hr.cell G σ) vc_3 (by decide) rfl rfl kk
theorem wV_X7_127 : ∀ w ∈ wV RX7 127 yX4_take cX4_take 2 none, w ∈ gT := wV_mk m_2_29 m_2_30 m_2_31 m_1_4 m_2_32
theorem fg_X7_36 {G : Gx} {X : Cx} {cc : ByteArray} {nL d : Nat} {ρ : Type} {o : ρ} {P : Option ρ} {σ : St} {pc : Nat} {lv : List (Nat × Value)} {st : List Value} (F : Fx G X cc nL RX7 d) (hd : decode cc pc = .ok (.getfield 36, 3)) (kk : Sim G X nL o P σ (pc + 3) lv (.ref (ga G 15) :: st)) : Sim G X nL o P σ pc lv (.ref (ga G 0) :: st) := s_get F 0 4 hd m_1_139 inX7g (by decide) rfl vc_6 (by decide) rfl rfl kk
theorem wV_X7_131 : ∀ w ∈ wV RX7 131 yX0_forget cX0_forget 1 none, w ∈ gT := wV_mk m_2_34 m_2_35 m_2_36 m_1_5 m_2_37
theorem nk_X0_forget : nmOK yX0_forget 0 := by
  unfold nmOK
  decide +kernel
theorem fg_X7_121 {G : Gx} {X : Cx} {cc : ByteArray} {nL d : Nat} {ρ : Type} {o : ρ} {P : Option ρ} {σ : St} {pc : Nat} {lv : List (Nat × Value)} {st : List Value} (F : Fx G X cc nL RX7 d) (hd : decode cc pc = .ok (.getfield 121, 3)) (kk : Sim G X nL o P σ (pc + 3) lv (.int (σ.2 3) :: st)) : Sim G X nL o P σ pc lv (.ref (ga G 2) :: st) := s_get F 2 3 hd m_1_54 inX6g (by decide) rfl vc_5 (by decide) rfl rfl kk
theorem fg_X7_134 {G : Gx} {X : Cx} {cc : ByteArray} {nL d : Nat} {ρ : Type} {o : ρ} {P : Option ρ} {σ : St} {pc : Nat} {lv : List (Nat × Value)} {st : List Value} (F : Fx G X cc nL RX7 d) (hd : decode cc pc = .ok (.getfield 134, 3)) (kk : Sim G X nL o P σ (pc + 3) lv (.int (σ.2 2) :: st)) : Sim G X nL o P σ pc lv (.ref (ga G 2) :: st) := s_get F 2 2 hd m_1_52 inX6g (by decide) rfl vc_5 (by decide) rfl rfl kk
theorem fg_X7_137 {G : Gx} {X : Cx} {cc : ByteArray} {nL d : Nat} {ρ : Type} {o : ρ} {P : Option ρ} {σ : St} {pc : Nat} {lv : List (Nat × Value)} {st : List Value} (F : Fx G X cc nL RX7 d) (hd : decode cc pc = .ok (.getfield 137, 3)) (kk : Sim G X nL o P σ (pc + 3) lv (.int (σ.2 6) :: st)) : Sim G X nL o P σ pc lv (.ref (ga G 15) :: st) := s_get F 15 2 hd m_1_95 inX0g (by decide) rfl vc_0 (by decide) rfl rfl kk
theorem wV_X7_141 : ∀ w ∈ wV RX7 141 yX0_latest cX0_latest 1 (some (.array .int)), w ∈ gT := wV_mk m_2_47 m_2_48 m_2_49 m_1_5 m_2_50
theorem nk_X0_latest : nmOK yX0_latest 0 := by
  unfold nmOK
  decide +kernel
theorem wV_X7_145 : ∀ w ∈ wV RX7 145 yX4_stands cX4_stands 1 (some .boolean), w ∈ gT := wV_mk m_2_58 m_2_59 m_2_60 m_1_4 m_2_61
theorem nk_X4_stands : nmOK yX4_stands 0 := by
  unfold nmOK
  decide +kernel
theorem wV_X7_149 : ∀ w ∈ wV RX7 149 yX0_keep cX0_keep 2 none, w ∈ gT := wV_mk m_2_62 m_2_63 m_2_64 m_1_5 m_2_65
theorem nk_X0_keep : nmOK yX0_keep 1 := by
  unfold nmOK
  decide +kernel
theorem wV_X7_152 : ∀ w ∈ wV RX7 152 yX4_passBreath cX4_passBreath 4 (some .int), w ∈ gT := wV_mk m_2_70 m_2_71 m_2_72 m_1_4 m_2_73
theorem wV_X7_156 : ∀ w ∈ wV RX7 156 yX4_isHorn cX4_isHorn 2 (some .boolean), w ∈ gT := wV_mk m_2_103 m_2_104 m_2_105 m_1_4 m_2_106
theorem nk_X4_isHorn : nmOK yX4_isHorn 1 := by
  unfold nmOK
  decide +kernel
theorem wV_X7_159 : ∀ w ∈ wV RX7 159 yX4_letIn cX4_letIn 7 (some .int), w ∈ gT := wV_mk m_2_107 m_2_108 m_2_109 m_1_4 m_2_110
theorem wV_X7_162 : ∀ w ∈ wV RX7 162 yX4_isPipe cX4_isPipe 2 (some .boolean), w ∈ gT := wV_mk m_2_115 m_2_116 m_2_117 m_1_4 m_2_118
theorem nk_X4_isPipe : nmOK yX4_isPipe 1 := by
  unfold nmOK
  decide +kernel
theorem wV_X7_165 : ∀ w ∈ wV RX7 165 yX4_isOpen cX4_isOpen 2 (some .boolean), w ∈ gT := wV_mk m_2_119 m_2_92 m_2_93 m_1_4 m_2_94
theorem wV_X7_168 : ∀ w ∈ wV RX7 168 yX4_soundsInAll cX4_soundsInAll 3 (some .int), w ∈ gT := wV_mk m_2_128 m_2_129 m_2_130 m_1_4 m_2_131
theorem wV_X7_171 : ∀ w ∈ wV RX7 171 yX4_silence cX4_silence 2 none, w ∈ gT := wV_mk m_2_136 m_2_137 m_2_138 m_1_4 m_2_139
theorem wV_X7_174 : ∀ w ∈ wV RX7 174 yX4_soundsIn cX4_soundsIn 4 (some .int), w ∈ gT := wV_mk m_2_144 m_2_133 m_2_134 m_1_4 m_2_135
theorem wS_X7_275 : ∀ w ∈ wS RX7 275 yX4_wordOf cX4_wordOf 1 (some .int), w ∈ gT := wS_mk m_2_157 m_2_83 m_1_4 m_2_84
theorem wS_X7_178 : ∀ w ∈ wS RX7 178 yX7_wordOrNone cX7_wordOrNone 1 (some .int), w ∈ gT := wS_mk m_2_154 m_2_155 m_1_1 m_2_156
theorem nk_X7_wordOrNone : nmOK yX7_wordOrNone 1 := by
  unfold nmOK
  decide +kernel
theorem wS_X7_181 : ∀ w ∈ wS RX7 181 yX4_loudnessOf cX4_loudnessOf 1 (some .int), w ∈ gT := wS_mk m_2_158 m_2_86 m_1_4 m_2_87
theorem wV_X7_184 : ∀ w ∈ wV RX7 184 yX4_pipesWith cX4_pipesWith 5 (some .int), w ∈ gT := wV_mk m_2_159 m_2_160 m_2_161 m_1_4 m_2_162
theorem nk_X4_pipesWith : nmOK yX4_pipesWith 2 := by
  unfold nmOK
  decide +kernel
theorem fg_X7_43 {G : Gx} {X : Cx} {cc : ByteArray} {nL d : Nat} {ρ : Type} {o : ρ} {P : Option ρ} {σ : St} {pc : Nat} {lv : List (Nat × Value)} {st : List Value} (F : Fx G X cc nL RX7 d) (hd : decode cc pc = .ok (.getfield 43, 3)) (kk : Sim G X nL o P σ (pc + 3) lv (.ref (ga G 16) :: st)) : Sim G X nL o P σ pc lv (.ref (ga G 0) :: st) := s_get F 0 5 hd m_1_140 inX7g (by decide) rfl vc_6 (by decide) rfl rfl kk
theorem fg_X7_272 {G : Gx} {X : Cx} {cc : ByteArray} {nL d : Nat} {ρ : Type} {o : ρ} {P : Option ρ} {σ : St} {pc : Nat} {lv : List (Nat × Value)} {st : List Value} (F : Fx G X cc nL RX7 d) (hd : decode cc pc = .ok (.getfield 272, 3)) (kk : Sim G X nL o P σ (pc + 3) lv (.ref (ga G 9) :: st)) : Sim G X nL o P σ pc lv (.ref (ga G 16) :: st) := s_get F 16 0 hd m_1_112 inX2g (by decide) rfl vc_2 (by decide) rfl rfl kk
theorem wV_X7_188 : ∀ w ∈ wV RX7 188 yX7_seen cX7_seen 1 (some (.object "EarTrumpets$Foresight")), w ∈ gT := wV_mk m_2_167 m_2_169 m_s_10 m_1_1 m_2_170
theorem nk_X7_seen : nmOK yX7_seen 0 := by
  unfold nmOK
  decide +kernel
theorem wV_X7_192 : ∀ w ∈ wV RX7 192 yX2_soundHeard cX2_soundHeard 4 (some .int), w ∈ gT := wV_mk m_2_171 m_2_172 m_2_173 m_1_6 m_2_174
theorem nk_X2_soundHeard : nmOK yX2_soundHeard 2 := by
  unfold nmOK
  decide +kernel
theorem wV_X7_195 : ∀ w ∈ wV RX7 195 yX2_firstHearing cX2_firstHearing 4 (some .int), w ∈ gT := wV_mk m_2_185 m_2_186 m_2_187 m_1_6 m_2_188
theorem nk_X2_firstHearing : nmOK yX2_firstHearing 2 := by
  unfold nmOK
  decide +kernel
theorem wV_X7_198 : ∀ w ∈ wV RX7 198 yX2_hornsThatHear cX2_hornsThatHear 4 (some .int), w ∈ gT := wV_mk m_2_202 m_2_203 m_2_204 m_1_6 m_2_205
theorem nk_X2_hornsThatHear : nmOK yX2_hornsThatHear 1 := by
  unfold nmOK
  decide +kernel
theorem wV_X7_201 : ∀ w ∈ wV RX7 201 yX2_breathsToSilence cX2_breathsToSilence 3 (some .int), w ∈ gT := wV_mk m_2_210 m_2_211 m_2_212 m_1_6 m_2_213
theorem nk_X2_breathsToSilence : nmOK yX2_breathsToSilence 1 := by
  unfold nmOK
  decide +kernel
theorem wS_X7_278 : ∀ w ∈ wS RX7 278 yJ6_bitCount_0f7a4 cJ6_bitCount_0f7a4 1 (some .int), w ∈ gT := wS_mk m_3_0 m_2_227 m_1_12 m_2_228
theorem wV_X7_204 : ∀ w ∈ wV RX7 204 yX4_allHorns cX4_allHorns 1 (some .int), w ∈ gT := wV_mk m_2_218 m_2_219 m_2_220 m_1_4 m_2_221
theorem nk_X4_allHorns : nmOK yX4_allHorns 0 := by
  unfold nmOK
  decide +kernel
theorem wV_X7_207 : ∀ w ∈ wV RX7 207 yX2_fewestTurned cX2_fewestTurned 9 (some .int), w ∈ gT := wV_mk m_2_222 m_2_223 m_2_224 m_1_6 m_2_225
theorem nk_X2_fewestTurned : nmOK yX2_fewestTurned 5 := by
  unfold nmOK
  decide +kernel
theorem wS_X7_211 : ∀ w ∈ wS RX7 211 yX7_sizeOrSet cX7_sizeOrSet 2 (some .int), w ∈ gT := wS_mk m_2_237 m_2_238 m_1_1 m_2_239
theorem nk_X7_sizeOrSet : nmOK yX7_sizeOrSet 2 := by
  unfold nmOK
  decide +kernel
theorem wV_X7_214 : ∀ w ∈ wV RX7 214 yX4_allPipes cX4_allPipes 1 (some .int), w ∈ gT := wV_mk m_3_5 m_2_25 m_2_26 m_1_4 m_2_27
theorem wV_X7_217 : ∀ w ∈ wV RX7 217 yX2_leastLoudness cX2_leastLoudness 5 (some .int), w ∈ gT := wV_mk m_3_10 m_3_11 m_3_12 m_1_6 m_3_13
theorem nk_X2_leastLoudness : nmOK yX2_leastLoudness 3 := by
  unfold nmOK
  decide +kernel
theorem wV_X7_220 : ∀ w ∈ wV RX7 220 yX2_wordsToSay cX2_wordsToSay 7 (some .int), w ∈ gT := wV_mk m_3_18 m_3_19 m_3_20 m_1_6 m_3_21
theorem nk_X2_wordsToSay : nmOK yX2_wordsToSay 4 := by
  unfold nmOK
  decide +kernel
theorem wV_X7_224 : ∀ w ∈ wV RX7 224 yX2_breathsRound cX2_breathsRound 4 (some .int), w ∈ gT := wV_mk m_3_35 m_3_36 m_3_37 m_1_6 m_3_38
theorem nk_X2_breathsRound : nmOK yX2_breathsRound 2 := by
  unfold nmOK
  decide +kernel
theorem wV_X7_227 : ∀ w ∈ wV RX7 227 yX2_fewestPipes cX2_fewestPipes 5 (some .int), w ∈ gT := wV_mk m_3_44 m_3_45 m_3_46 m_1_6 m_3_47
theorem nk_X2_fewestPipes : nmOK yX2_fewestPipes 2 := by
  unfold nmOK
  decide +kernel
theorem wV_X7_230 : ∀ w ∈ wV RX7 230 yX2_whatFits cX2_whatFits 11 (some .int), w ∈ gT := wV_mk m_3_57 m_3_58 m_3_59 m_1_6 m_3_60
theorem nk_X2_whatFits : nmOK yX2_whatFits 6 := by
  unfold nmOK
  decide +kernel
theorem wV_X7_234 : ∀ w ∈ wV RX7 234 yX2_hornsSpokenAt cX2_hornsSpokenAt 8 (some .int), w ∈ gT := wV_mk m_3_73 m_3_74 m_3_75 m_1_6 m_3_76
theorem nk_X2_hornsSpokenAt : nmOK yX2_hornsSpokenAt 5 := by
  unfold nmOK
  decide +kernel
theorem wV_X7_238 : ∀ w ∈ wV RX7 238 yX2_coldPipes cX2_coldPipes 4 (some .int), w ∈ gT := wV_mk m_3_81 m_3_82 m_3_83 m_1_6 m_3_84
theorem nk_X2_coldPipes : nmOK yX2_coldPipes 1 := by
  unfold nmOK
  decide +kernel
theorem wV_X7_243 : ∀ w ∈ wV RX7 243 yX2_likelihood cX2_likelihood 14 (some .long), w ∈ gT := wV_mk m_3_95 m_3_96 m_3_97 m_1_6 m_3_98
theorem nk_X2_likelihood : nmOK yX2_likelihood 4 := by
  unfold nmOK
  decide +kernel
theorem wV_X7_248 : ∀ w ∈ wV RX7 248 yX2_sitting cX2_sitting 9 (some .int), w ∈ gT := wV_mk m_3_114 m_3_115 m_3_116 m_1_6 m_3_117
theorem nk_X2_sitting : nmOK yX2_sitting 3 := by
  unfold nmOK
  decide +kernel
theorem fg_X7_56 {G : Gx} {X : Cx} {cc : ByteArray} {nL d : Nat} {ρ : Type} {o : ρ} {P : Option ρ} {σ : St} {pc : Nat} {lv : List (Nat × Value)} {st : List Value} (F : Fx G X cc nL RX7 d) (hd : decode cc pc = .ok (.getfield 56, 3)) (kk : Sim G X nL o P σ (pc + 3) lv (.ref (ga G 18) :: st)) : Sim G X nL o P σ pc lv (.ref (ga G 0) :: st) := s_get F 0 7 hd m_1_142 inX7g (by decide) rfl vc_6 (by decide) rfl rfl kk
theorem wS_X7_254 : ∀ w ∈ wS RX7 254 yX3_isOne cX3_isOne 4 (some .boolean), w ∈ gT := wS_mk m_3_139 m_3_140 m_1_10 m_3_141
theorem nk_X3_isOne : nmOK yX3_isOne 2 := by
  unfold nmOK
  decide +kernel
theorem fg_X7_50 {G : Gx} {X : Cx} {cc : ByteArray} {nL d : Nat} {ρ : Type} {o : ρ} {P : Option ρ} {σ : St} {pc : Nat} {lv : List (Nat × Value)} {st : List Value} (F : Fx G X cc nL RX7 d) (hd : decode cc pc = .ok (.getfield 50, 3)) (kk : Sim G X nL o P σ (pc + 3) lv (.ref (ga G 17) :: st)) : Sim G X nL o P σ pc lv (.ref (ga G 0) :: st) := s_get F 0 6 hd m_1_141 inX7g (by decide) rfl vc_6 (by decide) rfl rfl kk
theorem fg_X7_262 {G : Gx} {X : Cx} {cc : ByteArray} {nL d : Nat} {ρ : Type} {o : ρ} {P : Option ρ} {σ : St} {pc : Nat} {lv : List (Nat × Value)} {st : List Value} (F : Fx G X cc nL RX7 d) (hd : decode cc pc = .ok (.getfield 262, 3)) (kk : Sim G X nL o P σ (pc + 3) lv (.int (σ.2 7) :: st)) : Sim G X nL o P σ pc lv (.ref (ga G 17) :: st) := s_get F 17 1 hd m_1_128 inX1g (by decide) rfl vc_1 (by decide) rfl rfl kk
theorem fg_X7_265 {G : Gx} {X : Cx} {cc : ByteArray} {nL d : Nat} {ρ : Type} {o : ρ} {P : Option ρ} {σ : St} {pc : Nat} {lv : List (Nat × Value)} {st : List Value} (F : Fx G X cc nL RX7 d) (hd : decode cc pc = .ok (.getfield 265, 3)) (kk : Sim G X nL o P σ (pc + 3) lv (.ref (ga G 24) :: st)) : Sim G X nL o P σ pc lv (.ref (ga G 17) :: st) := s_get F 17 0 hd m_1_126 inX1g (by decide) rfl vc_1 (by decide) rfl rfl kk
theorem wV_X7_268 : ∀ w ∈ wV RX7 268 yX5_howMany cX5_howMany 3 (some .int), w ∈ gT := wV_mk m_3_180 m_3_181 m_3_182 m_1_2 m_3_183
theorem nk_X5_howMany : nmOK yX5_howMany 0 := by
  unfold nmOK
  decide +kernel
theorem fg_X7_59 {G : Gx} {X : Cx} {cc : ByteArray} {nL d : Nat} {ρ : Type} {o : ρ} {P : Option ρ} {σ : St} {pc : Nat} {lv : List (Nat × Value)} {st : List Value} (F : Fx G X cc nL RX7 d) (hd : decode cc pc = .ok (.getfield 59, 3)) (kk : Sim G X nL o P σ (pc + 3) lv (.int (σ.2 0) :: st)) : Sim G X nL o P σ pc lv (.ref (ga G 0) :: st) := s_get F 0 8 hd m_1_143 inX7g (by decide) rfl vc_6 (by decide) rfl rfl kk
theorem fp_X8_51 {G : Gx} {X : Cx} {cc : ByteArray} {nL d : Nat} {ρ : Type} {o : ρ} {P : Option ρ} {σ : St} {pc : Nat} {lv : List (Nat × Value)} {st : List Value} (F : Fx G X cc nL RX8 d) {v : Int32} (hd : decode cc pc = .ok (.putfield 51, 3)) (kk : Sim G X nL o P (setF σ 9 v) (pc + 3) lv st) : Sim G X nL o P σ pc lv (.int v :: .ref (ga G 25) :: st) := s_put F 25 1 (setF σ 9 v) hd m_3_196 inX8g tyX8 tyX8_ok nmX8 (by decide) rfl vc_7 (by decide) rfl rfl rfl (Nat.le_of_ble_eq_true rfl) rfl cf_9 kk
theorem wS_X8_57 : ∀ w ∈ wS RX8 57 yX8_in cX8_in 6 (some .boolean), w ∈ gT := wS_mk m_4_37 m_4_38 m_1_8 m_4_39
theorem nk_X8_in : nmOK yX8_in 3 := by
  unfold nmOK
  decide +kernel
theorem fp_X8_47 {G : Gx} {X : Cx} {cc : ByteArray} {nL d : Nat} {ρ : Type} {o : ρ} {P : Option ρ} {σ : St} {pc : Nat} {lv : List (Nat × Value)} {st : List Value} (F : Fx G X cc nL RX8 d) {v : Int32} (hd : decode cc pc = .ok (.putfield 47, 3)) (kk : Sim G X nL o P (setF σ 8 v) (pc + 3) lv st) : Sim G X nL o P σ pc lv (.int v :: .ref (ga G 25) :: st) := s_put F 25 0 (setF σ 8 v) hd m_3_195 inX8g tyX8 tyX8_ok nmX8 (by decide) rfl vc_7 (by decide) rfl rfl rfl (Nat.le_of_ble_eq_true rfl) rfl cf_8 kk
theorem wS_X8_61 : ∀ w ∈ wS RX8 61 yX8_isRow cX8_isRow 1 (some .boolean), w ∈ gT := wS_mk m_4_33 m_4_34 m_1_8 m_4_35
theorem nk_X8_isRow : nmOK yX8_isRow 1 := by
  unfold nmOK
  decide +kernel
theorem fg_X8_7 {G : Gx} {X : Cx} {cc : ByteArray} {nL d : Nat} {ρ : Type} {o : ρ} {P : Option ρ} {σ : St} {pc : Nat} {lv : List (Nat × Value)} {st : List Value} (F : Fx G X cc nL RX8 d) (hd : decode cc pc = .ok (.getfield 7, 3)) (kk : Sim G X nL o P σ (pc + 3) lv (.ref (ga G 26) :: st)) : Sim G X nL o P σ pc lv (.ref (ga G 25) :: st) := s_get F 25 2 hd m_3_197 inX8g (by decide) rfl vc_7 (by decide) rfl rfl kk
theorem fg_X8_13 {G : Gx} {X : Cx} {cc : ByteArray} {nL d : Nat} {ρ : Type} {o : ρ} {P : Option ρ} {σ : St} {pc : Nat} {lv : List (Nat × Value)} {st : List Value} (F : Fx G X cc nL RX8 d) (hd : decode cc pc = .ok (.getfield 13, 3)) (kk : Sim G X nL o P σ (pc + 3) lv (.ref (ga G 27) :: st)) : Sim G X nL o P σ pc lv (.ref (ga G 25) :: st) := s_get F 25 3 hd m_3_198 inX8g (by decide) rfl vc_7 (by decide) rfl rfl kk
theorem fg_X8_16 {G : Gx} {X : Cx} {cc : ByteArray} {nL d : Nat} {ρ : Type} {o : ρ} {P : Option ρ} {σ : St} {pc : Nat} {lv : List (Nat × Value)} {st : List Value} (F : Fx G X cc nL RX8 d) (hd : decode cc pc = .ok (.getfield 16, 3)) (kk : Sim G X nL o P σ (pc + 3) lv (.ref (ga G 28) :: st)) : Sim G X nL o P σ pc lv (.ref (ga G 25) :: st) := s_get F 25 4 hd m_3_199 inX8g (by decide) rfl vc_7 (by decide) rfl rfl kk
theorem wV_X8_68 : ∀ w ∈ wV RX8 68 yX8_finding cX8_finding 2 (some .int), w ∈ gT := wV_mk m_4_42 m_4_44 m_s_25 m_1_8 m_4_45
theorem nk_X8_finding : nmOK yX8_finding 1 := by
  unfold nmOK
  decide +kernel
theorem fg_X8_74 {G : Gx} {X : Cx} {cc : ByteArray} {nL d : Nat} {ρ : Type} {o : ρ} {P : Option ρ} {σ : St} {pc : Nat} {lv : List (Nat × Value)} {st : List Value} (F : Fx G X cc nL RX8 d) (hd : decode cc pc = .ok (.getfield 74, 3)) (kk : Sim G X nL o P σ (pc + 3) lv (.int (σ.2 11) :: st)) : Sim G X nL o P σ pc lv (.ref (ga G 25) :: st) := s_get F 25 11 hd m_3_206 inX8g (by decide) rfl vc_7 (by decide) rfl rfl kk
theorem fg_X8_31 {G : Gx} {X : Cx} {cc : ByteArray} {nL d : Nat} {ρ : Type} {o : ρ} {P : Option ρ} {σ : St} {pc : Nat} {lv : List (Nat × Value)} {st : List Value} (F : Fx G X cc nL RX8 d) (hd : decode cc pc = .ok (.getfield 31, 3)) (kk : Sim G X nL o P σ (pc + 3) lv (.ref (ga G 33) :: st)) : Sim G X nL o P σ pc lv (.ref (ga G 25) :: st) := s_get F 25 10 hd m_3_205 inX8g (by decide) rfl vc_7 (by decide) rfl rfl kk
theorem fp_X8_74 {G : Gx} {X : Cx} {cc : ByteArray} {nL d : Nat} {ρ : Type} {o : ρ} {P : Option ρ} {σ : St} {pc : Nat} {lv : List (Nat × Value)} {st : List Value} (F : Fx G X cc nL RX8 d) {v : Int32} (hd : decode cc pc = .ok (.putfield 74, 3)) (kk : Sim G X nL o P (setF σ 11 v) (pc + 3) lv st) : Sim G X nL o P σ pc lv (.int v :: .ref (ga G 25) :: st) := s_put F 25 11 (setF σ 11 v) hd m_3_206 inX8g tyX8 tyX8_ok nmX8 (by decide) rfl vc_7 (by decide) rfl rfl rfl (Nat.le_of_ble_eq_true rfl) rfl cf_11 kk
theorem fg_X8_78 {G : Gx} {X : Cx} {cc : ByteArray} {nL d : Nat} {ρ : Type} {o : ρ} {P : Option ρ} {σ : St} {pc : Nat} {lv : List (Nat × Value)} {st : List Value} (F : Fx G X cc nL RX8 d) (hd : decode cc pc = .ok (.getfield 78, 3)) (kk : Sim G X nL o P σ (pc + 3) lv (.int (σ.2 16) :: st)) : Sim G X nL o P σ pc lv (.ref (ga G 25) :: st) := s_get F 25 16 hd m_3_211 inX8g (by decide) rfl vc_7 (by decide) rfl rfl kk
theorem fp_X8_78 {G : Gx} {X : Cx} {cc : ByteArray} {nL d : Nat} {ρ : Type} {o : ρ} {P : Option ρ} {σ : St} {pc : Nat} {lv : List (Nat × Value)} {st : List Value} (F : Fx G X cc nL RX8 d) {v : Int32} (hd : decode cc pc = .ok (.putfield 78, 3)) (kk : Sim G X nL o P (setF σ 16 v) (pc + 3) lv st) : Sim G X nL o P σ pc lv (.int v :: .ref (ga G 25) :: st) := s_put F 25 16 (setF σ 16 v) hd m_3_211 inX8g tyX8 tyX8_ok nmX8 (by decide) rfl vc_7 (by decide) rfl rfl rfl (Nat.le_of_ble_eq_true rfl) rfl cf_16 kk
theorem fg_X8_81 {G : Gx} {X : Cx} {cc : ByteArray} {nL d : Nat} {ρ : Type} {o : ρ} {P : Option ρ} {σ : St} {pc : Nat} {lv : List (Nat × Value)} {st : List Value} (F : Fx G X cc nL RX8 d) (hd : decode cc pc = .ok (.getfield 81, 3)) (kk : Sim G X nL o P σ (pc + 3) lv (.int (σ.2 13) :: st)) : Sim G X nL o P σ pc lv (.ref (ga G 25) :: st) := s_get F 25 13 hd m_3_208 inX8g (by decide) rfl vc_7 (by decide) rfl rfl kk
theorem fp_X8_84 {G : Gx} {X : Cx} {cc : ByteArray} {nL d : Nat} {ρ : Type} {o : ρ} {P : Option ρ} {σ : St} {pc : Nat} {lv : List (Nat × Value)} {st : List Value} (F : Fx G X cc nL RX8 d) {v : Int32} (hd : decode cc pc = .ok (.putfield 84, 3)) (kk : Sim G X nL o P (setF σ 17 v) (pc + 3) lv st) : Sim G X nL o P σ pc lv (.int v :: .ref (ga G 25) :: st) := s_put F 25 17 (setF σ 17 v) hd m_3_212 inX8g tyX8 tyX8_ok nmX8 (by decide) rfl vc_7 (by decide) rfl rfl rfl (Nat.le_of_ble_eq_true rfl) rfl cf_17 kk
theorem fg_X8_87 {G : Gx} {X : Cx} {cc : ByteArray} {nL d : Nat} {ρ : Type} {o : ρ} {P : Option ρ} {σ : St} {pc : Nat} {lv : List (Nat × Value)} {st : List Value} (F : Fx G X cc nL RX8 d) (hd : decode cc pc = .ok (.getfield 87, 3)) (kk : Sim G X nL o P σ (pc + 3) lv (.int (σ.2 12) :: st)) : Sim G X nL o P σ pc lv (.ref (ga G 25) :: st) := s_get F 25 12 hd m_3_207 inX8g (by decide) rfl vc_7 (by decide) rfl rfl kk
theorem fp_X8_81 {G : Gx} {X : Cx} {cc : ByteArray} {nL d : Nat} {ρ : Type} {o : ρ} {P : Option ρ} {σ : St} {pc : Nat} {lv : List (Nat × Value)} {st : List Value} (F : Fx G X cc nL RX8 d) {v : Int32} (hd : decode cc pc = .ok (.putfield 81, 3)) (kk : Sim G X nL o P (setF σ 13 v) (pc + 3) lv st) : Sim G X nL o P σ pc lv (.int v :: .ref (ga G 25) :: st) := s_put F 25 13 (setF σ 13 v) hd m_3_208 inX8g tyX8 tyX8_ok nmX8 (by decide) rfl vc_7 (by decide) rfl rfl rfl (Nat.le_of_ble_eq_true rfl) rfl cf_13 kk
theorem fp_X8_91 {G : Gx} {X : Cx} {cc : ByteArray} {nL d : Nat} {ρ : Type} {o : ρ} {P : Option ρ} {σ : St} {pc : Nat} {lv : List (Nat × Value)} {st : List Value} (F : Fx G X cc nL RX8 d) {v : Int32} (hd : decode cc pc = .ok (.putfield 91, 3)) (kk : Sim G X nL o P (setF σ 15 v) (pc + 3) lv st) : Sim G X nL o P σ pc lv (.int v :: .ref (ga G 25) :: st) := s_put F 25 15 (setF σ 15 v) hd m_3_210 inX8g tyX8 tyX8_ok nmX8 (by decide) rfl vc_7 (by decide) rfl rfl rfl (Nat.le_of_ble_eq_true rfl) rfl cf_15 kk
theorem fg_X8_91 {G : Gx} {X : Cx} {cc : ByteArray} {nL d : Nat} {ρ : Type} {o : ρ} {P : Option ρ} {σ : St} {pc : Nat} {lv : List (Nat × Value)} {st : List Value} (F : Fx G X cc nL RX8 d) (hd : decode cc pc = .ok (.getfield 91, 3)) (kk : Sim G X nL o P σ (pc + 3) lv (.int (σ.2 15) :: st)) : Sim G X nL o P σ pc lv (.ref (ga G 25) :: st) := s_get F 25 15 hd m_3_210 inX8g (by decide) rfl vc_7 (by decide) rfl rfl kk
theorem fp_X8_102 {G : Gx} {X : Cx} {cc : ByteArray} {nL d : Nat} {ρ : Type} {o : ρ} {P : Option ρ} {σ : St} {pc : Nat} {lv : List (Nat × Value)} {st : List Value} (F : Fx G X cc nL RX8 d) {v : Int32} (hd : decode cc pc = .ok (.putfield 102, 3)) (kk : Sim G X nL o P (setF σ 14 v) (pc + 3) lv st) : Sim G X nL o P σ pc lv (.int v :: .ref (ga G 25) :: st) := s_put F 25 14 (setF σ 14 v) hd m_3_209 inX8g tyX8 tyX8_ok nmX8 (by decide) rfl vc_7 (by decide) rfl rfl rfl (Nat.le_of_ble_eq_true rfl) rfl cf_14 kk
theorem fp_X8_87 {G : Gx} {X : Cx} {cc : ByteArray} {nL d : Nat} {ρ : Type} {o : ρ} {P : Option ρ} {σ : St} {pc : Nat} {lv : List (Nat × Value)} {st : List Value} (F : Fx G X cc nL RX8 d) {v : Int32} (hd : decode cc pc = .ok (.putfield 87, 3)) (kk : Sim G X nL o P (setF σ 12 v) (pc + 3) lv st) : Sim G X nL o P σ pc lv (.int v :: .ref (ga G 25) :: st) := s_put F 25 12 (setF σ 12 v) hd m_3_207 inX8g tyX8 tyX8_ok nmX8 (by decide) rfl vc_7 (by decide) rfl rfl rfl (Nat.le_of_ble_eq_true rfl) rfl cf_12 kk
theorem fg_X8_102 {G : Gx} {X : Cx} {cc : ByteArray} {nL d : Nat} {ρ : Type} {o : ρ} {P : Option ρ} {σ : St} {pc : Nat} {lv : List (Nat × Value)} {st : List Value} (F : Fx G X cc nL RX8 d) (hd : decode cc pc = .ok (.getfield 102, 3)) (kk : Sim G X nL o P σ (pc + 3) lv (.int (σ.2 14) :: st)) : Sim G X nL o P σ pc lv (.ref (ga G 25) :: st) := s_get F 25 14 hd m_3_209 inX8g (by decide) rfl vc_7 (by decide) rfl rfl kk
theorem wV_X8_109 : ∀ w ∈ wV RX8 109 yX8_nextToken cX8_nextToken 1 none, w ∈ gT := wV_mk m_4_77 m_4_79 m_s_27 m_1_8 m_4_80
theorem nk_X8_nextToken : nmOK yX8_nextToken 0 := by
  unfold nmOK
  decide +kernel
theorem wV_X8_105 : ∀ w ∈ wV RX8 105 yX8_bad cX8_bad 2 none, w ∈ gT := wV_mk m_4_94 m_4_96 m_s_30 m_1_8 m_4_97
theorem nk_X8_bad : nmOK yX8_bad 1 := by
  unfold nmOK
  decide +kernel
theorem wV_X8_112 : ∀ w ∈ wV RX8 112 yX8_must cX8_must 2 none, w ∈ gT := wV_mk m_4_90 m_4_92 m_s_29 m_1_8 m_4_93
theorem nk_X8_must : nmOK yX8_must 1 := by
  unfold nmOK
  decide +kernel
theorem fg_X8_116 {G : Gx} {X : Cx} {cc : ByteArray} {nL d : Nat} {ρ : Type} {o : ρ} {P : Option ρ} {σ : St} {pc : Nat} {lv : List (Nat × Value)} {st : List Value} (F : Fx G X cc nL RX8 d) (hd : decode cc pc = .ok (.getfield 116, 3)) (kk : Sim G X nL o P σ (pc + 3) lv (.int (σ.2 18) :: st)) : Sim G X nL o P σ pc lv (.ref (ga G 25) :: st) := s_get F 25 18 hd m_3_213 inX8g (by decide) rfl vc_7 (by decide) rfl rfl kk
theorem fp_X8_116 {G : Gx} {X : Cx} {cc : ByteArray} {nL d : Nat} {ρ : Type} {o : ρ} {P : Option ρ} {σ : St} {pc : Nat} {lv : List (Nat × Value)} {st : List Value} (F : Fx G X cc nL RX8 d) {v : Int32} (hd : decode cc pc = .ok (.putfield 116, 3)) (kk : Sim G X nL o P (setF σ 18 v) (pc + 3) lv st) : Sim G X nL o P σ pc lv (.int v :: .ref (ga G 25) :: st) := s_put F 25 18 (setF σ 18 v) hd m_3_213 inX8g tyX8 tyX8_ok nmX8 (by decide) rfl vc_7 (by decide) rfl rfl rfl (Nat.le_of_ble_eq_true rfl) rfl cf_18 kk
theorem wS_X8_119 : ∀ w ∈ wS RX8 119 yX8_kindBy cX8_kindBy 1 (some .int), w ∈ gT := wS_mk m_4_110 m_4_111 m_1_8 m_4_112
theorem nk_X8_kindBy : nmOK yX8_kindBy 1 := by
  unfold nmOK
  decide +kernel
theorem fg_X8_22 {G : Gx} {X : Cx} {cc : ByteArray} {nL d : Nat} {ρ : Type} {o : ρ} {P : Option ρ} {σ : St} {pc : Nat} {lv : List (Nat × Value)} {st : List Value} (F : Fx G X cc nL RX8 d) (hd : decode cc pc = .ok (.getfield 22, 3)) (kk : Sim G X nL o P σ (pc + 3) lv (.ref (ga G 30) :: st)) : Sim G X nL o P σ pc lv (.ref (ga G 25) :: st) := s_get F 25 6 hd m_3_201 inX8g (by decide) rfl vc_7 (by decide) rfl rfl kk
theorem wV_X8_122 : ∀ w ∈ wV RX8 122 yX8_number cX8_number 4 (some .int), w ∈ gT := wV_mk m_4_98 m_4_100 m_s_31 m_1_8 m_4_101
theorem nk_X8_number : nmOK yX8_number 2 := by
  unfold nmOK
  decide +kernel
theorem wV_X8_126 : ∀ w ∈ wV RX8 126 yX8_mustSign cX8_mustSign 2 none, w ∈ gT := wV_mk m_4_102 m_4_104 m_s_32 m_1_8 m_4_105
theorem nk_X8_mustSign : nmOK yX8_mustSign 1 := by
  unfold nmOK
  decide +kernel
theorem wV_X8_129 : ∀ w ∈ wV RX8 129 yX8_begin cX8_begin 1 none, w ∈ gT := wV_mk m_4_73 m_4_75 m_s_26 m_1_8 m_4_76
theorem nk_X8_begin : nmOK yX8_begin 0 := by
  unfold nmOK
  decide +kernel
theorem wV_X8_132 : ∀ w ∈ wV RX8 132 yX8_isLetter cX8_isLetter 2 (some .boolean), w ∈ gT := wV_mk m_4_86 m_4_88 m_s_28 m_1_8 m_4_89
theorem nk_X8_isLetter : nmOK yX8_isLetter 1 := by
  unfold nmOK
  decide +kernel
theorem wV_X8_135 : ∀ w ∈ wV RX8 135 yX8_isSort cX8_isSort 1 (some .boolean), w ∈ gT := wV_mk m_4_106 m_4_108 m_s_33 m_1_8 m_4_109
theorem nk_X8_isSort : nmOK yX8_isSort 0 := by
  unfold nmOK
  decide +kernel
theorem wV_X8_139 : ∀ w ∈ wV RX8 139 yX8_readPipe cX8_readPipe 7 none, w ∈ gT := wV_mk m_4_113 m_4_115 m_s_34 m_1_8 m_4_116
theorem nk_X8_readPipe : nmOK yX8_readPipe 0 := by
  unfold nmOK
  decide +kernel
theorem wV_X8_142 : ∀ w ∈ wV RX8 142 yX8_failed cX8_failed 1 (some .boolean), w ∈ gT := wV_mk m_4_117 m_4_119 m_s_35 m_1_8 m_4_120
theorem nk_X8_failed : nmOK yX8_failed 0 := by
  unfold nmOK
  decide +kernel
theorem fp_X8_146 {G : Gx} {X : Cx} {cc : ByteArray} {nL d : Nat} {ρ : Type} {o : ρ} {P : Option ρ} {σ : St} {pc : Nat} {lv : List (Nat × Value)} {st : List Value} (F : Fx G X cc nL RX8 d) {v : Int32} (hd : decode cc pc = .ok (.putfield 146, 3)) (kk : Sim G X nL o P (setF σ 10 v) (pc + 3) lv st) : Sim G X nL o P σ pc lv (.int v :: .ref (ga G 25) :: st) := s_put F 25 9 (setF σ 10 v) hd m_3_204 inX8g tyX8 tyX8_ok nmX8 (by decide) rfl vc_7 (by decide) rfl rfl rfl (Nat.le_of_ble_eq_true rfl) rfl cf_10 kk
theorem fg_X8_19 {G : Gx} {X : Cx} {cc : ByteArray} {nL d : Nat} {ρ : Type} {o : ρ} {P : Option ρ} {σ : St} {pc : Nat} {lv : List (Nat × Value)} {st : List Value} (F : Fx G X cc nL RX8 d) (hd : decode cc pc = .ok (.getfield 19, 3)) (kk : Sim G X nL o P σ (pc + 3) lv (.ref (ga G 29) :: st)) : Sim G X nL o P σ pc lv (.ref (ga G 25) :: st) := s_get F 25 5 hd m_3_200 inX8g (by decide) rfl vc_7 (by decide) rfl rfl kk
theorem fg_X8_84 {G : Gx} {X : Cx} {cc : ByteArray} {nL d : Nat} {ρ : Type} {o : ρ} {P : Option ρ} {σ : St} {pc : Nat} {lv : List (Nat × Value)} {st : List Value} (F : Fx G X cc nL RX8 d) (hd : decode cc pc = .ok (.getfield 84, 3)) (kk : Sim G X nL o P σ (pc + 3) lv (.int (σ.2 17) :: st)) : Sim G X nL o P σ pc lv (.ref (ga G 25) :: st) := s_get F 25 17 hd m_3_212 inX8g (by decide) rfl vc_7 (by decide) rfl rfl kk
theorem wS_X8_149 : ∀ w ∈ wS RX8 149 yX8_of cX8_of 3 (some .int), w ∈ gT := wS_mk m_4_140 m_4_141 m_1_8 m_4_142
theorem nk_X8_of : nmOK yX8_of 3 := by
  unfold nmOK
  decide +kernel
theorem fg_X8_34 {G : Gx} {X : Cx} {cc : ByteArray} {nL d : Nat} {ρ : Type} {o : ρ} {P : Option ρ} {σ : St} {pc : Nat} {lv : List (Nat × Value)} {st : List Value} (F : Fx G X cc nL RX8 d) (hd : decode cc pc = .ok (.getfield 34, 3)) (kk : Sim G X nL o P σ (pc + 3) lv (.ref (ga G 34) :: st)) : Sim G X nL o P σ pc lv (.ref (ga G 25) :: st) := s_get F 25 19 hd m_3_214 inX8g (by decide) rfl vc_7 (by decide) rfl rfl kk
theorem wS_X8_153 : ∀ w ∈ wS RX8 153 yX8_out cX8_out 7 (some .int), w ∈ gT := wS_mk m_4_143 m_4_144 m_1_8 m_4_145
theorem nk_X8_out : nmOK yX8_out 2 := by
  unfold nmOK
  decide +kernel
theorem wS_X8_157 : ∀ w ∈ wS RX8 157 yX8_has cX8_has 2 (some .boolean), w ∈ gT := wS_mk m_4_146 m_4_147 m_1_8 m_4_148
theorem nk_X8_has : nmOK yX8_has 2 := by
  unfold nmOK
  decide +kernel
theorem wS_X8_161 : ∀ w ∈ wS RX8 161 yX8_soundsIn cX8_soundsIn 4 (some .int), w ∈ gT := wS_mk m_4_184 m_4_185 m_1_8 m_4_186
theorem nk_X8_soundsIn : nmOK yX8_soundsIn 2 := by
  unfold nmOK
  decide +kernel
theorem wS_X8_164 : ∀ w ∈ wS RX8 164 yX8_sounds cX8_sounds 3 (some .int), w ∈ gT := wS_mk m_4_181 m_4_182 m_1_8 m_4_183
theorem nk_X8_sounds : nmOK yX8_sounds 1 := by
  unfold nmOK
  decide +kernel
theorem fg_X8_25 {G : Gx} {X : Cx} {cc : ByteArray} {nL d : Nat} {ρ : Type} {o : ρ} {P : Option ρ} {σ : St} {pc : Nat} {lv : List (Nat × Value)} {st : List Value} (F : Fx G X cc nL RX8 d) (hd : decode cc pc = .ok (.getfield 25, 3)) (kk : Sim G X nL o P σ (pc + 3) lv (.ref (ga G 31) :: st)) : Sim G X nL o P σ pc lv (.ref (ga G 25) :: st) := s_get F 25 7 hd m_3_202 inX8g (by decide) rfl vc_7 (by decide) rfl rfl kk
theorem wV_X8_168 : ∀ w ∈ wV RX8 168 yX8_breath cX8_breath 6 (some .int), w ∈ gT := wV_mk m_4_136 m_4_138 m_s_38 m_1_8 m_4_139
theorem nk_X8_breath : nmOK yX8_breath 1 := by
  unfold nmOK
  decide +kernel
theorem fg_X8_146 {G : Gx} {X : Cx} {cc : ByteArray} {nL d : Nat} {ρ : Type} {o : ρ} {P : Option ρ} {σ : St} {pc : Nat} {lv : List (Nat × Value)} {st : List Value} (F : Fx G X cc nL RX8 d) (hd : decode cc pc = .ok (.getfield 146, 3)) (kk : Sim G X nL o P σ (pc + 3) lv (.int (σ.2 10) :: st)) : Sim G X nL o P σ pc lv (.ref (ga G 25) :: st) := s_get F 25 9 hd m_3_204 inX8g (by decide) rfl vc_7 (by decide) rfl rfl kk
theorem fg_X8_28 {G : Gx} {X : Cx} {cc : ByteArray} {nL d : Nat} {ρ : Type} {o : ρ} {P : Option ρ} {σ : St} {pc : Nat} {lv : List (Nat × Value)} {st : List Value} (F : Fx G X cc nL RX8 d) (hd : decode cc pc = .ok (.getfield 28, 3)) (kk : Sim G X nL o P σ (pc + 3) lv (.ref (ga G 32) :: st)) : Sim G X nL o P σ pc lv (.ref (ga G 25) :: st) := s_get F 25 8 hd m_3_203 inX8g (by decide) rfl vc_7 (by decide) rfl rfl kk
theorem wV_X8_171 : ∀ w ∈ wV RX8 171 yX8_isThere cX8_isThere 1 (some .boolean), w ∈ gT := wV_mk m_4_126 m_4_128 m_s_36 m_1_8 m_4_129
theorem nk_X8_isThere : nmOK yX8_isThere 0 := by
  unfold nmOK
  decide +kernel
theorem wV_X8_177 : ∀ w ∈ wV RX8 177 yX8_keep cX8_keep 2 none, w ∈ gT := wV_mk m_4_132 m_4_134 m_s_37 m_1_8 m_4_135
theorem nk_X8_keep : nmOK yX8_keep 0 := by
  unfold nmOK
  decide +kernel
theorem wV_X8_180 : ∀ w ∈ wV RX8 180 yX8_isHorn cX8_isHorn 2 (some .boolean), w ∈ gT := wV_mk m_4_153 m_4_155 m_s_39 m_1_8 m_4_156
theorem nk_X8_isHorn : nmOK yX8_isHorn 1 := by
  unfold nmOK
  decide +kernel
theorem wS_X8_187 : ∀ w ∈ wS RX8 187 yX8_speech cX8_speech 6 (some .int), w ∈ gT := wS_mk m_4_159 m_4_160 m_1_8 m_4_161
theorem nk_X8_speech : nmOK yX8_speech 4 := by
  unfold nmOK
  decide +kernel
theorem wV_X8_191 : ∀ w ∈ wV RX8 191 yX8_isPipe cX8_isPipe 2 (some .boolean), w ∈ gT := wV_mk m_4_166 m_4_168 m_s_40 m_1_8 m_4_169
theorem nk_X8_isPipe : nmOK yX8_isPipe 1 := by
  unfold nmOK
  decide +kernel
theorem wS_X8_194 : ∀ w ∈ wS RX8 194 yX8_silence cX8_silence 4 (some .int), w ∈ gT := wS_mk m_4_178 m_4_179 m_1_8 m_4_180
theorem nk_X8_silence : nmOK yX8_silence 1 := by
  unfold nmOK
  decide +kernel
theorem wV_X8_201 : ∀ w ∈ wV RX8 201 yX8_layThen cX8_layThen 2 none, w ∈ gT := wV_mk m_4_209 m_4_211 m_s_41 m_1_8 m_4_212
theorem nk_X8_layThen : nmOK yX8_layThen 0 := by
  unfold nmOK
  decide +kernel
theorem wV_X8_204 : ∀ w ∈ wV RX8 204 yX8_hearersIn cX8_hearersIn 4 (some .int), w ∈ gT := wV_mk m_4_213 m_4_215 m_s_42 m_1_8 m_4_216
theorem nk_X8_hearersIn : nmOK yX8_hearersIn 1 := by
  unfold nmOK
  decide +kernel
theorem wV_X8_207 : ∀ w ∈ wV RX8 207 yX8_firstBy cX8_firstBy 3 (some .int), w ∈ gT := wV_mk m_4_221 m_4_223 m_s_43 m_1_8 m_4_224
theorem nk_X8_firstBy : nmOK yX8_firstBy 1 := by
  unfold nmOK
  decide +kernel
theorem wV_X8_210 : ∀ w ∈ wV RX8 210 yX8_areHorns cX8_areHorns 2 (some .boolean), w ∈ gT := wV_mk m_4_237 m_4_239 m_s_44 m_1_8 m_5_0
theorem nk_X8_areHorns : nmOK yX8_areHorns 1 := by
  unfold nmOK
  decide +kernel
theorem wS_X8_215 : ∀ w ∈ wS RX8 215 yX8_bits cX8_bits 3 (some .int), w ∈ gT := wS_mk m_5_2 m_5_3 m_1_8 m_5_4
theorem nk_X8_bits : nmOK yX8_bits 1 := by
  unfold nmOK
  decide +kernel
theorem wV_X8_220 : ∀ w ∈ wV RX8 220 yX8_rowFound cX8_rowFound 4 (some .int), w ∈ gT := wV_mk m_5_30 m_5_32 m_s_45 m_1_8 m_5_33
theorem nk_X8_rowFound : nmOK yX8_rowFound 3 := by
  unfold nmOK
  decide +kernel
theorem wV_X8_224 : ∀ w ∈ wV RX8 224 yX8_hearsSo cX8_hearsSo 7 (some .boolean), w ∈ gT := wV_mk m_5_34 m_5_36 m_s_46 m_1_8 m_5_37
theorem nk_X8_hearsSo : nmOK yX8_hearsSo 3 := by
  unfold nmOK
  decide +kernel
theorem fg_X8_41 {G : Gx} {X : Cx} {cc : ByteArray} {nL d : Nat} {ρ : Type} {o : ρ} {P : Option ρ} {σ : St} {pc : Nat} {lv : List (Nat × Value)} {st : List Value} (F : Fx G X cc nL RX8 d) (hd : decode cc pc = .ok (.getfield 41, 3)) (kk : Sim G X nL o P σ (pc + 3) lv (.ref (ga G 36) :: st)) : Sim G X nL o P σ pc lv (.ref (ga G 25) :: st) := s_get F 25 21 hd m_3_216 inX8g (by decide) rfl vc_7 (by decide) rfl rfl kk
theorem fg_X8_37 {G : Gx} {X : Cx} {cc : ByteArray} {nL d : Nat} {ρ : Type} {o : ρ} {P : Option ρ} {σ : St} {pc : Nat} {lv : List (Nat × Value)} {st : List Value} (F : Fx G X cc nL RX8 d) (hd : decode cc pc = .ok (.getfield 37, 3)) (kk : Sim G X nL o P σ (pc + 3) lv (.ref (ga G 35) :: st)) : Sim G X nL o P σ pc lv (.ref (ga G 25) :: st) := s_get F 25 20 hd m_3_215 inX8g (by decide) rfl vc_7 (by decide) rfl rfl kk
theorem wS_X8_240 : ∀ w ∈ wS RX8 240 yX8_isOf cX8_isOf 2 (some .boolean), w ∈ gT := wS_mk m_5_76 m_5_77 m_1_8 m_5_78
theorem nk_X8_isOf : nmOK yX8_isOf 2 := by
  unfold nmOK
  decide +kernel
theorem fg_X8_243 {G : Gx} {X : Cx} {cc : ByteArray} {nL d : Nat} {ρ : Type} {o : ρ} {P : Option ρ} {σ : St} {pc : Nat} {lv : List (Nat × Value)} {st : List Value} (F : Fx G X cc nL RX8 d) (hd : decode cc pc = .ok (.getfield 243, 3)) (kk : Sim G X nL o P σ (pc + 3) lv (.int (σ.2 19) :: st)) : Sim G X nL o P σ pc lv (.ref (ga G 25) :: st) := s_get F 25 23 hd m_3_218 inX8g (by decide) rfl vc_7 (by decide) rfl rfl kk
theorem fg_X8_44 {G : Gx} {X : Cx} {cc : ByteArray} {nL d : Nat} {ρ : Type} {o : ρ} {P : Option ρ} {σ : St} {pc : Nat} {lv : List (Nat × Value)} {st : List Value} (F : Fx G X cc nL RX8 d) (hd : decode cc pc = .ok (.getfield 44, 3)) (kk : Sim G X nL o P σ (pc + 3) lv (.ref (ga G 37) :: st)) : Sim G X nL o P σ pc lv (.ref (ga G 25) :: st) := s_get F 25 22 hd m_3_217 inX8g (by decide) rfl vc_7 (by decide) rfl rfl kk
theorem fp_X8_243 {G : Gx} {X : Cx} {cc : ByteArray} {nL d : Nat} {ρ : Type} {o : ρ} {P : Option ρ} {σ : St} {pc : Nat} {lv : List (Nat × Value)} {st : List Value} (F : Fx G X cc nL RX8 d) {v : Int32} (hd : decode cc pc = .ok (.putfield 243, 3)) (kk : Sim G X nL o P (setF σ 19 v) (pc + 3) lv st) : Sim G X nL o P σ pc lv (.int v :: .ref (ga G 25) :: st) := s_put F 25 23 (setF σ 19 v) hd m_3_218 inX8g tyX8 tyX8_ok nmX8 (by decide) rfl vc_7 (by decide) rfl rfl rfl (Nat.le_of_ble_eq_true rfl) rfl cf_19 kk
theorem wV_X8_246 : ∀ w ∈ wV RX8 246 yX8_began cX8_began 2 none, w ∈ gT := wV_mk m_5_91 m_5_93 m_s_49 m_1_8 m_5_94
theorem nk_X8_began : nmOK yX8_began 1 := by
  unfold nmOK
  decide +kernel
theorem wV_X8_249 : ∀ w ∈ wV RX8 249 yX8_plainSize cX8_plainSize 2 (some .int), w ∈ gT := wV_mk m_5_95 m_5_97 m_s_50 m_1_8 m_5_98
theorem nk_X8_plainSize : nmOK yX8_plainSize 1 := by
  unfold nmOK
  decide +kernel
theorem wV_X8_252 : ∀ w ∈ wV RX8 252 yX8_leakySize cX8_leakySize 4 (some .int), w ∈ gT := wV_mk m_5_87 m_5_89 m_s_48 m_1_8 m_5_90
theorem nk_X8_leakySize : nmOK yX8_leakySize 1 := by
  unfold nmOK
  decide +kernel
theorem wV_X8_255 : ∀ w ∈ wV RX8 255 yX8_markOf cX8_markOf 4 (some .int), w ∈ gT := wV_mk m_5_99 m_5_101 m_s_51 m_1_8 m_5_102
theorem nk_X8_markOf : nmOK yX8_markOf 1 := by
  unfold nmOK
  decide +kernel
theorem wV_X8_258 : ∀ w ∈ wV RX8 258 yX8_sizeOf cX8_sizeOf 4 (some .int), w ∈ gT := wV_mk m_5_83 m_5_85 m_s_47 m_1_8 m_5_86
theorem nk_X8_sizeOf : nmOK yX8_sizeOf 1 := by
  unfold nmOK
  decide +kernel
theorem fg_X8_51 {G : Gx} {X : Cx} {cc : ByteArray} {nL d : Nat} {ρ : Type} {o : ρ} {P : Option ρ} {σ : St} {pc : Nat} {lv : List (Nat × Value)} {st : List Value} (F : Fx G X cc nL RX8 d) (hd : decode cc pc = .ok (.getfield 51, 3)) (kk : Sim G X nL o P σ (pc + 3) lv (.int (σ.2 9) :: st)) : Sim G X nL o P σ pc lv (.ref (ga G 25) :: st) := s_get F 25 1 hd m_3_196 inX8g (by decide) rfl vc_7 (by decide) rfl rfl kk
theorem fg_X1_13 {G : Gx} {X : Cx} {cc : ByteArray} {nL d : Nat} {ρ : Type} {o : ρ} {P : Option ρ} {σ : St} {pc : Nat} {lv : List (Nat × Value)} {st : List Value} (F : Fx G X cc nL RX1 d) (hd : decode cc pc = .ok (.getfield 13, 3)) (kk : Sim G X nL o P σ (pc + 3) lv (.int (σ.2 7) :: st)) : Sim G X nL o P σ pc lv (.ref (ga G 17) :: st) := s_get F 17 1 hd m_1_127 inX1g (by decide) rfl vc_1 (by decide) rfl rfl kk
theorem fg_X1_9 {G : Gx} {X : Cx} {cc : ByteArray} {nL d : Nat} {ρ : Type} {o : ρ} {P : Option ρ} {σ : St} {pc : Nat} {lv : List (Nat × Value)} {st : List Value} (F : Fx G X cc nL RX1 d) (hd : decode cc pc = .ok (.getfield 9, 3)) (kk : Sim G X nL o P σ (pc + 3) lv (.ref (ga G 24) :: st)) : Sim G X nL o P σ pc lv (.ref (ga G 17) :: st) := s_get F 17 0 hd m_1_125 inX1g (by decide) rfl vc_1 (by decide) rfl rfl kk
theorem fp_X1_13 {G : Gx} {X : Cx} {cc : ByteArray} {nL d : Nat} {ρ : Type} {o : ρ} {P : Option ρ} {σ : St} {pc : Nat} {lv : List (Nat × Value)} {st : List Value} (F : Fx G X cc nL RX1 d) {v : Int32} (hd : decode cc pc = .ok (.putfield 13, 3)) (kk : Sim G X nL o P (setF σ 7 v) (pc + 3) lv st) : Sim G X nL o P σ pc lv (.int v :: .ref (ga G 17) :: st) := s_put F 17 1 (setF σ 7 v) hd m_1_127 inX1g tyX1 tyX1_ok nmX1 (by decide) rfl vc_1 (by decide) rfl rfl rfl (Nat.le_of_ble_eq_true rfl) rfl cf_7 kk
theorem fg_X1_27 {G : Gx} {X : Cx} {cc : ByteArray} {nL d : Nat} {ρ : Type} {o : ρ} {P : Option ρ} {σ : St} {pc : Nat} {lv : List (Nat × Value)} {st : List Value} (F : Fx G X cc nL RX1 d) {r c : Nat} (hr : isNet r) (hc : r + 1 = c) (hd : decode cc pc = .ok (.getfield 27, 3)) (kk : Sim G X nL o P σ (pc + 3) lv (.ref (ga G c) :: st)) : Sim G X nL o P σ pc lv (.ref (ga G r) :: st) := by
  subst hc
  exact s_get F r 0 hd m_1_75 inX4g hr.lt (hr.cell G σ) vc_3 (by decide) rfl rfl kk
theorem wV_X1_32 : ∀ w ∈ wV RX1 32 yX1_give cX1_give 6 (some .int), w ∈ gT := wV_mk m_3_158 m_3_160 m_s_22 m_1_7 m_3_161
theorem nk_X1_give : nmOK yX1_give 4 := by
  unfold nmOK
  decide +kernel
theorem wV_X1_39 : ∀ w ∈ wV RX1 39 yX1_leave cX1_leave 2 none, w ∈ gT := wV_mk m_3_162 m_3_164 m_s_23 m_1_7 m_3_165
theorem nk_X1_leave : nmOK yX1_leave 1 := by
  unfold nmOK
  decide +kernel
theorem wV_X1_21 : ∀ w ∈ wV RX1 21 yX1_markOf cX1_markOf 4 (some .int), w ∈ gT := wV_mk m_3_166 m_3_168 m_s_24 m_1_7 m_3_169
theorem nk_X1_markOf : nmOK yX1_markOf 3 := by
  unfold nmOK
  decide +kernel
theorem wV_X1_17 : ∀ w ∈ wV RX1 17 yX1_sizeOf cX1_sizeOf 4 (some .int), w ∈ gT := wV_mk m_3_152 m_3_154 m_s_21 m_1_7 m_3_155
theorem nk_X1_sizeOf : nmOK yX1_sizeOf 3 := by
  unfold nmOK
  decide +kernel
theorem wV_X7_258 : ∀ w ∈ wV RX7 258 yX1_answer cX1_answer 4 (some .int), w ∈ gT := wV_mk m_3_148 m_3_149 m_3_150 m_1_7 m_3_151
theorem nk_X1_answer : nmOK yX1_answer 3 := by
  unfold nmOK
  decide +kernel
theorem wV_L_13 : ∀ w ∈ wV RL 13 yX7_row cX7_row 4 (some .int), w ∈ gT := wV_mk m_1_163 m_1_164 m_1_165 m_1_1 m_1_166
theorem nk_X7_row : nmOK yX7_row 3 := by
  unfold nmOK
  decide +kernel
theorem wV_L_17 : ∀ w ∈ wV RL 17 yX8_row cX8_row 5 (some .int), w ∈ gT := wV_mk m_4_29 m_4_30 m_4_31 m_1_8 m_4_32
theorem nk_X8_row : nmOK yX8_row 3 := by
  unfold nmOK
  decide +kernel
theorem wV_L_18 : ∀ w ∈ wV RL 18 yX7_set cX7_set 4 (some .int), w ∈ gT := wV_mk m_1_187 m_1_188 m_1_189 m_1_1 m_1_190
theorem nk_X7_set : nmOK yX7_set 3 := by
  unfold nmOK
  decide +kernel
theorem wV_L_21 : ∀ w ∈ wV RL 21 yX8_set cX8_set 4 (some .int), w ∈ gT := wV_mk m_4_47 m_4_48 m_4_49 m_1_8 m_4_50
theorem nk_X8_set : nmOK yX8_set 3 := by
  unfold nmOK
  decide +kernel
theorem wV_L_22 : ∀ w ∈ wV RL 22 yX7_copy cX7_copy 6 (some .int), w ∈ gT := wV_mk m_1_203 m_1_204 m_1_205 m_1_1 m_1_206
theorem nk_X7_copy : nmOK yX7_copy 5 := by
  unfold nmOK
  decide +kernel
theorem wV_L_26 : ∀ w ∈ wV RL 26 yX8_copy cX8_copy 9 (some .int), w ∈ gT := wV_mk m_4_51 m_4_52 m_4_53 m_1_8 m_4_54
theorem nk_X8_copy : nmOK yX8_copy 5 := by
  unfold nmOK
  decide +kernel
theorem wV_L_27 : ∀ w ∈ wV RL 27 yX7_drop cX7_drop 2 (some .int), w ∈ gT := wV_mk m_1_210 m_1_211 m_1_212 m_1_1 m_1_213
theorem nk_X7_drop : nmOK yX7_drop 1 := by
  unfold nmOK
  decide +kernel
theorem wV_L_31 : ∀ w ∈ wV RL 31 yX8_drop cX8_drop 2 (some .int), w ∈ gT := wV_mk m_4_55 m_4_56 m_4_57 m_1_8 m_4_58
theorem nk_X8_drop : nmOK yX8_drop 1 := by
  unfold nmOK
  decide +kernel
theorem wV_L_32 : ∀ w ∈ wV RL 32 yX7_feed cX7_feed 2 (some .int), w ∈ gT := wV_mk m_1_218 m_1_219 m_1_220 m_1_1 m_1_221
theorem nk_X7_feed : nmOK yX7_feed 1 := by
  unfold nmOK
  decide +kernel
theorem wV_L_35 : ∀ w ∈ wV RL 35 yX8_feed cX8_feed 2 (some .int), w ∈ gT := wV_mk m_4_59 m_4_60 m_4_61 m_1_8 m_4_62
theorem nk_X8_feed : nmOK yX8_feed 1 := by
  unfold nmOK
  decide +kernel
theorem wV_L_36 : ∀ w ∈ wV RL 36 yX7_house cX7_house 2 (some .int), w ∈ gT := wV_mk m_1_227 m_1_228 m_1_229 m_1_1 m_1_230
theorem nk_X7_house : nmOK yX7_house 0 := by
  unfold nmOK
  decide +kernel
theorem wV_L_40 : ∀ w ∈ wV RL 40 yX8_house cX8_house 2 (some .int), w ∈ gT := wV_mk m_4_69 m_4_70 m_4_71 m_1_8 m_4_72
theorem nk_X8_house : nmOK yX8_house 0 := by
  unfold nmOK
  decide +kernel
theorem wV_L_41 : ∀ w ∈ wV RL 41 yX7_fault cX7_fault 1 (some .int), w ∈ gT := wV_mk m_2_38 m_2_39 m_2_40 m_1_1 m_2_41
theorem nk_X7_fault : nmOK yX7_fault 0 := by
  unfold nmOK
  decide +kernel
theorem wV_L_44 : ∀ w ∈ wV RL 44 yX8_fault cX8_fault 1 (some .int), w ∈ gT := wV_mk m_4_65 m_4_66 m_4_67 m_1_8 m_4_68
theorem nk_X8_fault : nmOK yX8_fault 0 := by
  unfold nmOK
  decide +kernel
theorem wV_L_45 : ∀ w ∈ wV RL 45 yX7_undo cX7_undo 1 (some .int), w ∈ gT := wV_mk m_2_42 m_2_43 m_2_44 m_1_1 m_2_45
theorem nk_X7_undo : nmOK yX7_undo 0 := by
  unfold nmOK
  decide +kernel
theorem wV_L_48 : ∀ w ∈ wV RL 48 yX8_undo cX8_undo 2 (some .int), w ∈ gT := wV_mk m_4_187 m_4_188 m_4_189 m_1_8 m_4_190
theorem nk_X8_undo : nmOK yX8_undo 0 := by
  unfold nmOK
  decide +kernel
theorem wV_L_49 : ∀ w ∈ wV RL 49 yX7_breathe cX7_breathe 4 (some .int), w ∈ gT := wV_mk m_2_54 m_2_55 m_2_56 m_1_1 m_2_57
theorem nk_X7_breathe : nmOK yX7_breathe 1 := by
  unfold nmOK
  decide +kernel
theorem wV_L_52 : ∀ w ∈ wV RL 52 yX8_breathe cX8_breathe 4 (some .int), w ∈ gT := wV_mk m_4_122 m_4_123 m_4_124 m_1_8 m_4_125
theorem nk_X8_breathe : nmOK yX8_breathe 1 := by
  unfold nmOK
  decide +kernel
theorem wV_L_53 : ∀ w ∈ wV RL 53 yX7_speak cX7_speak 4 (some .int), w ∈ gT := wV_mk m_2_99 m_2_100 m_2_101 m_1_1 m_2_102
theorem nk_X7_speak : nmOK yX7_speak 3 := by
  unfold nmOK
  decide +kernel
theorem wV_L_56 : ∀ w ∈ wV RL 56 yX8_speak cX8_speak 4 (some .int), w ∈ gT := wV_mk m_4_149 m_4_150 m_4_151 m_1_8 m_4_152
theorem nk_X8_speak : nmOK yX8_speak 3 := by
  unfold nmOK
  decide +kernel
theorem wV_L_57 : ∀ w ∈ wV RL 57 yX7_tap cX7_tap 3 (some .int), w ∈ gT := wV_mk m_2_111 m_2_112 m_2_113 m_1_1 m_2_114
theorem nk_X7_tap : nmOK yX7_tap 2 := by
  unfold nmOK
  decide +kernel
theorem wV_L_61 : ∀ w ∈ wV RL 61 yX8_tap cX8_tap 3 (some .int), w ∈ gT := wV_mk m_4_162 m_4_163 m_4_164 m_1_8 m_4_165
theorem nk_X8_tap : nmOK yX8_tap 2 := by
  unfold nmOK
  decide +kernel
theorem wV_L_62 : ∀ w ∈ wV RL 62 yX7_dent cX7_dent 4 (some .int), w ∈ gT := wV_mk m_2_120 m_2_121 m_2_122 m_1_1 m_2_123
theorem nk_X7_dent : nmOK yX7_dent 2 := by
  unfold nmOK
  decide +kernel
theorem wV_L_65 : ∀ w ∈ wV RL 65 yX8_dent cX8_dent 4 (some .int), w ∈ gT := wV_mk m_4_170 m_4_171 m_4_172 m_1_8 m_4_173
theorem nk_X8_dent : nmOK yX8_dent 2 := by
  unfold nmOK
  decide +kernel
theorem wV_L_66 : ∀ w ∈ wV RL 66 yX7_hush cX7_hush 2 (some .int), w ∈ gT := wV_mk m_2_124 m_2_125 m_2_126 m_1_1 m_2_127
theorem nk_X7_hush : nmOK yX7_hush 0 := by
  unfold nmOK
  decide +kernel
theorem wV_L_69 : ∀ w ∈ wV RL 69 yX8_hush cX8_hush 1 (some .int), w ∈ gT := wV_mk m_4_174 m_4_175 m_4_176 m_1_8 m_4_177
theorem nk_X8_hush : nmOK yX8_hush 0 := by
  unfold nmOK
  decide +kernel
theorem wV_L_70 : ∀ w ∈ wV RL 70 yX7_pipe cX7_pipe 3 (some .int), w ∈ gT := wV_mk m_2_140 m_2_141 m_2_142 m_1_1 m_2_143
theorem nk_X7_pipe : nmOK yX7_pipe 2 := by
  unfold nmOK
  decide +kernel
theorem wV_L_73 : ∀ w ∈ wV RL 73 yX8_pipe cX8_pipe 3 (some .int), w ∈ gT := wV_mk m_4_191 m_4_192 m_4_193 m_1_8 m_4_194
theorem nk_X8_pipe : nmOK yX8_pipe 2 := by
  unfold nmOK
  decide +kernel
theorem wV_L_74 : ∀ w ∈ wV RL 74 yX7_inside cX7_inside 4 (some .int), w ∈ gT := wV_mk m_2_145 m_2_146 m_2_147 m_1_1 m_2_148
theorem nk_X7_inside : nmOK yX7_inside 2 := by
  unfold nmOK
  decide +kernel
theorem wV_L_77 : ∀ w ∈ wV RL 77 yX8_inside cX8_inside 4 (some .int), w ∈ gT := wV_mk m_4_196 m_4_197 m_4_198 m_1_8 m_4_199
theorem nk_X8_inside : nmOK yX8_inside 2 := by
  unfold nmOK
  decide +kernel
theorem wV_L_78 : ∀ w ∈ wV RL 78 yX7_horn cX7_horn 4 (some .int), w ∈ gT := wV_mk m_2_150 m_2_151 m_2_152 m_1_1 m_2_153
theorem nk_X7_horn : nmOK yX7_horn 2 := by
  unfold nmOK
  decide +kernel
theorem wV_L_81 : ∀ w ∈ wV RL 81 yX8_horn cX8_horn 6 (some .int), w ∈ gT := wV_mk m_4_200 m_4_201 m_4_202 m_1_8 m_4_203
theorem nk_X8_horn : nmOK yX8_horn 2 := by
  unfold nmOK
  decide +kernel
theorem wV_L_82 : ∀ w ∈ wV RL 82 yX7_ahead cX7_ahead 5 (some .int), w ∈ gT := wV_mk m_2_163 m_2_164 m_2_165 m_1_1 m_2_166
theorem nk_X7_ahead : nmOK yX7_ahead 3 := by
  unfold nmOK
  decide +kernel
theorem wV_L_85 : ∀ w ∈ wV RL 85 yX8_ahead cX8_ahead 5 (some .int), w ∈ gT := wV_mk m_4_204 m_4_205 m_4_206 m_1_8 m_4_207
theorem nk_X8_ahead : nmOK yX8_ahead 3 := by
  unfold nmOK
  decide +kernel
theorem wV_L_86 : ∀ w ∈ wV RL 86 yX7_first cX7_first 2 (some .int), w ∈ gT := wV_mk m_2_181 m_2_182 m_2_183 m_1_1 m_2_184
theorem nk_X7_first : nmOK yX7_first 1 := by
  unfold nmOK
  decide +kernel
theorem wV_L_89 : ∀ w ∈ wV RL 89 yX8_first cX8_first 2 (some .int), w ∈ gT := wV_mk m_4_217 m_4_218 m_4_219 m_1_8 m_4_220
theorem nk_X8_first : nmOK yX8_first 1 := by
  unfold nmOK
  decide +kernel
theorem wV_L_90 : ∀ w ∈ wV RL 90 yX7_hearers cX7_hearers 2 (some .int), w ∈ gT := wV_mk m_2_198 m_2_199 m_2_200 m_1_1 m_2_201
theorem nk_X7_hearers : nmOK yX7_hearers 1 := by
  unfold nmOK
  decide +kernel
theorem wV_L_93 : ∀ w ∈ wV RL 93 yX8_hearers cX8_hearers 2 (some .int), w ∈ gT := wV_mk m_4_225 m_4_226 m_4_227 m_1_8 m_4_228
theorem nk_X8_hearers : nmOK yX8_hearers 1 := by
  unfold nmOK
  decide +kernel
theorem wV_L_94 : ∀ w ∈ wV RL 94 yX7_quiet cX7_quiet 1 (some .int), w ∈ gT := wV_mk m_2_206 m_2_207 m_2_208 m_1_1 m_2_209
theorem nk_X7_quiet : nmOK yX7_quiet 0 := by
  unfold nmOK
  decide +kernel
theorem wV_L_97 : ∀ w ∈ wV RL 97 yX8_quiet cX8_quiet 3 (some .int), w ∈ gT := wV_mk m_4_229 m_4_230 m_4_231 m_1_8 m_4_232
theorem nk_X8_quiet : nmOK yX8_quiet 0 := by
  unfold nmOK
  decide +kernel
theorem wV_L_98 : ∀ w ∈ wV RL 98 yX7_shuts cX7_shuts 5 (some .int), w ∈ gT := wV_mk m_2_214 m_2_215 m_2_216 m_1_1 m_2_217
theorem nk_X7_shuts : nmOK yX7_shuts 4 := by
  unfold nmOK
  decide +kernel
theorem wV_L_102 : ∀ w ∈ wV RL 102 yX8_shuts cX8_shuts 8 (some .int), w ∈ gT := wV_mk m_4_233 m_4_234 m_4_235 m_1_8 m_4_236
theorem nk_X8_shuts : nmOK yX8_shuts 4 := by
  unfold nmOK
  decide +kernel
theorem wV_L_103 : ∀ w ∈ wV RL 103 yX7_opens cX7_opens 6 (some .int), w ∈ gT := wV_mk m_3_1 m_3_2 m_3_3 m_1_1 m_3_4
theorem nk_X7_opens : nmOK yX7_opens 4 := by
  unfold nmOK
  decide +kernel
theorem wV_L_106 : ∀ w ∈ wV RL 106 yX8_opens cX8_opens 9 (some .int), w ∈ gT := wV_mk m_5_5 m_5_6 m_5_7 m_1_8 m_5_8
theorem nk_X8_opens : nmOK yX8_opens 4 := by
  unfold nmOK
  decide +kernel
theorem wV_L_107 : ∀ w ∈ wV RL 107 yX7_loud cX7_loud 4 (some .int), w ∈ gT := wV_mk m_3_6 m_3_7 m_3_8 m_1_1 m_3_9
theorem nk_X7_loud : nmOK yX7_loud 3 := by
  unfold nmOK
  decide +kernel
theorem wV_L_110 : ∀ w ∈ wV RL 110 yX8_loud cX8_loud 6 (some .int), w ∈ gT := wV_mk m_5_9 m_5_10 m_5_11 m_1_8 m_5_12
theorem nk_X8_loud : nmOK yX8_loud 3 := by
  unfold nmOK
  decide +kernel
theorem wV_L_111 : ∀ w ∈ wV RL 111 yX7_say cX7_say 5 (some .int), w ∈ gT := wV_mk m_3_14 m_3_15 m_3_16 m_1_1 m_3_17
theorem nk_X7_say : nmOK yX7_say 4 := by
  unfold nmOK
  decide +kernel
theorem wV_L_114 : ∀ w ∈ wV RL 114 yX8_say cX8_say 10 (some .int), w ∈ gT := wV_mk m_5_13 m_5_14 m_5_15 m_1_8 m_5_16
theorem nk_X8_say : nmOK yX8_say 4 := by
  unfold nmOK
  decide +kernel
theorem wV_L_115 : ∀ w ∈ wV RL 115 yX7_round cX7_round 2 (some .int), w ∈ gT := wV_mk m_3_31 m_3_32 m_3_33 m_1_1 m_3_34
theorem nk_X7_round : nmOK yX7_round 1 := by
  unfold nmOK
  decide +kernel
theorem wV_L_118 : ∀ w ∈ wV RL 118 yX8_round cX8_round 4 (some .int), w ∈ gT := wV_mk m_5_17 m_5_18 m_5_19 m_1_8 m_5_20
theorem nk_X8_round : nmOK yX8_round 1 := by
  unfold nmOK
  decide +kernel
theorem wV_L_119 : ∀ w ∈ wV RL 119 yX7_way cX7_way 3 (some .int), w ∈ gT := wV_mk m_3_40 m_3_41 m_3_42 m_1_1 m_3_43
theorem nk_X7_way : nmOK yX7_way 2 := by
  unfold nmOK
  decide +kernel
theorem wV_L_122 : ∀ w ∈ wV RL 122 yX8_way cX8_way 7 (some .int), w ∈ gT := wV_mk m_5_21 m_5_22 m_5_23 m_1_8 m_5_24
theorem nk_X8_way : nmOK yX8_way 2 := by
  unfold nmOK
  decide +kernel
theorem wV_L_123 : ∀ w ∈ wV RL 123 yX7_who cX7_who 7 (some .int), w ∈ gT := wV_mk m_3_53 m_3_54 m_3_55 m_1_1 m_3_56
theorem nk_X7_who : nmOK yX7_who 6 := by
  unfold nmOK
  decide +kernel
theorem wV_L_127 : ∀ w ∈ wV RL 127 yX8_who cX8_who 10 (some .int), w ∈ gT := wV_mk m_5_25 m_5_26 m_5_27 m_1_8 m_5_28
theorem nk_X8_who : nmOK yX8_who 6 := by
  unfold nmOK
  decide +kernel
theorem wV_L_128 : ∀ w ∈ wV RL 128 yX7_spoke cX7_spoke 6 (some .int), w ∈ gT := wV_mk m_3_69 m_3_70 m_3_71 m_1_1 m_3_72
theorem nk_X7_spoke : nmOK yX7_spoke 5 := by
  unfold nmOK
  decide +kernel
theorem wV_L_131 : ∀ w ∈ wV RL 131 yX8_spoke cX8_spoke 10 (some .int), w ∈ gT := wV_mk m_5_38 m_5_39 m_5_40 m_1_8 m_5_41
theorem nk_X8_spoke : nmOK yX8_spoke 5 := by
  unfold nmOK
  decide +kernel
theorem wV_L_132 : ∀ w ∈ wV RL 132 yX7_cold cX7_cold 2 (some .int), w ∈ gT := wV_mk m_3_77 m_3_78 m_3_79 m_1_1 m_3_80
theorem nk_X7_cold : nmOK yX7_cold 1 := by
  unfold nmOK
  decide +kernel
theorem wV_L_135 : ∀ w ∈ wV RL 135 yX8_cold cX8_cold 5 (some .int), w ∈ gT := wV_mk m_5_42 m_5_43 m_5_44 m_1_8 m_5_45
theorem nk_X8_cold : nmOK yX8_cold 1 := by
  unfold nmOK
  decide +kernel
theorem wV_L_136 : ∀ w ∈ wV RL 136 yX7_stuck cX7_stuck 5 (some .long), w ∈ gT := wV_mk m_3_90 m_3_91 m_3_92 m_1_1 m_3_93
theorem nk_X7_stuck : nmOK yX7_stuck 4 := by
  unfold nmOK
  decide +kernel
theorem wV_L_140 : ∀ w ∈ wV RL 140 yX8_stuck cX8_stuck 15 (some .long), w ∈ gT := wV_mk m_5_46 m_5_47 m_5_48 m_1_8 m_5_49
theorem nk_X8_stuck : nmOK yX8_stuck 4 := by
  unfold nmOK
  decide +kernel
theorem wV_L_141 : ∀ w ∈ wV RL 141 yX7_drawn cX7_drawn 4 (some .int), w ∈ gT := wV_mk m_3_109 m_3_110 m_3_111 m_1_1 m_3_112
theorem nk_X7_drawn : nmOK yX7_drawn 3 := by
  unfold nmOK
  decide +kernel
theorem wV_L_144 : ∀ w ∈ wV RL 144 yX8_drawn cX8_drawn 9 (some .int), w ∈ gT := wV_mk m_5_52 m_5_53 m_5_54 m_1_8 m_5_55
theorem nk_X8_drawn : nmOK yX8_drawn 3 := by
  unfold nmOK
  decide +kernel
theorem wV_L_145 : ∀ w ∈ wV RL 145 yX7_image cX7_image 2 (some .int), w ∈ gT := wV_mk m_3_123 m_3_124 m_3_125 m_1_1 m_3_126
theorem nk_X7_image : nmOK yX7_image 1 := by
  unfold nmOK
  decide +kernel
theorem wV_L_148 : ∀ w ∈ wV RL 148 yX8_image cX8_image 3 (some .int), w ∈ gT := wV_mk m_5_60 m_5_61 m_5_62 m_1_8 m_5_63
theorem nk_X8_image : nmOK yX8_image 1 := by
  unfold nmOK
  decide +kernel
theorem wV_L_149 : ∀ w ∈ wV RL 149 yX7_restore cX7_restore 2 (some .int), w ∈ gT := wV_mk m_3_127 m_3_128 m_3_129 m_1_1 m_3_130
theorem nk_X7_restore : nmOK yX7_restore 1 := by
  unfold nmOK
  decide +kernel
theorem wV_L_152 : ∀ w ∈ wV RL 152 yX8_restore cX8_restore 3 (some .int), w ∈ gT := wV_mk m_5_64 m_5_65 m_5_66 m_1_8 m_5_67
theorem nk_X8_restore : nmOK yX8_restore 1 := by
  unfold nmOK
  decide +kernel
theorem wV_L_153 : ∀ w ∈ wV RL 153 yX7_kind cX7_kind 2 (some .int), w ∈ gT := wV_mk m_3_131 m_3_132 m_3_133 m_1_1 m_3_134
theorem nk_X7_kind : nmOK yX7_kind 1 := by
  unfold nmOK
  decide +kernel
theorem wV_L_156 : ∀ w ∈ wV RL 156 yX8_kind cX8_kind 2 (some .int), w ∈ gT := wV_mk m_5_68 m_5_69 m_5_70 m_1_8 m_5_71
theorem nk_X8_kind : nmOK yX8_kind 1 := by
  unfold nmOK
  decide +kernel
theorem wV_L_157 : ∀ w ∈ wV RL 157 yX7_as cX7_as 3 (some .int), w ∈ gT := wV_mk m_3_135 m_3_136 m_3_137 m_1_1 m_3_138
theorem nk_X7_as : nmOK yX7_as 2 := by
  unfold nmOK
  decide +kernel
theorem wV_L_160 : ∀ w ∈ wV RL 160 yX8_as cX8_as 3 (some .int), w ∈ gT := wV_mk m_5_72 m_5_73 m_5_74 m_1_8 m_5_75
theorem nk_X8_as : nmOK yX8_as 2 := by
  unfold nmOK
  decide +kernel
theorem wV_L_161 : ∀ w ∈ wV RL 161 yX7_ask cX7_ask 3 (some .int), w ∈ gT := wV_mk m_3_144 m_3_145 m_3_146 m_1_1 m_3_147
theorem nk_X7_ask : nmOK yX7_ask 2 := by
  unfold nmOK
  decide +kernel
theorem wV_L_164 : ∀ w ∈ wV RL 164 yX8_ask cX8_ask 3 (some .int), w ∈ gT := wV_mk m_5_79 m_5_80 m_5_81 m_1_8 m_5_82
theorem nk_X8_ask : nmOK yX8_ask 2 := by
  unfold nmOK
  decide +kernel
theorem wV_L_165 : ∀ w ∈ wV RL 165 yX7_trace cX7_trace 2 (some .int), w ∈ gT := wV_mk m_3_172 m_3_173 m_3_174 m_1_1 m_3_175
theorem nk_X7_trace : nmOK yX7_trace 1 := by
  unfold nmOK
  decide +kernel
theorem wV_L_168 : ∀ w ∈ wV RL 168 yX8_trace cX8_trace 2 (some .int), w ∈ gT := wV_mk m_5_103 m_5_104 m_5_105 m_1_8 m_5_106
theorem nk_X8_trace : nmOK yX8_trace 1 := by
  unfold nmOK
  decide +kernel
theorem wV_L_169 : ∀ w ∈ wV RL 169 yX7_count cX7_count 2 (some .int), w ∈ gT := wV_mk m_3_176 m_3_177 m_3_178 m_1_1 m_3_179
theorem nk_X7_count : nmOK yX7_count 1 := by
  unfold nmOK
  decide +kernel
theorem wV_L_172 : ∀ w ∈ wV RL 172 yX8_count cX8_count 4 (some .int), w ∈ gT := wV_mk m_5_107 m_5_108 m_5_109 m_1_8 m_5_110
theorem nk_X8_count : nmOK yX8_count 1 := by
  unfold nmOK
  decide +kernel
theorem wV_L_173 : ∀ w ∈ wV RL 173 yX7_status cX7_status 1 (some .int), w ∈ gT := wV_mk m_3_185 m_3_186 m_3_187 m_1_1 m_3_188
theorem nk_X7_status : nmOK yX7_status 0 := by
  unfold nmOK
  decide +kernel
theorem wV_L_176 : ∀ w ∈ wV RL 176 yX8_status cX8_status 1 (some .int), w ∈ gT := wV_mk m_5_111 m_5_112 m_5_113 m_1_8 m_5_114
theorem nk_X8_status : nmOK yX8_status 0 := by
  unfold nmOK
  decide +kernel
