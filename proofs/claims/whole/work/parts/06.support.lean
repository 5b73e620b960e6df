theorem fuel_ex : ∃ n : Nat, 4000 ≤ n := ⟨4000, Nat.le_refl _⟩
noncomputable def fuel : Nat := Classical.choose fuel_ex
theorem fuel_ge : 4000 ≤ fuel := Classical.choose_spec fuel_ex
theorem ix_lt {x : Int32} {n : Nat} (h : ix x n) : x.toNatClampNeg < n := Nat.not_le.mp fun z => h (Or.inr z)
theorem nt_3 : isNet 3 := Or.inl rfl
theorem nt_6 : isNet 6 := Or.inr (Or.inl rfl)
theorem nt_9 : isNet 9 := Or.inr (Or.inr (Or.inl rfl))
theorem nt_12 : isNet 12 := Or.inr (Or.inr (Or.inr rfl))
theorem ob_0 : isObj 0 6 := ⟨by decide, fun _ _ => ⟨_, rfl⟩⟩
theorem ob_1 : isObj 1 4 := ⟨by decide, fun _ _ => ⟨_, rfl⟩⟩
theorem ob_2 : isObj 2 5 := ⟨by decide, fun _ _ => ⟨_, rfl⟩⟩
theorem ob_15 : isObj 15 0 := ⟨by decide, fun _ _ => ⟨_, rfl⟩⟩
theorem ob_16 : isObj 16 2 := ⟨by decide, fun _ _ => ⟨_, rfl⟩⟩
theorem ob_17 : isObj 17 1 := ⟨by decide, fun _ _ => ⟨_, rfl⟩⟩
theorem ob_25 : isObj 25 7 := ⟨by decide, fun _ _ => ⟨_, rfl⟩⟩
theorem vc_0 : vwCl[0]? = some (RX0, TX0, 3) := rfl
theorem vc_1 : vwCl[1]? = some (RX1, TX1, 2) := rfl
theorem vc_2 : vwCl[2]? = some (RX2, TX2, 2) := rfl
theorem vc_3 : vwCl[3]? = some (RX4, TX4, 2) := rfl
theorem vc_4 : vwCl[4]? = some (RX5, TX5, 3) := rfl
theorem vc_5 : vwCl[5]? = some (RX6, TX6, 5) := rfl
theorem vc_6 : vwCl[6]? = some (RX7, TX7, 9) := rfl
theorem vc_7 : vwCl[7]? = some (RX8, TX8, 24) := rfl
theorem plX0 : plainName RX0 = true := by decide +kernel
theorem plX1 : plainName RX1 = true := by decide +kernel
theorem plX2 : plainName RX2 = true := by decide +kernel
theorem plX3 : plainName RX3 = true := by decide +kernel
theorem plX4 : plainName RX4 = true := by decide +kernel
theorem plX5 : plainName RX5 = true := by decide +kernel
theorem plX6 : plainName RX6 = true := by decide +kernel
theorem plX7 : plainName RX7 = true := by decide +kernel
theorem plX8 : plainName RX8 = true := by decide +kernel
theorem plJ6 : plainName RJ6 = true := by decide +kernel
theorem inX0g : ∀ w ∈ u_ws RX0 TX0 3, w ∈ gT := by decide +kernel
theorem inX1g : ∀ w ∈ u_ws RX1 TX1 2, w ∈ gT := by decide +kernel
theorem inX2g : ∀ w ∈ u_ws RX2 TX2 2, w ∈ gT := by decide +kernel
theorem inX4g : ∀ w ∈ u_ws RX4 TX4 2, w ∈ gT := by decide +kernel
theorem inX5g : ∀ w ∈ u_ws RX5 TX5 3, w ∈ gT := by decide +kernel
theorem inX6g : ∀ w ∈ u_ws RX6 TX6 5, w ∈ gT := by decide +kernel
theorem inX7g : ∀ w ∈ u_ws RX7 TX7 9, w ∈ gT := by decide +kernel
theorem inX8g : ∀ w ∈ u_ws RX8 TX8 24, w ∈ gT := by decide +kernel
theorem wV_mk {own : String} {i : Nat} {y : MethodName} {cy : ByteArray} {mL : Nat} {rt : Option FieldType} (h1 : Cond.methodLink own i y ∈ gT) (h2 : Cond.instanceMethod y ∈ gT) (h3 : Cond.selects y.cls y y ∈ gT) (h4 : Cond.initialized y.cls ∈ gT) (h5 : Cond.code y cy mL rt ∈ gT) : ∀ w ∈ wV own i y cy mL rt, w ∈ gT := fun w hw => by
  simp only [wV, List.mem_cons, List.not_mem_nil, or_false] at hw
  rcases hw with rfl | rfl | rfl | rfl | rfl <;> assumption
theorem wS_mk {own : String} {i : Nat} {y : MethodName} {cy : ByteArray} {mL : Nat} {rt : Option FieldType} (h1 : Cond.methodLink own i y ∈ gT) (h2 : Cond.static y ∈ gT) (h4 : Cond.initialized y.cls ∈ gT) (h5 : Cond.code y cy mL rt ∈ gT) : ∀ w ∈ wS own i y cy mL rt, w ∈ gT := fun w hw => by
  simp only [wS, List.mem_cons, List.not_mem_nil, or_false] at hw
  rcases hw with rfl | rfl | rfl | rfl <;> assumption
theorem w4_mk {a b c d : Cond} (h1 : a ∈ gT) (h2 : b ∈ gT) (h3 : c ∈ gT) (h4 : d ∈ gT) : ∀ w ∈ [a, b, c, d], w ∈ gT := fun w hw => by
  simp only [List.mem_cons, List.not_mem_nil, or_false] at hw
  rcases hw with rfl | rfl | rfl | rfl <;> assumption
section SUP
variable {G : Gx} {X : Cx} {cc : ByteArray} {nL d : Nat} {own : String} {ρ : Type} {o : ρ} {σ : St} {pc : Nat} {lv : List (Nat × Value)} {st stk : List Value}
theorem s_aretc {c : Nat} {o : St} {rt : FieldType} (R : Ret G X cc nL (some rt) (some (.ref (ga G c))) o) (hrt : (∃ n, rt = .object n) ∨ ∃ t, rt = .array t) (hd : decode cc pc = .ok (.areturn, 1)) : Sim G X nL o (some σ) σ pc lv [.ref (ga G c)] := fun h H locs ls hP hS hl => by
  cases h
  obtain ⟨⟨sz, hA, hQ⟩, hx, hb, hr, hk⟩ := R H locs hP hS
  rw [hQ]
  exact W.aret hx hb hr hrt (Or.inr ⟨_, rfl⟩) (fun t ht hW => ⟨⟨rfl, by rw [ht]; exact hP⟩, by rw [← hA]; exact hS.F ht⟩) hS.2.2 hd hk
theorem s_Vc (F : Fx G X cc nL own d) {y : MethodName} {cy : ByteArray} {mL : Nat} {rt : Option FieldType} {i n d' q ci c : Nat} {T : u_T} {N : Nat} (As : List Value) {P1 : Option St} {K : St → Option ρ} (hd : decode cc pc = .ok (.invokevirtual i, 3)) (hM : ∀ z, P1 = some z → Con G (xl X) y cy mL rt d' (.ref (ga G q) :: As) σ (some (.ref (ga G c))) z) (hw : ∀ w ∈ wV own i y cy mL rt, w ∈ gT) (hn : nmOK y n) (hdd : d' < d) (hmL : mL ≤ 41) (hq : isObj q ci) (hci : vwCl[ci]? = some (y.cls, T, N)) (hAn : As.length = n) (hstk : stk = As.reverse ++ .ref (ga G q) :: st) (hrs : (st.map fun v => v.category).sum ≤ 8)
    (k : ∀ z, Sim G X nL o (K z) z (pc + 3) lv (.ref (ga G c) :: st)) : Sim G X nL o (P1.bind K) σ pc lv stk := fun h => by
  obtain ⟨z, h1, h2⟩ := bind_of h
  exact wx_V F hd (hM z h1) hw hn hdd hmL hq hci hAn hstk hrs (k z h2)
end SUP
theorem sw_out_6 {x : Int32} (h0 : ¬ x = 0) (h1 : ¬ x = 1) (h2 : ¬ x = 2) (h3 : ¬ x = 3) (h4 : ¬ x = 4) (h5 : ¬ x = 5) : x.toInt < 0 ∨ 5 < x.toInt := by
  have e0 : x.toInt ≠ 0 := ne_toInt h0
  have e1 : x.toInt ≠ 1 := ne_toInt h1
  have e2 : x.toInt ≠ 2 := ne_toInt h2
  have e3 : x.toInt ≠ 3 := ne_toInt h3
  have e4 : x.toInt ≠ 4 := ne_toInt h4
  have e5 : x.toInt ≠ 5 := ne_toInt h5
  omega
theorem sw_out_5 {x : Int32} (h0 : ¬ x = 0) (h1 : ¬ x = 1) (h2 : ¬ x = 2) (h3 : ¬ x = 3) (h4 : ¬ x = 4) : x.toInt < 0 ∨ 4 < x.toInt := by
  have e0 : x.toInt ≠ 0 := ne_toInt h0
  have e1 : x.toInt ≠ 1 := ne_toInt h1
  have e2 : x.toInt ≠ 2 := ne_toInt h2
  have e3 : x.toInt ≠ 3 := ne_toInt h3
  have e4 : x.toInt ≠ 4 := ne_toInt h4
  omega
theorem sw_out_8 {x : Int32} (h0 : ¬ x = 0) (h1 : ¬ x = 1) (h2 : ¬ x = 2) (h3 : ¬ x = 3) (h4 : ¬ x = 4) (h5 : ¬ x = 5) (h6 : ¬ x = 6) (h7 : ¬ x = 7) : x.toInt < 0 ∨ 7 < x.toInt := by
  have e0 : x.toInt ≠ 0 := ne_toInt h0
  have e1 : x.toInt ≠ 1 := ne_toInt h1
  have e2 : x.toInt ≠ 2 := ne_toInt h2
  have e3 : x.toInt ≠ 3 := ne_toInt h3
  have e4 : x.toInt ≠ 4 := ne_toInt h4
  have e5 : x.toInt ≠ 5 := ne_toInt h5
  have e6 : x.toInt ≠ 6 := ne_toInt h6
  have e7 : x.toInt ≠ 7 := ne_toInt h7
  omega
theorem sw_out_15 {x : Int32} (h0 : ¬ x = 10) (h1 : ¬ x = 11) (h2 : ¬ x = 12) (h3 : ¬ x = 13) (h4 : ¬ x = 14) (g5 : ¬ x = 15) (g6 : ¬ x = 16) (g7 : ¬ x = 17) (g8 : ¬ x = 18) (g9 : ¬ x = 19) (h5 : ¬ x = 20) (h6 : ¬ x = 21) (h7 : ¬ x = 22) (h8 : ¬ x = 23) (h9 : ¬ x = 24) : x.toInt < 10 ∨ 24 < x.toInt := by
  have e0 : x.toInt ≠ 10 := ne_toInt h0
  have e1 : x.toInt ≠ 11 := ne_toInt h1
  have e2 : x.toInt ≠ 12 := ne_toInt h2
  have e3 : x.toInt ≠ 13 := ne_toInt h3
  have e4 : x.toInt ≠ 14 := ne_toInt h4
  have e5 : x.toInt ≠ 15 := ne_toInt g5
  have e6 : x.toInt ≠ 16 := ne_toInt g6
  have e7 : x.toInt ≠ 17 := ne_toInt g7
  have e8 : x.toInt ≠ 18 := ne_toInt g8
  have e9 : x.toInt ≠ 19 := ne_toInt g9
  have f0 : x.toInt ≠ 20 := ne_toInt h5
  have f1 : x.toInt ≠ 21 := ne_toInt h6
  have f2 : x.toInt ≠ 22 := ne_toInt h7
  have f3 : x.toInt ≠ 23 := ne_toInt h8
  have f4 : x.toInt ≠ 24 := ne_toInt h9
  omega
theorem ar_4 : isArr 4 80 := ⟨by decide, fun _ _ => rfl⟩
theorem ar_5 : isArr 5 6 := ⟨by decide, fun _ _ => rfl⟩
theorem ar_7 : isArr 7 80 := ⟨by decide, fun _ _ => rfl⟩
theorem ar_8 : isArr 8 6 := ⟨by decide, fun _ _ => rfl⟩
theorem ar_10 : isArr 10 80 := ⟨by decide, fun _ _ => rfl⟩
theorem ar_11 : isArr 11 6 := ⟨by decide, fun _ _ => rfl⟩
theorem ar_13 : isArr 13 80 := ⟨by decide, fun _ _ => rfl⟩
theorem ar_14 : isArr 14 6 := ⟨by decide, fun _ _ => rfl⟩
theorem ar_20 : isArr 20 8 := ⟨by decide, fun _ _ => rfl⟩
theorem ar_21 : isArr 21 8 := ⟨by decide, fun _ _ => rfl⟩
theorem ar_22 : isArr 22 120 := ⟨by decide, fun _ _ => rfl⟩
theorem ar_24 : isArr 24 16 := ⟨by decide, fun _ _ => rfl⟩
theorem ar_26 : isArr 26 8 := ⟨by decide, fun _ _ => rfl⟩
theorem ar_27 : isArr 27 8 := ⟨by decide, fun _ _ => rfl⟩
theorem ar_28 : isArr 28 320 := ⟨by decide, fun _ _ => rfl⟩
theorem ar_29 : isArr 29 80 := ⟨by decide, fun _ _ => rfl⟩
theorem ar_30 : isArr 30 80 := ⟨by decide, fun _ _ => rfl⟩
theorem ar_31 : isArr 31 80 := ⟨by decide, fun _ _ => rfl⟩
theorem ar_32 : isArr 32 1920 := ⟨by decide, fun _ _ => rfl⟩
theorem ar_33 : isArr 33 120 := ⟨by decide, fun _ _ => rfl⟩
theorem ar_34 : isArr 34 6 := ⟨by decide, fun _ _ => rfl⟩
theorem ar_36 : isArr 36 160 := ⟨by decide, fun _ _ => rfl⟩
theorem ar_37 : isArr 37 16 := ⟨by decide, fun _ _ => rfl⟩
theorem cf_0 {G : Gx} {σ : St} {v : Int32} : ∀ i, i ≠ 0 → cellOf G (setF σ 0 v) i = cellOf G σ i := fun i hi => by
  unfold cellOf
  split <;> first | rfl | exact absurd rfl hi
theorem cf_1 {G : Gx} {σ : St} {v : Int32} : ∀ i, i ≠ 2 → cellOf G (setF σ 1 v) i = cellOf G σ i := fun i hi => by
  unfold cellOf
  split <;> first | rfl | exact absurd rfl hi
theorem cf_2 {G : Gx} {σ : St} {v : Int32} : ∀ i, i ≠ 2 → cellOf G (setF σ 2 v) i = cellOf G σ i := fun i hi => by
  unfold cellOf
  split <;> first | rfl | exact absurd rfl hi
theorem cf_3 {G : Gx} {σ : St} {v : Int32} : ∀ i, i ≠ 2 → cellOf G (setF σ 3 v) i = cellOf G σ i := fun i hi => by
  unfold cellOf
  split <;> first | rfl | exact absurd rfl hi
theorem cf_4 {G : Gx} {σ : St} {v : Int32} : ∀ i, i ≠ 2 → cellOf G (setF σ 4 v) i = cellOf G σ i := fun i hi => by
  unfold cellOf
  split <;> first | rfl | exact absurd rfl hi
theorem cf_5 {G : Gx} {σ : St} {v : Int32} : ∀ i, i ≠ 15 → cellOf G (setF σ 5 v) i = cellOf G σ i := fun i hi => by
  unfold cellOf
  split <;> first | rfl | exact absurd rfl hi
theorem cf_6 {G : Gx} {σ : St} {v : Int32} : ∀ i, i ≠ 15 → cellOf G (setF σ 6 v) i = cellOf G σ i := fun i hi => by
  unfold cellOf
  split <;> first | rfl | exact absurd rfl hi
theorem cf_7 {G : Gx} {σ : St} {v : Int32} : ∀ i, i ≠ 17 → cellOf G (setF σ 7 v) i = cellOf G σ i := fun i hi => by
  unfold cellOf
  split <;> first | rfl | exact absurd rfl hi
theorem cf_8 {G : Gx} {σ : St} {v : Int32} : ∀ i, i ≠ 25 → cellOf G (setF σ 8 v) i = cellOf G σ i := fun i hi => by
  unfold cellOf
  split <;> first | rfl | exact absurd rfl hi
theorem cf_9 {G : Gx} {σ : St} {v : Int32} : ∀ i, i ≠ 25 → cellOf G (setF σ 9 v) i = cellOf G σ i := fun i hi => by
  unfold cellOf
  split <;> first | rfl | exact absurd rfl hi
theorem cf_10 {G : Gx} {σ : St} {v : Int32} : ∀ i, i ≠ 25 → cellOf G (setF σ 10 v) i = cellOf G σ i := fun i hi => by
  unfold cellOf
  split <;> first | rfl | exact absurd rfl hi
theorem cf_11 {G : Gx} {σ : St} {v : Int32} : ∀ i, i ≠ 25 → cellOf G (setF σ 11 v) i = cellOf G σ i := fun i hi => by
  unfold cellOf
  split <;> first | rfl | exact absurd rfl hi
theorem cf_12 {G : Gx} {σ : St} {v : Int32} : ∀ i, i ≠ 25 → cellOf G (setF σ 12 v) i = cellOf G σ i := fun i hi => by
  unfold cellOf
  split <;> first | rfl | exact absurd rfl hi
theorem cf_13 {G : Gx} {σ : St} {v : Int32} : ∀ i, i ≠ 25 → cellOf G (setF σ 13 v) i = cellOf G σ i := fun i hi => by
  unfold cellOf
  split <;> first | rfl | exact absurd rfl hi
theorem cf_14 {G : Gx} {σ : St} {v : Int32} : ∀ i, i ≠ 25 → cellOf G (setF σ 14 v) i = cellOf G σ i := fun i hi => by
  unfold cellOf
  split <;> first | rfl | exact absurd rfl hi
theorem cf_15 {G : Gx} {σ : St} {v : Int32} : ∀ i, i ≠ 25 → cellOf G (setF σ 15 v) i = cellOf G σ i := fun i hi => by
  unfold cellOf
  split <;> first | rfl | exact absurd rfl hi
theorem cf_16 {G : Gx} {σ : St} {v : Int32} : ∀ i, i ≠ 25 → cellOf G (setF σ 16 v) i = cellOf G σ i := fun i hi => by
  unfold cellOf
  split <;> first | rfl | exact absurd rfl hi
theorem cf_17 {G : Gx} {σ : St} {v : Int32} : ∀ i, i ≠ 25 → cellOf G (setF σ 17 v) i = cellOf G σ i := fun i hi => by
  unfold cellOf
  split <;> first | rfl | exact absurd rfl hi
theorem cf_18 {G : Gx} {σ : St} {v : Int32} : ∀ i, i ≠ 25 → cellOf G (setF σ 18 v) i = cellOf G σ i := fun i hi => by
  unfold cellOf
  split <;> first | rfl | exact absurd rfl hi
theorem cf_19 {G : Gx} {σ : St} {v : Int32} : ∀ i, i ≠ 25 → cellOf G (setF σ 19 v) i = cellOf G σ i := fun i hi => by
  unfold cellOf
  split <;> first | rfl | exact absurd rfl hi
