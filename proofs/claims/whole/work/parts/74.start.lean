/-! THE CLAIM OUT OF ONE WALK OF THE LAW'S BODY. Your part is whole_start (and what it stands on); all else here is the same for every law, but numbers. -/
def R_law : String := "EarTrumpetsLaw"
def lw_P (b : Addr) (xs : List Int32) (args : Array Value) (s : State) : Prop := args = #[.ref b] ∧ s.IntsAt b xs ∧ xs.length ≤ 3584 ∧ (Jvm.Cond.and given_1 narrow_1).before args s = true
def lw_Q (_ : Array Value) (s : State) (o : Outcome) (t : State) : Prop := o = .returned (some (.int 1)) ∧ Framed s o t [] 600000 7302250
def lw_Z (below : List Frame) (a : Array Value) (s : State) : State → Prop := fun t => ∃ o, t.status = .running ∧ Ended t below o ∧ lw_Q a s o t
/-- the law's own end, with 1 on the stack, nothing written that was there before, its room as the claim has it -/
theorem lw_ret {p : Program} {l : Launch} {e : Env} {s : State} {m : MethodId} {below : List Frame} {meth : Method} {c : Code} {b : Nat} (hx : p.tables.exec = Jvm.exec) (hb : c.code = code) (hr : meth.sig.returnType = ret) (hlocks : meth.locks = false) {pc : Nat} {H : Heap} {ls : Array Slot} (hdg : decode code pc = .ok (.ireturn, 1)) : W p l e room_1 s m #[Value.ref b] below meth c H [] 600000 7302250 (lw_Z below #[Value.ref b] s) (F0 m pc ls [.int 1]) := by
  intro T hT X
  obtain ⟨fs, hret, hrun, hended, hW, hframe⟩ := X.leave (v := some (.int 1)) (hlocks := hlocks) (fun h => by rw [hr] at h; cases h)
  have hmeth' : T.vm.method? m = some meth := X.method'
  refine ⟨T.setFrames fs, ?_, .returned (some (.int 1)), hrun, hended, rfl, ⟨_, rfl⟩, hW, hframe⟩
  jvm_step X.here [X.here.top, hx, hb, hdg, hmeth', hr, ret, narrow_b1]
  (try refine ⟨rfl, ?_⟩); (try refine ⟨rfl, ?_⟩)
  first | (intro acts; rw [hret _ acts rfl rfl rfl]) | rw [hret _ _ rfl rfl rfl]
  exact Steps.refl _
/-- what holds at the law's entry: the machine, the code, the tables' words (any of lw_tbl by 'hts w (by decide +kernel)'), the script of L ints xs at the cell b, what the Statement gives of the start (any of its parts by flat_of_before) -/
def lw_At (p : Program) (s : State) (m : MethodId) (meth : Method) (c : Code) (b L : Nat) (xs : Nat → Int32) : Prop :=
  p.tables.exec = Jvm.exec ∧ c.code = code ∧ meth.sig.returnType = ret ∧ c.maxLocals = 4 ∧ s.vm.findClass R_law = some m.cls ∧ (∀ w ∈ lw_tbl, w.before #[Value.ref b] s = true) ∧ va_X b L xs s s.heap ∧ b < s.heap.size ∧ meth.locks = false ∧ (Jvm.Cond.and given_1 narrow_1).before #[Value.ref b] s = true
/-! our part: the statics, the classes, the loop -/
theorem st_of {s : State} {b : Nat} (hts : ∀ w ∈ lw_tbl, w.before #[Value.ref b] s = true) (hgv : (Jvm.Cond.and given_1 narrow_1).before #[Value.ref b] s = true) : ∀ k, k < 4 → ∃ t, va_Z (stN k).1 (stN k).2 "[I" (.ref t) (fun q => s.heap.size ≤ q) s s.heap ∧ va_T .int t 6 (fun i => .int (stV k i)) (fun q => s.heap.size ≤ q) s s.heap := by
  have hs := flat_of_before _ hgv
  have hA : ∀ a : Nat, a < s.heap.size → ¬ (fun q => s.heap.size ≤ q) a := fun a h => Nat.not_le.mpr h
  intro k hk
  match k, hk with
  | 0, _ =>
    obtain ⟨t, e, hT⟩ := va_Tof (args := #[Value.ref b]) (tm := .static "EarTrumpets$Kinds" "ABOVE" "[I") (ty := .int) (N := 6) (f := fun i => .int (stV 0 i)) (A := fun q => s.heap.size ≤ q) (by decide) (hs _ (by decide +kernel)) (va_eqt (hs _ (by decide +kernel))) (fun j hj => match j, hj with
      | 0, _ => va_eqt (hs _ (by decide +kernel))
      | 1, _ => va_eqt (hs _ (by decide +kernel))
      | 2, _ => va_eqt (hs _ (by decide +kernel))
      | 3, _ => va_eqt (hs _ (by decide +kernel))
      | 4, _ => va_eqt (hs _ (by decide +kernel))
      | 5, _ => va_eqt (hs _ (by decide +kernel))
      | _ + 6, h => absurd h (by omega)) hA
    exact ⟨t, va_Zof (hts _ (gT_3 143 (by decide +kernel))) (hts _ (gT_1 10 (by decide +kernel))) e hA, hT⟩
  | 1, _ =>
    obtain ⟨t, e, hT⟩ := va_Tof (args := #[Value.ref b]) (tm := .static "EarTrumpets$Kinds" "LETTERS" "[I") (ty := .int) (N := 6) (f := fun i => .int (stV 1 i)) (A := fun q => s.heap.size ≤ q) (by decide) (hs _ (by decide +kernel)) (va_eqt (hs _ (by decide +kernel))) (fun j hj => match j, hj with
      | 0, _ => va_eqt (hs _ (by decide +kernel))
      | 1, _ => va_eqt (hs _ (by decide +kernel))
      | 2, _ => va_eqt (hs _ (by decide +kernel))
      | 3, _ => va_eqt (hs _ (by decide +kernel))
      | 4, _ => va_eqt (hs _ (by decide +kernel))
      | 5, _ => va_eqt (hs _ (by decide +kernel))
      | _ + 6, h => absurd h (by omega)) hA
    exact ⟨t, va_Zof (hts _ (gT_2 23 (by decide +kernel))) (hts _ (gT_1 10 (by decide +kernel))) e hA, hT⟩
  | 2, _ =>
    obtain ⟨t, e, hT⟩ := va_Tof (args := #[Value.ref b]) (tm := .static "EarTrumpets$Bodies" "SIZE_BODY" "[I") (ty := .int) (N := 6) (f := fun i => .int (stV 2 i)) (A := fun q => s.heap.size ≤ q) (by decide) (hs _ (by decide +kernel)) (va_eqt (hs _ (by decide +kernel))) (fun j hj => match j, hj with
      | 0, _ => va_eqt (hs _ (by decide +kernel))
      | 1, _ => va_eqt (hs _ (by decide +kernel))
      | 2, _ => va_eqt (hs _ (by decide +kernel))
      | 3, _ => va_eqt (hs _ (by decide +kernel))
      | 4, _ => va_eqt (hs _ (by decide +kernel))
      | 5, _ => va_eqt (hs _ (by decide +kernel))
      | _ + 6, h => absurd h (by omega)) hA
    exact ⟨t, va_Zof (hts _ (gT_3 157 (by decide +kernel))) (hts _ (gT_1 7 (by decide +kernel))) e hA, hT⟩
  | 3, _ =>
    obtain ⟨t, e, hT⟩ := va_Tof (args := #[Value.ref b]) (tm := .static "EarTrumpets$Bodies" "MARK_BODY" "[I") (ty := .int) (N := 6) (f := fun i => .int (stV 3 i)) (A := fun q => s.heap.size ≤ q) (by decide) (hs _ (by decide +kernel)) (va_eqt (hs _ (by decide +kernel))) (fun j hj => match j, hj with
      | 0, _ => va_eqt (hs _ (by decide +kernel))
      | 1, _ => va_eqt (hs _ (by decide +kernel))
      | 2, _ => va_eqt (hs _ (by decide +kernel))
      | 3, _ => va_eqt (hs _ (by decide +kernel))
      | 4, _ => va_eqt (hs _ (by decide +kernel))
      | 5, _ => va_eqt (hs _ (by decide +kernel))
      | _ + 6, h => absurd h (by omega)) hA
    exact ⟨t, va_Zof (hts _ (gT_3 171 (by decide +kernel))) (hts _ (gT_1 7 (by decide +kernel))) e hA, hT⟩
  | _ + 4, h => exact absurd h (by omega)
theorem k_of {s : State} {b : Nat} (hts : ∀ w ∈ lw_tbl, w.before #[Value.ref b] s = true) : ∃ (D : va_G) (cI cZ cA : ClassId), va_K D vwCl [(cI, .int), (cZ, .boolean), (cA, .array .int)] s := by
  have hg : ∀ w ∈ gT, w.before #[Value.ref b] s = true := fun w hw => hts w (gT_lw hw)
  obtain ⟨c0, i0, k0⟩ := u_known (C := RX0) (T := TX0) (N := 3) (n := 3) hg inX0g (hg _ m_1_86)
  obtain ⟨c1, i1, k1⟩ := u_known (C := RX1) (T := TX1) (N := 2) (n := 2) hg inX1g (hg _ m_1_120)
  obtain ⟨c2, i2, k2⟩ := u_known (C := RX2) (T := TX2) (N := 2) (n := 2) hg inX2g (hg _ m_1_104)
  obtain ⟨c3, i3, k3⟩ := u_known (C := RX4) (T := TX4) (N := 2) (n := 2) hg inX4g (hg _ m_1_68)
  obtain ⟨c4, i4, k4⟩ := u_known (C := RX5) (T := TX5) (N := 3) (n := 3) hg inX5g (hg _ m_1_22)
  obtain ⟨c5, i5, k5⟩ := u_known (C := RX6) (T := TX6) (N := 5) (n := 5) hg inX6g (hg _ m_1_43)
  obtain ⟨c6, i6, k6⟩ := u_known (C := RX7) (T := TX7) (N := 9) (n := 9) hg inX7g (hg _ m_1_14)
  obtain ⟨c7, i7, k7⟩ := u_known (C := RX8) (T := TX8) (N := 24) (n := 24) hg inX8g (hg _ m_3_190)
  obtain ⟨cI, kI, pI, fI, hI, gI'⟩ := Cond.arrayClass_spec (hg _ m_1_41)
  obtain ⟨cZ, kZ, pZ, fZ, hZ, gZ'⟩ := Cond.arrayClass_spec (hg _ m_4_28)
  obtain ⟨pA, cA, kA, fP, hA, gA', fA⟩ := Cond.arrayOver_specA (hts (.arrayOver (.array .int)) (gT_1 28 (by decide +kernel)))
  refine ⟨(fun k => match k with | 0 => c0 | 1 => c1 | 2 => c2 | 3 => c3 | 4 => c4 | 5 => c5 | 6 => c6 | _ => c7, fun k => match k with | 0 => i0 | 1 => i1 | 2 => i2 | 3 => i3 | 4 => i4 | 5 => i5 | 6 => i6 | _ => i7), cI, cZ, cA, fun k q hq => ?_, fun k q hq => ?_⟩
  · match k, hq with
    | 0, hq => cases hq; exact k0
    | 1, hq => cases hq; exact k1
    | 2, hq => cases hq; exact k2
    | 3, hq => cases hq; exact k3
    | 4, hq => cases hq; exact k4
    | 5, hq => cases hq; exact k5
    | 6, hq => cases hq; exact k6
    | 7, hq => cases hq; exact k7
    | k + 8, hq => simp [vwCl] at hq
  · match k, hq with
    | 0, hq => cases hq; exact ⟨fun n z => ⟨fun k h => (by cases h), kI, hI, pI, gI'⟩, fI⟩
    | 1, hq => cases hq; exact ⟨fun n z => ⟨fun k h => (by cases h), kZ, hZ, pZ, gZ'⟩, fZ⟩
    | 2, hq => cases hq; exact ⟨fun n z => ⟨fun k h => (by cases h), kA, hA, pA, gA'⟩, fA⟩
    | k + 3, hq => simp at hq
theorem nW_of {s : State} {b : Nat} (hts : ∀ w ∈ lw_tbl, w.before #[Value.ref b] s = true) : nW s :=
  ⟨hts (.arrayOver (.array .int)) (gT_1 28 (by decide +kernel)), va_Nw.of rfl (hts _ (gT_1 44 (by decide +kernel))), va_Nw.of rfl (hts _ (gT_1 69 (by decide +kernel))), va_Nw.of rfl (hts _ (gT_1 87 (by decide +kernel))), va_Nw.of rfl (hts _ (gT_1 105 (by decide +kernel))), va_Nw.of rfl (hts _ (gT_1 110 (by decide +kernel))), va_Nw.of rfl (hts _ (gT_1 121 (by decide +kernel)))⟩
/-- the loop, to its end -/
theorem law_loop {G : Gx} {X : Cx} {b L : Nat} {xv : Nat → Int32} (F : Fx G X code 4 RL 100) (S : SX X b L xv) (fin : ∀ σ i, Wx G X 4 σ 1500 (lvL G b i) []) : ∀ (n i : Nat) (σ : St), L + 7 - i ≤ n → i ≤ L + 7 → Inv σ → Wx G X 4 σ 18 (lvL G b i) [] := by
  have hL : L ≤ 3584 := S.2.2.2
  intro n
  induction n with
  | zero =>
    intro i σ hn hi iv
    refine x_il3 F dL_law_18 (x_al0 F dL_law_19 (fun H locs ls hP hS hl => ?_))
    refine va_slen F.ex F.bt S.1 S.2.1 S.2.2.1 hS dL_law_20 ?_
    refine lv_bipush (v := nI 7) F.ex F.bt dL_law_21 (by decide +kernel) ?_
    refine lv_isub F.ex F.bt dL_law_23 ?_
    refine lv_icmp_gt (tgt := 1500) F.ex F.bt dL_law_24 (by decide) (fun _ => fin σ i H locs ls hP hS hl) (fun z => absurd ?_ z)
    show nI L - nI 7 < nI i
    rw [Int32.lt_iff_toInt_lt, pk_sub_toInt (by omega) (by omega), nI_toInt (by omega)]
    omega
  | succ n ih =>
    intro i σ hn hi iv
    refine x_il3 F dL_law_18 (x_al0 F dL_law_19 (fun H locs ls hP hS hl => ?_))
    refine va_slen F.ex F.bt S.1 S.2.1 S.2.2.1 hS dL_law_20 ?_
    refine lv_bipush (v := nI 7) F.ex F.bt dL_law_21 (by decide +kernel) ?_
    refine lv_isub F.ex F.bt dL_law_23 ?_
    refine lv_icmp_gt (tgt := 1500) F.ex F.bt dL_law_24 (by decide) (fun _ => fin σ i H locs ls hP hS hl) (fun z => ?_)
    have hi7 : i + 7 ≤ L := by
      have z : ¬ nI L - nI 7 < nI i := z
      rw [Int32.lt_iff_toInt_lt, pk_sub_toInt (by omega) (by omega), nI_toInt (by omega)] at z
      omega
    have nx : ∀ τ, Inv τ → Wx G X 4 τ 1494 (lvL G b i) [] := fun τ it H locs ls hP hS hl => by
      refine lv_iinc (v := nI (i + 7)) (lv' := lvL G b (i + 7)) F.ex F.bt dL_law_1494 hl (k := 0) rfl (nI_add i 7) (by decide) rfl (fun ls hl => ?_)
      exact lv_goto (tgt := 18) F.ex F.bt dL_law_1497 (by decide) (ih (i + 7) τ (by omega) (by omega) it H locs ls hP hS hl)
    refine x_al0 F dL_law_27 (x_il3 F dL_law_28 (x_sld F S (by omega) dL_law_29 ?_)) H locs ls hP hS hl
    intro H locs ls hP hS hl
    refine lv_bipush (v := nI 63) F.ex F.bt dL_law_30 (by decide +kernel) ?_
    refine lv_iand F.ex F.bt dL_law_32 ?_
    exact law_sw F S hi7 iv nx (xv i &&& nI 63) H locs ls hP hS hl
set_option maxHeartbeats 4000000 in
set_option maxRecDepth 100000 in
/-- from the entry, for every script of at most 3584 ints, the law comes to its end with true -/
theorem whole_start {p : Program} {e : Env} {s : State} {m : MethodId} {below : List Frame} {meth : Method} {c : Code} (l : Launch) {b L : Nat} {xs : Nat → Int32} (hL : L ≤ 3584) (C0 : lw_At p s m meth c b L xs) : W p l e room_1 s m #[Value.ref b] below meth c s.heap [] 0 0 (lw_Z below #[Value.ref b] s) (entryFrame m ([Value.ref b] : List Value).toArray 4) := by
  obtain ⟨hx, hb, hr, hml, hown, hts, hX, hbl, hlocks, hgv⟩ := id C0
  have hg : ∀ w ∈ gT, w.before #[Value.ref b] s = true := fun w hw => hts w (gT_lw hw)
  obtain ⟨D, cI, cZ, cA, hK⟩ := k_of hts
  have hst := st_of hts hgv
  let G0 : Gx := (D, (cI, cZ, cA), fun _ => 0, fun k => if h : k < 4 then Classical.choose (hst k h) else 0)
  let X : Cx := (p, l, e, room_1, s, m, #[Value.ref b], below, meth, c, 72, 5786, lw_Z below #[Value.ref b] s, fun q => s.heap.size ≤ q)
  have F : Fc G0 X code 4 RL 100 := ⟨hx, hb, hml, hown, hg, hK, fun q h => h, nW_of hts, ⟨Nat.le_of_ble_eq_true rfl, Nat.le_of_ble_eq_true rfl⟩, ⟨Nat.le_of_ble_eq_true rfl, Nat.le_of_ble_eq_true rfl⟩⟩
  have hl := lv_entry ([.ref b]) (n := 4) (Nat.le_of_ble_eq_true rfl)
  rw [lg_entry_eq]
  generalize (lg_sl ([.ref b]) ++ List.replicate (4 - (lg_sl ([.ref b])).length) Slot.unset).toArray = ls at hl ⊢
  have hl : lv_has ls 4 [(0, .ref b)] := hl
  have hP : va_P G0.1 vwCl [] s.heap := fun k q h => by simp at h
  have hD : va_D (xA X) [] := ⟨fun i j p q h => by simp at h, fun k q h => by simp at h⟩
  have hS : va_S (xA X) s.heap s.heap [] := va_S.rf
  show Wk X s.heap [] 0 0 0 ls []
  refine k_new (ci := 6) (fs := [.null, .null, .null, .null, .null, .null, .null, .null, .int 0]) F hP hD hS inX7g tyX7 tyX7_ok m_1_13 m_1_14 m_1_1 rfl dfX7 dL_law_0 (Nat.le_of_ble_eq_true rfl) (Nat.le_of_ble_eq_true rfl) (fun q1 H hP hD hS => ?_)
  refine lv_dup F.ex F.bt dL_law_3 rfl ?_
  refine k_ctorP F hP hD hS hl.1 (i_X7 G0 (xl X)) m_1_15 m_1_1 m_1_17 m_1_16 rfl nk_X7_init (by decide) (by decide) dL_law_4 (Nat.le_of_ble_eq_true rfl) (Nat.le_of_ble_eq_true rfl) (Nat.le_of_ble_eq_true rfl) (fun w1 H locs hw1 hP hD hS => ?_)
  refine lv_astore_n (lv' := [(1, .ref q1), (0, .ref b)]) F.ex F.bt dL_law_7 rfl hl (by decide) rfl (fun ls hl => ?_)
  refine k_new (ci := 7) (fs := [.int 0, .int 0, .null, .null, .null, .null, .null, .null, .null, .int 0, .null, .int 0, .int 0, .int 0, .int 0, .int 0, .int 0, .int 0, .int 0, .null, .null, .null, .null, .int 0]) F hP hD hS inX8g tyX8 tyX8_ok m_3_189 m_3_190 m_1_8 rfl dfX8 dL_law_8 (Nat.le_of_ble_eq_true rfl) (Nat.le_of_ble_eq_true rfl) (fun q2 H hP hD hS => ?_)
  refine lv_dup F.ex F.bt dL_law_11 rfl ?_
  refine k_ctorP F hP hD hS hl.1 (i_X8 G0 (xl X)) m_3_191 m_1_8 m_3_193 m_3_192 rfl nk_X8_init (by decide) (by decide) dL_law_12 (Nat.le_of_ble_eq_true rfl) (Nat.le_of_ble_eq_true rfl) (Nat.le_of_ble_eq_true rfl) (fun w2 H locs hw2 hP hD hS => ?_)
  refine lv_astore_n (lv' := [(2, .ref q2), (1, .ref q1), (0, .ref b)]) F.ex F.bt dL_law_15 rfl hl (by decide) rfl (fun ls hl => ?_)
  refine lv_iconst (v := nI 0) F.ex F.bt dL_law_16 (by decide +kernel) ?_
  refine lv_istore_n (lv' := [(3, .int (nI 0)), (2, .ref q2), (1, .ref q1), (0, .ref b)]) F.ex F.bt dL_law_17 rfl hl (by decide) rfl (fun ls hl => ?_)
  obtain ⟨ad, σ0, ha0, ha25, iv, hP, hD⟩ := mk_world hw1 hw2 hP hD
  let G : Gx := (G0.1, G0.2.1, ad, G0.2.2.2)
  have gok : GOK G := fun i j hi hj ee => hD.1 i j _ _ (wld_at hi) (wld_at hj) ee
  have FX : Fx G X code 4 RL 100 := ⟨hx, hb, hml, hown, hg, hK, gok, fun k hk => hD.2 k _ (wld_at hk), fun q h => h, fun k hk => by
    have h9 := Classical.choose_spec (hst k hk)
    have e9 : gs G k = Classical.choose (hst k hk) := dif_pos hk
    rw [e9]
    exact h9, ⟨Nat.le_of_ble_eq_true rfl, Nat.le_of_ble_eq_true rfl⟩, ⟨Nat.le_of_ble_eq_true rfl, Nat.le_of_ble_eq_true rfl⟩⟩
  have SS : SX X b L xs := ⟨hX, hbl, Nat.not_le.mpr hbl, hL⟩
  have fin : ∀ σ i, Wx G X 4 σ 1500 (lvL G b i) [] := fun σ i H locs ls hP hS hl => by
    refine lv_iconst (v := 1) FX.ex FX.bt dL_law_1500 (by decide +kernel) ?_
    refine va_forget (fun q hq => hS.2.2 q hq) ?_
    refine W.widen (k := 600000) (n := 7302250) (Nat.le_of_ble_eq_true rfl) (Nat.le_of_ble_eq_true rfl) ?_
    exact lw_ret hx hb hr hlocks dL_law_1501
  have hl : lv_has ls 4 (lvL G b 0) := by
    unfold lvL
    show lv_has ls 4 [(3, .int (nI 0)), (2, .ref (ad 25)), (1, .ref (ad 0)), (0, .ref b)]
    rw [ha0, ha25]
    exact hl
  exact law_loop FX SS fin (L + 7) 0 σ0 (by omega) (by omega) iv H locs ls hP hS hl
