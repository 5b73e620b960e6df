/-! contracts, and how they are used -/
def rmL (d : Nat) : Room := { frames := d, cells := 0, slots := 0, locals := 60 * d }
def Az (G : Gx) (sz : Nat) : Nat → Prop := fun q => (∃ k, k < 72 ∧ q = ga G k) ∨ sz ≤ q
def cPre (G : Gx) (σ : St) (sz : Nat) (U : State) : Prop := U.heap.size = sz ∧ va_P G.1 vwCl (wld G σ) U.heap ∧ va_K G.1 vwCl (tysG G) U ∧ Stc G (Az G sz) U U.heap ∧ GOK G
def cPost (G : Gx) (τ : St) (v : Option Value) (sz : Nat) : Array Value → State → Outcome → State → Prop := fun _ st oc t => (oc = .returned v ∧ va_P G.1 vwCl (wld G τ) t.heap) ∧ va_F (Az G sz) st t
/-- called with av in a room that holds σ, the method returns v and leaves τ -/
def Con (G : Gx) (l : Launch) (y : MethodName) (cc : ByteArray) (nL : Nat) (rt : Option FieldType) (d : Nat) (av : List Value) (σ : St) (v : Option Value) (τ : St) : Prop :=
  ∀ sz, Met l y (.code y cc nL rt :: gT) (rmL d) (va_Pc av (cPre G σ sz)) (cPost G τ v sz) 0 0 (Az G sz)
def Ret (G : Gx) (X : Cx) (cc : ByteArray) (nL : Nat) (rt : Option FieldType) (v : Option Value) (τ : St) : Prop :=
  ∀ (H : Heap) (locs : List Loc), va_P G.1 vwCl (wld G τ) H → va_S (xA X) (xs X).heap H locs → (∃ sz, xA X = Az G sz ∧ xQ X = MQ (xb X) (cPost G τ v sz) (xa X) (xs X) (xk X) (xn X) (xA X)) ∧ (xp X).tables.exec = Jvm.exec ∧ (xc X).code = cc ∧ (xt X).sig.returnType = rt ∧ (xt X).locks = false
theorem Con.of {G : Gx} {l : Launch} {y : MethodName} {cc : ByteArray} {nL : Nat} {rt : Option FieldType} {d : Nat} {av : List Value} {σ : St} {v : Option Value} {τ : St} (hy : plainName y.cls = true) (hlen : (lg_sl av).length ≤ nL) (lv : List (Nat × Value)) (hlv : lv_args 0 av = lv)
    (body : ∀ X : Cx, Fx G X cc nL y.cls d → Ret G X cc nL rt v τ → Wx G X nL σ 0 lv []) : Con G l y cc nL rt d av σ v τ := by
  intro sz
  refine Met.ofW (cc := cc) (maxL := nL) (ret := rt) hy rfl ?_
  intro p e s m args below meth c s₁ B hml hv
  obtain ⟨rfl, hsz, hP, hK, hSt, hG⟩ := hv
  have hts := atoms_spec (ws := .code y cc nL rt :: gT) B.pre
  have hown : s.vm.findClass y.cls = some m.cls := findClass_of_methodNamed B.named
  subst hsz
  have hl := lv_entry av (n := nL) hlen
  rw [lg_entry_eq]
  generalize (lg_sl av ++ List.replicate (nL - (lg_sl av).length) Slot.unset).toArray = ls at hl ⊢
  rw [hlv] at hl
  exact body (p, l, e, rmL d, s, m, av.toArray, below, meth, c, 0, 0, MQ below (cPost G τ v s.heap.size) av.toArray s 0 0 (Az G s.heap.size), Az G s.heap.size)
    ⟨B.exec, B.bytes, hml, hown, fun w hw => hts w (List.mem_cons_of_mem _ hw), hK, hG, fun k hk => Or.inl ⟨k, hk, rfl⟩, fun q hq => Or.inr hq, hSt, ⟨Nat.le_refl _, Nat.le_refl _⟩, ⟨Nat.le_refl _, Nat.le_refl _⟩⟩
    (fun H locs _ _ => ⟨⟨s.heap.size, rfl, rfl⟩, B.exec, B.bytes, B.returns, B.notSynchronized⟩) s.heap [] ls hP va_S.rf hl
section RETS
variable {G : Gx} {X : Cx} {cc : ByteArray} {nL : Nat} {pc : Nat} {lv : List (Nat × Value)} {σ : St}
theorem s_iret {o : Int32 × St} (R : Ret G X cc nL (some .int) (some (.int o.1)) o.2) (hd : decode cc pc = .ok (.ireturn, 1)) {r : Int32} : Sim G X nL o (some (r, σ)) σ pc lv [.int r] := fun h H locs ls hP hS hl => by
  cases h
  obtain ⟨⟨sz, hA, hQ⟩, hx, hb, hr, hk⟩ := R H locs hP hS
  rw [hQ]
  exact W.iret hx hb hr (fun t ht hW => ⟨⟨rfl, by rw [ht]; exact hP⟩, by rw [← hA]; exact hS.F ht⟩) hS.2.2 hd hk
theorem s_zret {o : Int32 × St} (R : Ret G X cc nL (some .boolean) (some (.int o.1)) o.2) (hd : decode cc pc = .ok (.ireturn, 1)) {r : Int32} (hn : narrow .boolean (.int r) = .int r) : Sim G X nL o (some (r, σ)) σ pc lv [.int r] := fun h H locs ls hP hS hl => by
  cases h
  obtain ⟨⟨sz, hA, hQ⟩, hx, hb, hr, hk⟩ := R H locs hP hS
  rw [hQ]
  exact W.zret hx hb hr hn (fun t ht hW => ⟨⟨rfl, by rw [ht]; exact hP⟩, by rw [← hA]; exact hS.F ht⟩) hS.2.2 hd hk
theorem s_zretg {o : Int32 × St} (R : Ret G X cc nL (some .boolean) (some (.int o.1)) o.2) (hd : decode cc pc = .ok (.ireturn, 1)) {r : Int32} : Sim G X nL o (if (r = 0 ∨ r = 1) then some (r, σ) else none) σ pc lv [.int r] :=
  s_grd (fun q => s_zret R hd (by rcases q with rfl | rfl <;> rfl))
theorem s_lret {o : Int64 × St} (R : Ret G X cc nL (some .long) (some (.long o.1)) o.2) (hd : decode cc pc = .ok (.lreturn, 1)) {r : Int64} : Sim G X nL o (some (r, σ)) σ pc lv [.long r] := fun h H locs ls hP hS hl => by
  cases h
  obtain ⟨⟨sz, hA, hQ⟩, hx, hb, hr, hk⟩ := R H locs hP hS
  rw [hQ]
  exact W.lret hx hb hr (fun t ht hW => ⟨⟨rfl, by rw [ht]; exact hP⟩, by rw [← hA]; exact hS.F ht⟩) hS.2.2 hd hk
theorem s_vret {o : St} (R : Ret G X cc nL none none o) (hd : decode cc pc = .ok (.return_, 1)) : Sim G X nL o (some σ) σ pc lv [] := fun h H locs ls hP hS hl => by
  cases h
  obtain ⟨⟨sz, hA, hQ⟩, hx, hb, hr, hk⟩ := R H locs hP hS
  rw [hQ]
  exact W.vret hx hb hr (fun t ht hW => ⟨⟨rfl, by rw [ht]; exact hP⟩, by rw [← hA]; exact hS.F ht⟩) hS.2.2 hd hk
theorem s_aret {o : Nat × St} {rt : FieldType} (R : Ret G X cc nL (some rt) (some (.ref (ga G o.1))) o.2) (hrt : (∃ n, rt = .object n) ∨ ∃ t, rt = .array t) (hd : decode cc pc = .ok (.areturn, 1)) {r : Nat} : Sim G X nL o (some (r, σ)) σ pc lv [.ref (ga G r)] := fun h H locs ls hP hS hl => by
  cases h
  obtain ⟨⟨sz, hA, hQ⟩, hx, hb, hr, hk⟩ := R H locs hP hS
  rw [hQ]
  exact W.aret hx hb hr hrt (Or.inr ⟨_, rfl⟩) (fun t ht hW => ⟨⟨rfl, by rw [ht]; exact hP⟩, by rw [← hA]; exact hS.F ht⟩) hS.2.2 hd hk
end RETS
theorem cPre_blind {G : Gx} {σ : St} {sz : Nat} {av : List Value} : FrameBlind (va_Pc av (cPre G σ sz)) := fun a U g mk q => by
  obtain ⟨q0, q1, qP, qK, qS, qG⟩ := q
  exact ⟨q0, q1, qP, va_K.moved (u := U) (U := U.calling g mk a) (Vm.Alike.refl U.vm) qK, Stc.moved (u := U) (U := U.calling g mk a) (Vm.Alike.refl U.vm) qS, qG⟩
section CALLS
variable {G : Gx} {X : Cx} {cc : ByteArray} {nL d : Nat} {own : String} {ρ : Type} {o : ρ} {σ : St} {pc : Nat} {lv : List (Nat × Value)} {st stk : List Value}
theorem Fx.Az (F : Fx G X cc nL own d) {H : Heap} {locs : List Loc} (hS : va_S (xA X) (xs X).heap H locs) : ∀ q, Az G H.size q → xA X q := fun q h => by
  rcases h with ⟨k, hk, rfl⟩ | h
  · exact F.inA k hk
  · exact F.up q (Nat.le_trans hS.1 h)
theorem Fx.pre (F : Fx G X cc nL own d) {H : Heap} {locs : List Loc} (hP : va_P G.1 vwCl (wld G σ) H) (hS : va_S (xA X) (xs X).heap H locs) {av : List Value} : ∀ U : State, U.heap = H → (xs X).WarmedH U.vm → va_Pc av (cPre G σ H.size) av.toArray U := fun U hU hW =>
  ⟨rfl, by rw [hU], by rw [hU]; exact hP, va_K.moved hW.alike F.K, by rw [hU]; exact Stc.moved hW.alike ((F.sc.kept hS.2.1).narrow (F.Az hS)), F.gk⟩
/-- behind a call: its answer v, the room τ -/
theorem wx_after (F : Fx G X cc nL own d) {H : Heap} {locs : List Loc} {ls : Array Slot} (hS : va_S (xA X) (xs X).heap H locs) (hl : lv_has ls nL lv) {v : Option Value} {τ : St} {a : Array Value}
    (hr : va_Run (xp X) (xl X) (xe X) (xR X) (xs X) (xm X) (xa X) (xb X) (xt X) (xc X) H locs (xk X) (xn X) 0 0 (F0 (xm X) pc ls stk) st (cPost G τ v H.size a) (Az G H.size))
    (k : Wx G X nL τ (pc + 3) lv (v.toList ++ st)) : W (xp X) (xl X) (xe X) (xR X) (xs X) (xm X) (xa X) (xb X) (xt X) (xc X) H locs (xk X) (xn X) (xQ X) (F0 (xm X) pc ls stk) := by
  intro T hT XX
  obtain ⟨v', st₀, t, T', L, h0, X', hL, e1, e2, ⟨⟨hv, hp⟩, hz, hk⟩, step⟩ := hr T hT XX
  cases hv
  rw [h0] at hz hk
  obtain ⟨t2, a1, b1⟩ := k T'.heap (locs ++ L) ls (by rw [e1]; exact hp) ⟨Nat.le_trans hS.1 (by rw [e1]; exact hz), fun q h1 h2 => by rw [e1, hk q (Nat.lt_of_lt_of_le h1 hS.1) (fun z => h2 (F.Az hS q z))]; exact hS.2.1 q h1 h2, fun q hq => by
      rcases List.mem_append.mp hq with h | h
      · exact hS.2.2 q h
      · exact F.Az hS _ (hL q h)⟩ hl T' rfl X'
  exact ⟨t2, step t2 a1, b1⟩
/-- what is asked of a callee's name -/
def nmOK (y : MethodName) (n : Nat) : Prop := y.cls ≠ "java/lang/invoke/MethodHandle" ∧ y.cls ≠ "java/lang/invoke/VarHandle" ∧ (parseMethodDescriptor y.desc).map (fun d => d.parameters.length) = some n
def wV (own : String) (i : Nat) (y : MethodName) (cy : ByteArray) (mL : Nat) (rt : Option FieldType) : List Cond := [.methodLink own i y, .instanceMethod y, .selects y.cls y y, .initialized y.cls, .code y cy mL rt]
def wS (own : String) (i : Nat) (y : MethodName) (cy : ByteArray) (mL : Nat) (rt : Option FieldType) : List Cond := [.methodLink own i y, .static y, .initialized y.cls, .code y cy mL rt]
theorem callB_gT (F : Fx G X cc nL own d) {y : MethodName} {cy : ByteArray} {mL : Nat} {rt : Option FieldType} {i n d' : Nat} (hl : Cond.methodLink own i y ∈ gT) (hini : Cond.initialized y.cls ∈ gT) (hcd : Cond.code y cy mL rt ∈ gT) (hn : nmOK y n) (hdd : d' < d) (hmL : mL ≤ 41) : CallB (xR X) (xs X) (xa X) own i y cy mL rt (.code y cy mL rt :: gT) (rmL d') 0 0 n := by
  have hrm := F.rm
  refine callB_of n F.ts (gT_good (fun w hw => ?_)) rfl rfl rfl (F.ts _ hini) (F.ts _ hl) hn ⟨?_, ?_⟩
  · rcases List.mem_cons.mp hw with rfl | h
    · exact hcd
    · exact h
  · show d' + 1 ≤ _
    omega
  · show 8 + (mL + 11) + 60 * d' ≤ _
    omega
theorem wx_V (F : Fx G X cc nL own d) {y : MethodName} {cy : ByteArray} {mL : Nat} {rt : Option FieldType} {i n d' q ci : Nat} {T : u_T} {N : Nat} {As : List Value} {v : Option Value} {τ : St} (hd : decode cc pc = .ok (.invokevirtual i, 3)) (hM : Con G (xl X) y cy mL rt d' (.ref (ga G q) :: As) σ v τ) (hw : ∀ w ∈ wV own i y cy mL rt, w ∈ gT) (hn : nmOK y n) (hdd : d' < d) (hmL : mL ≤ 41) (hq : isObj q ci) (hci : vwCl[ci]? = some (y.cls, T, N)) (hAn : As.length = n) (hstk : stk = As.reverse ++ .ref (ga G q) :: st) (hrs : (st.map fun v => v.category).sum ≤ 8)
    (k : Wx G X nL τ (pc + 3) lv (v.toList ++ st)) : Wx G X nL σ pc lv stk := fun H locs ls hP hS hl => by
  obtain ⟨fs, he⟩ := hq.2 G σ
  exact wx_after F hS hl (va_runV (As := As) (rest := st) ⟨F.ex, F.bt, F.ml, F.ow, F.ts⟩ (hM H.size) ⟨callB_gT F (hw _ (by simp [wV])) (hw _ (by simp [wV])) (hw _ (by simp [wV])) hn hdd hmL, F.ts _ (hw _ (by simp [wV])), F.ts _ (hw _ (by simp [wV]))⟩ ⟨cPre_blind, va_recv F.K hP hci (by rw [wld_at hq.1, he]), F.pre hP hS⟩ rfl hAn hl.1 hstk (lv_room hrs) hd ⟨F.cs.1, F.cs.2⟩) k
theorem wx_S (F : Fx G X cc nL own d) {y : MethodName} {cy : ByteArray} {mL : Nat} {rt : Option FieldType} {i n d' : Nat} {As : List Value} {v : Option Value} {τ : St} (hd : decode cc pc = .ok (.invokestatic i, 3)) (hM : Con G (xl X) y cy mL rt d' As σ v τ) (hw : ∀ w ∈ wS own i y cy mL rt, w ∈ gT) (hn : nmOK y n) (hdd : d' < d) (hmL : mL ≤ 41) (hAn : As.length = n) (hstk : stk = As.reverse ++ st) (hrs : (st.map fun v => v.category).sum ≤ 8)
    (k : Wx G X nL τ (pc + 3) lv (v.toList ++ st)) : Wx G X nL σ pc lv stk := fun H locs ls hP hS hl => by
  exact wx_after F hS hl (va_runS (As := As) (rest := st) ⟨F.ex, F.bt, F.ml, F.ow, F.ts⟩ (hM H.size) ⟨callB_gT F (hw _ (by simp [wS])) (hw _ (by simp [wS])) (hw _ (by simp [wS])) hn hdd hmL, F.ts _ (hw _ (by simp [wS]))⟩ ⟨cPre_blind, F.pre hP hS⟩ rfl hAn hl.1 hstk (lv_room hrs) hd ⟨F.cs.1, F.cs.2⟩) k
/-! calls in a program: 'P1.bind K', the answers typed -/
theorem bind_of {α β : Type} {P1 : Option α} {K : α → Option β} {b : β} (h : P1.bind K = some b) : ∃ a, P1 = some a ∧ K a = some b := by
  cases P1 with
  | none => cases h
  | some a => exact ⟨a, rfl, h⟩
theorem s_Vi (F : Fx G X cc nL own d) {y : MethodName} {cy : ByteArray} {mL : Nat} {rt : Option FieldType} {i n d' q ci : Nat} {T : u_T} {N : Nat} (As : List Value) {P1 : Option (Int32 × St)} {K : Int32 × St → Option ρ} (hd : decode cc pc = .ok (.invokevirtual i, 3)) (hM : ∀ z, P1 = some z → Con G (xl X) y cy mL rt d' (.ref (ga G q) :: As) σ (some (.int z.1)) z.2) (hw : ∀ w ∈ wV own i y cy mL rt, w ∈ gT) (hn : nmOK y n) (hdd : d' < d) (hmL : mL ≤ 41) (hq : isObj q ci) (hci : vwCl[ci]? = some (y.cls, T, N)) (hAn : As.length = n) (hstk : stk = As.reverse ++ .ref (ga G q) :: st) (hrs : (st.map fun v => v.category).sum ≤ 8)
    (k : ∀ z, Sim G X nL o (K z) z.2 (pc + 3) lv (.int z.1 :: st)) : Sim G X nL o (P1.bind K) σ pc lv stk := fun h => by
  obtain ⟨z, h1, h2⟩ := bind_of h
  exact wx_V F hd (hM z h1) hw hn hdd hmL hq hci hAn hstk hrs (k z h2)
theorem s_Vl (F : Fx G X cc nL own d) {y : MethodName} {cy : ByteArray} {mL : Nat} {rt : Option FieldType} {i n d' q ci : Nat} {T : u_T} {N : Nat} (As : List Value) {P1 : Option (Int64 × St)} {K : Int64 × St → Option ρ} (hd : decode cc pc = .ok (.invokevirtual i, 3)) (hM : ∀ z, P1 = some z → Con G (xl X) y cy mL rt d' (.ref (ga G q) :: As) σ (some (.long z.1)) z.2) (hw : ∀ w ∈ wV own i y cy mL rt, w ∈ gT) (hn : nmOK y n) (hdd : d' < d) (hmL : mL ≤ 41) (hq : isObj q ci) (hci : vwCl[ci]? = some (y.cls, T, N)) (hAn : As.length = n) (hstk : stk = As.reverse ++ .ref (ga G q) :: st) (hrs : (st.map fun v => v.category).sum ≤ 8)
    (k : ∀ z, Sim G X nL o (K z) z.2 (pc + 3) lv (.long z.1 :: st)) : Sim G X nL o (P1.bind K) σ pc lv stk := fun h => by
  obtain ⟨z, h1, h2⟩ := bind_of h
  exact wx_V F hd (hM z h1) hw hn hdd hmL hq hci hAn hstk hrs (k z h2)
theorem s_Va (F : Fx G X cc nL own d) {y : MethodName} {cy : ByteArray} {mL : Nat} {rt : Option FieldType} {i n d' q ci : Nat} {T : u_T} {N : Nat} (As : List Value) {P1 : Option (Nat × St)} {K : Nat × St → Option ρ} (hd : decode cc pc = .ok (.invokevirtual i, 3)) (hM : ∀ z, P1 = some z → Con G (xl X) y cy mL rt d' (.ref (ga G q) :: As) σ (some (.ref (ga G z.1))) z.2) (hw : ∀ w ∈ wV own i y cy mL rt, w ∈ gT) (hn : nmOK y n) (hdd : d' < d) (hmL : mL ≤ 41) (hq : isObj q ci) (hci : vwCl[ci]? = some (y.cls, T, N)) (hAn : As.length = n) (hstk : stk = As.reverse ++ .ref (ga G q) :: st) (hrs : (st.map fun v => v.category).sum ≤ 8)
    (k : ∀ z, Sim G X nL o (K z) z.2 (pc + 3) lv (.ref (ga G z.1) :: st)) : Sim G X nL o (P1.bind K) σ pc lv stk := fun h => by
  obtain ⟨z, h1, h2⟩ := bind_of h
  exact wx_V F hd (hM z h1) hw hn hdd hmL hq hci hAn hstk hrs (k z h2)
theorem s_Vv (F : Fx G X cc nL own d) {y : MethodName} {cy : ByteArray} {mL : Nat} {rt : Option FieldType} {i n d' q ci : Nat} {T : u_T} {N : Nat} (As : List Value) {P1 : Option St} {K : St → Option ρ} (hd : decode cc pc = .ok (.invokevirtual i, 3)) (hM : ∀ z, P1 = some z → Con G (xl X) y cy mL rt d' (.ref (ga G q) :: As) σ none z) (hw : ∀ w ∈ wV own i y cy mL rt, w ∈ gT) (hn : nmOK y n) (hdd : d' < d) (hmL : mL ≤ 41) (hq : isObj q ci) (hci : vwCl[ci]? = some (y.cls, T, N)) (hAn : As.length = n) (hstk : stk = As.reverse ++ .ref (ga G q) :: st) (hrs : (st.map fun v => v.category).sum ≤ 8)
    (k : ∀ z, Sim G X nL o (K z) z (pc + 3) lv st) : Sim G X nL o (P1.bind K) σ pc lv stk := fun h => by
  obtain ⟨z, h1, h2⟩ := bind_of h
  exact wx_V F hd (hM z h1) hw hn hdd hmL hq hci hAn hstk hrs (k z h2)
theorem s_Si (F : Fx G X cc nL own d) {y : MethodName} {cy : ByteArray} {mL : Nat} {rt : Option FieldType} {i n d' : Nat} (As : List Value) {P1 : Option (Int32 × St)} {K : Int32 × St → Option ρ} (hd : decode cc pc = .ok (.invokestatic i, 3)) (hM : ∀ z, P1 = some z → Con G (xl X) y cy mL rt d' As σ (some (.int z.1)) z.2) (hw : ∀ w ∈ wS own i y cy mL rt, w ∈ gT) (hn : nmOK y n) (hdd : d' < d) (hmL : mL ≤ 41) (hAn : As.length = n) (hstk : stk = As.reverse ++ st) (hrs : (st.map fun v => v.category).sum ≤ 8)
    (k : ∀ z, Sim G X nL o (K z) z.2 (pc + 3) lv (.int z.1 :: st)) : Sim G X nL o (P1.bind K) σ pc lv stk := fun h => by
  obtain ⟨z, h1, h2⟩ := bind_of h
  exact wx_S F hd (hM z h1) hw hn hdd hmL hAn hstk hrs (k z h2)
theorem s_Sl (F : Fx G X cc nL own d) {y : MethodName} {cy : ByteArray} {mL : Nat} {rt : Option FieldType} {i n d' : Nat} (As : List Value) {P1 : Option (Int64 × St)} {K : Int64 × St → Option ρ} (hd : decode cc pc = .ok (.invokestatic i, 3)) (hM : ∀ z, P1 = some z → Con G (xl X) y cy mL rt d' As σ (some (.long z.1)) z.2) (hw : ∀ w ∈ wS own i y cy mL rt, w ∈ gT) (hn : nmOK y n) (hdd : d' < d) (hmL : mL ≤ 41) (hAn : As.length = n) (hstk : stk = As.reverse ++ st) (hrs : (st.map fun v => v.category).sum ≤ 8)
    (k : ∀ z, Sim G X nL o (K z) z.2 (pc + 3) lv (.long z.1 :: st)) : Sim G X nL o (P1.bind K) σ pc lv stk := fun h => by
  obtain ⟨z, h1, h2⟩ := bind_of h
  exact wx_S F hd (hM z h1) hw hn hdd hmL hAn hstk hrs (k z h2)
end CALLS
