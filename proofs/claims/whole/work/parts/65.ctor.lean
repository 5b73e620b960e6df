/-! constructors: the layer -/
theorem va_AOA.same {ty : FieldType} {u U : State} (hv : u.vm = U.vm) (h : va_AOA ty u) : va_AOA ty U := by
  unfold va_AOA Cond.before Cond.holds at *
  simp only [Cond.value] at *
  rw [← hv]
  exact h
theorem va_AOA.warm {ty : FieldType} {s U : State} (hW : s.WarmedH U.vm) (h : va_AOA ty s) : va_AOA ty U := va_AOA.same (u := s.setVm U.vm) rfl (show (Cond.arrayOver (.array ty)).before #[] (s.setVm U.vm) = true by rw [Cond.arrayOver_setVmC hW.alike]; exact h)
/-- words that don't keep by themselves -/
def nW (U : State) : Prop := va_AOA .int U ∧ va_Nw (.methodLinkNest RX7 18 yX6_init RX7) U ∧ va_Nw (.methodLinkNest RX7 25 yX4_init RX7) U ∧ va_Nw (.methodLinkNest RX7 35 yX0_init RX7) U ∧ va_Nw (.methodLinkNest RX7 42 yX2_init RX7) U ∧ va_Nw (.methodLinkNest RX2 11 yX4_init RX7) U ∧ va_Nw (.methodLinkNest RX7 49 yX1_init RX7) U
theorem nW.warm {s U : State} (hW : s.WarmedH U.vm) (h : nW s) : nW U := ⟨h.1.warm hW, h.2.1.warmM hW, h.2.2.1.warmM hW, h.2.2.2.1.warmM hW, h.2.2.2.2.1.warmM hW, h.2.2.2.2.2.1.warmM hW, h.2.2.2.2.2.2.warmM hW⟩
theorem nW.same {u U : State} (hv : u.vm = U.vm) (h : nW u) : nW U := ⟨h.1.same hv, h.2.1.same rfl hv, h.2.2.1.same rfl hv, h.2.2.2.1.same rfl hv, h.2.2.2.2.1.same rfl hv, h.2.2.2.2.2.1.same rfl hv, h.2.2.2.2.2.2.same rfl hv⟩
def Fc (G : Gx) (X : Cx) (cc : ByteArray) (nL : Nat) (own : String) (d : Nat) : Prop :=
  (xp X).tables.exec = Jvm.exec ∧ (xc X).code = cc ∧ (xc X).maxLocals = nL ∧ (xs X).vm.findClass own = some (xm X).cls ∧ (∀ w ∈ gT, w.before (xa X) (xs X) = true) ∧ va_K G.1 vwCl (tysG G) (xs X) ∧ (∀ q, (xs X).heap.size ≤ q → xA X q) ∧ nW (xs X) ∧ (d ≤ (xR X).frames ∧ 60 * d ≤ (xR X).locals) ∧ (xk X ≤ (xR X).cells ∧ xn X ≤ (xR X).slots)
/-- from here on, with the cells ws, k cells and n slots made -/
abbrev Wk (X : Cx) (H : Heap) (locs : List Loc) (k n pc : Nat) (ls : Array Slot) (st : List Value) : Prop := W (xp X) (xl X) (xe X) (xR X) (xs X) (xm X) (xa X) (xb X) (xt X) (xc X) H locs k n (xQ X) (F0 (xm X) pc ls st)
def zr (N : Nat) : vp_A := (N, .inl (fun _ => 0))
def Cpre (G : Gx) (h0 ci : Nat) (fs : List Value) (sz : Nat) (U : State) : Prop := U.heap.size = sz ∧ va_P G.1 vwCl [(h0, .inr (ci, fs))] U.heap ∧ va_K G.1 vwCl (tysG G) U ∧ nW U
def rmC (d mc ms : Nat) : Room := { frames := d, cells := mc, slots := ms, locals := 60 * d }
def CCon (G : Gx) (l : Launch) (y : MethodName) (cc : ByteArray) (nL d mc ms ci : Nat) (fs : List Value) (post : Nat → va_W → Prop) : Prop :=
  ∀ h0 sz, Met l y (.code y cc nL none :: gT) (rmC d mc ms) (va_Pc [.ref h0] (Cpre G h0 ci fs sz)) (va_Qv (post h0) (fun w1 t => va_P G.1 vwCl w1 t.heap ∧ va_D (va_A [(h0, .inr (ci, fs))] sz) w1) (va_A [(h0, .inr (ci, fs))] sz)) mc ms (va_A [(h0, .inr (ci, fs))] sz)
section CTOR
variable {G : Gx} {X : Cx} {cc : ByteArray} {nL d : Nat} {own : String} {pc k n : Nat} {st : List Value} {H : Heap} {locs : List Loc} {ls : Array Slot} {ws : va_W}
theorem Fc.ex (F : Fc G X cc nL own d) : (xp X).tables.exec = Jvm.exec := F.1
theorem Fc.bt (F : Fc G X cc nL own d) : (xc X).code = cc := F.2.1
theorem Fc.ml (F : Fc G X cc nL own d) : (xc X).maxLocals = nL := F.2.2.1
theorem Fc.ow (F : Fc G X cc nL own d) : (xs X).vm.findClass own = some (xm X).cls := F.2.2.2.1
theorem Fc.ts (F : Fc G X cc nL own d) : ∀ w ∈ gT, w.before (xa X) (xs X) = true := F.2.2.2.2.1
theorem Fc.K (F : Fc G X cc nL own d) : va_K G.1 vwCl (tysG G) (xs X) := F.2.2.2.2.2.1
theorem Fc.up (F : Fc G X cc nL own d) : ∀ q, (xs X).heap.size ≤ q → xA X q := F.2.2.2.2.2.2.1
theorem Fc.nw (F : Fc G X cc nL own d) : nW (xs X) := F.2.2.2.2.2.2.2.1
theorem Fc.rm (F : Fc G X cc nL own d) : d ≤ (xR X).frames ∧ 60 * d ≤ (xR X).locals := F.2.2.2.2.2.2.2.2.1
theorem Fc.cs (F : Fc G X cc nL own d) : xk X ≤ (xR X).cells ∧ xn X ≤ (xR X).slots := F.2.2.2.2.2.2.2.2.2
theorem Fc.fI (F : Fc G X cc nL own d) : (xs X).vm.findClass ("[" ++ FieldType.int.toString) = some (gI G) := (F.K.2 0 (gI G, .int) rfl).2
theorem Fc.fZ (F : Fc G X cc nL own d) : (xs X).vm.findClass ("[" ++ FieldType.boolean.toString) = some (gZ G) := (F.K.2 1 (gZ G, .boolean) rfl).2
theorem Fc.fA (F : Fc G X cc nL own d) : (xs X).vm.findClass ("[" ++ (FieldType.array .int).toString) = some (gA G) := (F.K.2 2 (gA G, .array .int) rfl).2
theorem k_newa (F : Fc G X cc nL own d) (hP : va_P G.1 vwCl ws H) (hD : va_D (xA X) ws) (hS : va_S (xA X) (xs X).heap H locs) {N : Nat} {v : Int32} (hw : Cond.arrayClass .int ∈ gT) (hd : decode cc pc = .ok (.newarray .int, 2)) (hv : v = nI N) (hN : N ≤ 2000) (hk : k + 1 ≤ xk X) (hn : n + N ≤ xn X)
    (kk : ∀ (q : Nat) (H1 : Heap), va_P G.1 vwCl (ws ++ [(q, .inl (gI G, zr N))]) H1 → va_D (xA X) (ws ++ [(q, .inl (gI G, zr N))]) → va_S (xA X) (xs X).heap H1 locs → Wk X H1 locs (k + 1) (n + N) (pc + 2) ls (.ref q :: st)) : Wk X H locs k n pc ls (.int v :: st) := by
  subst hv
  have hc := F.cs
  refine va_newa (atype := .int) (ty := .int) (a0 := zr N) F.ex F.bt (F.ts _ hw) rfl F.K hP hD hS F.up (fun cA => by unfold zr; rw [vp_cell_i]; rfl) (nI_pos (by omega)) (clN (by omega)) (by show N * 4 ≤ _; omega) (by omega) (by omega) hd (fun q cA H1 hK1 hP1 hD1 hS1 => ?_)
  have e : (xs X).vm.findClass ("[" ++ FieldType.int.toString) = some cA := (hK1.2 3 (cA, .int) rfl).2
  obtain rfl : gI G = cA := Option.some.inj (F.fI.symm.trans e)
  exact kk q H1 hP1 hD1 hS1
theorem k_newz (F : Fc G X cc nL own d) (hP : va_P G.1 vwCl ws H) (hD : va_D (xA X) ws) (hS : va_S (xA X) (xs X).heap H locs) {N : Nat} {v : Int32} (hw : Cond.arrayClass .boolean ∈ gT) (hd : decode cc pc = .ok (.newarray .boolean, 2)) (hv : v = nI N) (hN : N ≤ 2000) (hk : k + 1 ≤ xk X) (hn : n + N ≤ xn X)
    (kk : ∀ (q : Nat) (H1 : Heap), va_P G.1 vwCl (ws ++ [(q, .inl (gZ G, zr N))]) H1 → va_D (xA X) (ws ++ [(q, .inl (gZ G, zr N))]) → va_S (xA X) (xs X).heap H1 locs → Wk X H1 locs (k + 1) (n + N) (pc + 2) ls (.ref q :: st)) : Wk X H locs k n pc ls (.int v :: st) := by
  subst hv
  have hc := F.cs
  refine va_newa (atype := .boolean) (ty := .boolean) (a0 := zr N) F.ex F.bt (F.ts _ hw) rfl F.K hP hD hS F.up (fun cA => by unfold zr; rw [vp_cell_i]; rfl) (nI_pos (by omega)) (clN (by omega)) (by show N * 1 ≤ _; omega) (by omega) (by omega) hd (fun q cA H1 hK1 hP1 hD1 hS1 => ?_)
  have e : (xs X).vm.findClass ("[" ++ FieldType.boolean.toString) = some cA := (hK1.2 3 (cA, .boolean) rfl).2
  obtain rfl : gZ G = cA := Option.some.inj (F.fZ.symm.trans e)
  exact kk q H1 hP1 hD1 hS1
def rws (G : Gx) (N M : Nat) (r : Nat → Nat) : va_W := (List.range N).map (fun i => (r i, .inl (gI G, zr M)))
def orf (N : Nat) (r : Nat → Nat) : Nat → Option Nat := fun i => if i < N then some (r i) else none
theorem k_mna (F : Fc G X cc nL own d) (hP : va_P G.1 vwCl ws H) (hD : va_D (xA X) ws) (hS : va_S (xA X) (xs X).heap H locs) {N M i : Nat} {v w : Int32} (hw : Cond.arrayClass .int ∈ gT) (hc : Cond.classLink own i ("[" ++ (FieldType.array .int).toString) ∈ gT) (hd : decode cc pc = .ok (.multianewarray i 2, 4)) (hv : v = nI N) (hww : w = nI M) (hN : N ≤ 100) (hM : M ≤ 100) (hk : k + (1 + N) ≤ xk X) (hn : n + (N + N * M) ≤ xn X)
    (kk : ∀ (q : Nat) (r : Nat → Nat) (H1 : Heap), va_P G.1 vwCl (ws ++ ((q, .inl (gA G, N, .inr (.inr (.inr (.inr (orf N r)))))) :: rws G N M r)) H1 → va_D (xA X) (ws ++ ((q, .inl (gA G, N, .inr (.inr (.inr (.inr (orf N r)))))) :: rws G N M r)) → va_S (xA X) (xs X).heap H1 locs → Wk X H1 locs (k + (1 + N)) (n + (N + N * M)) (pc + 4) ls (.ref q :: st)) : Wk X H locs k n pc ls (.int w :: .int v :: st) := by
  subst hv
  subst hww
  have hcs := F.cs
  refine va_mna (X := ws) (L := []) (f := fun _ => .inr (0, [])) (z := zr M) (ty := .int) (N' := N) (K' := M) F.ex F.bt F.ow (F.ts _ hc) F.nw.1 (F.ts _ hw) F.fI F.K (by rw [show va_pl [] (fun _ => (.inr (0, []) : va_E)) = [] from rfl, List.append_nil]; exact hP) (by rw [show va_pl [] (fun _ => (.inr (0, []) : va_E)) = [] from rfl, List.append_nil]; exact hD) hS F.up (nI_pos (by omega)) (nI_pos (by omega)) (clN (by omega)) (clN (by omega)) (by omega) (by show M * 4 ≤ _; omega) (by omega) rfl rfl (by omega) (by omega) (fun c => by unfold zr; rw [vp_cell_i, ← arrV_new]; rfl) hd (fun q r cA H1 hr hL hK1 hP1 hD1 hS1 => ?_)
  have e : (xs X).vm.findClass ("[" ++ (FieldType.array .int).toString) = some cA := (hK1.2 3 (cA, .array .int) rfl).2
  obtain rfl : gA G = cA := Option.some.inj (F.fA.symm.trans e)
  have el : va_pl ([] ++ (List.range N).map r) (vr_up (fun _ => (.inr (0, []) : va_E)) ((List.range N).map r) (.inl (gI G, zr M))) = rws G N M r := by
    unfold va_pl rws
    rw [List.nil_append, List.map_map]
    apply List.map_congr_left
    intro a ha
    show (r a, vr_up _ ((List.range N).map r) _ (r a)) = _
    rw [vr_up_in (List.mem_map.mpr ⟨a, ha, rfl⟩)]
  rw [el, List.append_assoc] at hP1 hD1
  have := kk q r H1 hP1 hD1 hS1
  rw [show k + (1 + N) = k + 1 + N by omega, show n + (N + N * M) = n + N + N * M by omega] at this
  exact this
theorem k_new (F : Fc G X cc nL own d) (hP : va_P G.1 vwCl ws H) (hD : va_D (xA X) ws) (hS : va_S (xA X) (xs X).heap H locs) {C : String} {T : u_T} {N ci i : Nat} {fs : List Value} (hin : ∀ w ∈ u_ws C T N, w ∈ gT) (ty : Nat → FieldType) (hty : ∀ k, k < N → parseFieldDescriptor (T k).2.2.1 = some (ty k)) (hcl : Cond.classLink own i C ∈ gT) (hinst : Cond.instantiable C N ∈ gT) (hini : Cond.initialized C ∈ gT) (hc : vwCl[ci]? = some (C, T, N)) (hfs : ∀ j, j < N → defaultValue (ty j) = vp_V fs j) (hd : decode cc pc = .ok (.new i, 3)) (hk : k + 1 ≤ xk X) (hn : n + N ≤ xn X)
    (kk : ∀ (q : Nat) (H1 : Heap), va_P G.1 vwCl (ws ++ [(q, .inr (ci, fs))]) H1 → va_D (xA X) (ws ++ [(q, .inr (ci, fs))]) → va_S (xA X) (xs X).heap H1 locs → Wk X H1 locs (k + 1) (n + N) (pc + 3) ls (.ref q :: st)) : Wk X H locs k n pc ls st := by
  have hcs := F.cs
  exact va_new F.ex F.bt F.ts hin ty hty F.ow (F.ts _ hcl) (F.ts _ hinst) (F.ts _ hini) F.K hP hD hS F.up hc hfs (by omega) (by omega) hd kk
theorem k_obj (F : Fc G X cc nL own d) (hl1 : ls.size = nL) {i a : Nat} (hlk : Cond.methodLink own i Lib.objectInit ∈ gT) (hi : Cond.instanceMethod Lib.objectInit ∈ gT) (hcd : Cond.code Lib.objectInit ⟨#[0xb1]⟩ 1 none ∈ gT) (hd : decode cc pc = .ok (.invokespecial i, 3)) (hd1 : 1 ≤ d) (hst : (st.map fun v => v.category).sum ≤ 8) (kk : Wk X H locs k n (pc + 3) ls st) : Wk X H locs k n pc ls (.ref a :: st) := by
  have hr := F.rm
  refine W.objInit F.ex F.bt F.ow (F.ts _ hlk) (F.ts _ hi) (F.ts _ hcd) rfl (by rw [F.ml]; exact hl1) rfl hd (by omega) (by have := lv_room (m := xm X) (pc := pc) (ls := ls) (rest := .ref a :: st) hst; show 2 * (F0 (xm X) pc ls (.ref a :: st)).monitorRoom + _ + 12 ≤ _; omega) ?_
  exact kk
theorem lst_range {α : Type} (ws : List α) (x : α) : (List.range ws.length).map (fun i => (ws ++ [x])[i]?) = ws.map some := by
  apply List.ext_getElem?
  intro j
  rw [List.getElem?_map, List.getElem?_map]
  by_cases h : j < ws.length
  · rw [List.getElem?_range h, List.getElem?_eq_getElem h]
    show some ((ws ++ [x])[j]?) = some (some ws[j])
    rw [List.getElem?_append_left h, List.getElem?_eq_getElem h]
  · rw [List.getElem?_eq_none (by simpa using h), List.getElem?_eq_none (by omega)]
    rfl
theorem lst_last {α : Type} (ws : List α) (x : α) : [ws.length].map (fun i => (ws ++ [x])[i]?) = [x].map some := by
  show [(ws ++ [x])[ws.length]?] = [some x]
  rw [List.getElem?_append_right (Nat.le_refl _), Nat.sub_self]
  rfl
theorem va_nd_of : ∀ {l : List Nat}, l.Nodup → va_nd l = true
  | [], _ => rfl
  | a :: l, h => by
    have h1 := List.nodup_cons.mp h
    show (decide (a ∉ l) && va_nd l) = true
    rw [va_nd_of h1.2, Bool.and_true]
    exact decide_eq_true h1.1
theorem va_joinL {A0 : Nat → Prop} {D : va_G} {cl : List vw_C} {w1 : va_W} {x : Nat × va_E} {H H1 : Heap} (hP : va_P D cl (ws ++ [x]) H) (hD : va_D A0 (ws ++ [x])) (hk : ∀ q : Nat, q < H.size → ¬ va_A [x] H.size q → H1[q]? = H[q]?) (hF : ∀ q, va_A [x] H.size q → A0 q) (hP1 : va_P D cl w1 H1) (hD1 : va_D (va_A [x] H.size) w1) : va_P D cl (ws ++ w1) H1 ∧ va_D A0 (ws ++ w1) :=
  va_join hP hD [ws.length] (List.range ws.length) (lst_last ws x) (lst_range ws x) (va_nd_of List.nodup_range) (fun i hi => by
    have := List.mem_range.mp hi
    intro h
    have := List.mem_singleton.mp h
    omega) hk hF hP1 hD1
end CTOR
