/-! constructors: stores, calls, their contracts -/
section CTOR2
variable {G : Gx} {X : Cx} {cc : ByteArray} {nL d : Nat} {own : String} {pc k n : Nat} {st : List Value} {H : Heap} {locs : List Loc} {ls : Array Slot} {ws ws' : va_W}
theorem k_putF (F : Fc G X cc nL own d) (hin2 : (xt X).name = "<init>") (hP : va_P G.1 vwCl ws H) (hD : va_D (xA X) ws) (hS : va_S (xA X) (xs X).heap H locs) {T : u_T} {N ci i a : Nat} {fs : List Value} (hin : ∀ w ∈ u_ws own T N, w ∈ gT) (ty0 : Nat → FieldType) (hty : ∀ k, k < N → parseFieldDescriptor (T k).2.2.1 = some (ty0 k)) (hnm : ∀ a, a < N → ∀ b, b < N → a ≠ b → (T a).2.1 ≠ (T b).2.1) (he : ws[0]? = some (a, .inr (ci, fs))) (hc : vwCl[ci]? = some (own, T, N)) (j : Nat) (hj : j < N) (hlink : Cond.fieldLink own i (T j).1 (T j).2.1 (T j).2.2.1 ∈ gT) (hfin : (T j).2.2.2 = true) (hdecl : (T j).1 = own) {ty : FieldType} {v : Value} (hd : parseFieldDescriptor (T j).2.2.1 = some ty) (hn : narrow ty v = v) (hfit : fits ty v = true) (hl : j < fs.length) (hset : ws.set 0 (a, .inr (ci, fs.set j v)) = ws') (hdg : decode cc pc = .ok (.putfield i, 3))
    (kk : ∀ (H1 : Heap) (locs1 : List Loc), va_P G.1 vwCl ws' H1 → va_D (xA X) ws' → va_S (xA X) (xs X).heap H1 locs1 → Wk X H1 locs1 k n (pc + 3) ls st) : Wk X H locs k n pc ls (v :: .ref a :: st) := by
  subst hset
  exact va_putF F.ex F.bt F.ts hin ty0 hty hnm F.ow F.K hP hD hS 0 he hc j hj (F.ts _ hlink) (fun _ h9 => h9) hfin hin2 hdecl hd hn hfit hl hdg kk
theorem k_put (F : Fc G X cc nL own d) (hP : va_P G.1 vwCl ws H) (hD : va_D (xA X) ws) (hS : va_S (xA X) (xs X).heap H locs) {T : u_T} {N ci i a : Nat} {fs : List Value} (hin : ∀ w ∈ u_ws own T N, w ∈ gT) (ty0 : Nat → FieldType) (hty : ∀ k, k < N → parseFieldDescriptor (T k).2.2.1 = some (ty0 k)) (hnm : ∀ a, a < N → ∀ b, b < N → a ≠ b → (T a).2.1 ≠ (T b).2.1) (he : ws[0]? = some (a, .inr (ci, fs))) (hc : vwCl[ci]? = some (own, T, N)) (j : Nat) (hj : j < N) (hlink : Cond.fieldLink own i (T j).1 (T j).2.1 (T j).2.2.1 ∈ gT) (hfin : (T j).2.2.2 = false) {ty : FieldType} {v : Value} (hd : parseFieldDescriptor (T j).2.2.1 = some ty) (hn : narrow ty v = v) (hfit : fits ty v = true) (hl : j < fs.length) (hset : ws.set 0 (a, .inr (ci, fs.set j v)) = ws') (hdg : decode cc pc = .ok (.putfield i, 3))
    (kk : ∀ (H1 : Heap) (locs1 : List Loc), va_P G.1 vwCl ws' H1 → va_D (xA X) ws' → va_S (xA X) (xs X).heap H1 locs1 → Wk X H1 locs1 k n (pc + 3) ls st) : Wk X H locs k n pc ls (v :: .ref a :: st) := by
  subst hset
  exact va_put F.ex F.bt F.ts hin ty0 hty hnm F.ow F.K hP hD hS 0 he hc j hj (F.ts _ hlink) (fun _ h9 => h9) hfin hd hn hfit hl hdg kk
theorem Cpre_blind {h0 ci sz : Nat} {fs : List Value} {av : List Value} : FrameBlind (va_Pc av (Cpre G h0 ci fs sz)) := fun a U g mk q => by
  obtain ⟨q0, q1, qP, qK, qN⟩ := q
  exact ⟨q0, q1, qP, va_K.moved (u := U) (U := U.calling g mk a) (Vm.Alike.refl U.vm) qK, nW.same (u := U) (U := U.calling g mk a) rfl qN⟩
theorem k_ctor (F : Fc G X cc nL own d) {y : MethodName} {cy : ByteArray} {mL d' mc ms ci i h : Nat} {fs : List Value} {post : Nat → va_W → Prop} {host : String} (hP : va_P G.1 vwCl (ws ++ [(h, .inr (ci, fs))]) H) (hD : va_D (xA X) (ws ++ [(h, .inr (ci, fs))])) (hS : va_S (xA X) (xs X).heap H locs) (hl1 : ls.size = nL) (hM : CCon G (xl X) y cy mL d' mc ms ci fs post) (hl : va_Nw (.methodLinkNest own i y host) (xs X)) (hini : Cond.initialized y.cls ∈ gT) (hcd : Cond.code y cy mL none ∈ gT) (him : Cond.instanceMethod y ∈ gT) (hnm : y.name = "<init>") (hn : nmOK y 0) (hdd : d' < d) (hmL : mL ≤ 41) (hd : decode cc pc = .ok (.invokespecial i, 3)) (hst : (st.map fun v => v.category).sum ≤ 8) (hk : k + mc ≤ xk X) (hns : n + ms ≤ xn X)
    (kk : ∀ (w1 : va_W) (H1 : Heap) (locs1 : List Loc), post h w1 → va_P G.1 vwCl (ws ++ w1) H1 → va_D (xA X) (ws ++ w1) → va_S (xA X) (xs X).heap H1 locs1 → Wk X H1 locs1 (k + mc) (n + ms) (pc + 3) ls st) : Wk X H locs k n pc ls (.ref h :: st) := by
  have hrm := F.rm
  have hcs := F.cs
  have hF : ∀ q, va_A [(h, (.inr (ci, fs) : va_E))] H.size q → xA X q := va_free hD hS F.up [ws.length] (lst_last ws _)
  have hPc : va_P G.1 vwCl [(h, .inr (ci, fs))] H := fun j q hj => by
    have hz : j < 1 := (List.getElem?_eq_some_iff.mp hj).1
    obtain rfl : j = 0 := by omega
    exact hP ws.length q (by rw [List.getElem?_append_right (Nat.le_refl _), Nat.sub_self]; exact hj)
  refine va_callv (va_runIN (As := []) (rest := st) ⟨F.ex, F.bt, F.ml, F.ow, F.ts⟩ (hM h H.size) ⟨va_cnB 0 F.ts (gT_good (fun w hw => ?_)) rfl rfl rfl hl (F.ts _ hini) hn ⟨?_, ?_⟩, hnm, F.ts _ him⟩ ⟨Cpre_blind, fun U hU hW => ⟨rfl, by rw [hU], by rw [hU]; exact hPc, va_K.moved hW.alike F.K, F.nw.warm hW⟩⟩ rfl rfl hl1 rfl (lv_room hst) hd ⟨by omega, by omega⟩) hS (fun q _ h => hF q h) hF (fun w1 t H1 locs1 ht hvm hw hB hz1 hk1 hS1 => ?_)
  · rcases List.mem_cons.mp hw with rfl | h
    · exact hcd
    · exact h
  · show d' + 1 ≤ _
    omega
  · show 8 + (mL + 11) + 60 * d' ≤ _
    omega
  · obtain ⟨hP1, hD1⟩ := hB
    rw [ht] at hP1
    obtain ⟨a, b⟩ := va_joinL hP hD hk1 hF hP1 hD1
    exact kk w1 H1 locs1 hw a b hS1
theorem k_ctorP (F : Fc G X cc nL own d) {y : MethodName} {cy : ByteArray} {mL d' mc ms ci i h : Nat} {fs : List Value} {post : Nat → va_W → Prop} (hP : va_P G.1 vwCl (ws ++ [(h, .inr (ci, fs))]) H) (hD : va_D (xA X) (ws ++ [(h, .inr (ci, fs))])) (hS : va_S (xA X) (xs X).heap H locs) (hl1 : ls.size = nL) (hM : CCon G (xl X) y cy mL d' mc ms ci fs post) (hl : Cond.methodLink own i y ∈ gT) (hini : Cond.initialized y.cls ∈ gT) (hcd : Cond.code y cy mL none ∈ gT) (him : Cond.instanceMethod y ∈ gT) (hnm : y.name = "<init>") (hn : nmOK y 0) (hdd : d' < d) (hmL : mL ≤ 41) (hd : decode cc pc = .ok (.invokespecial i, 3)) (hst : (st.map fun v => v.category).sum ≤ 8) (hk : k + mc ≤ xk X) (hns : n + ms ≤ xn X)
    (kk : ∀ (w1 : va_W) (H1 : Heap) (locs1 : List Loc), post h w1 → va_P G.1 vwCl (ws ++ w1) H1 → va_D (xA X) (ws ++ w1) → va_S (xA X) (xs X).heap H1 locs1 → Wk X H1 locs1 (k + mc) (n + ms) (pc + 3) ls st) : Wk X H locs k n pc ls (.ref h :: st) := by
  have hrm := F.rm
  have hcs := F.cs
  have hF : ∀ q, va_A [(h, (.inr (ci, fs) : va_E))] H.size q → xA X q := va_free hD hS F.up [ws.length] (lst_last ws _)
  have hPc : va_P G.1 vwCl [(h, .inr (ci, fs))] H := fun j q hj => by
    have hz : j < 1 := (List.getElem?_eq_some_iff.mp hj).1
    obtain rfl : j = 0 := by omega
    exact hP ws.length q (by rw [List.getElem?_append_right (Nat.le_refl _), Nat.sub_self]; exact hj)
  refine va_callv (va_runI (As := []) (rest := st) ⟨F.ex, F.bt, F.ml, F.ow, F.ts⟩ (hM h H.size) ⟨callB_of 0 F.ts (gT_good (fun w hw => ?_)) rfl rfl rfl (F.ts _ hini) (F.ts _ hl) hn ⟨?_, ?_⟩, hnm, F.ts _ him⟩ ⟨Cpre_blind, fun U hU hW => ⟨rfl, by rw [hU], by rw [hU]; exact hPc, va_K.moved hW.alike F.K, F.nw.warm hW⟩⟩ rfl rfl hl1 rfl (lv_room hst) hd ⟨by omega, by omega⟩) hS (fun q _ h => hF q h) hF (fun w1 t H1 locs1 ht hvm hw hB hz1 hk1 hS1 => ?_)
  · rcases List.mem_cons.mp hw with rfl | h
    · exact hcd
    · exact h
  · show d' + 1 ≤ _
    omega
  · show 8 + (mL + 11) + 60 * d' ≤ _
    omega
  · obtain ⟨hP1, hD1⟩ := hB
    rw [ht] at hP1
    obtain ⟨a, b⟩ := va_joinL hP hD hk1 hF hP1 hD1
    exact kk w1 H1 locs1 hw a b hS1
end CTOR2
theorem CCon.of {G : Gx} {l : Launch} {y : MethodName} {cc : ByteArray} {nL d mc ms ci : Nat} {fs : List Value} {post : Nat → va_W → Prop} (hy : plainName y.cls = true) (hyn : y.name = "<init>") (hnL : 1 ≤ nL)
    (body : ∀ (X : Cx) (h0 : Nat), Fc G X cc nL y.cls d → xl X = l → (xt X).name = "<init>" → xk X = mc → xn X = ms → va_D (xA X) [(h0, .inr (ci, fs))] → (∀ (H : Heap) (locs : List Loc) (w1 : va_W) (pc : Nat) (ls : Array Slot), decode cc pc = .ok (.return_, 1) → post h0 w1 → va_P G.1 vwCl w1 H → va_D (xA X) w1 → va_S (xA X) (xs X).heap H locs → Wk X H locs mc ms pc ls []) → ∀ (H : Heap) (ls : Array Slot), va_P G.1 vwCl [(h0, .inr (ci, fs))] H → va_S (xA X) (xs X).heap H [] → lv_has ls nL [(0, .ref h0)] → Wk X H [] 0 0 0 ls []) : CCon G l y cc nL d mc ms ci fs post := by
  intro h0 sz
  refine Met.ofW (cc := cc) (maxL := nL) (ret := none) hy rfl ?_
  intro p e s m args below meth c s₁ B hml hv
  obtain ⟨rfl, hsz, hP, hK, hN⟩ := hv
  have hts := atoms_spec (ws := .code y cc nL none :: gT) B.pre
  have hown : s.vm.findClass y.cls = some m.cls := findClass_of_methodNamed B.named
  have hnm : meth.name = "<init>" := ((name_of_methodNamed B.named B.method).1).trans hyn
  subst hsz
  have hl := lv_entry ([.ref h0]) (n := nL) (by show 1 ≤ nL; exact hnL)
  rw [lg_entry_eq]
  generalize (lg_sl ([.ref h0]) ++ List.replicate (nL - (lg_sl ([.ref h0])).length) Slot.unset).toArray = ls at hl ⊢
  have hD0 : va_D (va_A [(h0, (.inr (ci, fs) : va_E))] s.heap.size) [(h0, .inr (ci, fs))] := ⟨fun i j p q hi hj _ => by
    have h1 : i < 1 := (List.getElem?_eq_some_iff.mp hi).1
    have h2 : j < 1 := (List.getElem?_eq_some_iff.mp hj).1
    omega, fun k q hk => va_A.in hk⟩
  exact body (p, l, e, rmC d mc ms, s, m, [Value.ref h0].toArray, below, meth, c, mc, ms, MQ below (va_Qv (post h0) (fun w1 t => va_P G.1 vwCl w1 t.heap ∧ va_D (va_A [(h0, .inr (ci, fs))] s.heap.size) w1) (va_A [(h0, .inr (ci, fs))] s.heap.size)) [Value.ref h0].toArray s mc ms (va_A [(h0, .inr (ci, fs))] s.heap.size), va_A [(h0, .inr (ci, fs))] s.heap.size) h0
    ⟨B.exec, B.bytes, hml, hown, fun w hw => hts w (List.mem_cons_of_mem _ hw), hK, fun q hq => Or.inr hq, hN, ⟨Nat.le_refl _, Nat.le_refl _⟩, ⟨Nat.le_refl _, Nat.le_refl _⟩⟩ rfl hnm rfl rfl hD0
    (fun H locs w1 pc ls hd hw hP1 hD1 hS1 => W.vret B.exec B.bytes B.returns (fun t ht hW => ⟨⟨w1, rfl, hw, by rw [ht]; exact hP1, hD1⟩, hS1.F ht⟩) hS1.2.2 hd B.notSynchronized) s.heap ls hP va_S.rf hl
