/-! the words that keep: one list for every method -/
def gT : List Cond := lw_tbl.filter goodWord
theorem gT_mk {w : Cond} (h : w ∈ lw_tbl) (g : goodWord w = true) : w ∈ gT := List.mem_filter.mpr ⟨h, g⟩
theorem gT_lw {w : Cond} (h : w ∈ gT) : w ∈ lw_tbl := (List.mem_filter.mp h).1
theorem gT_gd {w : Cond} (h : w ∈ gT) : goodWord w = true := (List.mem_filter.mp h).2
theorem gT_good {ws : List Cond} (h : ∀ w ∈ ws, w ∈ gT) : GoodIn gT ws := fun w hw => ⟨h w hw, good_of_word (gT_gd (h w hw))⟩
theorem gT_s {w : Cond} (i : Nat) (h : (k2_sels lw_privs)[i]? = some w) : w ∈ lw_tbl := List.mem_append_left _ (List.mem_of_getElem? h)
theorem gT_1 {w : Cond} (i : Nat) (h : tables_1_1[i]? = some w) : w ∈ lw_tbl := List.mem_append_right _ (List.mem_append_left _ (List.mem_of_getElem? h))
theorem gT_2 {w : Cond} (i : Nat) (h : tables_1_2[i]? = some w) : w ∈ lw_tbl := List.mem_append_right _ (List.mem_append_right _ (List.mem_append_left _ (List.mem_of_getElem? h)))
theorem gT_3 {w : Cond} (i : Nat) (h : tables_1_3[i]? = some w) : w ∈ lw_tbl := List.mem_append_right _ (List.mem_append_right _ (List.mem_append_right _ (List.mem_append_left _ (List.mem_of_getElem? h))))
theorem gT_4 {w : Cond} (i : Nat) (h : tables_1_4[i]? = some w) : w ∈ lw_tbl := List.mem_append_right _ (List.mem_append_right _ (List.mem_append_right _ (List.mem_append_right _ (List.mem_append_left _ (List.mem_of_getElem? h)))))
theorem gT_5 {w : Cond} (i : Nat) (h : tables_1_5[i]? = some w) : w ∈ lw_tbl := List.mem_append_right _ (List.mem_append_right _ (List.mem_append_right _ (List.mem_append_right _ (List.mem_append_right _ (List.mem_of_getElem? h)))))
/-! the pure state: what the arrays hold, by their roles; what the int fields hold -/
abbrev St : Type := (Nat → Nat → Int32) × (Nat → Int32)
abbrev Gx : Type := va_G × (ClassId × ClassId × ClassId) × (Nat → Nat) × (Nat → Nat)
def gI (G : Gx) : ClassId := G.2.1.1
def gZ (G : Gx) : ClassId := G.2.1.2.1
def gA (G : Gx) : ClassId := G.2.1.2.2
def ga (G : Gx) (k : Nat) : Nat := G.2.2.1 k
def gs (G : Gx) (k : Nat) : Nat := G.2.2.2 k
def alen (k : Nat) : Nat := match k with
  | 5 => 6 | 8 => 6 | 11 => 6 | 14 => 6 | 20 => 8 | 21 => 8 | 22 => 120 | 24 => 16 | 26 => 8 | 27 => 8 | 28 => 320 | 32 => 1920 | 33 => 120 | 34 => 6 | 36 => 160 | 37 => 16
  | 38 => 40 | 39 => 40 | 40 => 40 | 41 => 40 | 42 => 40 | 43 => 40 | 44 => 40 | 45 => 40 | _ => 80
def refs (G : Gx) (b n : Nat) : Nat → Option Nat := fun i => if i < n then some (ga G (b + i)) else none
def cellOf (G : Gx) (σ : St) (k : Nat) : va_E := match k with
  | 0 => .inr (6, [.ref (ga G 1), .ref (ga G 2), .ref (ga G 3), .ref (ga G 6), .ref (ga G 15), .ref (ga G 16), .ref (ga G 17), .ref (ga G 18), .int (σ.2 0)])
  | 1 => .inr (4, [.ref (ga G 19), .ref (ga G 20), .ref (ga G 21)])
  | 2 => .inr (5, [.ref (ga G 22), .int (σ.2 1), .int (σ.2 2), .int (σ.2 3), .int (σ.2 4)])
  | 3 => .inr (3, [.ref (ga G 4), .ref (ga G 5)])
  | 6 => .inr (3, [.ref (ga G 7), .ref (ga G 8)])
  | 9 => .inr (3, [.ref (ga G 10), .ref (ga G 11)])
  | 12 => .inr (3, [.ref (ga G 13), .ref (ga G 14)])
  | 15 => .inr (0, [.ref (ga G 23), .int (σ.2 5), .int (σ.2 6)])
  | 16 => .inr (2, [.ref (ga G 9), .ref (ga G 12)])
  | 17 => .inr (1, [.ref (ga G 24), .int (σ.2 7)])
  | 18 => .inl (gA G, 2, .inr (.inr (.inr (.inr (refs G 70 2)))))
  | 19 => .inl (gA G, 8, .inr (.inr (.inr (.inr (refs G 38 8)))))
  | 23 => .inl (gA G, 24, .inr (.inr (.inr (.inr (refs G 46 24)))))
  | 25 => .inr (7, [.int (σ.2 8), .int (σ.2 9), .ref (ga G 26), .ref (ga G 27), .ref (ga G 28), .ref (ga G 29), .ref (ga G 30), .ref (ga G 31), .ref (ga G 32), .int (σ.2 10), .ref (ga G 33), .int (σ.2 11), .int (σ.2 12), .int (σ.2 13), .int (σ.2 14), .int (σ.2 15), .int (σ.2 16), .int (σ.2 17), .int (σ.2 18), .ref (ga G 34), .ref (ga G 35), .ref (ga G 36), .ref (ga G 37), .int (σ.2 19)])
  | 35 => .inl (gZ G, 2, .inl (σ.1 35))
  | k => .inl (gI G, alen k, .inl (σ.1 k))
def wld (G : Gx) (σ : St) : va_W := (List.range 72).map (fun k => (ga G k, cellOf G σ k))
def tysG (G : Gx) : List (ClassId × FieldType) := [(gI G, .int), (gZ G, .boolean), (gA G, .array .int)]
theorem wld_at {G : Gx} {σ : St} {k : Nat} (h : k < 72) : (wld G σ)[k]? = some (ga G k, cellOf G σ k) := by
  unfold wld
  rw [List.getElem?_map, List.getElem?_range h]
  rfl
theorem wld_in {G : Gx} {σ : St} {k : Nat} {q : Nat × va_E} (h : (wld G σ)[k]? = some q) : k < 72 ∧ q = (ga G k, cellOf G σ k) := by
  have hl : k < 72 := by
    have h1 := (List.getElem?_eq_some_iff.mp h).1
    simpa [wld] using h1
  rw [wld_at hl] at h
  exact ⟨hl, (Option.some.inj h).symm⟩
theorem wld_set {G : Gx} {σ τ : St} {k : Nat} {e : va_E} (h1 : cellOf G τ k = e) (h2 : ∀ j, j ≠ k → cellOf G τ j = cellOf G σ j) : (wld G σ).set k (ga G k, e) = wld G τ := by
  apply List.ext_getElem?
  intro j
  rw [List.getElem?_set]
  by_cases hj : k = j
  · subst hj
    by_cases hk : k < 72
    · rw [if_pos rfl, if_pos (by simpa [wld] using hk), wld_at hk, h1]
    · rw [if_pos rfl, if_neg (by simpa [wld] using hk), List.getElem?_eq_none (by simpa [wld] using hk)]
  · rw [if_neg hj]
    by_cases hk : j < 72
    · rw [wld_at hk, wld_at hk, h2 j (fun e => hj e.symm)]
    · rw [List.getElem?_eq_none (by simpa [wld] using hk), List.getElem?_eq_none (by simpa [wld] using hk)]
/-- an int array of n places at role k -/
def isArr (k n : Nat) : Prop := k < 72 ∧ ∀ (G : Gx) (σ : St), cellOf G σ k = .inl (gI G, n, .inl (σ.1 k))
/-- an object of kind ci at role q -/
def isObj (q ci : Nat) : Prop := q < 72 ∧ ∀ (G : Gx) (σ : St), ∃ fs, cellOf G σ q = .inr (ci, fs)
/-- a Net at role r, its cells and out behind it -/
def isNet (r : Nat) : Prop := r = 3 ∨ r = 6 ∨ r = 9 ∨ r = 12
theorem isNet.cell {r : Nat} (h : isNet r) (G : Gx) (σ : St) : cellOf G σ r = .inr (3, [.ref (ga G (r + 1)), .ref (ga G (r + 2))]) := by
  rcases h with rfl | rfl | rfl | rfl <;> rfl
theorem isNet.lt {r : Nat} (h : isNet r) : r < 72 := by rcases h with rfl | rfl | rfl | rfl <;> decide
theorem isNet.obj {r : Nat} (h : isNet r) : isObj r 3 := ⟨h.lt, fun G σ => ⟨_, h.cell G σ⟩⟩
theorem isNet.cells {r : Nat} (h : isNet r) : isArr (r + 1) 80 := by
  rcases h with rfl | rfl | rfl | rfl <;> exact ⟨by decide, fun _ _ => rfl⟩
theorem isNet.out {r : Nat} (h : isNet r) : isArr (r + 2) 6 := by
  rcases h with rfl | rfl | rfl | rfl <;> exact ⟨by decide, fun _ _ => rfl⟩
theorem isArr.items {i : Nat} (h : i < 8) : isArr (38 + i) 40 := by
  match i, h with
  | 0, _ => exact ⟨by decide, fun _ _ => rfl⟩
  | 1, _ => exact ⟨by decide, fun _ _ => rfl⟩
  | 2, _ => exact ⟨by decide, fun _ _ => rfl⟩
  | 3, _ => exact ⟨by decide, fun _ _ => rfl⟩
  | 4, _ => exact ⟨by decide, fun _ _ => rfl⟩
  | 5, _ => exact ⟨by decide, fun _ _ => rfl⟩
  | 6, _ => exact ⟨by decide, fun _ _ => rfl⟩
  | 7, _ => exact ⟨by decide, fun _ _ => rfl⟩
theorem cell_hi {k : Nat} (h : 46 ≤ k) (G : Gx) (σ : St) : cellOf G σ k = .inl (gI G, 80, .inl (σ.1 k)) := by
  obtain ⟨j, rfl⟩ := Nat.exists_eq_add_of_le h
  rw [Nat.add_comm]
  rfl
theorem isArr.hi {k : Nat} (h : 46 ≤ k) (h2 : k < 72) : isArr k 80 := ⟨h2, fun G σ => cell_hi h G σ⟩
def setA (σ : St) (k i : Nat) (v : Int32) : St := (fun j => if j = k then upd (σ.1 k) i v else σ.1 j, σ.2)
def setR (σ : St) (k : Nat) (f : Nat → Int32) : St := (fun j => if j = k then f else σ.1 j, σ.2)
def setF (σ : St) (k : Nat) (v : Int32) : St := (σ.1, fun j => if j = k then v else σ.2 j)
theorem cell_setR {G : Gx} {σ : St} {k j : Nat} {f : Nat → Int32} (h : j ≠ k) : cellOf G (setR σ k f) j = cellOf G σ j := by
  have e : (setR σ k f).1 j = σ.1 j := if_neg h
  unfold cellOf
  split <;> first | rfl | (rw [e]) | (simp only [e])
theorem isArr_setR {k n : Nat} (h : isArr k n) {G : Gx} {σ : St} {f : Nat → Int32} : cellOf G (setR σ k f) k = .inl (gI G, n, .inl f) := by
  rw [h.2]
  have e : (setR σ k f).1 k = f := if_pos rfl
  rw [e]
theorem setA_R (σ : St) (k i : Nat) (v : Int32) : setA σ k i v = setR σ k (upd (σ.1 k) i v) := rfl
/-! the fixed things of a frame -/
abbrev Cx : Type := Program × Launch × Env × Room × State × MethodId × Array Value × List Frame × Method × Code × Nat × Nat × (State → Prop) × (Nat → Prop)
abbrev xp (X : Cx) : Program := X.1
abbrev xl (X : Cx) : Launch := X.2.1
abbrev xe (X : Cx) : Env := X.2.2.1
abbrev xR (X : Cx) : Room := X.2.2.2.1
abbrev xs (X : Cx) : State := X.2.2.2.2.1
abbrev xm (X : Cx) : MethodId := X.2.2.2.2.2.1
abbrev xa (X : Cx) : Array Value := X.2.2.2.2.2.2.1
abbrev xb (X : Cx) : List Frame := X.2.2.2.2.2.2.2.1
abbrev xt (X : Cx) : Method := X.2.2.2.2.2.2.2.2.1
abbrev xc (X : Cx) : Code := X.2.2.2.2.2.2.2.2.2.1
abbrev xk (X : Cx) : Nat := X.2.2.2.2.2.2.2.2.2.2.1
abbrev xn (X : Cx) : Nat := X.2.2.2.2.2.2.2.2.2.2.2.1
abbrev xQ (X : Cx) : State → Prop := X.2.2.2.2.2.2.2.2.2.2.2.2.1
abbrev xA (X : Cx) : Nat → Prop := X.2.2.2.2.2.2.2.2.2.2.2.2.2
def GOK (G : Gx) : Prop := ∀ i j, i < 72 → j < 72 → ga G i = ga G j → i = j
/-- the static arrays' names, and what they hold -/
def stN (k : Nat) : String × String := match k with
  | 0 => ("EarTrumpets$Kinds", "ABOVE")
  | 1 => ("EarTrumpets$Kinds", "LETTERS")
  | 2 => ("EarTrumpets$Bodies", "SIZE_BODY")
  | _ => ("EarTrumpets$Bodies", "MARK_BODY")
def stV (k i : Nat) : Int32 := match k with
  | 0 => ([0, 0, 1, 1, 0, 4] : List Int32).getD i 0
  | 1 => ([0, 98, 100, 110, 108, 111] : List Int32).getD i 0
  | 2 => ([10, 11, 12, 11, 13, 14] : List Int32).getD i 0
  | _ => ([20, 21, 24, 22, 23, 23] : List Int32).getD i 0
def Stc (G : Gx) (A : Nat → Prop) (U : State) (H : Heap) : Prop := ∀ k, k < 4 → va_Z (stN k).1 (stN k).2 "[I" (.ref (gs G k)) A U H ∧ va_T .int (gs G k) 6 (fun i => .int (stV k i)) A U H
theorem Stc.moved {G : Gx} {A : Nat → Prop} {u U : State} {H : Heap} (hvm : u.vm.Alike U.vm) (h : Stc G A u H) : Stc G A U H := fun k hk => ⟨(h k hk).1.moved hvm, (h k hk).2.moved hvm⟩
theorem Stc.kept {G : Gx} {A : Nat → Prop} {U : State} {H H1 : Heap} (h : Stc G A U H) (hq : ∀ a : Nat, a < H.size → ¬ A a → H1[a]? = H[a]?) : Stc G A U H1 := fun k hk => ⟨(h k hk).1.kept hq, (h k hk).2.kept hq⟩
theorem Stc.narrow {G : Gx} {A B : Nat → Prop} {U : State} {H : Heap} (h : Stc G A U H) (hAB : ∀ q, B q → A q) : Stc G B U H := fun k hk => ⟨(h k hk).1.narrow hAB, (h k hk).2.narrow hAB⟩
def Fx (G : Gx) (X : Cx) (cc : ByteArray) (nL : Nat) (own : String) (d : Nat) : Prop :=
  (xp X).tables.exec = Jvm.exec ∧ (xc X).code = cc ∧ (xc X).maxLocals = nL ∧ (xs X).vm.findClass own = some (xm X).cls ∧ (∀ w ∈ gT, w.before (xa X) (xs X) = true) ∧ va_K G.1 vwCl (tysG G) (xs X) ∧ GOK G ∧ (∀ k, k < 72 → xA X (ga G k)) ∧ (∀ q, (xs X).heap.size ≤ q → xA X q) ∧ Stc G (xA X) (xs X) (xs X).heap ∧ (d ≤ (xR X).frames ∧ 60 * d ≤ (xR X).locals) ∧ (xk X ≤ (xR X).cells ∧ xn X ≤ (xR X).slots)
theorem Fx.ex {G : Gx} {X : Cx} {cc : ByteArray} {nL d : Nat} {own : String} (F : Fx G X cc nL own d) : (xp X).tables.exec = Jvm.exec := F.1
theorem Fx.bt {G : Gx} {X : Cx} {cc : ByteArray} {nL d : Nat} {own : String} (F : Fx G X cc nL own d) : (xc X).code = cc := F.2.1
theorem Fx.ml {G : Gx} {X : Cx} {cc : ByteArray} {nL d : Nat} {own : String} (F : Fx G X cc nL own d) : (xc X).maxLocals = nL := F.2.2.1
theorem Fx.ow {G : Gx} {X : Cx} {cc : ByteArray} {nL d : Nat} {own : String} (F : Fx G X cc nL own d) : (xs X).vm.findClass own = some (xm X).cls := F.2.2.2.1
theorem Fx.ts {G : Gx} {X : Cx} {cc : ByteArray} {nL d : Nat} {own : String} (F : Fx G X cc nL own d) : ∀ w ∈ gT, w.before (xa X) (xs X) = true := F.2.2.2.2.1
theorem Fx.K {G : Gx} {X : Cx} {cc : ByteArray} {nL d : Nat} {own : String} (F : Fx G X cc nL own d) : va_K G.1 vwCl (tysG G) (xs X) := F.2.2.2.2.2.1
theorem Fx.gk {G : Gx} {X : Cx} {cc : ByteArray} {nL d : Nat} {own : String} (F : Fx G X cc nL own d) : GOK G := F.2.2.2.2.2.2.1
theorem Fx.inA {G : Gx} {X : Cx} {cc : ByteArray} {nL d : Nat} {own : String} (F : Fx G X cc nL own d) : ∀ k, k < 72 → xA X (ga G k) := F.2.2.2.2.2.2.2.1
theorem Fx.up {G : Gx} {X : Cx} {cc : ByteArray} {nL d : Nat} {own : String} (F : Fx G X cc nL own d) : ∀ q, (xs X).heap.size ≤ q → xA X q := F.2.2.2.2.2.2.2.2.1
theorem Fx.sc {G : Gx} {X : Cx} {cc : ByteArray} {nL d : Nat} {own : String} (F : Fx G X cc nL own d) : Stc G (xA X) (xs X) (xs X).heap := F.2.2.2.2.2.2.2.2.2.1
theorem Fx.rm {G : Gx} {X : Cx} {cc : ByteArray} {nL d : Nat} {own : String} (F : Fx G X cc nL own d) : d ≤ (xR X).frames ∧ 60 * d ≤ (xR X).locals := F.2.2.2.2.2.2.2.2.2.2.1
theorem Fx.cs {G : Gx} {X : Cx} {cc : ByteArray} {nL d : Nat} {own : String} (F : Fx G X cc nL own d) : xk X ≤ (xR X).cells ∧ xn X ≤ (xR X).slots := F.2.2.2.2.2.2.2.2.2.2.2
theorem Fx.D {G : Gx} {X : Cx} {cc : ByteArray} {nL d : Nat} {own : String} (F : Fx G X cc nL own d) (σ : St) : va_D (xA X) (wld G σ) := by
  refine ⟨fun i j p q hi hj e => ?_, fun k q hk => ?_⟩
  · obtain ⟨h1, rfl⟩ := wld_in hi
    obtain ⟨h2, rfl⟩ := wld_in hj
    exact F.gk i j h1 h2 e
  · obtain ⟨h1, rfl⟩ := wld_in hk
    exact F.inA k h1
/-- from this place on the machine comes to its end -/
def Wx (G : Gx) (X : Cx) (nL : Nat) (σ : St) (pc : Nat) (lv : List (Nat × Value)) (st : List Value) : Prop :=
  ∀ (H : Heap) (locs : List Loc) (ls : Array Slot), va_P G.1 vwCl (wld G σ) H → va_S (xA X) (xs X).heap H locs → lv_has ls nL lv → W (xp X) (xl X) (xe X) (xR X) (xs X) (xm X) (xa X) (xb X) (xt X) (xc X) H locs (xk X) (xn X) (xQ X) (F0 (xm X) pc ls st)
/-- the rest of the method does what the program says, if it says anything -/
def Sim (G : Gx) (X : Cx) (nL : Nat) {ρ : Type} (o : ρ) (P : Option ρ) (σ : St) (pc : Nat) (lv : List (Nat × Value)) (st : List Value) : Prop := P = some o → Wx G X nL σ pc lv st
