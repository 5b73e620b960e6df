/-! numbers: all as nI of a natural number -/
theorem clN {a : Nat} (h : a < 2147483648) : (nI a).toNatClampNeg = a := nI_clamp (by omega)
theorem lt0N {a : Nat} (h : a < 2147483648) : (nI a < 0) ↔ False := ⟨fun q => nI_pos (n := a) (by omega) q, fun q => q.elim⟩
theorem ge0N {a : Nat} (h : a < 2147483648) : ((0 : Int32) ≤ nI a) ↔ True := ⟨fun _ => trivial, fun _ => nI_pos' (by omega)⟩
theorem leN {a b : Nat} (ha : a < 2147483648) (hb : b < 2147483648) : nI a ≤ nI b ↔ a ≤ b := nI_leI (by omega) (by omega)
theorem ltN {a b : Nat} (ha : a < 2147483648) (hb : b < 2147483648) : nI a < nI b ↔ a < b := nI_ltI (by omega) (by omega)
theorem eqN {a b : Nat} (ha : a < 2147483648) (hb : b < 2147483648) : nI a = nI b ↔ a = b := nI_eq (by omega) (by omega)
theorem le0N {a : Nat} (h : a < 2147483648) : (nI a ≤ 0) ↔ a = 0 := by
  rw [← nI_0, leN h (by decide)]
  omega
theorem eq0N {a : Nat} (h : a < 2147483648) : (nI a = 0) ↔ a = 0 := by rw [← nI_0, eqN h (by decide)]
theorem gt0N {a : Nat} (h : a < 2147483648) : (0 < nI a) ↔ 0 < a := by rw [← nI_0, ltN (by decide) h]
theorem ixN {a n : Nat} (h : a < 2147483648) : ix (nI a) n ↔ a < n := by
  show ¬ (nI a < 0 ∨ n ≤ (nI a).toNatClampNeg) ↔ a < n
  rw [clN h, lt0N h]
  constructor
  · intro q
    exact Nat.lt_of_not_le (fun z => q (Or.inr z))
  · rintro q (z | z)
    · exact z
    · omega
theorem subN {a b : Nat} (h : b ≤ a) : nI a - nI b = nI (a - b) := pk_sub h
theorem divN {a d : Nat} (ha : a < 2147483648) (h0 : 0 < d) (hd : d < 2147483648) : nI a / nI d = nI (a / d) := pk_div (by omega) h0 (by omega)
theorem remN {a d : Nat} (ha : a < 2147483648) (h0 : 0 < d) (hd : d < 2147483648) : nI a - nI a / nI d * nI d = nI (a % d) := pk_rem (by omega) h0 (by omega)
theorem s_l31 : ∀ n, n < 32 → ((nI n &&& 31).toBitVec.smod 32).toNat = n := by decide +kernel
theorem shrN {a p : Nat} (ha : a < 2147483648) (hp : p < 32) : nI a >>> (nI p &&& 31) = nI (a / 2 ^ p) := pk_shrN (by omega) _ p (s_l31 p hp)
theorem shl_lt {p : Nat} (hp : p < 31) : 2 ^ p < 2147483648 := by
  have : 2 ^ p < 2 ^ 31 := Nat.pow_lt_pow_right (by decide) hp
  omega
theorem shlN {p : Nat} (hp : p < 31) : nI 1 <<< (nI p &&& 31) = nI (2 ^ p) := by
  have h := shl_lt hp
  have := pk_shlN (n := 1) (nI p &&& 31) p (s_l31 p (by omega)) (by omega)
  rw [this, Nat.one_mul]
theorem andN1 {a : Nat} (ha : a < 2147483648) : nI a &&& nI 1 = nI (a % 2) := pk_andN (by omega) 1 (by decide)
theorem andm1 (x : Int32) : x &&& (-1) = x := by
  apply Int32.toBitVec_inj.mp
  rw [Int32.toBitVec_and]
  have : (-1 : Int32).toBitVec = BitVec.allOnes 32 := by decide
  rw [this, BitVec.and_allOnes]
theorem nI_or (a b : Nat) : nI a ||| nI b = nI (a ||| b) := by
  apply Int32.toBitVec_inj.mp
  rw [Int32.toBitVec_or]
  show (Int32.ofNat a).toBitVec ||| (Int32.ofNat b).toBitVec = (Int32.ofNat (a ||| b)).toBitVec
  simp only [Int32.toBitVec_ofNat']
  apply BitVec.eq_of_getLsbD_eq
  intro i hi
  simp [hi]
/-! houses, as 80 numbers in the class's order -/
abbrev Hs : Type := Nat → Nat
def uH (h : Hs) (i v : Nat) : Hs := fun j => if j = i then v else h j
def CR (f : Nat → Int32) (h : Hs) : Prop := ∀ i, i < 80 → f i = nI (h i)
theorem CR.upd {f : Nat → Int32} {h : Hs} (c : CR f h) (i v : Nat) : CR (upd f i (nI v)) (uH h i v) := fun j hj => by
  show (if j = i then nI v else f j) = nI (if j = i then v else h j)
  by_cases e : j = i
  · rw [if_pos e, if_pos e]
  · rw [if_neg e, if_neg e]
    exact c j hj
theorem modS (s d : Nat) : s - s / d * d = s % d := by
  have := Nat.div_add_mod s d
  rw [Nat.mul_comm] at this
  omega
