/-! ===== a town as a value ===== -/
/-- how many lots, the law, how often built, which are built (bits), kinds, mores, beside whom (bits), colours, stamps -/
abbrev tn_T : Type := Nat × Nat × Int32 × Nat × (Nat → Nat) × (Nat → Nat) × (Nat → Nat) × (Nat → Nat) × (Nat → Int32)
def tn_L (T : tn_T) : Nat := T.1
def tn_w (T : tn_T) : Nat := T.2.1
def tn_n (T : tn_T) : Int32 := T.2.2.1
def tn_u (T : tn_T) : Nat := T.2.2.2.1
def tn_k (T : tn_T) : Nat → Nat := T.2.2.2.2.1
def tn_m (T : tn_T) : Nat → Nat := T.2.2.2.2.2.1
def tn_b (T : tn_T) : Nat → Nat := T.2.2.2.2.2.2.1
def tn_c (T : tn_T) : Nat → Nat := T.2.2.2.2.2.2.2.1
def tn_s (T : tn_T) : Nat → Int32 := T.2.2.2.2.2.2.2.2
/-- what holds of every town -/
def tn_ok (T : tn_T) : Prop := tn_L T ≤ 7 ∧ tn_w T < 6 ∧ tn_u T < 2 ^ tn_L T ∧ ∀ l, l < tn_L T → tn_k T l ≤ 5 ∧ tn_m T l ≤ 9 ∧ tn_b T l < 2 ^ tn_L T ∧ (tn_b T l).testBit l = false ∧ ((tn_u T).testBit l = true → tn_c T l ≤ 11) ∧ ∀ o, o < tn_L T → (tn_b T l).testBit o = (tn_b T o).testBit l
/-- the store's town whose numbers begin at i, whose rows begin at j, is T -/
def TR (σ : qm_St) (i j : Nat) (T : tn_T) : Prop :=
  qm_rI σ i = nI (tn_L T) ∧ qm_rI σ (i + 1) = nI (tn_w T) ∧ qm_rI σ (i + 2) = tn_n T ∧ qm_rI σ (i + 3) = nI (tn_u T) ∧
  ∀ l, l < tn_L T → qm_rF σ j l = nI (tn_k T l) ∧ qm_rF σ (j + 1) l = nI (tn_m T l) ∧ qm_rF σ (j + 2) l = nI (tn_b T l) ∧ ((tn_u T).testBit l = true → qm_rF σ (j + 3) l = nI (tn_c T l) ∧ qm_rF σ (j + 4) l = tn_s T l)
section TRS
variable {σ : qm_St} {i j : Nat} {T : tn_T}
theorem TR.kk (h : TR σ i j T) {l : Nat} (hl : l < tn_L T) : qm_rF σ j l = nI (tn_k T l) := (h.2.2.2.2 l hl).1
theorem TR.mm (h : TR σ i j T) {l : Nat} (hl : l < tn_L T) : qm_rF σ (j + 1) l = nI (tn_m T l) := (h.2.2.2.2 l hl).2.1
theorem TR.bb (h : TR σ i j T) {l : Nat} (hl : l < tn_L T) : qm_rF σ (j + 2) l = nI (tn_b T l) := (h.2.2.2.2 l hl).2.2.1
theorem TR.cc (h : TR σ i j T) {l : Nat} (hl : l < tn_L T) (hb : (tn_u T).testBit l = true) : qm_rF σ (j + 3) l = nI (tn_c T l) := ((h.2.2.2.2 l hl).2.2.2 hb).1
theorem TR.ss (h : TR σ i j T) {l : Nat} (hl : l < tn_L T) (hb : (tn_u T).testBit l = true) : qm_rF σ (j + 4) l = tn_s T l := ((h.2.2.2.2 l hl).2.2.2 hb).2
end TRS
/-- 1 or 0 -/
def b2i (b : Bool) : Int32 := if b then 1 else 0
theorem b2i_01 (b : Bool) : b2i b = 0 ∨ b2i b = 1 := by cases b <;> simp [b2i]
theorem b2i_0 {b : Bool} : b2i b = 0 ↔ b = false := by cases b <;> simp [b2i]
theorem b2i_n0 {b : Bool} : ¬ b2i b = 0 ↔ b = true := by cases b <;> simp [b2i]
theorem b2i_t {b : Bool} (h : b = true) : some (Value.int 1) = some (Value.int (b2i b)) := by subst h; rfl
theorem b2i_f {b : Bool} (h : b = false) : some (Value.int 0) = some (Value.int (b2i b)) := by subst h; rfl
/-- a lot's number -/
def tn_has (T : tn_T) (l : Int32) : Bool := decide (0 ≤ l ∧ l < nI (tn_L T))
theorem tn_has_nI {T : tn_T} (hT : tn_ok T) {l : Nat} (hl : l < tn_L T) : tn_has T (nI l) = true := decide_eq_true ⟨nI_pos' (by have := hT.1; omega), nI_lt hl (by have := hT.1; omega)⟩
theorem tn_has_of {T : tn_T} (hT : tn_ok T) {l : Int32} (h : tn_has T l = true) : ∃ k, k < tn_L T ∧ l = nI k := by
  obtain ⟨h1, h2⟩ := of_decide_eq_true h
  obtain ⟨j, hj, rfl⟩ := nI_of (Int32.not_lt.mpr h1)
  exact ⟨j, (nI_ltI hj (by have := hT.1; omega)).mp h2, rfl⟩
theorem nI_and (a b : Nat) : nI a &&& nI b = nI (a &&& b) := by
  apply Int32.toBitVec_inj.mp
  show BitVec.ofNat 32 a &&& BitVec.ofNat 32 b = BitVec.ofNat 32 (a &&& b)
  exact BitVec.ofNat_and.symm
theorem nI_or (a b : Nat) : nI a ||| nI b = nI (a ||| b) := by
  apply Int32.toBitVec_inj.mp
  show BitVec.ofNat 32 a ||| BitVec.ofNat 32 b = BitVec.ofNat 32 (a ||| b)
  exact BitVec.ofNat_or.symm
theorem nI_xor (a b : Nat) : nI a ^^^ nI b = nI (a ^^^ b) := by
  apply Int32.toBitVec_inj.mp
  show BitVec.ofNat 32 a ^^^ BitVec.ofNat 32 b = BitVec.ofNat 32 (a ^^^ b)
  exact BitVec.ofNat_xor.symm
theorem nI_31 {k : Nat} (hk : k < 32) : nI k &&& 31 = nI k := by
  rw [pk_andN (n := k) (m := 31) (by omega) 5 (by decide), Nat.mod_eq_of_lt (by omega)]
theorem nI_smod : ∀ k, k < 32 → ((nI k).toBitVec.smod 32).toNat = k := by decide +kernel
theorem nI_shl {n k : Nat} (hk : k < 32) (h : n * 2 ^ k < 2 ^ 32) : nI n <<< (nI k &&& 31) = nI (n * 2 ^ k) := by
  rw [nI_31 hk, pk_shlN (nI k) k (nI_smod k hk) h]
theorem nI_shr {n k : Nat} (hn : n < 2 ^ 31) (hk : k < 32) : nI n >>> (nI k &&& 31) = nI (n / 2 ^ k) := by
  rw [nI_31 hk, pk_shrN hn (nI k) k (nI_smod k hk)]
theorem nI_1shl {k : Nat} (hk : k < 31) : (1 : Int32) <<< (nI k &&& 31) = nI (2 ^ k) := by
  have h := Nat.pow_lt_pow_right (a := 2) (by omega) hk
  have := nI_shl (n := 1) (k := k) (by omega) (by omega)
  rw [Nat.one_mul] at this
  exact this
/-- one bit of a number, as the machine asks it -/
theorem nI_bit {n k : Nat} (hn : n < 2 ^ 31) (hk : k < 32) : (nI n >>> (nI k &&& 31)) &&& 1 = b2i (n.testBit k) := by
  rw [nI_shr hn hk, show (1 : Int32) = nI 1 from rfl, nI_and, Nat.and_one_is_mod]
  have e : n.testBit k = decide (n / 2 ^ k % 2 = 1) := by rw [Nat.testBit_eq_decide_div_mod_eq]
  rw [e]
  rcases Nat.mod_two_eq_zero_or_one (n / 2 ^ k) with q | q <;> rw [q] <;> rfl
def tn_blt (T : tn_T) (l : Int32) : Bool := tn_has T l && (tn_u T).testBit l.toNatClampNeg
