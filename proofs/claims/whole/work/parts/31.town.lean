/-! ===== a town as a value ===== -/
/-- how many lots, the law, how often built, which are built (bits), kinds, mores, beside whom (bits), colours, stamps -/
abbrev tn_T : Type := Nat × Nat × Int32 × Nat × (Nat → Nat) × (Nat → Nat) × (Nat → Nat) × (Nat → Nat) × (Nat → Int32)
def tn_L (T : tn_T) : Nat := T.1
def tn_w (T : tn_T) : Nat := T.2.1
def tn_n (T : tn_T) : Int32 := T.2.2.1
def tn_u (T : tn_T) : Nat := T.2.2.2.1
def tn_k (T : tn_T) : Nat → Nat := T.2.2.2.2.1
def tn_m (T : tn_T) : Nat → Nat := T.2.2.2.2.2.1
def tn_b (T : tn_T) : Nat → Nat := T.2.2.2.2.2.2.1
def tn_c (T : tn_T) : Nat → Nat := T.2.2.2.2.2.2.2.1
def tn_s (T : tn_T) : Nat → Int32 := T.2.2.2.2.2.2.2.2
/-- what holds of every town -/
def tn_ok (T : tn_T) : Prop := tn_L T ≤ 7 ∧ tn_w T < 6 ∧ tn_u T < 2 ^ tn_L T ∧ ∀ l, l < tn_L T → tn_k T l ≤ 5 ∧ tn_m T l ≤ 9 ∧ tn_b T l < 2 ^ tn_L T ∧ (tn_b T l).testBit l = false ∧ ((tn_u T).testBit l = true → tn_c T l ≤ 11) ∧ ∀ o, o < tn_L T → (tn_b T l).testBit o = (tn_b T o).testBit l
/-- the store's town whose numbers begin at i, whose rows begin at j, is T -/
def TR (σ : qm_St) (i j : Nat) (T : tn_T) : Prop :=
  qm_rI σ i = nI (tn_L T) ∧ qm_rI σ (i + 1) = nI (tn_w T) ∧ qm_rI σ (i + 2) = tn_n T ∧ qm_rI σ (i + 3) = nI (tn_u T) ∧
  ∀ l, l < tn_L T → qm_rF σ j l = nI (tn_k T l) ∧ qm_rF σ (j + 1) l = nI (tn_m T l) ∧ qm_rF σ (j + 2) l = nI (tn_b T l) ∧ ((tn_u T).testBit l = true → qm_rF σ (j + 3) l = nI (tn_c T l) ∧ qm_rF σ (j + 4) l = tn_s T l)
section TRS
variable {σ : qm_St} {i j : Nat} {T : tn_T}
theorem TR.kk (h : TR σ i j T) {l : Nat} (hl : l < tn_L T) : qm_rF σ j l = nI (tn_k T l) := (h.2.2.2.2 l hl).1
theorem TR.mm (h : TR σ i j T) {l : Nat} (hl : l < tn_L T) : qm_rF σ (j + 1) l = nI (tn_m T l) := (h.2.2.2.2 l hl).2.1
theorem TR.bb (h : TR σ i j T) {l : Nat} (hl : l < tn_L T) : qm_rF σ (j + 2) l = nI (tn_b T l) := (h.2.2.2.2 l hl).2.2.1
theorem TR.cc (h : TR σ i j T) {l : Nat} (hl : l < tn_L T) (hb : (tn_u T).testBit l = true) : qm_rF σ (j + 3) l = nI (tn_c T l) := ((h.2.2.2.2 l hl).2.2.2 hb).1
theorem TR.ss (h : TR σ i j T) {l : Nat} (hl : l < tn_L T) (hb : (tn_u T).testBit l = true) : qm_rF σ (j + 4) l = tn_s T l := ((h.2.2.2.2 l hl).2.2.2 hb).2
end TRS
/-- 1 or 0 -/
def b2i (b : Bool) : Int32 := if b then 1 else 0
theorem b2i_01 (b : Bool) : b2i b = 0 ∨ b2i b = 1 := by cases b <;> simp [b2i]
theorem b2i_0 {b : Bool} : b2i b = 0 ↔ b = false := by cases b <;> simp [b2i]
theorem b2i_n0 {b : Bool} : ¬ b2i b = 0 ↔ b = true := by cases b <;> simp [b2i]
theorem b2i_t {b : Bool} (h : b = true) : some (Value.int 1) = some (Value.int (b2i b)) := by subst h; rfl
theorem b2i_f {b : Bool} (h : b = false) : some (Value.int 0) = some (Value.int (b2i b)) := by subst h; rfl
/-- a lot's number -/
def tn_has (T : tn_T) (l : Int32) : Bool := decide (0 ≤ l ∧ l < nI (tn_L T))
theorem tn_has_nI {T : tn_T} (hT : tn_ok T) {l : Nat} (hl : l < tn_L T) : tn_has T (nI l) = true := decide_eq_true ⟨nI_pos' (by have := hT.1; omega), nI_lt hl (by have := hT.1; omega)⟩
theorem tn_has_of {T : tn_T} (hT : tn_ok T) {l : Int32} (h : tn_has T l = true) : ∃ k, k < tn_L T ∧ l = nI k := by
  obtain ⟨h1, h2⟩ := of_decide_eq_true h
  obtain ⟨j, hj, rfl⟩ := nI_of (Int32.not_lt.mpr h1)
  exact ⟨j, (nI_ltI hj (by have := hT.1; omega)).mp h2, rfl⟩
theorem nI_and (a b : Nat) : nI a &&& nI b = nI (a &&& b) := by
  apply Int32.toBitVec_inj.mp
  show BitVec.ofNat 32 a &&& BitVec.ofNat 32 b = BitVec.ofNat 32 (a &&& b)
  exact BitVec.ofNat_and.symm
theorem nI_or (a b : Nat) : nI a ||| nI b = nI (a ||| b) := by
  apply Int32.toBitVec_inj.mp
  show BitVec.ofNat 32 a ||| BitVec.ofNat 32 b = BitVec.ofNat 32 (a ||| b)
  exact BitVec.ofNat_or.symm
theorem nI_xor (a b : Nat) : nI a ^^^ nI b = nI (a ^^^ b) := by
  apply Int32.toBitVec_inj.mp
  show BitVec.ofNat 32 a ^^^ BitVec.ofNat 32 b = BitVec.ofNat 32 (a ^^^ b)
  exact BitVec.ofNat_xor.symm
theorem nI_31 {k : Nat} (hk : k < 32) : nI k &&& 31 = nI k := by
  rw [pk_andN (n := k) (m := 31) (by omega) 5 (by decide), Nat.mod_eq_of_lt (by omega)]
theorem nI_smod : ∀ k, k < 32 → ((nI k).toBitVec.smod 32).toNat = k := by decide +kernel
theorem nI_shl {n k : Nat} (hk : k < 32) (h : n * 2 ^ k < 2 ^ 32) : nI n <<< (nI k &&& 31) = nI (n * 2 ^ k) := by
  rw [nI_31 hk, pk_shlN (nI k) k (nI_smod k hk) h]
theorem nI_shr {n k : Nat} (hn : n < 2 ^ 31) (hk : k < 32) : nI n >>> (nI k &&& 31) = nI (n / 2 ^ k) := by
  rw [nI_31 hk, pk_shrN hn (nI k) k (nI_smod k hk)]
theorem nI_1shl {k : Nat} (hk : k < 31) : (1 : Int32) <<< (nI k &&& 31) = nI (2 ^ k) := by
  have h := Nat.pow_lt_pow_right (a := 2) (by omega) hk
  have := nI_shl (n := 1) (k := k) (by omega) (by omega)
  rw [Nat.one_mul] at this
  exact this
/-- one bit of a number, as the machine asks it -/
theorem nI_bit {n k : Nat} (hn : n < 2 ^ 31) (hk : k < 32) : (nI n >>> (nI k &&& 31)) &&& 1 = b2i (n.testBit k) := by
  rw [nI_shr hn hk, show (1 : Int32) = nI 1 from rfl, nI_and, Nat.and_one_is_mod]
  have e : n.testBit k = decide (n / 2 ^ k % 2 = 1) := by rw [Nat.testBit_eq_decide_div_mod_eq]
  rw [e]
  rcases Nat.mod_two_eq_zero_or_one (n / 2 ^ k) with q | q <;> rw [q] <;> rfl
def tn_blt (T : tn_T) (l : Int32) : Bool := tn_has T l && (tn_u T).testBit l.toNatClampNeg
theorem tn_blt_nI {T : tn_T} (hT : tn_ok T) {k : Nat} (hk : k < tn_L T) : tn_blt T (nI k) = (tn_u T).testBit k := by
  rw [tn_blt, tn_has_nI hT hk, Bool.true_and, nI_clamp (by have := hT.1; omega)]
theorem Ex.of_ls {lay : List qm_LE} {d : Nat} {mi : qm_MI} {pc : Nat} {ls ls' : qm_LS} {st : List Value} {σ τ : qm_St} {v : Option Value} (h : ls = ls') (k : Ex lay d mi pc ls' st σ v τ) : Ex lay d mi pc ls st σ v τ := by rw [h]; exact k
theorem Ex.mono {lay : List qm_LE} {d d' : Nat} {mi : qm_MI} {pc : Nat} {ls : qm_LS} {st : List Value} {σ τ : qm_St} {v : Option Value} (k : Ex lay d mi pc ls st σ v τ) (hd : d ≤ d') : Ex lay d' mi pc ls st σ v τ := by
  obtain ⟨n, h⟩ := k
  exact ⟨n, qm_mono lay n d mi _ _ _ _ _ n d' h (Nat.le_refl _) hd⟩
/-- all of f 0 .. f (n - 1), or'ed -/
def tn_fo (f : Nat → Nat) : Nat → Nat
  | 0 => 0
  | n + 1 => tn_fo f n ||| f n
theorem tn_fo_0 {f : Nat → Nat} {n : Nat} (h : f n = 0) : tn_fo f (n + 1) = tn_fo f n := by rw [tn_fo, h, Nat.or_zero]
theorem tn_fo_lt {f : Nat → Nat} {m : Nat} : ∀ n, (∀ k, k < n → f k < 2 ^ m) → tn_fo f n < 2 ^ m
  | 0, _ => Nat.two_pow_pos m
  | n + 1, h => Nat.or_lt_two_pow (tn_fo_lt n fun k hk => h k (by omega)) (h n (by omega))
theorem tn_fo_bit {f : Nat → Nat} {j : Nat} : ∀ n, (tn_fo f n).testBit j = (List.range n).any fun k => (f k).testBit j
  | 0 => by simp [tn_fo]
  | n + 1 => by rw [tn_fo, Nat.testBit_or, tn_fo_bit n, List.range_succ, List.any_append]; simp
theorem tn_fo_cong {f g : Nat → Nat} : ∀ n, (∀ k, k < n → f k = g k) → tn_fo f n = tn_fo g n
  | 0, _ => rfl
  | n + 1, h => by rw [tn_fo, tn_fo, tn_fo_cong n (fun k hk => h k (by omega)), h n (by omega)]
def tn_io (f : Nat → Int32) : Nat → Int32
  | 0 => 0
  | n + 1 => tn_io f n ||| f n
theorem tn_io_0 {f : Nat → Int32} {n : Nat} (h : f n = 0) : tn_io f (n + 1) = tn_io f n := by rw [tn_io, h, Int32.or_zero]
theorem tn_io_fo {f : Nat → Int32} {g : Nat → Nat} : ∀ n, (∀ k, k < n → f k = nI (g k)) → tn_io f n = nI (tn_fo g n)
  | 0, _ => rfl
  | n + 1, h => by rw [tn_io, tn_fo, tn_io_fo n (fun k hk => h k (by omega)), h n (by omega), nI_or]
def tn_sm (f : Nat → Nat) : Nat → Nat
  | 0 => 0
  | n + 1 => tn_sm f n + f n
theorem tn_sm_le {f : Nat → Nat} {m : Nat} : ∀ n, (∀ k, k < n → f k ≤ m) → tn_sm f n ≤ n * m
  | 0, _ => by simp [tn_sm]
  | n + 1, h => by
    have h1 := tn_sm_le n fun k hk => h k (by omega)
    have h2 := h n (by omega)
    rw [tn_sm, Nat.succ_mul]; omega
/-- the colours that stand there (bits) -/
def tn_cf (T : tn_T) (l : Nat) : Nat := if (tn_u T).testBit l then 2 ^ tn_c T l else 0
def tn_cb (T : tn_T) : Nat := tn_fo (tn_cf T) (tn_L T)
theorem tn_cb_lt {T : tn_T} (hT : tn_ok T) : tn_cb T < 4096 := by
  refine tn_fo_lt (m := 12) _ fun k hk => ?_
  unfold tn_cf
  split
  · rename_i g
    exact Nat.pow_lt_pow_right (by omega) (by have := ((hT.2.2.2 k hk).2.2.2.2.1 g); omega)
  · decide
/-- how many pairs are beside each other -/
def tn_pr (T : tn_T) : Nat := tn_sm (fun l => tn_pc (tn_b T l)) (tn_L T) / 2
/-- which aren't built (bits) -/
def tn_nb (T : tn_T) : Nat := (2 ^ tn_L T - 1) ^^^ tn_u T
set_option maxRecDepth 100000 in
theorem tn_nb_dec : ∀ L, L < 8 → ∀ u, u < 128 → u < 2 ^ L → (((1 : Int32) <<< (nI L &&& 31)) - 1) &&& (nI u ^^^ (-1)) = nI ((2 ^ L - 1) ^^^ u) := by decide +kernel
theorem tn_u_lt {T : tn_T} (hT : tn_ok T) : tn_u T < 128 := Nat.lt_of_lt_of_le hT.2.2.1 (Nat.pow_le_pow_right (by omega) hT.1)
theorem tn_b_lt {T : tn_T} (hT : tn_ok T) {l : Nat} (hl : l < tn_L T) : tn_b T l < 128 := Nat.lt_of_lt_of_le (hT.2.2.2 l hl).2.2.1 (Nat.pow_le_pow_right (by omega) hT.1)
/-- the colour of a lot, -1: none -/
def tn_col (T : tn_T) (l : Int32) : Int32 := if tn_blt T l then nI (tn_c T l.toNatClampNeg) else -1
/-- which colours are taken of those near (houses: bits; hc: their colours), whatever these are -/
def tn_tkf (T : tn_T) (l houses : Nat) (hc : Nat → Int32) (o : Nat) : Int32 := if (tn_b T l &&& houses).testBit o && decide (tn_k T o ≠ 4) then (1 : Int32) <<< (hc o &&& 31) else 0
def tn_tk (T : tn_T) (l houses : Nat) (hc : Nat → Int32) : Int32 := tn_io (tn_tkf T l houses hc) (tn_L T)
def tn_lst (x : Int32) : Int32 := if jk_tz (x ^^^ (-1)) < 11 then jk_tz (x ^^^ (-1)) else 11
def tn_abv (x : Int32) : Int32 := if 32 - jk_lz x < 11 then 32 - jk_lz x else 11
/-- the colour that a house of kind k with more m takes, these being taken -/
def tn_kd (k m : Nat) (x : Int32) : Int32 :=
  if k = 1 then tn_lst (x ||| 1) else if k = 2 ∨ k = 4 then tn_lst (x ||| (1 : Int32) <<< (nI (m % 5) &&& 31))
  else if k = 3 then (if nI (m % 4) < jk_bc x then tn_abv x else tn_lst (x ||| 1)) else if k = 5 then tn_lst 0 else tn_lst x
def tn_am (T : tn_T) (l houses : Nat) (hc : Nat → Int32) : Int32 := tn_kd (tn_k T l) (tn_m T l) (tn_tk T l houses hc)
/-- the same in numbers -/
def tn_knf (k m x : Nat) : Nat :=
  if k = 1 then tn_lo (x ||| 1) else if k = 2 ∨ k = 4 then tn_lo (x ||| 2 ^ (m % 5))
  else if k = 3 then (if m % 4 < tn_pc x then tn_hi x else tn_lo (x ||| 1)) else if k = 5 then 0 else tn_lo x
def tn_tnf (T : tn_T) (l : Nat) (o : Nat) : Nat := if (tn_b T l &&& tn_u T).testBit o && decide (tn_k T o ≠ 4) then 2 ^ tn_c T o else 0
def tn_tn (T : tn_T) (l : Nat) : Nat := tn_fo (tn_tnf T l) (tn_L T)
/-- the colour that a lot would take -/
def tn_wd (T : tn_T) (l : Nat) : Nat := tn_knf (tn_k T l) (tn_m T l) (tn_tn T l)
theorem tn_tn_lt {T : tn_T} (hT : tn_ok T) (l : Nat) : tn_tn T l < 4096 := by
  refine tn_fo_lt (m := 12) _ fun k hk => ?_
  unfold tn_tnf
  split
  · rename_i g
    simp only [Bool.and_eq_true, Nat.testBit_and] at g
    exact Nat.pow_lt_pow_right (by omega) (by have := ((hT.2.2.2 k hk).2.2.2.2.1 g.1.2); omega)
  · decide
theorem tn_kd_nI {k m x : Nat} (hx : x < 4096) : tn_kd k m (nI x) = nI (tn_knf k m x) := by
  have e1 : nI x ||| 1 = nI (x ||| 1) := nI_or x 1
  have l1 : x ||| 1 < 4096 := Nat.or_lt_two_pow (n := 12) hx (by decide)
  have lo : ∀ y, y < 4096 → tn_lst (nI y) = nI (tn_lo y) := jk_lo_nI
  unfold tn_kd tn_knf
  split
  · rw [e1, lo _ l1]
  split
  · have h5 : m % 5 < 5 := Nat.mod_lt _ (by decide)
    rw [nI_1shl (by omega), nI_or, lo _ (Nat.or_lt_two_pow (n := 12) hx (Nat.pow_lt_pow_right (by omega) (by omega)))]
  split
  · rw [jk_bc_nI x hx]
    have h4 : m % 4 < 4 := Nat.mod_lt _ (by decide)
    have hp := tn_pc_le x hx
    by_cases g : m % 4 < tn_pc x
    · rw [if_pos g, if_pos (nI_lt g (by omega))]
      exact jk_hi_nI x hx
    · rw [if_neg g, if_neg (nI_nlt (by omega) (by omega)), e1, lo _ l1]
  split
  · exact lo 0 (by decide)
  · exact lo x hx
theorem tn_am_wd {T : tn_T} (hT : tn_ok T) {l : Nat} {hc : Nat → Int32} (h : ∀ o, o < tn_L T → (tn_u T).testBit o = true → hc o = nI (tn_c T o)) : tn_am T l (tn_u T) hc = nI (tn_wd T l) := by
  have e : tn_tk T l (tn_u T) hc = nI (tn_tn T l) := by
    refine tn_io_fo _ fun o ho => ?_
    unfold tn_tkf tn_tnf
    split
    · rename_i g
      simp only [Bool.and_eq_true, Nat.testBit_and] at g
      rw [h o ho g.1.2, nI_1shl (by have := ((hT.2.2.2 o ho).2.2.2.2.1 g.1.2); omega)]
    · rfl
  rw [tn_am, e, tn_kd_nI (tn_tn_lt hT l), tn_wd]
theorem tn_knf_le {k m x : Nat} (hx : x < 4096) : tn_knf k m x ≤ 11 := by
  have l1 : x ||| 1 < 4096 := Nat.or_lt_two_pow (n := 12) hx (by decide)
  unfold tn_knf
  split
  · exact tn_lo_le _ l1
  split
  · have h5 : m % 5 < 5 := Nat.mod_lt _ (by decide)
    exact tn_lo_le _ (Nat.or_lt_two_pow (n := 12) hx (Nat.pow_lt_pow_right (by omega) (by omega)))
  split
  · split
    · exact tn_hi_le x
    · exact tn_lo_le _ l1
  split
  · omega
  · exact tn_lo_le _ hx
theorem tn_wd_le {T : tn_T} (hT : tn_ok T) (l : Nat) : tn_wd T l ≤ 11 := tn_knf_le (tn_tn_lt hT l)
